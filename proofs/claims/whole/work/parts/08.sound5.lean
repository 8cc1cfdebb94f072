/-! SOUNDNESS, 5: System.arraycopy -/
def eA (X : Cx) (μ : Mm) (k a : Nat) : (Nat → Int32) ⊕ (Nat → Int64) ⊕ (Nat → UInt32) ⊕ (Nat → UInt64) ⊕ (Nat → Option Nat) := match k with
  | 1 => .inl (fun j => Int32.ofInt (aV μ a j))
  | 2 => .inr (.inl (fun j => Int64.ofInt (aV μ a j)))
  | 3 => .inl (fun j => Int32.ofInt (aV μ a j))
  | _ => .inr (.inr (.inr (.inr (fun j => (aR μ a j).map (ph X)))))
theorem eA_cell (X : Cx) (μ : Mm) (k a n : Nat) (cA : ClassId) : vp_cell cA (n, eA X μ k a) = arrV cA n (elV X μ k a) := by
  match k with
  | 0 => rfl
  | 1 => rfl
  | 2 => rfl
  | 3 => rfl
  | k + 4 => rfl
def cEv (X : Cx) (μ : Mm) (a : Nat) : va_E := if 64 ≤ (aT μ a).1 then .inr ((aT μ a).1 - 64, (List.range (nf ((aT μ a).1 - 64))).map (fV X μ ((aT μ a).1 - 64) a)) else .inl (xA X (aT μ a).1, (aT μ a).2, eA X μ (aT μ a).1 a)
theorem vp_V_range (f : Nat → Value) {N k : Nat} (h : k < N) : vp_V ((List.range N).map f) k = f k := by
  unfold vp_V
  rw [List.getD_eq_getElem?_getD, List.getElem?_map, List.getElem?_range h]
  rfl
theorem cOK_at {X : Cx} {μ : Mm} {a : Nat} {H : Heap} (hK : KOK (aT μ a)) : va_at (xD X) CLS (ph X a, cEv X μ a) H ↔ cOK X μ a H := by
  unfold cEv
  by_cases h : 64 ≤ (aT μ a).1
  · rw [if_pos h]
    have hy : (aT μ a).1 - 64 < 13 := by
      rcases hK.2 with q | q | q
      · omega
      · have := kds_lt q; omega
      · omega
    constructor
    · rintro ⟨r, h1, h2⟩
      have e : r = (Rc ((aT μ a).1 - 64), Tc ((aT μ a).1 - 64), nf ((aT μ a).1 - 64)) := Option.some.inj (h1.symm.trans (CLS_at hy))
      subst e
      exact ⟨fun _ => t_OB.to h2 (fun k hk => vp_V_range _ hk), fun q => by omega⟩
    · intro h1
      exact ⟨_, CLS_at hy, (h1.1 h).to (fun k hk => (vp_V_range _ hk).symm)⟩
  · rw [if_neg h]
    constructor
    · intro h1
      refine ⟨fun q => absurd q h, fun _ => ?_⟩
      have h2 : H[ph X a]? = some (vp_cell (xA X (aT μ a).1) ((aT μ a).2, eA X μ (aT μ a).1 a)) := h1
      rw [h2, eA_cell]
    · intro h1
      show H[ph X a]? = some (vp_cell (xA X (aT μ a).1) ((aT μ a).2, eA X μ (aT μ a).1 a))
      rw [eA_cell]
      exact h1.2 (by omega)
def wsL (X : Cx) (μ : Mm) : va_W := (List.range (nN μ)).map (fun i => (ph X (i + 1), cEv X μ (i + 1)))
theorem wsL_at (X : Cx) (μ : Mm) {a : Nat} (h1 : 1 ≤ a) (h2 : a ≤ nN μ) : (wsL X μ)[a - 1]? = some (ph X a, cEv X μ a) := by
  unfold wsL
  rw [List.getElem?_map, List.getElem?_range (by omega)]
  show some (ph X (a - 1 + 1), cEv X μ (a - 1 + 1)) = _
  rw [show a - 1 + 1 = a by omega]
theorem wsL_inv {X : Cx} {μ : Mm} {i : Nat} {q : Nat × va_E} (h : (wsL X μ)[i]? = some q) : i < nN μ ∧ q = (ph X (i + 1), cEv X μ (i + 1)) := by
  unfold wsL at h
  rw [List.getElem?_map] at h
  by_cases hi : i < nN μ
  · rw [List.getElem?_range hi] at h
    exact ⟨hi, (Option.some.inj h).symm⟩
  · rw [List.getElem?_eq_none (by rw [List.length_range]; omega)] at h
    cases h
theorem Wd.vP {X : Cx} {μ : Mm} {H : Heap} (h : Wd X μ H) : va_P (xD X) CLS (wsL X μ) H := fun k q hq => by
  obtain ⟨h1, rfl⟩ := wsL_inv hq
  exact (cOK_at (h.1.2.1 _)).mpr (h.2.1 (k + 1) (by omega) (by omega))
theorem wsL_D (X : Cx) (μ : Mm) : va_D (wA X) (wsL X μ) := by
  refine ⟨fun i j p q h1 h2 e => ?_, fun k q h => ?_⟩
  · obtain ⟨-, rfl⟩ := wsL_inv h1
    obtain ⟨-, rfl⟩ := wsL_inv h2
    have := ph_inj X (a := i + 1) (a' := j + 1) (by omega) (by omega) e
    omega
  · obtain ⟨-, rfl⟩ := wsL_inv h
    exact ph_A X (Nat.succ_le_succ (Nat.zero_le k))
theorem cV_ne {V : Nat → Nat → Int} {s sp d dp n a : Nat} (h : a ≠ d) : cV V s sp d dp n a = V a := by
  funext k
  unfold cV
  rw [beqF h]
  rfl
theorem cV_at (V : Nat → Nat → Int) (s sp d dp n k : Nat) : cV V s sp d dp n d k = if dp ≤ k ∧ k < dp + n then V s (sp + (k - dp)) else V d k := by
  unfold cV
  rw [Nat.beq_refl]
  by_cases h : dp ≤ k ∧ k < dp + n
  · rw [if_pos h, Nat.ble_eq_true_of_le h.1]
    have : Nat.blt k (dp + n) = true := Nat.ble_eq_true_of_le h.2
    rw [this]
    rfl
  · rw [if_neg h]
    have : (Nat.ble dp k && Nat.blt k (dp + n)) = false := by
      cases q : (Nat.ble dp k && Nat.blt k (dp + n)) with
      | false => rfl
      | true =>
        simp only [Bool.and_eq_true] at q
        exact absurd ⟨Nat.le_of_ble_eq_true q.1, Nat.le_of_ble_eq_true q.2⟩ h
    rw [this]
    rfl
def cpM (μ : Mm) (s sp d dp n : Nat) : Mm := (μ.1, μ.2.1, μ.2.2.1, cV (aV μ) s sp d dp n, aR μ)
theorem Wd.copied {X : Cx} {μ : Mm} {H H1 : Heap} {s sp d dp n : Nat} {x : va_E} (h : Wd X μ H) (h0 : μ.1 = 0) (hd : 1 ≤ d) (hn : d ≤ nN μ) (hP : va_P (xD X) CLS ((wsL X μ).set (d - 1) (ph X d, x)) H1) (hx : va_at (xD X) CLS (ph X d, x) H1 → cOK X (cpM μ s sp d dp n) d H1) : Wd X (cpM μ s sp d dp n) H1 := by
  have hl : (wsL X μ).length = nN μ := by simp [wsL]
  refine ⟨⟨h.1.1, h.1.2.1, ?_⟩, fun a q1 q2 => ?_, fun q => absurd h0 q⟩
  · show (aT μ 0).1 = 0 ∨ (aT μ 0 = (1, xL X) ∧ ∀ j, j < xL X → Int32.ofInt (cV (aV μ) s sp d dp n 0 j) = xS X j)
    rw [cV_ne (by omega)]
    exact h.1.2.2
  · have q2 : a ≤ nN μ := q2
    by_cases e : a = d
    · subst e
      refine hx (hP (a - 1) _ ?_)
      rw [List.getElem?_set, if_pos rfl, if_pos (by omega)]
    · have h1 := hP (a - 1) (ph X a, cEv X μ a) (by rw [List.getElem?_set, if_neg (by omega)]; exact wsL_at X μ q1 q2)
      exact ((cOK_at (h.1.2.1 a)).mp h1).kept rfl rfl (cV_ne e) rfl
section SM5
variable {p : Program} {l : Launch} {e : Env} {R : Room} {s : State} {m : MethodId} {args : Array Value} {below : List Frame} {meth : Method} {c : Code} {H : Heap} {locs : List Loc} {cells slots : Nat} {Q : State → Prop} {cc : ByteArray} {own : String}
theorem kd_at (X : Cx) {k t0 : Nat} (h : kds[t0]? = some k) : (TYS X)[t0]? = some (xA X k, tyK k) := by
  unfold TYS
  rw [List.getElem?_map, h]
  rfl
theorem m_copy (X : Cx) (hx : p.tables.exec = Jvm.exec) (hb : c.code = cc) (hown : s.vm.findClass own = some m.cls) (hts : ∀ w ∈ gw, w.before args s = true) (hF : SF X s) {μ : Mm} {i S D : Nat} {sp dp n : Int} {r : List Value} {pc : Nat} {lc : Array Slot} (hd : decode cc pc = .ok (.invokestatic i, 3)) (hlk : (Cond.methodLink own i arraycopyName).before args s = true) (hsz : lc.size = c.maxLocals) (hr : (r.map fun v => v.category).sum ≤ 8) (hR : 1 ≤ R.frames ∧ 64 ≤ R.locals) (h0 : μ.1 = 0)
    (hk : (aT μ S).1 = (aT μ D).1 ∧ ((aT μ D).1 = 1 ∨ (aT μ D).1 = 2)) (hS0 : S ≠ 0) (hD0 : D ≠ 0) (hp : 0 ≤ sp ∧ 0 ≤ dp ∧ 0 ≤ n) (h1 : sp + n ≤ ((aT μ S).2 : Int) ∧ sp + n < 100000) (h2 : dp + n ≤ ((aT μ D).2 : Int) ∧ dp + n < 100000) (hW : Wd X μ H) (hS : va_S (wA X) s.heap H locs)
    (k : ∀ H' locs', Wd X (cpM μ S sp.toNat D dp.toNat n.toNat) H' → va_S (wA X) s.heap H' locs' → W p l e R s m args below meth c H' locs' cells slots Q (F0 m (pc + 3) lc r)) : W p l e R s m args below meth c H locs cells slots Q (F0 m pc lc (.int (Int32.ofInt n) :: .int (Int32.ofInt dp) :: .ref (ph X D) :: .int (Int32.ofInt sp) :: .ref (ph X S) :: r)) := by
  obtain ⟨a1, a2⟩ := n_in (n := sp) hp.1 (by omega)
  obtain ⟨b1, b2⟩ := n_in (n := dp) hp.2.1 (by omega)
  obtain ⟨c1, c2⟩ := n_in (n := n) hp.2.2 (by omega)
  have lS := hW.live (a := S) (by omega) hS0
  have lD := hW.live (a := D) (by omega) hD0
  have eS := wsL_at X μ lS.1 lS.2
  have eD := wsL_at X μ lD.1 lD.2
  have hlo : (r.map fun v => v.category).sum + (nativeFrameWords "java/lang/System" "arraycopy" 5 + 11) ≤ R.locals := by
    have : nativeFrameWords "java/lang/System" "arraycopy" 5 = 7 := by decide
    omega
  rcases hk.2 with hk2 | hk2
  · have hk1 : (aT μ S).1 = 1 := by omega
    have fS : cEv X μ S = .inl (xA X 1, (aT μ S).2, .inl (fun j => Int32.ofInt (aV μ S j))) := by
      unfold cEv
      rw [if_neg (by omega), hk1]
      rfl
    have fD : cEv X μ D = .inl (xA X 1, (aT μ D).2, .inl (fun j => Int32.ofInt (aV μ D j))) := by
      unfold cEv
      rw [if_neg (by omega), hk2]
      rfl
    rw [fS] at eS
    rw [fD] at eD
    refine va_copyi hx hb hsz.symm hown hlk (hts _ g_cn) (hts _ g_cs) (hts _ g_cy) hF.1 hW.vP (wsL_D X μ) hS (S - 1) (D - 1) 0 0 eS eD (kd_at X (k := 1) rfl) (kd_at X (k := 1) rfl) rfl a1 b1 c1 (by omega) (by omega) (fun _ _ => rfl) hR.1 hlo hd fun H1 locs1 g1 g2 g3 => ?_
    refine k H1 locs1 (hW.copied h0 lD.1 lD.2 g1 (fun q => ?_)) g3
    refine ⟨fun z => ?_, fun _ => ?_⟩
    · have : 64 ≤ (aT μ D).1 := z
      omega
    · have q : H1[ph X D]? = some (arrV (xA X 1) (aT μ D).2 (fun j => .int (va_cpy (fun j => Int32.ofInt (aV μ S j)) (fun j => Int32.ofInt (aV μ D j)) (Int32.ofInt sp).toNatClampNeg (Int32.ofInt dp).toNatClampNeg (Int32.ofInt n).toNatClampNeg j))) := q
      have ek : aT (cpM μ S sp.toNat D dp.toNat n.toNat) D = aT μ D := rfl
      rw [ek, hk2, q, a2, b2, c2]
      congr 2
      funext j
      show _ = Value.int (Int32.ofInt (cV (aV μ) S sp.toNat D dp.toNat n.toNat D j))
      rw [cV_at]
      unfold va_cpy
      split <;> rfl
  · have hk1 : (aT μ S).1 = 2 := by omega
    have fS : cEv X μ S = .inl (xA X 2, (aT μ S).2, .inr (.inl (fun j => Int64.ofInt (aV μ S j)))) := by
      unfold cEv
      rw [if_neg (by omega), hk1]
      rfl
    have fD : cEv X μ D = .inl (xA X 2, (aT μ D).2, .inr (.inl (fun j => Int64.ofInt (aV μ D j)))) := by
      unfold cEv
      rw [if_neg (by omega), hk2]
      rfl
    rw [fS] at eS
    rw [fD] at eD
    refine va_copyl hx hb hsz.symm hown hlk (hts _ g_cn) (hts _ g_cs) (hts _ g_cy) hF.1 hW.vP (wsL_D X μ) hS (S - 1) (D - 1) 1 1 eS eD (kd_at X (k := 2) rfl) (kd_at X (k := 2) rfl) rfl a1 b1 c1 (by omega) (by omega) (fun _ _ => rfl) hR.1 hlo hd fun H1 locs1 g1 g2 g3 => ?_
    refine k H1 locs1 (hW.copied h0 lD.1 lD.2 g1 (fun q => ?_)) g3
    refine ⟨fun z => ?_, fun _ => ?_⟩
    · have : 64 ≤ (aT μ D).1 := z
      omega
    · have q : H1[ph X D]? = some (arrV (xA X 2) (aT μ D).2 (fun j => .long (va_cpy (fun j => Int64.ofInt (aV μ S j)) (fun j => Int64.ofInt (aV μ D j)) (Int32.ofInt sp).toNatClampNeg (Int32.ofInt dp).toNatClampNeg (Int32.ofInt n).toNatClampNeg j))) := q
      have ek : aT (cpM μ S sp.toNat D dp.toNat n.toNat) D = aT μ D := rfl
      rw [ek, hk2, q, a2, b2, c2]
      congr 2
      funext j
      show _ = Value.long (Int64.ofInt (cV (aV μ) S sp.toNat D dp.toNat n.toNat D j))
      rw [cV_at]
      unfold va_cpy
      split <;> rfl
end SM5
