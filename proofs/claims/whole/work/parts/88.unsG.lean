/-! when wear is not seen, the reference, 2 (specs41.py) -/
def kfc (kq : Nat → Int) (u : Int) (j : Nat) : Int := if u = 0 then 10 - kq j else kq j
theorem kfc_0 {kq : Nat → Int} {u : Int} {j : Nat} (h : u = 0) : 10 - kq j = kfc kq u j := (if_pos h).symm
theorem kfc_1 {kq : Nat → Int} {u : Int} {j : Nat} (h : ¬ u = 0) : kq j = kfc kq u j := (if_neg h).symm
/-- weights behind a day and a knock, nothing beyond the wears -/
def pdz (G : Nat → Nat → Int) (kq : Nat → Int) (n : Nat) (w : Nat → Int) (u : Int) : Nat → Int := fun j => if j < n then pd G kq w u j else 0
theorem gz_lp {L d : Nat} {V : Mv} {b : Bool} {Q : Option AV → Mv → Bool → Prop} {m f : Nat} {u : Int} (hf : f ≤ 32) (hQ : Ev L d 212 29 [some (.inr (.inr 120)), some (.inl (m : Int)), some (.inl (f : Int)), some (.inl u), some (.inl (8 : Int)), none, none] [] (fil V 142 (f + 8) (fun _ => 0) 8) b Q) : ∀ n k : Nat, k + n = 8 → Ev L (d) 212 3 [some (.inr (.inr 120)), some (.inl (m : Int)), some (.inl (f : Int)), some (.inl u), some (.inl (k : Int)), none, none] [] (fil V 142 (f + 8) (fun _ => 0) k) b Q
  | 0, k, h => by
    obtain rfl : k = 8 := by omega
    refine Ev.blk 3 (B212_3 _ _ _ _ _ _ _ (by first | assumption | omega | decide | exact cmpI_in _ _ | exact ⟨by omega, by omega⟩)) rfl ?_
    refine Ev.ite (fun q => ?_) (fun q => ?_)
    · replace q := of_decide_eq_true q
      exact hQ
    · replace q := of_decide_eq_false q
      exact absurd q (by omega)
  | n + 1, k, h => by
    have ih := gz_lp (L := L) (d := d) (m := m) (u := u) hf hQ n (k + 1) (by omega)
    refine Ev.blk 3 (B212_3 _ _ _ _ _ _ _ (by first | assumption | omega | decide | exact cmpI_in _ _ | exact ⟨by omega, by omega⟩)) rfl ?_
    refine Ev.ite (fun q => ?_) (fun q => ?_)
    · replace q := of_decide_eq_true q
      exact absurd q (by omega)
    · replace q := of_decide_eq_false q
      refine Ev.blk 11 (B212_10 _ _ _ _ _ _ _ (by first | assumption | omega | decide | exact cmpI_in _ _ | exact ⟨by omega, by omega⟩)) rfl ?_
      exact Ev.mem (fil_st (by omega) rfl) ih

theorem gi_lp {L d : Nat} {V : Mv} {b : Bool} {Q : Option AV → Mv → Bool → Prop} {m n1 : Nat} {G : Nat → Nat → Int} {kq co mc mw : Nat → Int} {lk : Int} {f a : Nat} {u : Int} {w : Nat → Int} (hm : m < 3) (hU : UR V m n1 G kq co mc mw lk) (hB : UB n1 G kq co mc mw lk) (hf : f ≤ 32) (hu : in32 u) (ha : a < n1) (hw : ∀ a, a < 8 → V 142 (f + a) = w a) (hQ : ∀ W, ((∀ y, y ≠ 142 → W y = V y) ∧ (∀ j, ¬ (f + 8 ≤ j ∧ j < f + 16) → W 142 j = V 142 j) ∧ (∀ j, j < 8 → W 142 (f + 8 + j) = (if j < n1 then Sp G w n1 (a + 1) j else Sp G w n1 a j) * kfc kq u j)) → Ev L (d + 2) 212 129 [some (.inr (.inr 120)), some (.inl (m : Int)), some (.inl (f : Int)), some (.inl u), some (.inl (a : Int)), some (.inl (n1 : Int)), none] [] W b Q) : ∀ (n k : Nat) (W : Mv), a ≤ k → k + n = n1 → ((∀ y, y ≠ 142 → W y = V y) ∧ (∀ j, ¬ (f + 8 ≤ j ∧ j < f + 16) → W 142 j = V 142 j) ∧ (∀ j, j < 8 → W 142 (f + 8 + j) = (if j < k then Sp G w n1 (a + 1) j else Sp G w n1 a j) * kfc kq u j)) → Ev L (d + 2) 212 47 [some (.inr (.inr 120)), some (.inl (m : Int)), some (.inl (f : Int)), some (.inl u), some (.inl (a : Int)), some (.inl (k : Int)), none] [] W b Q
  | 0, k, W, hka, h, hr => by
    obtain rfl : k = n1 := by omega
    have h8 := hB.1.2.1
    have hw0 : W 121 m = (k : Int) := by rw [hr.1 121 (by omega)]; exact hU.1.1
    refine Ev.blk 6 (B212_47 _ _ _ _ _ _ _ _ (by omega) ⟨by omega, by omega⟩ (by rw [Int.toNat_natCast, hw0]; exact ⟨by omega, by omega⟩)) rfl ?_
    rw [Int.toNat_natCast, hw0]
    refine Ev.ite (fun _ => ?_) (fun z => absurd (of_decide_eq_false z) (by omega))
    exact hQ W hr
  | n + 1, k, W, hka, h, hr => by
    have ih := gi_lp (L := L) (d := d) hm hU hB hf hu ha hw hQ n (k + 1)
    have h8 := hB.1.2.1
    have hU2 : UR W m n1 G kq co mc mw lk := hU.frame (fun x q1 q2 => hr.1 x (by omega))
    have hw0 := hU2.1.1
    have e0 : (8 * (m : Int) + (k : Int)).toNat = 8 * m + k := by omega
    have e1 : ((f : Int) + (a : Int)).toNat = f + a := by omega
    have e2 : ((f : Int) + 8 + (k : Int)).toNat = f + 8 + k := by omega
    have ek := hU2.2.1 k (by omega)
    have kb := hB.2.1 k (by omega)
    have gb := hB.1.2.2.1 a k (by omega) (by omega)
    have eg : rGo W (m : Int) (a : Int) (k : Int) = G a k := hU2.1.2.1 a k (by omega) (by omega)
    have ew : W 142 (f + a) = w a := by rw [hr.2.1 _ (by omega)]; exact hw a (by omega)
    have ec : W 142 (f + 8 + k) = Sp G w n1 a k * kfc kq u k := by rw [hr.2.2 k (by omega), if_neg (by omega)]
    have last : ∀ s4 : Int, s4 = kfc kq u k → in32 s4 → Ev L (d + 2) 212 119 [some (.inr (.inr 120)), some (.inl (m : Int)), some (.inl (f : Int)), some (.inl u), some (.inl (a : Int)), some (.inl (k : Int)), some (.inl (kq k))] [.inl s4, .inr (.inl (w a * G a k)), .inr (.inl (Sp G w n1 a k * kfc kq u k)), .inl ((f : Int) + 8 + (k : Int)), .inr (.inr 142)] W b Q := by
      intro s4 hs4 hin
      refine Ev.blk 6 (J212_119 _ _ _ _ _ _ _ _ _ _ _ _ _ _ _ (show TT L 142 = (2, 48) from rfl) hin ⟨by omega, by omega⟩ (by decide)) rfl ?_
      refine Ev.kill [false, false, false, false, false, false, true] ?_
      dsimp only [mkl]
      rw [e2]
      refine ih _ (by omega) (by omega) ⟨fun y hy => by rw [uV_ne hy, hr.1 y hy], fun j hj => by rw [uV_at, if_neg (by omega), hr.2.1 j hj], fun j hj => ?_⟩
      rw [uV_at]
      by_cases e : j = k
      · rw [if_pos (by omega), if_pos (by omega), hs4, e, ← Int.add_mul, Sp_s hka (by omega)]
      · rw [if_neg (by omega), hr.2.2 j hj]
        by_cases e3 : j < k
        · rw [if_pos e3, if_pos (by omega)]
        · rw [if_neg e3, if_neg (by omega)]
    refine Ev.blk 6 (B212_47 _ _ _ _ _ _ _ _ (by omega) ⟨by omega, by omega⟩ (by rw [Int.toNat_natCast, hw0]; exact ⟨by omega, by omega⟩)) rfl ?_
    rw [Int.toNat_natCast, hw0]
    refine Ev.ite (fun z => absurd (of_decide_eq_true z) (by omega)) (fun _ => ?_)
    refine Ev.blk 28 (B212_58 _ _ _ _ _ _ _ _ (by omega) ⟨by omega, by omega⟩ ⟨by omega, by omega⟩) rfl ?_
    rw [e0, e1, e2, ek, ew, ec]
    refine Ev.call rfl rfl rfl (x_goesOf (d := d) (m := (m : Int)) (a := (a : Int)) (c := (k : Int)) (by omega) (by omega) (by omega)) (by omega) ?_
    rintro v V' b' ⟨rfl, h_, g_⟩
    subst V' b'
    rw [eg]
    refine Ev.blk 4 (J212_103 _ _ _ _ _ _ _ _ _ _ _ _ _ _ _ (show TT L 142 = (2, 48) from rfl) ⟨by omega, by omega⟩ hu) rfl ?_
    refine Ev.ite (fun z => ?_) (fun z => ?_)
    · replace z := of_decide_eq_true z
      refine Ev.blk 3 (J212_114 _ _ _ _ _ _ _ _ _ _ _ _ _ _ (show TT L 142 = (2, 48) from rfl)) rfl ?_
      exact last _ (kfc_0 z) ⟨by omega, by omega⟩
    · replace z := of_decide_eq_false z
      refine Ev.blk 2 (J212_109 _ _ _ _ _ _ _ _ _ _ _ _ _ _ (show TT L 142 = (2, 48) from rfl)) rfl ?_
      exact last _ (kfc_1 z) ⟨by omega, by omega⟩
theorem go_lp {L d : Nat} {V : Mv} {b : Bool} {Q : Option AV → Mv → Bool → Prop} {m n1 : Nat} {G : Nat → Nat → Int} {kq co mc mw : Nat → Int} {lk : Int} {f : Nat} {u : Int} {w : Nat → Int} (hm : m < 3) (hU : UR V m n1 G kq co mc mw lk) (hB : UB n1 G kq co mc mw lk) (hf : f ≤ 32) (hu : in32 u) (hw : ∀ a, a < 8 → V 142 (f + a) = w a) (hQ : ∀ W, ((∀ y, y ≠ 142 → W y = V y) ∧ (∀ j, ¬ (f + 8 ≤ j ∧ j < f + 16) → W 142 j = V 142 j) ∧ (∀ j, j < 8 → W 142 (f + 8 + j) = Sp G w n1 n1 j * kfc kq u j)) → Q none W b) : ∀ (n k : Nat) (W : Mv), k + n = n1 → ((∀ y, y ≠ 142 → W y = V y) ∧ (∀ j, ¬ (f + 8 ≤ j ∧ j < f + 16) → W 142 j = V 142 j) ∧ (∀ j, j < 8 → W 142 (f + 8 + j) = Sp G w n1 k j * kfc kq u j)) → Ev L (d + 2) 212 32 [some (.inr (.inr 120)), some (.inl (m : Int)), some (.inl (f : Int)), some (.inl u), some (.inl (k : Int)), none, none] [] W b Q
  | 0, k, W, h, hr => by
    obtain rfl : k = n1 := by omega
    have h8 := hB.1.2.1
    have hw0 : W 121 m = (k : Int) := by rw [hr.1 121 (by omega)]; exact hU.1.1
    refine Ev.blk 6 (B212_32 _ _ _ _ _ _ _ (by omega) ⟨by omega, by omega⟩ (by rw [Int.toNat_natCast, hw0]; exact ⟨by omega, by omega⟩)) rfl ?_
    rw [Int.toNat_natCast, hw0]
    refine Ev.ite (fun _ => ?_) (fun z => absurd (of_decide_eq_false z) (by omega))
    exact Ev.ret rfl rfl rfl rfl (hQ W hr)
  | n + 1, k, W, h, hr => by
    have ih := go_lp (L := L) (d := d) hm hU hB hf hu hw hQ n (k + 1)
    have h8 := hB.1.2.1
    have hw0 : W 121 m = (n1 : Int) := by rw [hr.1 121 (by omega)]; exact hU.1.1
    refine Ev.blk 6 (B212_32 _ _ _ _ _ _ _ (by omega) ⟨by omega, by omega⟩ (by rw [Int.toNat_natCast, hw0]; exact ⟨by omega, by omega⟩)) rfl ?_
    rw [Int.toNat_natCast, hw0]
    refine Ev.ite (fun z => absurd (of_decide_eq_true z) (by omega)) (fun _ => ?_)
    refine Ev.blk 2 (B212_43 _ _ _ _ _ _ _) rfl ?_
    refine gi_lp (V := V) (a := k) hm hU hB hf hu (by omega) hw (fun Y hy => ?_) (n1 - k) k W (Nat.le_refl _) (by omega) ⟨hr.1, hr.2.1, fun j hj => ?_⟩
    · refine Ev.blk 2 (B212_129 _ _ _ _ _ _ _ _) rfl ?_
      refine Ev.kill [false, false, false, false, false, true] ?_
      dsimp only [mkl]
      refine ih Y (by omega) ⟨hy.1, hy.2.1, fun j hj => ?_⟩
      rw [hy.2.2 j hj]
      by_cases e : j < n1
      · rw [if_pos e]
      · rw [if_neg e, Sp_e (by omega)]
    · rw [hr.2.2 j hj]
      by_cases e : j < k
      · rw [if_pos e, Sp_e (by omega)]
      · rw [if_neg e]
theorem x_goR {L d : Nat} {V : Mv} {b : Bool} {m n1 : Nat} {G : Nat → Nat → Int} {kq co mc mw : Nat → Int} {lk : Int} {f : Nat} {u : Int} {w : Nat → Int} (hm : m < 3) (hU : UR V m n1 G kq co mc mw lk) (hB : UB n1 G kq co mc mw lk) (hf : f ≤ 32) (hu : in32 u) (hw : ∀ a, a < 8 → V 142 (f + a) = w a) : Ex L (d + 2) 212 [.inr (.inr 120), .inl (m : Int), .inl (f : Int), .inl u] V b (fun v V' b' => v = none ∧ b' = b ∧ (∀ y, y ≠ 142 → V' y = V y) ∧ (∀ j, ¬ (f + 8 ≤ j ∧ j < f + 16) → V' 142 j = V 142 j) ∧ (∀ j, j < 8 → V' 142 (f + 8 + j) = pdz G kq n1 w u j)) := by
  refine Ev.blk 2 (B212_0 _ _ _ _ _ _) rfl ?_
  refine Ev.mem (fil_0 V 142 (f + 8) (fun _ => 0)).symm (gz_lp hf ?_ 8 0 rfl)
  refine Ev.blk 2 (B212_29 _ _ _ _ _ _ _) rfl ?_
  refine go_lp (V := fil V 142 (f + 8) (fun _ => 0) 8) (w := w) hm (hU.frame (fun x q1 q2 => fil_ne (by omega))) hB hf hu (fun a ha => by rw [fil_out (by omega)]; exact hw a ha) (fun W hr => ⟨rfl, rfl, fun y hy => by rw [hr.1 y hy, fil_ne hy], fun j hj => by rw [hr.2.1 j hj, fil_out (by omega)], fun j hj => ?_⟩) n1 0 _ (by omega) ⟨fun _ _ => rfl, fun _ _ => rfl, fun j hj => ?_⟩
  · rw [fil_at hj]
    unfold Sp
    rw [Nat.zero_min]
    split
    · exact (Int.zero_mul _).symm
    · exact (Int.zero_mul _).symm
  · rw [hr.2.2 j hj]
    unfold pdz Sp
    by_cases q : j < n1
    · rw [if_pos q, if_pos q, Nat.min_eq_right (by omega)]
      rfl
    · rw [if_neg q, if_neg q, Int.zero_mul]
