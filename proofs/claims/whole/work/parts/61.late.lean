/-! the 38 calls: late (specs20.py) -/
/-- the weight from a bar on -/
def sB (f : Nat → Int) (bar : Int) (k : Nat) : Int := sumN (fun j => if bar ≤ (j : Int) then f j else 0) k
theorem sB_congr {f g : Nat → Int} {bar : Int} (h : ∀ j, j < 8 → f j = g j) : sB f bar 8 = sB g bar 8 := by
  unfold sB
  exact sumN_congr 8 (fun j hj => by rw [h j hj])
theorem sB_bd {f : Nat → Int} {n bar : Int} (h : Wt f n) : 0 ≤ sB f bar 8 ∧ sB f bar 8 ≤ 8000000000000000 := by
  unfold sB
  have := sumN_bd (f := fun j => if bar ≤ (j : Int) then f j else 0) (B := 1000000000000000) 8 (fun j hj => by
    have := h.b j hj
    show 0 ≤ (if bar ≤ (j : Int) then f j else 0) ∧ (if bar ≤ (j : Int) then f j else 0) ≤ 1000000000000000
    split <;> omega)
  omega
theorem mul100 {s x : Int} (hs : 1 ≤ s ∧ s ≤ 100) (hx : 0 ≤ x ∧ x ≤ 8000000000000000) : 0 ≤ s * x ∧ s * x ≤ 800000000000000000 := by
  have h1 : 0 ≤ s * x := Int.mul_nonneg (by omega) hx.1
  have h2 : s * x ≤ 100 * x := Int.mul_le_mul_of_nonneg_right hs.2 hx.1
  omega
theorem sB_lp {L d : Nat} {V : Mv} {b : Bool} {Q : Option AV → Mv → Bool → Prop} {a : Nat} {bar : Int} (ha : isT a) (hb : 0 ≤ bar ∧ bar < 8) (hQ : Q (some (.inr (.inl (sB (V (a + 1)) bar 8)))) V b) : ∀ n k : Nat, bar ≤ (k : Int) → k + n = 8 → Ev L (d) 83 5 [some (.inr (.inr a)), some (.inl bar), some (.inr (.inl (sB (V (a + 1)) bar k))), none, some (.inl (k : Int))] [] V b Q
  | 0, k, hbk, h => by
    obtain rfl : k = 8 := by omega
    refine Ev.blk 3 (B83_5 _ _ _ _ _ _ _ (by first | assumption | omega | decide | exact cmpI_in _ _ | exact ⟨by omega, by omega⟩)) rfl ?_
    refine Ev.ite (fun q => ?_) (fun q => ?_)
    · replace q := of_decide_eq_true q
      exact Ev.blk 1 (B83_28 _ _ _ _ _ _ _) rfl (Ev.ret rfl rfl rfl rfl hQ)
    · replace q := of_decide_eq_false q
      exact absurd q (by omega)
  | n + 1, k, hbk, h => by
    have ih := sB_lp (L := L) (d := d) ha hb hQ n (k + 1) (by omega) (by omega)
    refine Ev.blk 3 (B83_5 _ _ _ _ _ _ _ (by first | assumption | omega | decide | exact cmpI_in _ _ | exact ⟨by omega, by omega⟩)) rfl ?_
    refine Ev.ite (fun q => ?_) (fun q => ?_)
    · replace q := of_decide_eq_true q
      exact absurd q (by omega)
    · replace q := of_decide_eq_false q
      refine Ev.blk 9 (B83_12 _ _ _ _ _ _ _ (by first | exact ha | omega | exact ⟨by omega, by omega⟩) (by first | exact ha | omega | exact ⟨by omega, by omega⟩)) rfl ?_
      refine Ev.val ?_ rfl ih
      have e : sB (V (a + 1)) bar (k + 1) = sB (V (a + 1)) bar k + V (a + 1) k := by
        show sB (V (a + 1)) bar k + (if bar ≤ (k : Int) then V (a + 1) k else 0) = _
        rw [if_pos hbk]
      rw [e]
      rfl

theorem x_sB {L d : Nat} {V : Mv} {b : Bool} {a : Nat} {bar : Int} (ha : isT a) (hb : 0 ≤ bar ∧ bar < 8) : Ex L d 83 [.inr (.inr a), .inl bar] V b (Ans (some (.inr (.inl (sB (V (a + 1)) bar 8)))) V b) := by
  obtain ⟨k, rfl⟩ : ∃ k : Nat, bar = (k : Int) := ⟨bar.toNat, by omega⟩
  refine Ev.blk 4 (B83_0 _ _ _ _ _) rfl ?_
  have e : sB (V (a + 1)) (k : Int) k = 0 := sumN_0 k (fun j hj => if_neg (by omega))
  have h := sB_lp (L := L) (d := d) (V := V) (b := b) (a := a) (bar := (k : Int)) (Q := Ans (some (.inr (.inl (sB (V (a + 1)) (k : Int) 8)))) V b) ha hb ⟨rfl, rfl, rfl⟩ (8 - k) k (Int.le_refl _) (by omega)
  rw [e] at h
  exact h
theorem ltR_lp {L d : Nat} {V : Mv} {b : Bool} {Q : Option AV → Mv → Bool → Prop} {x1 bar x3 x4 x5 : Int} (hb : in32 bar) (hQ : Ev L d 226 126 [some (.inr (.inr 120)), some (.inl x1), some (.inl bar), some (.inl x3), some (.inl x4), some (.inl x5), some (.inr (.inl (sumN (V 131) 8))), none, some (.inr (.inl (sB (V 131) bar 8))), none, some (.inl (8 : Int))] [] V b Q) : ∀ n k : Nat, k + n = 8 → Ev L (d) 226 79 [some (.inr (.inr 120)), some (.inl x1), some (.inl bar), some (.inl x3), some (.inl x4), some (.inl x5), some (.inr (.inl (sumN (V 131) k))), none, some (.inr (.inl (sB (V 131) bar k))), none, some (.inl (k : Int))] [] V b Q
  | 0, k, h => by
    obtain rfl : k = 8 := by omega
    refine Ev.blk 3 (B226_79 _ _ _ _ _ _ _ _ _ _ _ (by first | assumption | omega | decide | exact cmpI_in _ _ | exact ⟨by omega, by omega⟩)) rfl ?_
    refine Ev.ite (fun q => ?_) (fun q => ?_)
    · replace q := of_decide_eq_true q
      exact hQ
    · replace q := of_decide_eq_false q
      exact absurd q (by omega)
  | n + 1, k, h => by
    have ih := ltR_lp (L := L) (d := d) (x1 := x1) (x3 := x3) (x4 := x4) (x5 := x5) hb hQ n (k + 1) (by omega)
    refine Ev.blk 3 (B226_79 _ _ _ _ _ _ _ _ _ _ _ (by first | assumption | omega | decide | exact cmpI_in _ _ | exact ⟨by omega, by omega⟩)) rfl ?_
    refine Ev.ite (fun q => ?_) (fun q => ?_)
    · replace q := of_decide_eq_true q
      exact absurd q (by omega)
    · replace q := of_decide_eq_false q
      refine Ev.blk 11 (B226_86 _ _ _ _ _ _ _ _ _ _ _ (by first | assumption | omega | decide | exact cmpI_in _ _ | exact ⟨by omega, by omega⟩) (by first | assumption | omega | decide | exact cmpI_in _ _ | exact ⟨by omega, by omega⟩) (by first | assumption | omega | decide | exact cmpI_in _ _ | exact ⟨by omega, by omega⟩)) rfl ?_
      refine Ev.ite (fun q => ?_) (fun q => ?_)
      · replace q := of_decide_eq_true q
        refine Ev.blk 1 (B226_116 _ _ _ _ _ _ _ _ _ _ _ _) rfl ?_
        refine Ev.blk 4 (B226_117 _ _ _ _ _ _ _ _ _ _ _ _ _) rfl ?_
        refine Ev.val ?_ rfl ih
        have e : sB (V 131) bar (k + 1) = sB (V 131) bar k + (if bar ≤ (k : Int) then V 131 k else 0) := rfl
        rw [e]
        first | (rw [if_pos (by omega)]; rfl) | (rw [if_neg (by omega)]; rfl)
      · replace q := of_decide_eq_false q
        refine Ev.blk 5 (B226_106 _ _ _ _ _ _ _ _ _ _ _ _ (by first | assumption | omega | decide | exact cmpI_in _ _ | exact ⟨by omega, by omega⟩)) rfl ?_
        refine Ev.blk 4 (B226_117 _ _ _ _ _ _ _ _ _ _ _ _ _) rfl ?_
        refine Ev.val ?_ rfl ih
        have e : sB (V 131) bar (k + 1) = sB (V 131) bar k + (if bar ≤ (k : Int) then V 131 k else 0) := rfl
        rw [e]
        first | (rw [if_pos (by omega)]; rfl) | (rw [if_neg (by omega)]; rfl)

theorem late_lp {L N i : Nat} {V0 : Mv} {b : Bool} {bar sh : Int} (hI : Iv N V0) (hi3 : i < 3) (hb : 0 ≤ bar ∧ bar < 8) (hs : 1 ≤ sh ∧ sh ≤ 100) : ∀ (n k : Nat) (V : Mv) (w : Nat → Int), ((k + n : Nat) : Int) = V0 69 0 → (∀ x, x ≠ 60 → x ≠ 61 → V x = V0 x) → (∀ j, j < 8 → V 60 j = w j) → Wt w (V0 121 i) → Ev L 29 46 44 [some (.inr (.inr 1)), some (.inl (i : Int)), some (.inl bar), some (.inl sh), some (.inl (k : Int)), none] [] V b (fun v V1 b1 => ∃ z : Int, v = some (.inl z) ∧ in32 z ∧ (∀ x, x ≠ 60 → x ≠ 61 → V1 x = V0 x) ∧ ∀ U b2, (∀ x, x ≠ 131 → x ≠ 132 → U x = V1 x) → (∀ j, j < 8 → U 131 j = w j) → Ev L 29 226 44 [some (.inr (.inr 120)), some (.inl (i : Int)), some (.inl bar), some (.inl sh), some (.inl (k : Int)), none, none, none, none, none, none] [] U b2 (fun v2 V2 _ => v2 = some (.inl z) ∧ Iv (N + 1) V2))
  | 0, k, V, w, h, hS, hv, hw => by
    have hi := hI.1
    have hl := hi.ll
    have e69 : V 69 0 = V0 69 0 := by rw [hS 69 (by omega) (by omega)]
    refine Ev.blk 5 (B46_44 _ _ _ _ _ _ _ ⟨by omega, by omega⟩ ⟨by omega, by omega⟩) rfl ?_
    refine Ev.ite (fun _ => ?_) (fun z => absurd (of_decide_eq_false z) (by omega))
    refine Ev.blk 1 (B46_125 _ _ _ _ _ _ _) rfl ?_
    refine Ev.ret rfl rfl rfl rfl ⟨_, rfl, by decide, hS, fun U b2 u1 u2 => ?_⟩
    have u3 : ∀ x, x ≠ 131 → x ≠ 132 → x ≠ 60 → x ≠ 61 → U x = V0 x := fun x n1 n2 n3 n4 => by rw [u1 x n1 n2, hS x n3 n4]
    have k1 : ∀ x, x ≠ 131 → x ≠ 132 → U x = U x := fun x _ _ => rfl
    have e37 : U 120 37 = V0 120 37 := by rw [u3 120 (by omega) (by omega) (by omega) (by omega)]
    refine Ev.blk 4 (B226_44 _ _ _ _ _ _ _ ⟨by omega, by omega⟩ ⟨by omega, by omega⟩) rfl ?_
    refine Ev.ite (fun _ => ?_) (fun z => absurd (of_decide_eq_false z) (by omega))
    refine Ev.blk 1 (B226_150 _ _ _ _ _ _ _) rfl ?_
    refine Ev.ret rfl rfl rfl rfl ⟨rfl, ?_, fun k => ?_⟩
    · refine (hi.more (Nat.le_succ N)).frame (fun a ha => ?_) ?_ ?_
      · unfold dI at ha
        rw [u3 a (by omega) (by omega) (by omega) (by omega)]
      · rw [u3 120 (by omega) (by omega) (by omega) (by omega)]
      · rw [u3 120 (by omega) (by omega) (by omega) (by omega)]
    · rw [u3 0 (by omega) (by omega) (by omega) (by omega)]
      exact hI.2 k
  | n + 1, k, V, w, h, hS, hv, hw => by
    have hi := hI.1
    have hl := hi.ll
    have hlk := hi.lr k (by omega)
    have e69 : V 69 0 = V0 69 0 := by rw [hS 69 (by omega) (by omega)]
    have hT2 : isT 59 := by unfold isT; decide
    refine Ev.blk 5 (B46_44 _ _ _ _ _ _ _ ⟨by omega, by omega⟩ ⟨by omega, by omega⟩) rfl ?_
    refine Ev.ite (fun z => absurd (of_decide_eq_true z) (by omega)) (fun _ => ?_)
    refine Ev.blk 11 (B46_56 _ _ _ _ _ _ _ (by omega) ⟨by omega, by omega⟩) rfl ?_
    rw [Int.toNat_natCast, Int.toNat_natCast]
    refine Ev.call rfl rfl rfl (folC (d := 25) (k := k) hI hi3 (by omega) hS hv hw) (by omega) ?_
    rintro v V1 b1 ⟨rfl, rfl, f1, f2⟩
    obtain ⟨A, hA⟩ : ∃ A, A = rwA (fun a c => rGo V0 (i : Int) (a : Int) (c : Int)) (fun j => V0 125 (8 * i + j)) (fun j => V0 126 (4 * i + j)) (V0 145 k) w := ⟨_, rfl⟩
    have hc := rw_c (fun a c => rGo V0 (i : Int) (a : Int) (c : Int)) (fun j => V0 125 (8 * i + j)) (fun j => V0 126 (4 * i + j)) (V0 145 k) w
    rw [← hA] at f2 hc ⊢
    refine Ev.blk 3 (B46_79 _ _ _ _ _ _ _ _ ⟨by omega, by omega⟩) rfl ?_
    refine Ev.ite (fun z => ?_) (fun z => ?_)
    · have z : A = 1 := by have := of_decide_eq_true z; omega
      have hw2 := rw_wt (hi.kd i hi3).mk2 hw hlk.2 (by rw [← hA]; exact z)
      have s1 : sB (V1 60) bar 8 = sB (rwW (fun a c => rGo V0 (i : Int) (a : Int) (c : Int)) (fun j => V0 125 (8 * i + j)) (fun j => V0 126 (4 * i + j)) (V0 145 k) w) bar 8 := sB_congr (f2 z)
      have s2 : sumN (V1 60) 8 = sumN (rwW (fun a c => rGo V0 (i : Int) (a : Int) (c : Int)) (fun j => V0 125 (8 * i + j)) (fun j => V0 126 (4 * i + j)) (V0 145 k) w) 8 := sumN_congr 8 (fun j hj => f2 z j hj)
      have b1' := sB_bd (bar := bar) hw2
      have b2' := hw2.sum
      have b3' := mul100 hs ⟨Int.le_of_lt b2'.1, b2'.2⟩
      refine Ev.blk 4 (B46_89 _ _ _ _ _ _ _ _) rfl ?_
      refine Ev.call rfl rfl rfl (x_sB (d := 28) (a := 59) hT2 hb) (by omega) ?_
      rintro v V2 b2 ⟨rfl, rfl, rfl⟩
      refine Ev.blk 6 (B46_100 _ _ _ _ _ _ _ _ _ _ ⟨by omega, by omega⟩) rfl ?_
      refine Ev.call rfl rfl rfl (x_sumC (d := 28) (a := 59) hT2) (by omega) ?_
      rintro v V2 b2 ⟨rfl, rfl, rfl⟩
      rw [s1, s2]
      refine Ev.blk 3 (B46_111 _ _ _ _ _ _ _ _ _ _ _ ⟨by omega, by omega⟩ ⟨by omega, by omega⟩ (cmpI_in _ _)) rfl ?_
      refine Ev.ite (fun z2 => ?_) (fun z2 => ?_)
      · replace z2 := (cmpI_lt _ _).mp (of_decide_eq_true z2)
        refine Ev.blk 2 (B46_119 _ _ _ _ _ _ _ _) rfl ?_
        refine Ev.kill [false, false, false, false, false, true] ?_
        dsimp only [mkl]
        refine Ev.weaken (late_lp hI hi3 hb hs n (k + 1) V2 _ (by omega) f1 (f2 z) hw2) ?_
        rintro v V4 b4 ⟨z0, rfl, hz, g1, g2⟩
        refine ⟨z0, rfl, hz, g1, fun U b2 u1 u2 => ?_⟩
        have u3 : ∀ x, x ≠ 131 → x ≠ 132 → x ≠ 60 → x ≠ 61 → U x = V0 x := fun x n1 n2 n3 n4 => by rw [u1 x n1 n2, g1 x n3 n4]
        have e37 : U 120 37 = V0 120 37 := by rw [u3 120 (by omega) (by omega) (by omega) (by omega)]
        refine Ev.blk 4 (B226_44 _ _ _ _ _ _ _ ⟨by omega, by omega⟩ ⟨by omega, by omega⟩) rfl ?_
        refine Ev.ite (fun z => absurd (of_decide_eq_true z) (by omega)) (fun _ => ?_)
        refine Ev.blk 3 (B226_53 _ _ _ _ _ _ _) rfl ?_
        refine Ev.call rfl rfl rfl (rowR (d := 24) (k := k) hI hi3 (by omega) (fun x hx => u3 x (by omega) (by omega) (by omega) (by omega)) u2 hw) (by omega) ?_
        rintro v V3 b3 ⟨rfl, rfl, k1, k2⟩
        rw [← hA] at k2 ⊢
        refine Ev.blk 3 (B226_60 _ _ _ _ _ _ _ _ ⟨by omega, by omega⟩) rfl ?_
        refine Ev.ite (fun _ => ?_) (fun z => absurd (of_decide_eq_false z) (by omega))
        refine Ev.blk 6 (B226_70 _ _ _ _ _ _ _ _) rfl ?_
        refine ltR_lp ⟨by omega, by omega⟩ ?_ 8 0 rfl
        have t1 : sumN (V3 131) 8 = sumN (rwW (fun a c => rGo V0 (i : Int) (a : Int) (c : Int)) (fun j => V0 125 (8 * i + j)) (fun j => V0 126 (4 * i + j)) (V0 145 k) w) 8 := sumN_congr 8 (fun j hj => k2 z j hj)
        have t2 : sB (V3 131) bar 8 = sB (rwW (fun a c => rGo V0 (i : Int) (a : Int) (c : Int)) (fun j => V0 125 (8 * i + j)) (fun j => V0 126 (4 * i + j)) (V0 145 k) w) bar 8 := sB_congr (k2 z)
        rw [t1, t2]
        refine Ev.blk 9 (B226_126 _ _ _ _ _ _ _ _ _ _ _ ⟨by omega, by omega⟩ ⟨by omega, by omega⟩ ⟨by omega, by omega⟩ (cmpI_in _ _)) rfl ?_
        refine Ev.ite (fun _ => ?_) (fun z3 => absurd ((cmpI_lt _ _).mpr z2) (of_decide_eq_false z3))
        refine Ev.blk 2 (B226_144 _ _ _ _ _ _ _ _ _ _ _) rfl ?_
        refine Ev.kill [false, false, false, false, false, true, true, false, true, false, true] ?_
        dsimp only [mkl]
        exact g2 V3 _ (fun x n1 n2 => by rw [k1 x n1 n2, u1 x n1 n2]) (k2 z)
      · have z2 : ¬ 100 * sB (rwW (fun a c => rGo V0 (i : Int) (a : Int) (c : Int)) (fun j => V0 125 (8 * i + j)) (fun j => V0 126 (4 * i + j)) (V0 145 k) w) bar 8 < sh * sumN (rwW (fun a c => rGo V0 (i : Int) (a : Int) (c : Int)) (fun j => V0 125 (8 * i + j)) (fun j => V0 126 (4 * i + j)) (V0 145 k) w) 8 := fun q => of_decide_eq_false z2 ((cmpI_lt _ _).mpr q)
        refine Ev.blk 1 (B46_116 _ _ _ _ _ _ _ _) rfl ?_
        have g1 := f1
        refine Ev.ret rfl rfl rfl rfl ⟨_, rfl, ⟨by omega, by omega⟩, f1, fun U b2 u1 u2 => ?_⟩
        have u3 : ∀ x, x ≠ 131 → x ≠ 132 → x ≠ 60 → x ≠ 61 → U x = V0 x := fun x n1 n2 n3 n4 => by rw [u1 x n1 n2, g1 x n3 n4]
        have e37 : U 120 37 = V0 120 37 := by rw [u3 120 (by omega) (by omega) (by omega) (by omega)]
        refine Ev.blk 4 (B226_44 _ _ _ _ _ _ _ ⟨by omega, by omega⟩ ⟨by omega, by omega⟩) rfl ?_
        refine Ev.ite (fun z => absurd (of_decide_eq_true z) (by omega)) (fun _ => ?_)
        refine Ev.blk 3 (B226_53 _ _ _ _ _ _ _) rfl ?_
        refine Ev.call rfl rfl rfl (rowR (d := 24) (k := k) hI hi3 (by omega) (fun x hx => u3 x (by omega) (by omega) (by omega) (by omega)) u2 hw) (by omega) ?_
        rintro v V3 b3 ⟨rfl, rfl, k1, k2⟩
        rw [← hA] at k2 ⊢
        refine Ev.blk 3 (B226_60 _ _ _ _ _ _ _ _ ⟨by omega, by omega⟩) rfl ?_
        refine Ev.ite (fun _ => ?_) (fun z => absurd (of_decide_eq_false z) (by omega))
        refine Ev.blk 6 (B226_70 _ _ _ _ _ _ _ _) rfl ?_
        refine ltR_lp ⟨by omega, by omega⟩ ?_ 8 0 rfl
        have t1 : sumN (V3 131) 8 = sumN (rwW (fun a c => rGo V0 (i : Int) (a : Int) (c : Int)) (fun j => V0 125 (8 * i + j)) (fun j => V0 126 (4 * i + j)) (V0 145 k) w) 8 := sumN_congr 8 (fun j hj => k2 z j hj)
        have t2 : sB (V3 131) bar 8 = sB (rwW (fun a c => rGo V0 (i : Int) (a : Int) (c : Int)) (fun j => V0 125 (8 * i + j)) (fun j => V0 126 (4 * i + j)) (V0 145 k) w) bar 8 := sB_congr (k2 z)
        rw [t1, t2]
        refine Ev.blk 9 (B226_126 _ _ _ _ _ _ _ _ _ _ _ ⟨by omega, by omega⟩ ⟨by omega, by omega⟩ ⟨by omega, by omega⟩ (cmpI_in _ _)) rfl ?_
        refine Ev.ite (fun z3 => absurd ((cmpI_lt _ _).mp (of_decide_eq_true z3)) z2) (fun _ => ?_)
        refine Ev.blk 1 (B226_141 _ _ _ _ _ _ _ _ _ _ _) rfl ?_
        refine Ev.ret rfl rfl rfl rfl ⟨rfl, ?_, fun k => ?_⟩
        · refine (hi.more (Nat.le_succ N)).frame (fun a ha => ?_) ?_ ?_
          · unfold dI at ha
            rw [k1 a (by omega) (by omega), u3 a (by omega) (by omega) (by omega) (by omega)]
          · rw [k1 120 (by omega) (by omega), u3 120 (by omega) (by omega) (by omega) (by omega)]
          · rw [k1 120 (by omega) (by omega), u3 120 (by omega) (by omega) (by omega) (by omega)]
        · rw [k1 0 (by omega) (by omega), u3 0 (by omega) (by omega) (by omega) (by omega)]
          exact hI.2 k
    · have z : ¬ A = 1 := by have := of_decide_eq_false z; omega
      refine Ev.blk 1 (B46_86 _ _ _ _ _ _ _ _) rfl ?_
      have g1 := f1
      refine Ev.ret rfl rfl rfl rfl ⟨_, rfl, ⟨by omega, by omega⟩, f1, fun U b2 u1 u2 => ?_⟩
      have u3 : ∀ x, x ≠ 131 → x ≠ 132 → x ≠ 60 → x ≠ 61 → U x = V0 x := fun x n1 n2 n3 n4 => by rw [u1 x n1 n2, g1 x n3 n4]
      have e37 : U 120 37 = V0 120 37 := by rw [u3 120 (by omega) (by omega) (by omega) (by omega)]
      refine Ev.blk 4 (B226_44 _ _ _ _ _ _ _ ⟨by omega, by omega⟩ ⟨by omega, by omega⟩) rfl ?_
      refine Ev.ite (fun z => absurd (of_decide_eq_true z) (by omega)) (fun _ => ?_)
      refine Ev.blk 3 (B226_53 _ _ _ _ _ _ _) rfl ?_
      refine Ev.call rfl rfl rfl (rowR (d := 24) (k := k) hI hi3 (by omega) (fun x hx => u3 x (by omega) (by omega) (by omega) (by omega)) u2 hw) (by omega) ?_
      rintro v V3 b3 ⟨rfl, rfl, k1, k2⟩
      rw [← hA] at k2 ⊢
      refine Ev.blk 3 (B226_60 _ _ _ _ _ _ _ _ ⟨by omega, by omega⟩) rfl ?_
      refine Ev.ite (fun z2 => absurd (of_decide_eq_true z2) (by omega)) (fun _ => ?_)
      refine Ev.blk 1 (B226_67 _ _ _ _ _ _ _ _) rfl ?_
      refine Ev.ret rfl rfl rfl rfl ⟨rfl, ?_, fun k => ?_⟩
      · refine (hi.more (Nat.le_succ N)).frame (fun a ha => ?_) ?_ ?_
        · unfold dI at ha
          rw [k1 a (by omega) (by omega), u3 a (by omega) (by omega) (by omega) (by omega)]
        · rw [k1 120 (by omega) (by omega), u3 120 (by omega) (by omega) (by omega) (by omega)]
        · rw [k1 120 (by omega) (by omega), u3 120 (by omega) (by omega) (by omega) (by omega)]
      · rw [k1 0 (by omega) (by omega), u3 0 (by omega) (by omega) (by omega) (by omega)]
        exact hI.2 k
theorem op_late (a0 a1 a2 : Int) (h0 : in32 a0) (h1 : in32 a1) (h2 : in32 a2) : OpI 46 226 [.inl a0, .inl a1, .inl a2] := by
  intro L N V b hL hN hI
  have hi := hI.1
  refine Ev.blk 1 (B46_0 _ _ _ _ _ _) rfl ?_
  refine Ev.call rfl rfl (rfl) (x_isMachineC (d := 28) h0) (by omega) ?_
  rintro v V' b' ⟨rfl, h_, rfl⟩
  subst V'
  refine Ev.blk 1 (B46_4 _ _ _ _ _ _ _ (by first | assumption | omega | exact b01_in _ | exact ⟨by omega, by omega⟩)) rfl ?_
  refine Ev.ite (fun q => ?_) (fun q => ?_)
  · replace q := nd_t q
    replace q := b01_1 q
    refine Ev.blk 2 (B46_9 _ _ _ _ _ _ (by first | assumption | omega | exact b01_in _ | exact ⟨by omega, by omega⟩)) rfl ?_
    refine Ev.ite (fun q => ?_) (fun q => ?_)
    · replace q := of_decide_eq_true q
      refine Ev.blk 1 (B46_30 _ _ _ _ _ _) rfl ?_
      refine Ev.ret rfl rfl rfl (by first | rfl | exact decide_eq_true (b01_or _)) ?_
      refine ⟨_, rfl, by decide, rfl, ?_⟩
      refine Ev.blk 1 (B226_0 _ _ _ _ _ _) rfl ?_
      refine Ev.call rfl rfl (rfl) (x_isMachineR (d := 27) h0) (by omega) ?_
      rintro v V' b' ⟨rfl, rfl, rfl⟩
      refine Ev.blk 1 (B226_4 _ _ _ _ _ _ _ (by first | assumption | omega | exact b01_in _ | exact ⟨by omega, by omega⟩)) rfl ?_
      refine Ev.ite (fun q => ?_) (fun q => ?_)
      · replace q := nd_t q
        replace q := b01_1 q
        refine Ev.blk 4 (B226_9 _ _ _ _ _ _ (by first | assumption | omega | exact b01_in _ | exact ⟨by omega, by omega⟩)) rfl ?_
        refine Ev.call rfl rfl (rfl) (x_in (d := 28) ⟨by omega, by omega⟩ (by decide) (by decide)) (by omega) ?_
        rintro v V' b' ⟨rfl, rfl, rfl⟩
        refine Ev.blk 1 (B226_18 _ _ _ _ _ _ _ (by first | assumption | omega | exact b01_in _ | exact ⟨by omega, by omega⟩)) rfl ?_
        refine Ev.ite (fun q => ?_) (fun q => ?_)
        · replace q := of_decide_eq_true q
          replace q := b01_0 q
          refine Ev.blk 1 (B226_33 _ _ _ _ _ _) rfl ?_
          refine Ev.ret rfl rfl rfl (by first | rfl | exact decide_eq_true (b01_or _)) ?_
          first | (exfalso; omega) | exact ⟨rfl, hi.more (Nat.le_succ N), hI.2⟩
        · replace q := of_decide_eq_false q
          replace q := b01_1 q
          refine Ev.blk 4 (B226_21 _ _ _ _ _ _ (by first | assumption | omega | exact b01_in _ | exact ⟨by omega, by omega⟩)) rfl ?_
          refine Ev.call rfl rfl (rfl) (x_in (d := 28) ⟨by omega, by omega⟩ (by decide) (by decide)) (by omega) ?_
          rintro v V' b' ⟨rfl, rfl, rfl⟩
          refine Ev.blk 1 (B226_30 _ _ _ _ _ _ _ (by first | assumption | omega | exact b01_in _ | exact ⟨by omega, by omega⟩)) rfl ?_
          refine Ev.ite (fun q => ?_) (fun q => ?_)
          · replace q := nd_t q
            replace q := b01_1 q
            (exfalso; omega)
          · replace q := nd_f q
            replace q := b01_0 q
            refine Ev.blk 1 (B226_33 _ _ _ _ _ _) rfl ?_
            refine Ev.ret rfl rfl rfl (by first | rfl | exact decide_eq_true (b01_or _)) ?_
            first | (exfalso; omega) | exact ⟨rfl, hi.more (Nat.le_succ N), hI.2⟩
      · replace q := nd_f q
        replace q := b01_0 q
        refine Ev.blk 1 (B226_7 _ _ _ _ _ _) rfl ?_
        refine Ev.ret rfl rfl rfl (by first | rfl | exact decide_eq_true (b01_or _)) ?_
        first | (exfalso; omega) | exact ⟨rfl, hi.more (Nat.le_succ N), hI.2⟩
    · replace q := of_decide_eq_false q
      refine Ev.blk 3 (B46_13 _ _ _ _ _ _ (by first | assumption | omega | exact b01_in _ | exact ⟨by omega, by omega⟩)) rfl ?_
      refine Ev.ite (fun q => ?_) (fun q => ?_)
      · replace q := of_decide_eq_true q
        refine Ev.blk 1 (B46_30 _ _ _ _ _ _) rfl ?_
        refine Ev.ret rfl rfl rfl (by first | rfl | exact decide_eq_true (b01_or _)) ?_
        refine ⟨_, rfl, by decide, rfl, ?_⟩
        refine Ev.blk 1 (B226_0 _ _ _ _ _ _) rfl ?_
        refine Ev.call rfl rfl (rfl) (x_isMachineR (d := 27) h0) (by omega) ?_
        rintro v V' b' ⟨rfl, rfl, rfl⟩
        refine Ev.blk 1 (B226_4 _ _ _ _ _ _ _ (by first | assumption | omega | exact b01_in _ | exact ⟨by omega, by omega⟩)) rfl ?_
        refine Ev.ite (fun q => ?_) (fun q => ?_)
        · replace q := nd_t q
          replace q := b01_1 q
          refine Ev.blk 4 (B226_9 _ _ _ _ _ _ (by first | assumption | omega | exact b01_in _ | exact ⟨by omega, by omega⟩)) rfl ?_
          refine Ev.call rfl rfl (rfl) (x_in (d := 28) ⟨by omega, by omega⟩ (by decide) (by decide)) (by omega) ?_
          rintro v V' b' ⟨rfl, rfl, rfl⟩
          refine Ev.blk 1 (B226_18 _ _ _ _ _ _ _ (by first | assumption | omega | exact b01_in _ | exact ⟨by omega, by omega⟩)) rfl ?_
          refine Ev.ite (fun q => ?_) (fun q => ?_)
          · replace q := of_decide_eq_true q
            replace q := b01_0 q
            refine Ev.blk 1 (B226_33 _ _ _ _ _ _) rfl ?_
            refine Ev.ret rfl rfl rfl (by first | rfl | exact decide_eq_true (b01_or _)) ?_
            first | (exfalso; omega) | exact ⟨rfl, hi.more (Nat.le_succ N), hI.2⟩
          · replace q := of_decide_eq_false q
            replace q := b01_1 q
            refine Ev.blk 4 (B226_21 _ _ _ _ _ _ (by first | assumption | omega | exact b01_in _ | exact ⟨by omega, by omega⟩)) rfl ?_
            refine Ev.call rfl rfl (rfl) (x_in (d := 28) ⟨by omega, by omega⟩ (by decide) (by decide)) (by omega) ?_
            rintro v V' b' ⟨rfl, rfl, rfl⟩
            refine Ev.blk 1 (B226_30 _ _ _ _ _ _ _ (by first | assumption | omega | exact b01_in _ | exact ⟨by omega, by omega⟩)) rfl ?_
            refine Ev.ite (fun q => ?_) (fun q => ?_)
            · replace q := nd_t q
              replace q := b01_1 q
              (exfalso; omega)
            · replace q := nd_f q
              replace q := b01_0 q
              refine Ev.blk 1 (B226_33 _ _ _ _ _ _) rfl ?_
              refine Ev.ret rfl rfl rfl (by first | rfl | exact decide_eq_true (b01_or _)) ?_
              first | (exfalso; omega) | exact ⟨rfl, hi.more (Nat.le_succ N), hI.2⟩
        · replace q := nd_f q
          replace q := b01_0 q
          refine Ev.blk 1 (B226_7 _ _ _ _ _ _) rfl ?_
          refine Ev.ret rfl rfl rfl (by first | rfl | exact decide_eq_true (b01_or _)) ?_
          first | (exfalso; omega) | exact ⟨rfl, hi.more (Nat.le_succ N), hI.2⟩
      · replace q := of_decide_eq_false q
        refine Ev.blk 3 (B46_19 _ _ _ _ _ _ (by first | assumption | omega | exact b01_in _ | exact ⟨by omega, by omega⟩)) rfl ?_
        refine Ev.ite (fun q => ?_) (fun q => ?_)
        · replace q := of_decide_eq_true q
          refine Ev.blk 1 (B46_30 _ _ _ _ _ _) rfl ?_
          refine Ev.ret rfl rfl rfl (by first | rfl | exact decide_eq_true (b01_or _)) ?_
          refine ⟨_, rfl, by decide, rfl, ?_⟩
          refine Ev.blk 1 (B226_0 _ _ _ _ _ _) rfl ?_
          refine Ev.call rfl rfl (rfl) (x_isMachineR (d := 27) h0) (by omega) ?_
          rintro v V' b' ⟨rfl, rfl, rfl⟩
          refine Ev.blk 1 (B226_4 _ _ _ _ _ _ _ (by first | assumption | omega | exact b01_in _ | exact ⟨by omega, by omega⟩)) rfl ?_
          refine Ev.ite (fun q => ?_) (fun q => ?_)
          · replace q := nd_t q
            replace q := b01_1 q
            refine Ev.blk 4 (B226_9 _ _ _ _ _ _ (by first | assumption | omega | exact b01_in _ | exact ⟨by omega, by omega⟩)) rfl ?_
            refine Ev.call rfl rfl (rfl) (x_in (d := 28) ⟨by omega, by omega⟩ (by decide) (by decide)) (by omega) ?_
            rintro v V' b' ⟨rfl, rfl, rfl⟩
            refine Ev.blk 1 (B226_18 _ _ _ _ _ _ _ (by first | assumption | omega | exact b01_in _ | exact ⟨by omega, by omega⟩)) rfl ?_
            refine Ev.ite (fun q => ?_) (fun q => ?_)
            · replace q := of_decide_eq_true q
              replace q := b01_0 q
              refine Ev.blk 1 (B226_33 _ _ _ _ _ _) rfl ?_
              refine Ev.ret rfl rfl rfl (by first | rfl | exact decide_eq_true (b01_or _)) ?_
              first | (exfalso; omega) | exact ⟨rfl, hi.more (Nat.le_succ N), hI.2⟩
            · replace q := of_decide_eq_false q
              replace q := b01_1 q
              refine Ev.blk 4 (B226_21 _ _ _ _ _ _ (by first | assumption | omega | exact b01_in _ | exact ⟨by omega, by omega⟩)) rfl ?_
              refine Ev.call rfl rfl (rfl) (x_in (d := 28) ⟨by omega, by omega⟩ (by decide) (by decide)) (by omega) ?_
              rintro v V' b' ⟨rfl, rfl, rfl⟩
              refine Ev.blk 1 (B226_30 _ _ _ _ _ _ _ (by first | assumption | omega | exact b01_in _ | exact ⟨by omega, by omega⟩)) rfl ?_
              refine Ev.ite (fun q => ?_) (fun q => ?_)
              · replace q := nd_t q
                replace q := b01_1 q
                (exfalso; omega)
              · replace q := nd_f q
                replace q := b01_0 q
                refine Ev.blk 1 (B226_33 _ _ _ _ _ _) rfl ?_
                refine Ev.ret rfl rfl rfl (by first | rfl | exact decide_eq_true (b01_or _)) ?_
                first | (exfalso; omega) | exact ⟨rfl, hi.more (Nat.le_succ N), hI.2⟩
          · replace q := nd_f q
            replace q := b01_0 q
            refine Ev.blk 1 (B226_7 _ _ _ _ _ _) rfl ?_
            refine Ev.ret rfl rfl rfl (by first | rfl | exact decide_eq_true (b01_or _)) ?_
            first | (exfalso; omega) | exact ⟨rfl, hi.more (Nat.le_succ N), hI.2⟩
        · replace q := of_decide_eq_false q
          refine Ev.blk 3 (B46_24 _ _ _ _ _ _ (by first | assumption | omega | exact b01_in _ | exact ⟨by omega, by omega⟩)) rfl ?_
          refine Ev.ite (fun q => ?_) (fun q => ?_)
          · replace q := of_decide_eq_true q
            obtain ⟨i, rfl⟩ : ∃ k : Nat, a0 = (k : Int) := ⟨a0.toNat, by omega⟩
            have hi3 : i < 3 := by omega
            have hw2 := (hi.kd i hi3).w2
            have hl := hi.ll
            have hT2 : isT 59 := by unfold isT; decide
            have hw0 : Wt (one1 ((0 : Nat) : Int)) (V 121 i) := one1_wt (by omega) (by omega)
            refine Ev.blk 3 (B46_33 _ _ _ _ _ _) rfl ?_
            refine Ev.call rfl rfl rfl (x_settleC (d := 28) (a := 59) (w := 0) hT2 (by decide)) (by omega) ?_
            rintro v V1 b1 ⟨rfl, rfl, rfl⟩
            refine Ev.blk 2 (B46_41 _ _ _ _ _ _) rfl ?_
            obtain ⟨len, hlen⟩ : ∃ n : Nat, V 69 0 = (n : Int) := ⟨(V 69 0).toNat, by omega⟩
            refine Ev.weaken (late_lp (V0 := V) (bar := a1) (sh := a2) hI hi3 (by omega) (by omega) len 0 (fil V (59 + 1) 0 (one1 0) 8) (one1 ((0 : Nat) : Int)) (by omega) (fun x n1 n2 => fil_ne n1) (fun j hj => fil_z hj) hw0) ?_
            rintro v V2 b2 ⟨z, rfl, hz, g1, g2⟩
            refine ⟨z, rfl, hz, g1 0 (by omega) (by omega), ?_⟩
            refine Ev.blk 1 (B226_0 _ _ _ _ _ _) rfl ?_
            refine Ev.call rfl rfl (rfl) (x_isMachineR (d := 27) h0) (by omega) ?_
            rintro v V' b' ⟨rfl, rfl, rfl⟩
            refine Ev.blk 1 (B226_4 _ _ _ _ _ _ _ (by first | assumption | omega | exact b01_in _ | exact ⟨by omega, by omega⟩)) rfl ?_
            refine Ev.ite (fun q => ?_) (fun q => ?_)
            · replace q := nd_t q
              replace q := b01_1 q
              refine Ev.blk 4 (B226_9 _ _ _ _ _ _ (by first | assumption | omega | exact b01_in _ | exact ⟨by omega, by omega⟩)) rfl ?_
              refine Ev.call rfl rfl (rfl) (x_in (d := 28) ⟨by omega, by omega⟩ (by decide) (by decide)) (by omega) ?_
              rintro v V' b' ⟨rfl, rfl, rfl⟩
              refine Ev.blk 1 (B226_18 _ _ _ _ _ _ _ (by first | assumption | omega | exact b01_in _ | exact ⟨by omega, by omega⟩)) rfl ?_
              refine Ev.ite (fun q => ?_) (fun q => ?_)
              · replace q := of_decide_eq_true q
                replace q := b01_0 q
                refine Ev.blk 1 (B226_33 _ _ _ _ _ _) rfl ?_
                refine Ev.ret rfl rfl rfl (by first | rfl | exact decide_eq_true (b01_or _)) ?_
                (exfalso; omega)
              · replace q := of_decide_eq_false q
                replace q := b01_1 q
                refine Ev.blk 4 (B226_21 _ _ _ _ _ _ (by first | assumption | omega | exact b01_in _ | exact ⟨by omega, by omega⟩)) rfl ?_
                refine Ev.call rfl rfl (rfl) (x_in (d := 28) ⟨by omega, by omega⟩ (by decide) (by decide)) (by omega) ?_
                rintro v V' b' ⟨rfl, rfl, rfl⟩
                refine Ev.blk 1 (B226_30 _ _ _ _ _ _ _ (by first | assumption | omega | exact b01_in _ | exact ⟨by omega, by omega⟩)) rfl ?_
                refine Ev.ite (fun q => ?_) (fun q => ?_)
                · replace q := nd_t q
                  replace q := b01_1 q
                  refine Ev.blk 2 (B226_36 _ _ _ _ _ _) rfl ?_
                  refine Ev.call rfl rfl rfl (x_seen (d := 28) (w := 0) (by decide)) (by omega) ?_
                  rintro v V4 b4 ⟨rfl, rfl, rfl⟩
                  refine Ev.blk 2 (B226_41 _ _ _ _ _ _) rfl ?_
                  exact g2 _ _ (fun x n1 n2 => fil_ne n1) (fun j hj => fil_z hj)
                · replace q := nd_f q
                  replace q := b01_0 q
                  refine Ev.blk 1 (B226_33 _ _ _ _ _ _) rfl ?_
                  refine Ev.ret rfl rfl rfl (by first | rfl | exact decide_eq_true (b01_or _)) ?_
                  (exfalso; omega)
            · replace q := nd_f q
              replace q := b01_0 q
              refine Ev.blk 1 (B226_7 _ _ _ _ _ _) rfl ?_
              refine Ev.ret rfl rfl rfl (by first | rfl | exact decide_eq_true (b01_or _)) ?_
              (exfalso; omega)
          · replace q := of_decide_eq_false q
            refine Ev.blk 1 (B46_30 _ _ _ _ _ _) rfl ?_
            refine Ev.ret rfl rfl rfl (by first | rfl | exact decide_eq_true (b01_or _)) ?_
            refine ⟨_, rfl, by decide, rfl, ?_⟩
            refine Ev.blk 1 (B226_0 _ _ _ _ _ _) rfl ?_
            refine Ev.call rfl rfl (rfl) (x_isMachineR (d := 27) h0) (by omega) ?_
            rintro v V' b' ⟨rfl, rfl, rfl⟩
            refine Ev.blk 1 (B226_4 _ _ _ _ _ _ _ (by first | assumption | omega | exact b01_in _ | exact ⟨by omega, by omega⟩)) rfl ?_
            refine Ev.ite (fun q => ?_) (fun q => ?_)
            · replace q := nd_t q
              replace q := b01_1 q
              refine Ev.blk 4 (B226_9 _ _ _ _ _ _ (by first | assumption | omega | exact b01_in _ | exact ⟨by omega, by omega⟩)) rfl ?_
              refine Ev.call rfl rfl (rfl) (x_in (d := 28) ⟨by omega, by omega⟩ (by decide) (by decide)) (by omega) ?_
              rintro v V' b' ⟨rfl, rfl, rfl⟩
              refine Ev.blk 1 (B226_18 _ _ _ _ _ _ _ (by first | assumption | omega | exact b01_in _ | exact ⟨by omega, by omega⟩)) rfl ?_
              refine Ev.ite (fun q => ?_) (fun q => ?_)
              · replace q := of_decide_eq_true q
                replace q := b01_0 q
                refine Ev.blk 1 (B226_33 _ _ _ _ _ _) rfl ?_
                refine Ev.ret rfl rfl rfl (by first | rfl | exact decide_eq_true (b01_or _)) ?_
                first | (exfalso; omega) | exact ⟨rfl, hi.more (Nat.le_succ N), hI.2⟩
              · replace q := of_decide_eq_false q
                replace q := b01_1 q
                refine Ev.blk 4 (B226_21 _ _ _ _ _ _ (by first | assumption | omega | exact b01_in _ | exact ⟨by omega, by omega⟩)) rfl ?_
                refine Ev.call rfl rfl (rfl) (x_in (d := 28) ⟨by omega, by omega⟩ (by decide) (by decide)) (by omega) ?_
                rintro v V' b' ⟨rfl, rfl, rfl⟩
                refine Ev.blk 1 (B226_30 _ _ _ _ _ _ _ (by first | assumption | omega | exact b01_in _ | exact ⟨by omega, by omega⟩)) rfl ?_
                refine Ev.ite (fun q => ?_) (fun q => ?_)
                · replace q := nd_t q
                  replace q := b01_1 q
                  (exfalso; omega)
                · replace q := nd_f q
                  replace q := b01_0 q
                  refine Ev.blk 1 (B226_33 _ _ _ _ _ _) rfl ?_
                  refine Ev.ret rfl rfl rfl (by first | rfl | exact decide_eq_true (b01_or _)) ?_
                  first | (exfalso; omega) | exact ⟨rfl, hi.more (Nat.le_succ N), hI.2⟩
            · replace q := nd_f q
              replace q := b01_0 q
              refine Ev.blk 1 (B226_7 _ _ _ _ _ _) rfl ?_
              refine Ev.ret rfl rfl rfl (by first | rfl | exact decide_eq_true (b01_or _)) ?_
              first | (exfalso; omega) | exact ⟨rfl, hi.more (Nat.le_succ N), hI.2⟩
  · replace q := nd_f q
    replace q := b01_0 q
    refine Ev.blk 1 (B46_7 _ _ _ _ _ _) rfl ?_
    refine Ev.ret rfl rfl rfl (by first | rfl | exact decide_eq_true (b01_or _)) ?_
    refine ⟨_, rfl, by decide, rfl, ?_⟩
    refine Ev.blk 1 (B226_0 _ _ _ _ _ _) rfl ?_
    refine Ev.call rfl rfl (rfl) (x_isMachineR (d := 27) h0) (by omega) ?_
    rintro v V' b' ⟨rfl, rfl, rfl⟩
    refine Ev.blk 1 (B226_4 _ _ _ _ _ _ _ (by first | assumption | omega | exact b01_in _ | exact ⟨by omega, by omega⟩)) rfl ?_
    refine Ev.ite (fun q => ?_) (fun q => ?_)
    · replace q := nd_t q
      replace q := b01_1 q
      refine Ev.blk 4 (B226_9 _ _ _ _ _ _ (by first | assumption | omega | exact b01_in _ | exact ⟨by omega, by omega⟩)) rfl ?_
      refine Ev.call rfl rfl (rfl) (x_in (d := 28) ⟨by omega, by omega⟩ (by decide) (by decide)) (by omega) ?_
      rintro v V' b' ⟨rfl, rfl, rfl⟩
      refine Ev.blk 1 (B226_18 _ _ _ _ _ _ _ (by first | assumption | omega | exact b01_in _ | exact ⟨by omega, by omega⟩)) rfl ?_
      refine Ev.ite (fun q => ?_) (fun q => ?_)
      · replace q := of_decide_eq_true q
        replace q := b01_0 q
        refine Ev.blk 1 (B226_33 _ _ _ _ _ _) rfl ?_
        refine Ev.ret rfl rfl rfl (by first | rfl | exact decide_eq_true (b01_or _)) ?_
        first | (exfalso; omega) | exact ⟨rfl, hi.more (Nat.le_succ N), hI.2⟩
      · replace q := of_decide_eq_false q
        replace q := b01_1 q
        refine Ev.blk 4 (B226_21 _ _ _ _ _ _ (by first | assumption | omega | exact b01_in _ | exact ⟨by omega, by omega⟩)) rfl ?_
        refine Ev.call rfl rfl (rfl) (x_in (d := 28) ⟨by omega, by omega⟩ (by decide) (by decide)) (by omega) ?_
        rintro v V' b' ⟨rfl, rfl, rfl⟩
        refine Ev.blk 1 (B226_30 _ _ _ _ _ _ _ (by first | assumption | omega | exact b01_in _ | exact ⟨by omega, by omega⟩)) rfl ?_
        refine Ev.ite (fun q => ?_) (fun q => ?_)
        · replace q := nd_t q
          replace q := b01_1 q
          (exfalso; omega)
        · replace q := nd_f q
          replace q := b01_0 q
          refine Ev.blk 1 (B226_33 _ _ _ _ _ _) rfl ?_
          refine Ev.ret rfl rfl rfl (by first | rfl | exact decide_eq_true (b01_or _)) ?_
          first | (exfalso; omega) | exact ⟨rfl, hi.more (Nat.le_succ N), hI.2⟩
    · replace q := nd_f q
      replace q := b01_0 q
      refine Ev.blk 1 (B226_7 _ _ _ _ _ _) rfl ?_
      refine Ev.ret rfl rfl rfl (by first | rfl | exact decide_eq_true (b01_or _)) ?_
      first | (exfalso; omega) | exact ⟨rfl, hi.more (Nat.le_succ N), hI.2⟩

