/-! thoughts: a day in the reference, 2 (specs15.py) -/
/-- the spare row: rows below k are in it -/
def Sp (G : Nat → Nat → Int) (f : Nat → Int) (w k j : Nat) : Int := if j < w then sumN (fun fr => f fr * G fr j) (min k (j + 1)) else 0
theorem Sp_s {G : Nat → Nat → Int} {f : Nat → Int} {w k j : Nat} (h1 : k ≤ j) (h2 : j < w) : Sp G f w k j + f k * G k j = Sp G f w (k + 1) j := by
  unfold Sp
  rw [if_pos h2, if_pos h2, Nat.min_eq_left (by omega), Nat.min_eq_left (by omega)]
  rfl
theorem Sp_e {G : Nat → Nat → Int} {f : Nat → Int} {w k j : Nat} (h1 : ¬ (k ≤ j ∧ j < w)) : Sp G f w (k + 1) j = Sp G f w k j := by
  unfold Sp
  by_cases h2 : j < w
  · rw [if_pos h2, if_pos h2, Nat.min_eq_right (by omega), Nat.min_eq_right (by omega)]
  · rw [if_neg h2, if_neg h2]
theorem td0_lp {L d : Nat} {V : Mv} {b : Bool} {Q : Option AV → Mv → Bool → Prop} {m : Nat} (hQ : Ev L d 156 21 [some (.inr (.inr 120)), some (.inl (m : Int)), some (.inl 8), none] [] (fil V 132 0 (fun _ => 0) 8) b Q) : ∀ n k : Nat, k + n = 8 → Ev L (d) 156 2 [some (.inr (.inr 120)), some (.inl (m : Int)), some (.inl (k : Int)), none] [] (fil V 132 0 (fun _ => 0) k) b Q
  | 0, k, h => by
    obtain rfl : k = 8 := by omega
    refine Ev.blk 3 (B156_2 _ _ _ _ _ (by first | assumption | omega | decide | exact cmpI_in _ _ | exact ⟨by omega, by omega⟩)) rfl ?_
    refine Ev.ite (fun q => ?_) (fun q => ?_)
    · replace q := of_decide_eq_true q
      exact hQ
    · replace q := of_decide_eq_false q
      exact absurd q (by omega)
  | n + 1, k, h => by
    have ih := td0_lp (L := L) (d := d) hQ n (k + 1) (by omega)
    refine Ev.blk 3 (B156_2 _ _ _ _ _ (by first | assumption | omega | decide | exact cmpI_in _ _ | exact ⟨by omega, by omega⟩)) rfl ?_
    refine Ev.ite (fun q => ?_) (fun q => ?_)
    · replace q := of_decide_eq_true q
      exact absurd q (by omega)
    · replace q := of_decide_eq_false q
      refine Ev.blk 7 (B156_8 _ _ _ _ _ (by first | assumption | omega | decide | exact cmpI_in _ _ | exact ⟨by omega, by omega⟩)) rfl ?_
      exact Ev.mem (fil_st (by omega) rfl) ih

theorem td3_lp {L d : Nat} {V : Mv} {b : Bool} {Q : Option AV → Mv → Bool → Prop} {m : Nat} (hQ : Ev L d 156 107 [some (.inr (.inr 120)), some (.inl (m : Int)), some (.inl 8), none] [] (fil V 131 0 (V 132) 8) b Q) : ∀ n k : Nat, k + n = 8 → Ev L (d) 156 83 [some (.inr (.inr 120)), some (.inl (m : Int)), some (.inl (k : Int)), none] [] (fil V 131 0 (V 132) k) b Q
  | 0, k, h => by
    obtain rfl : k = 8 := by omega
    refine Ev.blk 3 (B156_83 _ _ _ _ _ (by first | assumption | omega | decide | exact cmpI_in _ _ | exact ⟨by omega, by omega⟩)) rfl ?_
    refine Ev.ite (fun q => ?_) (fun q => ?_)
    · replace q := of_decide_eq_true q
      exact hQ
    · replace q := of_decide_eq_false q
      exact absurd q (by omega)
  | n + 1, k, h => by
    have ih := td3_lp (L := L) (d := d) hQ n (k + 1) (by omega)
    refine Ev.blk 3 (B156_83 _ _ _ _ _ (by first | assumption | omega | decide | exact cmpI_in _ _ | exact ⟨by omega, by omega⟩)) rfl ?_
    refine Ev.ite (fun q => ?_) (fun q => ?_)
    · replace q := of_decide_eq_true q
      exact absurd q (by omega)
    · replace q := of_decide_eq_false q
      refine Ev.blk 10 (B156_89 _ _ _ _ _ (by first | assumption | omega | decide | exact cmpI_in _ _ | exact ⟨by omega, by omega⟩)) rfl ?_
      exact Ev.mem (fil_st (by omega) (by rw [fil_ne (by omega), Int.toNat_natCast])) ih

theorem td1_lp {L d : Nat} {V : Mv} {b : Bool} {Q : Option AV → Mv → Bool → Prop} {m w : Nat} (hm : m < 3) (hw : V 121 m = (w : Int)) (hw8 : w ≤ 8) (hG : ∀ a c : Nat, a < 8 → c < 8 → 0 ≤ rGo V (m : Int) (a : Int) (c : Int) ∧ rGo V (m : Int) (a : Int) (c : Int) ≤ 10) {a : Nat} (ha : a < 8) (hQ : ∀ W, ((∀ x, x ≠ 132 → W x = V x) ∧ (∀ j, j < 8 → W 132 j = if j < w then Sp (fun a c => rGo V (m : Int) (a : Int) (c : Int)) (V 131) w (a + 1) j else Sp (fun a c => rGo V (m : Int) (a : Int) (c : Int)) (V 131) w a j)) → Ev L (d + 2) 156 75 [some (.inr (.inr 120)), some (.inl (m : Int)), some (.inl (a : Int)), some (.inl (w : Int))] [] W b Q) : ∀ (n k : Nat) (W : Mv), a ≤ k → k + n = w → ((∀ x, x ≠ 132 → W x = V x) ∧ (∀ j, j < 8 → W 132 j = if j < k then Sp (fun a c => rGo V (m : Int) (a : Int) (c : Int)) (V 131) w (a + 1) j else Sp (fun a c => rGo V (m : Int) (a : Int) (c : Int)) (V 131) w a j)) → Ev L (d + 2) 156 35 [some (.inr (.inr 120)), some (.inl (m : Int)), some (.inl (a : Int)), some (.inl (k : Int))] [] W b Q
  | 0, k, W, hka, h, hr => by
    obtain rfl : k = w := by omega
    refine Ev.blk 6 (B156_35 _ _ _ _ _ _ (by first | omega | (rw [hr.1 121 (by omega), Int.toNat_natCast]; exact ⟨by omega, by omega⟩) | exact ⟨by omega, by omega⟩) (by first | omega | (rw [hr.1 121 (by omega), Int.toNat_natCast]; exact ⟨by omega, by omega⟩) | exact ⟨by omega, by omega⟩) (by first | omega | (rw [hr.1 121 (by omega), Int.toNat_natCast]; exact ⟨by omega, by omega⟩) | exact ⟨by omega, by omega⟩)) rfl ?_
    refine Ev.ite (fun q => ?_) (fun q => ?_)
    · replace q := of_decide_eq_true q
      replace q : V 121 m ≤ (k : Int) := by rw [← hr.1 121 (by omega)]; exact q
      exact hQ W hr
    · replace q := of_decide_eq_false q
      replace q : ¬ V 121 m ≤ (k : Int) := by rw [← hr.1 121 (by omega)]; exact q
      exact absurd q (by omega)
  | n + 1, k, W, hka, h, hr => by
    have ih := td1_lp (L := L) (d := d) hm hw hw8 hG ha hQ n (k + 1)
    have e2 : W 132 k = Sp (fun a c => rGo V (m : Int) (a : Int) (c : Int)) (V 131) w a k := by rw [hr.2 k (by omega), if_neg (by omega)]
    have e4 : rGo W (m : Int) (a : Int) (k : Int) = rGo V (m : Int) (a : Int) (k : Int) := rGo_congr (hr.1 123 (by omega)) _ _ _
    have h2 := hG a k ha (by omega)
    refine Ev.blk 6 (B156_35 _ _ _ _ _ _ (by first | omega | (rw [hr.1 121 (by omega), Int.toNat_natCast]; exact ⟨by omega, by omega⟩) | exact ⟨by omega, by omega⟩) (by first | omega | (rw [hr.1 121 (by omega), Int.toNat_natCast]; exact ⟨by omega, by omega⟩) | exact ⟨by omega, by omega⟩) (by first | omega | (rw [hr.1 121 (by omega), Int.toNat_natCast]; exact ⟨by omega, by omega⟩) | exact ⟨by omega, by omega⟩)) rfl ?_
    refine Ev.ite (fun q => ?_) (fun q => ?_)
    · replace q := of_decide_eq_true q
      replace q : V 121 m ≤ (k : Int) := by rw [← hr.1 121 (by omega)]; exact q
      exact absurd q (by omega)
    · replace q := of_decide_eq_false q
      replace q : ¬ V 121 m ≤ (k : Int) := by rw [← hr.1 121 (by omega)]; exact q
      refine Ev.blk 13 (B156_45 _ _ _ _ _ _ (by first | omega | exact ⟨by omega, by omega⟩) (by first | omega | exact ⟨by omega, by omega⟩)) rfl ?_
      refine Ev.call rfl rfl (rfl) (x_goesOf (d := d) (m := (m : Int)) (a := (a : Int)) (c := (k : Int)) (by omega) (by omega) (by omega)) (by omega) ?_
      rintro v V' b' ⟨rfl, rfl, rfl⟩
      refine Ev.blk 6 (J156_65 _ _ _ _ _ _ _ _ _ _ _ _ (by first | rfl | omega | (rw [e4]; exact ⟨by omega, by omega⟩) | exact ⟨by omega, by omega⟩) (by first | rfl | omega | (rw [e4]; exact ⟨by omega, by omega⟩) | exact ⟨by omega, by omega⟩) (by first | rfl | omega | (rw [e4]; exact ⟨by omega, by omega⟩) | exact ⟨by omega, by omega⟩) (by first | rfl | omega | (rw [e4]; exact ⟨by omega, by omega⟩) | exact ⟨by omega, by omega⟩)) rfl ?_
      refine ih _ (by omega) (by omega) ⟨fun x hx => by rw [uV_ne hx]; exact hr.1 x hx, fun j hj => ?_⟩
      rw [uV_at, Int.toNat_natCast]
      by_cases q1 : j = k
      · rw [if_pos q1, if_pos (by omega), q1, Int.toNat_natCast, e2, e4, hr.1 131 (by omega)]
        exact Sp_s (G := (fun a c => rGo V (m : Int) (a : Int) (c : Int))) hka (by omega)
      · rw [if_neg q1, hr.2 j hj]
        by_cases q2 : j < k
        · rw [if_pos q2, if_pos (by omega)]
        · rw [if_neg q2, if_neg (by omega)]

theorem td2_lp {L d : Nat} {V : Mv} {b : Bool} {Q : Option AV → Mv → Bool → Prop} {m w : Nat} (hm : m < 3) (hw : V 121 m = (w : Int)) (hw8 : w ≤ 8) (hG : ∀ a c : Nat, a < 8 → c < 8 → 0 ≤ rGo V (m : Int) (a : Int) (c : Int) ∧ rGo V (m : Int) (a : Int) (c : Int) ≤ 10) (hQ : ∀ W, ((∀ x, x ≠ 132 → W x = V x) ∧ (∀ j, j < 8 → W 132 j = Sp (fun a c => rGo V (m : Int) (a : Int) (c : Int)) (V 131) w w j)) → Ev L (d + 2) 156 81 [some (.inr (.inr 120)), some (.inl (m : Int)), some (.inl (w : Int)), none] [] W b Q) : ∀ (n k : Nat) (W : Mv), k + n = w → ((∀ x, x ≠ 132 → W x = V x) ∧ (∀ j, j < 8 → W 132 j = Sp (fun a c => rGo V (m : Int) (a : Int) (c : Int)) (V 131) w k j)) → Ev L (d + 2) 156 23 [some (.inr (.inr 120)), some (.inl (m : Int)), some (.inl (k : Int)), none] [] W b Q
  | 0, k, W, h, hr => by
    obtain rfl : k = w := by omega
    refine Ev.blk 6 (B156_23 _ _ _ _ _ (by first | omega | (rw [hr.1 121 (by omega), Int.toNat_natCast]; exact ⟨by omega, by omega⟩) | exact ⟨by omega, by omega⟩) (by first | omega | (rw [hr.1 121 (by omega), Int.toNat_natCast]; exact ⟨by omega, by omega⟩) | exact ⟨by omega, by omega⟩) (by first | omega | (rw [hr.1 121 (by omega), Int.toNat_natCast]; exact ⟨by omega, by omega⟩) | exact ⟨by omega, by omega⟩)) rfl ?_
    refine Ev.ite (fun q => ?_) (fun q => ?_)
    · replace q := of_decide_eq_true q
      replace q : V 121 m ≤ (k : Int) := by rw [← hr.1 121 (by omega)]; exact q
      exact hQ W hr
    · replace q := of_decide_eq_false q
      replace q : ¬ V 121 m ≤ (k : Int) := by rw [← hr.1 121 (by omega)]; exact q
      exact absurd q (by omega)
  | n + 1, k, W, h, hr => by
    have ih := td2_lp (L := L) (d := d) hm hw hw8 hG hQ n (k + 1)
    refine Ev.blk 6 (B156_23 _ _ _ _ _ (by first | omega | (rw [hr.1 121 (by omega), Int.toNat_natCast]; exact ⟨by omega, by omega⟩) | exact ⟨by omega, by omega⟩) (by first | omega | (rw [hr.1 121 (by omega), Int.toNat_natCast]; exact ⟨by omega, by omega⟩) | exact ⟨by omega, by omega⟩) (by first | omega | (rw [hr.1 121 (by omega), Int.toNat_natCast]; exact ⟨by omega, by omega⟩) | exact ⟨by omega, by omega⟩)) rfl ?_
    refine Ev.ite (fun q => ?_) (fun q => ?_)
    · replace q := of_decide_eq_true q
      replace q : V 121 m ≤ (k : Int) := by rw [← hr.1 121 (by omega)]; exact q
      exact absurd q (by omega)
    · replace q := of_decide_eq_false q
      replace q : ¬ V 121 m ≤ (k : Int) := by rw [← hr.1 121 (by omega)]; exact q
      refine Ev.blk 2 (B156_33 _ _ _ _ _) rfl ?_
      refine td1_lp (V := V) (a := k) hm hw hw8 hG (by omega) (fun W2 hr2 => ?_) (w - k) k W (Nat.le_refl _) (by omega) ⟨hr.1, fun j hj => ?_⟩
      · refine Ev.blk 2 (B156_75 _ _ _ _ _ _) rfl ?_
        refine Ev.kill [false, false, false, true] ?_
        dsimp only [mkl]
        refine ih _ (by omega) ⟨hr2.1, fun j hj => ?_⟩
        rw [hr2.2 j hj]
        by_cases q1 : j < w
        · rw [if_pos q1]
        · rw [if_neg q1, Sp_e (by omega)]
      · rw [hr.2 j hj]
        by_cases q1 : j < k
        · rw [if_pos q1, Sp_e (by omega)]
        · rw [if_neg q1]

theorem x_tryDay {L d : Nat} {V : Mv} {b : Bool} {m w : Nat} (hm : m < 3) (hw : V 121 m = (w : Int)) (hw8 : w ≤ 8) (hG : ∀ a c : Nat, a < 8 → c < 8 → 0 ≤ rGo V (m : Int) (a : Int) (c : Int) ∧ rGo V (m : Int) (a : Int) (c : Int) ≤ 10) (hf : ∀ j, j < 8 → 0 ≤ V 131 j ∧ V 131 j ≤ 1000000000000000) (hz : ∀ j, j < 8 → w ≤ j → dF (fun a c => rGo V (m : Int) (a : Int) (c : Int)) (V 131) j = 0) : Ex L (d + 3) 156 [.inr (.inr 120), .inl (m : Int)] V b (fun v V' b' => v = some (.inl (sA (dF (fun a c => rGo V (m : Int) (a : Int) (c : Int)) (V 131)))) ∧ b' = b ∧ (∀ x, x ≠ 131 → x ≠ 132 → V' x = V x) ∧ (sA (dF (fun a c => rGo V (m : Int) (a : Int) (c : Int)) (V 131)) = 1 → ∀ j, j < 8 → V' 131 j = nrm (dF (fun a c => rGo V (m : Int) (a : Int) (c : Int)) (V 131)) j)) := by
  refine Ev.blk 2 (B156_0 _ _ _ _) rfl ?_
  refine Ev.mem (fil_0 V 132 0 (fun _ => 0)).symm (td0_lp ?_ 8 0 rfl)
  refine Ev.blk 2 (B156_21 _ _ _ _ _) rfl ?_
  refine td2_lp (d := d + 1) (V := V) hm hw hw8 hG (fun W hr => ?_) w 0 (fil V 132 0 (fun _ => 0) 8) (by omega) ⟨fun x hx => fil_ne hx, fun j hj => ?_⟩
  · refine Ev.blk 2 (B156_81 _ _ _ _ _) rfl ?_
    refine Ev.mem (fil_0 W 131 0 (W 132)).symm (td3_lp ?_ 8 0 rfl)
    obtain ⟨Y, hY⟩ : ∃ Y, Y = fil W 131 0 (W 132) 8 := ⟨_, rfl⟩
    rw [← hY]
    have f1 : ∀ j, j < 8 → Y 131 j = dF (fun a c => rGo V (m : Int) (a : Int) (c : Int)) (V 131) j := by
      intro j hj
      rw [hY, fil_z hj, hr.2 j hj]
      unfold Sp
      by_cases q : j < w
      · rw [if_pos q, Nat.min_eq_right (by omega)]
        rfl
      · rw [if_neg q, hz j hj (by omega)]
    have f3 := sA_congr f1
    refine Ev.blk 1 (B156_107 _ _ _ _ _) rfl ?_
    refine Ev.call rfl rfl rfl (x_settleR (d := d) (fun j hj => ?_)) (by omega) ?_
    · rw [f1 j hj]
      exact dF_bd hf (fun i hi => hG i j hi hj) hj
    rintro v V' b' ⟨rfl, rfl, g1, g2⟩
    refine Ev.ret rfl rfl rfl rfl ⟨by rw [f3], rfl, fun x h1 h2 => ?_, fun h j hj => ?_⟩
    · rw [g1 x h1, hY, fil_ne h1, hr.1 x h2]
    · rw [g2 (by rw [f3]; exact h) j hj]
      exact nrm_congr f1 j hj
  · rw [fil_z hj]
    unfold Sp
    rw [Nat.zero_min]
    split <;> rfl
