/-! thoughts: a day and a knock in the class (specs13.py) -/
theorem mul10 {f g : Int} (hf : 0 ≤ f ∧ f ≤ 1000000000000000) (hg : 0 ≤ g ∧ g ≤ 10) : 0 ≤ f * g ∧ f * g ≤ 10000000000000000 := by
  have : g = 0 ∨ g = 1 ∨ g = 2 ∨ g = 3 ∨ g = 4 ∨ g = 5 ∨ g = 6 ∨ g = 7 ∨ g = 8 ∨ g = 9 ∨ g = 10 := by omega
  rcases this with h | h | h | h | h | h | h | h | h | h | h
  all_goals (rw [h]; omega)
theorem sumN_bd {f : Nat → Int} {B : Int} : ∀ n, (∀ i, i < n → 0 ≤ f i ∧ f i ≤ B) → 0 ≤ sumN f n ∧ sumN f n ≤ (n : Int) * B
  | 0, _ => ⟨Int.le_refl 0, by show (0 : Int) ≤ ((0 : Nat) : Int) * B; omega⟩
  | n + 1, h => by
    have h1 := sumN_bd n (fun i hi => h i (by omega))
    have h2 := h n (by omega)
    show 0 ≤ sumN f n + f n ∧ sumN f n + f n ≤ ((n + 1 : Nat) : Int) * B
    rw [show ((n + 1 : Nat) : Int) * B = (n : Int) * B + B by rw [Int.natCast_add, Int.add_mul]; omega]
    omega
theorem dF_bd {G : Nat → Nat → Int} {w : Nat → Int} {j : Nat} (hw : ∀ i, i < 8 → 0 ≤ w i ∧ w i ≤ 1000000000000000) (hg : ∀ i, i < 8 → 0 ≤ G i j ∧ G i j ≤ 10) (hj : j < 8) : 0 ≤ dF G w j ∧ dF G w j ≤ 100000000000000000 := by
  unfold dF
  have h := sumN_bd (f := fun fr => w fr * G fr j) (B := 10000000000000000) (j + 1) (fun i hi => mul10 (hw i (by omega)) (hg i (by omega)))
  omega
theorem kF_bd {q w : Nat → Int} {h : Int} {j : Nat} (hw : 0 ≤ w j ∧ w j ≤ 1000000000000000) (hq : 0 ≤ q j ∧ q j ≤ 10) : 0 ≤ kF q h w j ∧ kF q h w j ≤ 100000000000000000 := by
  unfold kF
  have h1 := mul10 hw (g := if h = 0 then 10 - q j else q j) (by split <;> omega)
  omega
theorem pdI_lp {L d : Nat} {V : Mv} {b : Bool} {Q : Option AV → Mv → Bool → Prop} {a c t : Nat} (ha : isT a) (hc : isK c) (ht : t < 8) (hG : ∀ i, i < 64 → in32 (V (c + 1) i)) (hQ : Ev L d 80 49 [some (.inr (.inr a)), some (.inr (.inr c)), some (.inl (t : Int)), some (.inr (.inl (sumN (fun fr => V (a + 1) fr * V (c + 1) (8 * fr + t)) (t + 1)))), none, some (.inl ((t + 1 : Nat) : Int))] [] V b Q) : ∀ n k : Nat, k + n = t + 1 → Ev L (d) 80 13 [some (.inr (.inr a)), some (.inr (.inr c)), some (.inl (t : Int)), some (.inr (.inl (sumN (fun fr => V (a + 1) fr * V (c + 1) (8 * fr + t)) k))), none, some (.inl (k : Int))] [] V b Q
  | 0, k, h => by
    obtain rfl : k = t + 1 := by omega
    refine Ev.blk 3 (B80_13 _ _ _ _ _ _ _ _ (by first | assumption | omega | decide | exact cmpI_in _ _ | exact ⟨by omega, by omega⟩) (by first | assumption | omega | decide | exact cmpI_in _ _ | exact ⟨by omega, by omega⟩)) rfl ?_
    refine Ev.ite (fun q => ?_) (fun q => ?_)
    · replace q := of_decide_eq_true q
      exact hQ
    · replace q := of_decide_eq_false q
      exact absurd q (by omega)
  | n + 1, k, h => by
    have ih := pdI_lp (L := L) (d := d) ha hc ht hG hQ n (k + 1) (by omega)
    have e : ((k : Int) * 8 + (t : Int)).toNat = 8 * k + t := by omega
    refine Ev.blk 3 (B80_13 _ _ _ _ _ _ _ _ (by first | assumption | omega | decide | exact cmpI_in _ _ | exact ⟨by omega, by omega⟩) (by first | assumption | omega | decide | exact cmpI_in _ _ | exact ⟨by omega, by omega⟩)) rfl ?_
    refine Ev.ite (fun q => ?_) (fun q => ?_)
    · replace q := of_decide_eq_true q
      exact absurd q (by omega)
    · replace q := of_decide_eq_false q
      refine Ev.blk 19 (B80_19 _ _ _ _ _ _ _ _ (by first | exact ha | exact hc | omega | (rw [e]; exact hG _ (by omega)) | exact ⟨by omega, by omega⟩) (by first | exact ha | exact hc | omega | (rw [e]; exact hG _ (by omega)) | exact ⟨by omega, by omega⟩) (by first | exact ha | exact hc | omega | (rw [e]; exact hG _ (by omega)) | exact ⟨by omega, by omega⟩) (by first | exact ha | exact hc | omega | (rw [e]; exact hG _ (by omega)) | exact ⟨by omega, by omega⟩) (by first | exact ha | exact hc | omega | (rw [e]; exact hG _ (by omega)) | exact ⟨by omega, by omega⟩)) rfl ?_
      (rw [e]; exact ih)

theorem pdO_lp {L d : Nat} {V : Mv} {b : Bool} {Q : Option AV → Mv → Bool → Prop} {a c : Nat} (ha : isT a) (hc : isK c) (hG : ∀ i, i < 64 → in32 (V (c + 1) i)) (hQ : Ev L d 80 62 [some (.inr (.inr a)), some (.inr (.inr c)), some (.inl 8), none, none, none] [] (fil V (a + 2) 0 (fun to => sumN (fun fr => V (a + 1) fr * V (c + 1) (8 * fr + to)) (to + 1)) 8) b Q) : ∀ n k : Nat, k + n = 8 → Ev L (d) 80 2 [some (.inr (.inr a)), some (.inr (.inr c)), some (.inl (k : Int)), none, none, none] [] (fil V (a + 2) 0 (fun to => sumN (fun fr => V (a + 1) fr * V (c + 1) (8 * fr + to)) (to + 1)) k) b Q
  | 0, k, h => by
    obtain rfl : k = 8 := by omega
    refine Ev.blk 3 (B80_2 _ _ _ _ _ _ (by first | assumption | omega | decide | exact cmpI_in _ _ | exact ⟨by omega, by omega⟩)) rfl ?_
    refine Ev.ite (fun q => ?_) (fun q => ?_)
    · replace q := of_decide_eq_true q
      exact hQ
    · replace q := of_decide_eq_false q
      exact absurd q (by omega)
  | n + 1, k, h => by
    have ih := pdO_lp (L := L) (d := d) ha hc hG hQ n (k + 1) (by omega)
    have n1 : a + 1 ≠ a + 2 := by omega
    have n2 : c + 1 ≠ a + 2 := by (unfold isT at ha; unfold isK at hc; omega)
    have e1 : fil V (a + 2) 0 (fun to => sumN (fun fr => V (a + 1) fr * V (c + 1) (8 * fr + to)) (to + 1)) k (a + 1) = V (a + 1) := fil_ne n1
    have e2 : fil V (a + 2) 0 (fun to => sumN (fun fr => V (a + 1) fr * V (c + 1) (8 * fr + to)) (to + 1)) k (c + 1) = V (c + 1) := fil_ne n2
    refine Ev.blk 3 (B80_2 _ _ _ _ _ _ (by first | assumption | omega | decide | exact cmpI_in _ _ | exact ⟨by omega, by omega⟩)) rfl ?_
    refine Ev.ite (fun q => ?_) (fun q => ?_)
    · replace q := of_decide_eq_true q
      exact absurd q (by omega)
    · replace q := of_decide_eq_false q
      refine Ev.blk 4 (B80_8 _ _ _ _ _ _) rfl ?_
      refine pdI_lp (t := k) ha hc (by omega) (fun i hi => by rw [e2]; exact hG i hi) ?_ (k + 1) 0 (by omega)
      refine Ev.blk 7 (B80_49 _ _ _ _ _ _ _ _ (by first | exact ha | omega | exact ⟨by omega, by omega⟩) (by first | exact ha | omega | exact ⟨by omega, by omega⟩)) rfl ?_
      refine Ev.kill [false, false, false, true, false, true] ?_
      dsimp only [mkl]
      exact Ev.mem (fil_st (by omega) (by rw [e1, e2])) ih

theorem x_passDay {L d : Nat} {V : Mv} {b : Bool} {a c : Nat} {G : Nat → Nat → Int} (ha : isT a) (hc : isK c) (hG : ∀ i j, i < 8 → j < 8 → V (c + 1) (8 * i + j) = G i j) (hg : ∀ i j, i < 8 → j < 8 → 0 ≤ G i j ∧ G i j ≤ 10) (hw : ∀ j, j < 8 → 0 ≤ V (a + 1) j ∧ V (a + 1) j ≤ 1000000000000000) : Ex L (d + 2) 80 [.inr (.inr a), .inr (.inr c)] V b (fun v V' b' => v = some (.inl (sA (dF G (V (a + 1))))) ∧ b' = b ∧ (∀ x, x ≠ a + 1 → x ≠ a + 2 → V' x = V x) ∧ (sA (dF G (V (a + 1))) = 1 → ∀ j, j < 8 → V' (a + 1) j = nrm (dF G (V (a + 1))) j) ∧ (¬ sA (dF G (V (a + 1))) = 1 → V' (a + 1) = V (a + 1))) := by
  have e1 : ∀ j, j < 8 → sumN (fun fr => V (a + 1) fr * V (c + 1) (8 * fr + j)) (j + 1) = dF G (V (a + 1)) j := by
    intro j hj
    unfold dF
    exact sumN_congr (j + 1) (fun i hi => by rw [hG i j (by omega) hj])
  have hi : ∀ i, i < 64 → in32 (V (c + 1) i) := by
    intro i hi
    have h1 := hG (i / 8) (i % 8) (by omega) (by omega)
    have h2 := hg (i / 8) (i % 8) (by omega) (by omega)
    rw [show 8 * (i / 8) + i % 8 = i by omega] at h1
    rw [h1]
    exact ⟨by omega, by omega⟩
  refine Ev.blk 2 (B80_0 _ _ _ _ _) rfl ?_
  refine Ev.mem (fil_0 V (a + 2) 0 (fun to => sumN (fun fr => V (a + 1) fr * V (c + 1) (8 * fr + to)) (to + 1))).symm (pdO_lp ha hc hi ?_ 8 0 rfl)
  obtain ⟨W, hW⟩ : ∃ W, W = fil V (a + 2) 0 (fun to => sumN (fun fr => V (a + 1) fr * V (c + 1) (8 * fr + to)) (to + 1)) 8 := ⟨_, rfl⟩
  rw [← hW]
  have f1 : ∀ j, j < 8 → W (a + 2) j = dF G (V (a + 1)) j := by
    intro j hj
    rw [hW, fil_z hj]
    exact e1 j hj
  have f2 : ∀ x, x ≠ a + 2 → W x = V x := by
    intro x hx
    rw [hW, fil_ne hx]
  have f3 : sA (W (a + 2)) = sA (dF G (V (a + 1))) := sA_congr f1
  refine Ev.blk 1 (B80_62 _ _ _ _ _ _) rfl ?_
  refine Ev.call rfl rfl (vg rfl rfl (isT_0 ha) (congrArg Prod.fst (isT_T ha)) rfl) (x_takeNext (d := d) ha (fun j hj => ?_)) (by omega) ?_
  · rw [f1 j hj]
    exact dF_bd (fun i hi => hw i hi) (fun i hi => hg i j hi hj) hj
  rintro v V' b' ⟨rfl, rfl, rfl⟩
  refine Ev.ret rfl rfl rfl rfl ⟨by rw [f3], rfl, fun x h1 h2 => ?_, fun h j hj => ?_, fun h => ?_⟩
  · split
    · rw [fil_ne h1, f2 x h2]
    · exact f2 x h2
  · rw [f3, if_pos h, fil_z hj]
    exact nrm_congr f1 j hj
  · rw [f3, if_neg h, f2 _ (by omega)]
theorem tk_lp {L d : Nat} {V : Mv} {b : Bool} {Q : Option AV → Mv → Bool → Prop} {a c : Nat} {u : Int} (ha : isT a) (hc : isK c) (hu : in32 u) (hq : ∀ j, j < 8 → 0 ≤ V (c + 4) j ∧ V (c + 4) j ≤ 9) (hQ : Ev L d 82 50 [some (.inr (.inr a)), some (.inr (.inr c)), some (.inl u), some (.inl 8), none] [] (fil V (a + 2) 0 (kF (V (c + 4)) u (V (a + 1))) 8) b Q) : ∀ n k : Nat, k + n = 8 → Ev L (d) 82 2 [some (.inr (.inr a)), some (.inr (.inr c)), some (.inl u), some (.inl (k : Int)), none] [] (fil V (a + 2) 0 (kF (V (c + 4)) u (V (a + 1))) k) b Q
  | 0, k, h => by
    obtain rfl : k = 8 := by omega
    refine Ev.blk 3 (B82_2 _ _ _ _ _ _ _ (by first | assumption | omega | decide | exact cmpI_in _ _ | exact ⟨by omega, by omega⟩)) rfl ?_
    refine Ev.ite (fun q => ?_) (fun q => ?_)
    · replace q := of_decide_eq_true q
      exact hQ
    · replace q := of_decide_eq_false q
      exact absurd q (by omega)
  | n + 1, k, h => by
    have ih := tk_lp (L := L) (d := d) ha hc hu hq hQ n (k + 1) (by omega)
    have n1 : a + 1 ≠ a + 2 := by omega
    have n2 : c + 4 ≠ a + 2 := by (unfold isT at ha; unfold isK at hc; omega)
    have e1 : fil V (a + 2) 0 (kF (V (c + 4)) u (V (a + 1))) k (a + 1) = V (a + 1) := fil_ne n1
    have e2 : fil V (a + 2) 0 (kF (V (c + 4)) u (V (a + 1))) k (c + 4) = V (c + 4) := fil_ne n2
    have hk := hq k (by omega)
    refine Ev.blk 3 (B82_2 _ _ _ _ _ _ _ (by first | assumption | omega | decide | exact cmpI_in _ _ | exact ⟨by omega, by omega⟩)) rfl ?_
    refine Ev.ite (fun q => ?_) (fun q => ?_)
    · replace q := of_decide_eq_true q
      exact absurd q (by omega)
    · replace q := of_decide_eq_false q
      refine Ev.blk 14 (B82_8 _ _ _ _ _ _ _ (by first | exact ha | exact hc | exact hu | omega | exact ⟨by omega, by omega⟩) (by first | exact ha | exact hc | exact hu | omega | exact ⟨by omega, by omega⟩) (by first | exact ha | exact hc | exact hu | omega | exact ⟨by omega, by omega⟩) (by first | exact ha | exact hc | exact hu | omega | exact ⟨by omega, by omega⟩)) rfl ?_
      refine Ev.ite (fun q => ?_) (fun q => ?_)
      · replace q := of_decide_eq_true q
        refine Ev.blk 3 (J82_36 _ _ _ _ _ _ _ _ _ _ _ _ (isT_A1 ha)) rfl ?_
        refine Ev.blk 5 (J82_41 _ _ _ _ _ _ _ _ _ _ _ _ _ (by first | exact isT_A1 ha | omega | (rw [e2, Int.toNat_natCast]; exact ⟨by omega, by omega⟩) | exact ⟨by omega, by omega⟩) (by first | exact isT_A1 ha | omega | (rw [e2, Int.toNat_natCast]; exact ⟨by omega, by omega⟩) | exact ⟨by omega, by omega⟩) (by first | exact isT_A1 ha | omega | (rw [e2, Int.toNat_natCast]; exact ⟨by omega, by omega⟩) | exact ⟨by omega, by omega⟩) (by first | exact isT_A1 ha | omega | (rw [e2, Int.toNat_natCast]; exact ⟨by omega, by omega⟩) | exact ⟨by omega, by omega⟩)) rfl ?_
        refine Ev.kill [false, false, false, false, true] ?_
        dsimp only [mkl]
        exact Ev.mem (fil_st (by omega) (by rw [e1, e2]; first | exact kF_0 q | exact kF_1 q)) ih
      · replace q := of_decide_eq_false q
        refine Ev.blk 2 (J82_31 _ _ _ _ _ _ _ _ _ _ _ _ (isT_A1 ha)) rfl ?_
        refine Ev.blk 5 (J82_41 _ _ _ _ _ _ _ _ _ _ _ _ _ (by first | exact isT_A1 ha | omega | (rw [e2, Int.toNat_natCast]; exact ⟨by omega, by omega⟩) | exact ⟨by omega, by omega⟩) (by first | exact isT_A1 ha | omega | (rw [e2, Int.toNat_natCast]; exact ⟨by omega, by omega⟩) | exact ⟨by omega, by omega⟩) (by first | exact isT_A1 ha | omega | (rw [e2, Int.toNat_natCast]; exact ⟨by omega, by omega⟩) | exact ⟨by omega, by omega⟩) (by first | exact isT_A1 ha | omega | (rw [e2, Int.toNat_natCast]; exact ⟨by omega, by omega⟩) | exact ⟨by omega, by omega⟩)) rfl ?_
        refine Ev.kill [false, false, false, false, true] ?_
        dsimp only [mkl]
        exact Ev.mem (fil_st (by omega) (by rw [e1, e2]; first | exact kF_0 q | exact kF_1 q)) ih

theorem x_takeKnock {L d : Nat} {V : Mv} {b : Bool} {a c : Nat} {u : Int} (ha : isT a) (hc : isK c) (hu : in32 u) (hq : ∀ j, j < 8 → 0 ≤ V (c + 4) j ∧ V (c + 4) j ≤ 9) (hw : ∀ j, j < 8 → 0 ≤ V (a + 1) j ∧ V (a + 1) j ≤ 1000000000000000) : Ex L (d + 2) 82 [.inr (.inr a), .inr (.inr c), .inl u] V b (fun v V' b' => v = some (.inl (sA (kF (V (c + 4)) u (V (a + 1))))) ∧ b' = b ∧ (∀ x, x ≠ a + 1 → x ≠ a + 2 → V' x = V x) ∧ (sA (kF (V (c + 4)) u (V (a + 1))) = 1 → ∀ j, j < 8 → V' (a + 1) j = nrm (kF (V (c + 4)) u (V (a + 1))) j) ∧ (¬ sA (kF (V (c + 4)) u (V (a + 1))) = 1 → V' (a + 1) = V (a + 1))) := by
  refine Ev.blk 2 (B82_0 _ _ _ _ _ _) rfl ?_
  refine Ev.mem (fil_0 V (a + 2) 0 (kF (V (c + 4)) u (V (a + 1)))).symm (tk_lp ha hc hu hq ?_ 8 0 rfl)
  obtain ⟨W, hW⟩ : ∃ W, W = fil V (a + 2) 0 (kF (V (c + 4)) u (V (a + 1))) 8 := ⟨_, rfl⟩
  rw [← hW]
  have f1 : ∀ j, j < 8 → W (a + 2) j = kF (V (c + 4)) u (V (a + 1)) j := by
    intro j hj
    rw [hW, fil_z hj]
  have f2 : ∀ x, x ≠ a + 2 → W x = V x := by
    intro x hx
    rw [hW, fil_ne hx]
  have f3 : sA (W (a + 2)) = sA (kF (V (c + 4)) u (V (a + 1))) := sA_congr f1
  refine Ev.blk 1 (B82_50 _ _ _ _ _ _ _) rfl ?_
  refine Ev.call rfl rfl (vg rfl rfl (isT_0 ha) (congrArg Prod.fst (isT_T ha)) rfl) (x_takeNext (d := d) ha (fun j hj => ?_)) (by omega) ?_
  · rw [f1 j hj]
    have := hq j hj
    exact kF_bd (hw j hj) (by omega)
  rintro v V' b' ⟨rfl, rfl, rfl⟩
  refine Ev.ret rfl rfl rfl rfl ⟨by rw [f3], rfl, fun x h1 h2 => ?_, fun h j hj => ?_, fun h => ?_⟩
  · split
    · rw [fil_ne h1, f2 x h2]
    · exact f2 x h2
  · rw [f3, if_pos h, fil_z hj]
    exact nrm_congr f1 j hj
  · rw [f3, if_neg h, f2 _ (by omega)]
