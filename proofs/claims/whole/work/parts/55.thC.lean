/-! thoughts: a day and a knock in the reference (specs14.py) -/
theorem se1_lp {L d : Nat} {V : Mv} {b : Bool} {Q : Option AV → Mv → Bool → Prop} (hf : ∀ j, j < 8 → 0 ≤ V 131 j ∧ V 131 j ≤ 100000000000000000) (hQ : Ev L (d + 1) 157 27 [some (.inr (.inr 120)), some (.inr (.inl ((gN (V 131) 8 : Nat) : Int))), none, some (.inl 8), none] [] V b Q) : ∀ n k : Nat, k + n = 8 → Ev L (d + 1) 157 4 [some (.inr (.inr 120)), some (.inr (.inl ((gN (V 131) k : Nat) : Int))), none, some (.inl (k : Int)), none] [] V b Q
  | 0, k, h => by
    obtain rfl : k = 8 := by omega
    refine Ev.blk 3 (B157_4 _ _ _ _ _ (by first | assumption | omega | decide | exact cmpI_in _ _ | exact ⟨by omega, by omega⟩)) rfl ?_
    refine Ev.ite (fun q => ?_) (fun q => ?_)
    · replace q := of_decide_eq_true q
      exact hQ
    · replace q := of_decide_eq_false q
      exact absurd q (by omega)
  | n + 1, k, h => by
    have ih := se1_lp (L := L) (d := d) hf hQ n (k + 1) (by omega)
    have h1 := tn_bd hf k (by omega)
    have h2 := hf k (by omega)
    have e1 : V 131 k = (((V 131 k).toNat : Nat) : Int) := by omega
    have hg : Ex L d 158 [.inr (.inl (V 131 k)), .inr (.inl ((gN (V 131) k : Nat) : Int))] V b (Ans (some (.inr (.inl ((gN (V 131) (k + 1) : Nat) : Int)))) V b) := by
      rw [e1, show gN (V 131) (k + 1) = Nat.gcd (V 131 k).toNat (gN (V 131) k) from Nat.gcd_comm _ _]
      exact x_gcdR (by omega) (by omega)
    refine Ev.blk 3 (B157_4 _ _ _ _ _ (by first | assumption | omega | decide | exact cmpI_in _ _ | exact ⟨by omega, by omega⟩)) rfl ?_
    refine Ev.ite (fun q => ?_) (fun q => ?_)
    · replace q := of_decide_eq_true q
      exact absurd q (by omega)
    · replace q := of_decide_eq_false q
      refine Ev.blk 5 (B157_10 _ _ _ _ _ (by first | assumption | omega | decide | exact cmpI_in _ _ | exact ⟨by omega, by omega⟩)) rfl ?_
      refine Ev.call rfl rfl (rfl) (hg) (by omega) ?_
      rintro v V' b' ⟨rfl, rfl, rfl⟩
      refine Ev.blk 3 (B157_20 _ _ _ _ _ _) rfl ?_
      exact ih

theorem se_st {f : Nat → Int} {p : Nat} {k : Nat} (h : ∀ j, j < k → f j / (p : Int) ≤ 1000000000000000) (h1 : f k / (p : Int) ≤ 1000000000000000) : ∀ j, j < k + 1 → f j / (p : Int) ≤ 1000000000000000 := by
  intro j hj
  by_cases e : j = k
  · rw [e]; exact h1
  · exact h j (by omega)
theorem se2_lp {L d : Nat} {V : Mv} {b : Bool} {Q : Option AV → Mv → Bool → Prop} {p : Nat} (hp : 0 < p ∧ p < 9223372036854775808) (hf : ∀ j, j < 8 → 0 ≤ V 131 j ∧ V 131 j ≤ 100000000000000000) (hQ : ∀ W fl, ((∀ x, x ≠ 131 → W x = V x) ∧ (∀ j, j < 8 → W 131 j = if j < 8 then V 131 j / (p : Int) else V 131 j) ∧ (fl = 0 ∨ fl = 1) ∧ (fl = 0 ↔ ∀ j, j < 8 → V 131 j / (p : Int) ≤ 1000000000000000)) → Ev L d 157 89 [some (.inr (.inr 120)), some (.inr (.inl (p : Int))), none, some (.inl fl), some (.inl (8 : Int))] [] W b Q) : ∀ (n k : Nat) (W : Mv) (fl : Int), k + n = 8 → ((∀ x, x ≠ 131 → W x = V x) ∧ (∀ j, j < 8 → W 131 j = if j < k then V 131 j / (p : Int) else V 131 j) ∧ (fl = 0 ∨ fl = 1) ∧ (fl = 0 ↔ ∀ j, j < k → V 131 j / (p : Int) ≤ 1000000000000000)) → Ev L d 157 41 [some (.inr (.inr 120)), some (.inr (.inl (p : Int))), none, some (.inl fl), some (.inl (k : Int))] [] W b Q
  | 0, k, W, fl, h, hr => by
    obtain rfl : k = 8 := by omega
    refine Ev.blk 3 (B157_41 _ _ _ _ _ _ (by decide)) rfl ?_
    refine Ev.ite (fun _ => ?_) (fun h => absurd h (by decide))
    exact hQ W fl hr
  | n + 1, k, W, fl, h, hr => by
    have ih := se2_lp (L := L) (d := d) hp hf hQ n (k + 1)
    have h2 := hf k (by omega)
    have e2 : W 131 k = V 131 k := by rw [hr.2.1 k (by omega), if_neg (by omega)]
    have e3 : Int.tdiv (W 131 k) (p : Int) = V 131 k / (p : Int) := by rw [e2, Int.tdiv_eq_ediv_of_nonneg h2.1]
    have e5 : 0 ≤ V 131 k / (p : Int) ∧ V 131 k / (p : Int) ≤ V 131 k := ⟨Int.ediv_nonneg h2.1 (by omega), Int.ediv_le_self _ h2.1⟩
    refine Ev.blk 3 (B157_41 _ _ _ _ _ _ ⟨by omega, by omega⟩) rfl ?_
    refine Ev.ite (fun q => absurd (of_decide_eq_true q) (by omega)) (fun _ => ?_)
    refine Ev.blk 10 (B157_48 _ _ _ _ _ _ ⟨by omega, by omega⟩ (by rw [Int.toNat_natCast, e2]; exact ⟨by omega, by omega⟩) ⟨by omega, by omega⟩ (by omega) (by rcases hr.2.2.1 with z | z <;> (rw [z]; decide))) rfl ?_
    rw [Int.toNat_natCast]
    refine Ev.ite (fun q => ?_) (fun q => ?_)
    · replace q := nd_t q
      refine Ev.blk 2 (B157_77 _ _ _ _ _ _) rfl ?_
      refine Ev.blk 3 (B157_82 _ _ _ _ _ _ _) rfl ?_
      refine ih _ _ (by omega) ⟨fun x hx => by rw [uV_ne hx]; exact hr.1 x hx, fun j hj => ?_, by decide, ?_⟩
      · rw [uV_at, e3]
        by_cases q1 : j = k
        · rw [if_pos q1, if_pos (by omega), q1]
        · rw [if_neg q1, hr.2.1 j hj]
          by_cases q2 : j < k
          · rw [if_pos q2, if_pos (by omega)]
          · rw [if_neg q2, if_neg (by omega)]
      · exact ⟨fun z => absurd z (by decide), fun z => absurd (hr.2.2.2.mpr (fun j hj => z j (by omega))) q⟩
    · replace q := nd_f q
      have e4 : (uV W 131 k (Int.tdiv (W 131 k) (p : Int))) 131 (k : Int).toNat = V 131 k / (p : Int) := by rw [Int.toNat_natCast, uV_at, if_pos rfl, e3]
      refine Ev.blk 7 (B157_63 _ _ _ _ _ _ ⟨by omega, by omega⟩ (by rw [e4]; exact ⟨by omega, by omega⟩) (cmpI_in _ _)) rfl ?_
      rw [e4]
      refine Ev.ite (fun q2 => ?_) (fun q2 => ?_)
      · replace q2 := (cmpI_le _ _).mp (of_decide_eq_true q2)
        refine Ev.blk 1 (B157_81 _ _ _ _ _ _) rfl ?_
        refine Ev.blk 3 (B157_82 _ _ _ _ _ _ _) rfl ?_
        refine ih _ _ (by omega) ⟨fun x hx => by rw [uV_ne hx]; exact hr.1 x hx, fun j hj => ?_, by decide, ?_⟩
        · rw [uV_at, e3]
          by_cases q1 : j = k
          · rw [if_pos q1, if_pos (by omega), q1]
          · rw [if_neg q1, hr.2.1 j hj]
            by_cases q2 : j < k
            · rw [if_pos q2, if_pos (by omega)]
            · rw [if_neg q2, if_neg (by omega)]
        · exact ⟨fun _ => se_st (hr.2.2.2.mp q) q2, fun _ => rfl⟩
      · have q2 : ¬ V 131 k / (p : Int) ≤ 1000000000000000 := fun z => of_decide_eq_false q2 ((cmpI_le _ _).mpr z)
        refine Ev.blk 2 (B157_77 _ _ _ _ _ _) rfl ?_
        refine Ev.blk 3 (B157_82 _ _ _ _ _ _ _) rfl ?_
        refine ih _ _ (by omega) ⟨fun x hx => by rw [uV_ne hx]; exact hr.1 x hx, fun j hj => ?_, by decide, ?_⟩
        · rw [uV_at, e3]
          by_cases q1 : j = k
          · rw [if_pos q1, if_pos (by omega), q1]
          · rw [if_neg q1, hr.2.1 j hj]
            by_cases q2 : j < k
            · rw [if_pos q2, if_pos (by omega)]
            · rw [if_neg q2, if_neg (by omega)]
        · exact ⟨fun z => absurd z (by decide), fun z => absurd (z k (by omega)) q2⟩
theorem x_settleR {L d : Nat} {V : Mv} {b : Bool} (hf : ∀ j, j < 8 → 0 ≤ V 131 j ∧ V 131 j ≤ 100000000000000000) : Ex L (d + 1) 157 [.inr (.inr 120)] V b (fun v V' b' => v = some (.inl (sA (V 131))) ∧ b' = b ∧ (∀ x, x ≠ 131 → V' x = V x) ∧ (sA (V 131) = 1 → ∀ j, j < 8 → V' 131 j = nrm (V 131) j)) := by
  refine Ev.blk 4 (B157_0 _ _ _) rfl ?_
  refine se1_lp hf ?_ 8 0 rfl
  have hb := tn_bd hf 8 (Nat.le_refl _)
  refine Ev.blk 4 (B157_27 _ _ _ _ _ ⟨by omega, by omega⟩ (cmpI_in _ _)) rfl ?_
  refine Ev.ite (fun q => ?_) (fun q => ?_)
  · have q := nd_t q
    rw [cmpI_eq] at q
    refine Ev.blk 4 (B157_36 _ _ _ _ _) rfl ?_
    refine se2_lp (p := gN (V 131) 8) ⟨by omega, by omega⟩ hf (fun W fl hr => ?_) 8 0 V 0 rfl ⟨fun _ _ => rfl, fun j _ => by rw [if_neg (by omega)], Or.inl rfl, fun _ j hj => absurd hj (by omega), fun _ => rfl⟩
    refine Ev.blk 2 (B157_89 _ _ _ _ _ _ (by rcases hr.2.2.1 with z | z <;> (rw [z]; decide))) rfl ?_
    refine Ev.ite (fun q2 => ?_) (fun q2 => ?_)
    · replace q2 := of_decide_eq_true q2
      have e4 := sA_1 (by omega) (hr.2.2.2.mp q2)
      refine Ev.blk 1 (B157_98 _ _ _ _ _ _) rfl ?_
      refine Ev.ret rfl rfl rfl rfl ⟨by rw [e4], rfl, hr.1, fun _ j hj => ?_⟩
      rw [hr.2.1 j hj, if_pos hj]
      rfl
    · replace q2 := of_decide_eq_false q2
      have e4 := sA_4 (f := V 131) (by omega) (fun z => q2 (hr.2.2.2.mpr z))
      refine Ev.blk 2 (B157_93 _ _ _ _ _ _) rfl ?_
      exact Ev.ret rfl rfl rfl rfl ⟨by rw [e4], rfl, hr.1, fun z => absurd (e4 ▸ z) (by decide)⟩
  · have q := nd_f q
    rw [cmpI_eq] at q
    have e4 := sA_3 (f := V 131) (by omega)
    refine Ev.blk 1 (B157_33 _ _ _ _ _) rfl ?_
    exact Ev.ret rfl rfl rfl rfl ⟨by rw [e4], rfl, fun _ _ => rfl, fun z => absurd (e4 ▸ z) (by decide)⟩
theorem tkR_lp {L d : Nat} {V : Mv} {b : Bool} {Q : Option AV → Mv → Bool → Prop} {m : Nat} {u : Int} (hm : m < 3) (hu : in32 u) (hq : ∀ j, j < 8 → 0 ≤ V 125 (8 * m + j) ∧ V 125 (8 * m + j) ≤ 9) (hQ : ∀ W, ((∀ x, x ≠ 131 → W x = V x) ∧ (∀ j, j < 8 → W 131 j = if j < 8 then kF (fun i => V 125 (8 * m + i)) u (V 131) j else V 131 j)) → Ev L d 161 57 [some (.inr (.inr 120)), some (.inl (m : Int)), some (.inl u), some (.inl (8 : Int))] [] W b Q) : ∀ (n k : Nat) (W : Mv), k + n = 8 → ((∀ x, x ≠ 131 → W x = V x) ∧ (∀ j, j < 8 → W 131 j = if j < k then kF (fun i => V 125 (8 * m + i)) u (V 131) j else V 131 j)) → Ev L (d) 161 2 [some (.inr (.inr 120)), some (.inl (m : Int)), some (.inl u), some (.inl (k : Int))] [] W b Q
  | 0, k, W, h, hr => by
    obtain rfl : k = 8 := by omega
    refine Ev.blk 3 (B161_2 _ _ _ _ _ _ (by first | assumption | omega | decide | exact cmpI_in _ _ | exact ⟨by omega, by omega⟩)) rfl ?_
    refine Ev.ite (fun q => ?_) (fun q => ?_)
    · replace q := of_decide_eq_true q
      exact hQ W hr
    · replace q := of_decide_eq_false q
      exact absurd q (by omega)
  | n + 1, k, W, h, hr => by
    have ih := tkR_lp (L := L) (d := d) hm hu hq hQ n (k + 1)
    have h2 := hq k (by omega)
    have e0 : (8 * (m : Int) + (k : Int)).toNat = 8 * m + k := by omega
    have e2 : W 131 k = V 131 k := by rw [hr.2 k (by omega), if_neg (by omega)]
    have e3 : W 125 (8 * (m : Int) + (k : Int)).toNat = V 125 (8 * m + k) := by rw [hr.1 125 (by omega), e0]
    refine Ev.blk 3 (B161_2 _ _ _ _ _ _ (by first | assumption | omega | decide | exact cmpI_in _ _ | exact ⟨by omega, by omega⟩)) rfl ?_
    refine Ev.ite (fun q => ?_) (fun q => ?_)
    · replace q := of_decide_eq_true q
      exact absurd q (by omega)
    · replace q := of_decide_eq_false q
      refine Ev.blk 7 (B161_8 _ _ _ _ _ _ (by first | assumption | omega | decide | exact cmpI_in _ _ | exact ⟨by omega, by omega⟩) (by first | assumption | omega | decide | exact cmpI_in _ _ | exact ⟨by omega, by omega⟩)) rfl ?_
      refine Ev.ite (fun q => ?_) (fun q => ?_)
      · replace q := of_decide_eq_true q
        refine Ev.blk 11 (J161_34 _ _ _ _ _ _ _ _ _ _ (by first | rfl | (rw [e3]; exact ⟨by omega, by omega⟩) | exact ⟨by omega, by omega⟩) (by first | rfl | (rw [e3]; exact ⟨by omega, by omega⟩) | exact ⟨by omega, by omega⟩) (by first | rfl | (rw [e3]; exact ⟨by omega, by omega⟩) | exact ⟨by omega, by omega⟩)) rfl ?_
        refine Ev.blk 4 (J161_49 _ _ _ _ _ _ _ _ _ _ _ (by first | rfl | omega | exact ⟨by omega, by omega⟩) (by first | rfl | omega | exact ⟨by omega, by omega⟩) (by first | rfl | omega | exact ⟨by omega, by omega⟩)) rfl ?_
        refine ih _ (by omega) ⟨fun x hx => by rw [uV_ne hx]; exact hr.1 x hx, fun j hj => ?_⟩
        rw [uV_at, Int.toNat_natCast]
        by_cases q1 : j = k
        · rw [if_pos q1, if_pos (by omega), q1]
          try rw [e3]
          rw [e2]
          first | exact kF_0 (q := fun i => V 125 (8 * m + i)) q | exact kF_1 (q := fun i => V 125 (8 * m + i)) q
        · rw [if_neg q1, hr.2 j hj]
          by_cases q2 : j < k
          · rw [if_pos q2, if_pos (by omega)]
          · rw [if_neg q2, if_neg (by omega)]
      · replace q := of_decide_eq_false q
        refine Ev.blk 10 (J161_19 _ _ _ _ _ _ _ _ _ _ (by first | rfl | (rw [e3]; exact ⟨by omega, by omega⟩) | exact ⟨by omega, by omega⟩) (by first | rfl | (rw [e3]; exact ⟨by omega, by omega⟩) | exact ⟨by omega, by omega⟩) (by first | rfl | (rw [e3]; exact ⟨by omega, by omega⟩) | exact ⟨by omega, by omega⟩)) rfl ?_
        refine Ev.blk 4 (J161_49 _ _ _ _ _ _ _ _ _ _ _ (by first | rfl | omega | exact ⟨by omega, by omega⟩) (by first | rfl | omega | exact ⟨by omega, by omega⟩) (by first | rfl | omega | exact ⟨by omega, by omega⟩)) rfl ?_
        refine ih _ (by omega) ⟨fun x hx => by rw [uV_ne hx]; exact hr.1 x hx, fun j hj => ?_⟩
        rw [uV_at, Int.toNat_natCast]
        by_cases q1 : j = k
        · rw [if_pos q1, if_pos (by omega), q1]
          try rw [e3]
          rw [e2]
          first | exact kF_0 (q := fun i => V 125 (8 * m + i)) q | exact kF_1 (q := fun i => V 125 (8 * m + i)) q
        · rw [if_neg q1, hr.2 j hj]
          by_cases q2 : j < k
          · rw [if_pos q2, if_pos (by omega)]
          · rw [if_neg q2, if_neg (by omega)]

theorem x_tryKnock {L d : Nat} {V : Mv} {b : Bool} {m : Nat} {u : Int} (hm : m < 3) (hu : in32 u) (hq : ∀ j, j < 8 → 0 ≤ V 125 (8 * m + j) ∧ V 125 (8 * m + j) ≤ 9) (hw : ∀ j, j < 8 → 0 ≤ V 131 j ∧ V 131 j ≤ 1000000000000000) : Ex L (d + 2) 161 [.inr (.inr 120), .inl (m : Int), .inl u] V b (fun v V' b' => v = some (.inl (sA (kF (fun i => V 125 (8 * m + i)) u (V 131)))) ∧ b' = b ∧ (∀ x, x ≠ 131 → V' x = V x) ∧ (sA (kF (fun i => V 125 (8 * m + i)) u (V 131)) = 1 → ∀ j, j < 8 → V' 131 j = nrm (kF (fun i => V 125 (8 * m + i)) u (V 131)) j)) := by
  refine Ev.blk 2 (B161_0 _ _ _ _ _) rfl ?_
  refine tkR_lp hm hu hq (fun W hr => ?_) 8 0 V rfl ⟨fun _ _ => rfl, fun j _ => by rw [if_neg (by omega)]⟩
  have f1 : ∀ j, j < 8 → W 131 j = kF (fun i => V 125 (8 * m + i)) u (V 131) j := by
    intro j hj
    rw [hr.2 j hj, if_pos hj]
  have f3 := sA_congr f1
  refine Ev.blk 1 (B161_57 _ _ _ _ _ _) rfl ?_
  refine Ev.call rfl rfl rfl (x_settleR (d := d) (fun j hj => ?_)) (by omega) ?_
  · rw [f1 j hj]
    have := hq j hj
    exact kF_bd (hw j hj) (show 0 ≤ V 125 (8 * m + j) ∧ V 125 (8 * m + j) ≤ 10 by omega)
  rintro v V' b' ⟨rfl, rfl, g1, g2⟩
  refine Ev.ret rfl rfl rfl rfl ⟨by rw [f3], rfl, fun x hx => by rw [g1 x hx, hr.1 x hx], fun h j hj => ?_⟩
  rw [g2 (by rw [f3]; exact h) j hj]
  exact nrm_congr f1 j hj
