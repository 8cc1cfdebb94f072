/-! the 38 calls, 7 (by program, specs8.py) -/
/-- where the first heaviest of f 0 .. f k lies -/
def am (f : Nat → Int) : Nat → Nat
  | 0 => 0
  | k + 1 => if f (am f k) < f (k + 1) then k + 1 else am f k
theorem am_le (f : Nat → Int) : ∀ k, am f k ≤ k
  | 0 => Nat.le_refl 0
  | k + 1 => by
    have := am_le f k
    show (if f (am f k) < f (k + 1) then k + 1 else am f k) ≤ k + 1
    split <;> omega
theorem am_t {f : Nat → Int} {k : Nat} (h : f (am f k) < f (k + 1)) : am f (k + 1) = k + 1 := if_pos h
theorem am_f {f : Nat → Int} {k : Nat} (h : ¬ f (am f k) < f (k + 1)) : am f (k + 1) = am f k := if_neg h
theorem am_more {f : Nat → Int} {w : Nat} (h0 : ∀ a, a < 8 → 0 ≤ f a) (hz : ∀ a, a < 8 → w < a → f a = 0) : ∀ n, w + n < 8 → am f (w + n) = am f w
  | 0, _ => rfl
  | n + 1, h => by
    have ih := am_more h0 hz n (by omega)
    have h1 := am_le f (w + n)
    have h2 := h0 (am f (w + n)) (by omega)
    have h3 := hz (w + n + 1) (by omega) (by omega)
    rw [← ih]
    exact am_f (k := w + n) (show ¬ f (am f (w + n)) < f (w + n + 1) by omega)
theorem heav_lp {L d : Nat} {V : Mv} {b : Bool} {a : Nat} {Q : Option AV → Mv → Bool → Prop} (ha : isT a) (hf : ∀ j, j < 8 → in64 (V (a + 1) j)) (hQ : Q (some (.inl ((am (V (a + 1)) 7 : Nat) : Int))) V b) : ∀ n k : Nat, k + n = 7 → Ev L d 85 4 [some (.inr (.inr a)), some (.inl ((am (V (a + 1)) k : Nat) : Int)), some (.inl ((k + 1 : Nat) : Int))] [] V b Q
  | 0, k, h => by
    obtain rfl : k = 7 := by omega
    refine Ev.blk 3 (B85_4 _ _ _ _ _ _ (by decide)) rfl ?_
    refine Ev.ite (fun _ => ?_) (fun h => absurd h (by decide))
    refine Ev.blk 1 (B85_38 _ _ _ _ _ _) rfl ?_
    exact Ev.ret rfl rfl rfl rfl hQ
  | n + 1, k, h => by
    have ih := heav_lp (L := L) (d := d) ha hf hQ n (k + 1) (by omega)
    have hl := am_le (V (a + 1)) k
    refine Ev.blk 3 (B85_4 _ _ _ _ _ _ ⟨by omega, by omega⟩) rfl ?_
    refine Ev.ite (fun q => ?_) (fun _ => ?_)
    · have := of_decide_eq_true q
      omega
    · refine Ev.blk 10 (B85_10 _ _ _ _ _ _ ha ⟨by omega, by omega⟩ ⟨by omega, by omega⟩ (hf (k + 1) (by omega)) (hf (am (V (a + 1)) k) (by omega)) (cmpI_in _ _)) rfl ?_
      refine Ev.ite (fun q => ?_) (fun q => ?_)
      · replace q : V (a + 1) (k + 1) ≤ V (a + 1) (am (V (a + 1)) k) := (cmpI_le _ _).mp (of_decide_eq_true q)
        rw [am_f (by omega)] at ih
        refine Ev.blk 1 (B85_30 _ _ _ _ _ _) rfl ?_
        refine Ev.blk 3 (B85_31 _ _ _ _ _ _ _) rfl ?_
        exact ih
      · have q : ¬ V (a + 1) (k + 1) ≤ V (a + 1) (am (V (a + 1)) k) := fun z => of_decide_eq_false q ((cmpI_le _ _).mpr z)
        rw [am_t (by omega)] at ih
        refine Ev.blk 2 (B85_26 _ _ _ _ _ _) rfl ?_
        refine Ev.blk 3 (B85_31 _ _ _ _ _ _ _) rfl ?_
        exact ih
theorem x_heav {L d : Nat} {V : Mv} {b : Bool} {a : Nat} (ha : isT a) (hf : ∀ j, j < 8 → in64 (V (a + 1) j)) : Ex L d 85 [.inr (.inr a)] V b (Ans (some (.inl ((am (V (a + 1)) 7 : Nat) : Int))) V b) := by
  refine Ev.blk 4 (B85_0 _ _ _ _) rfl ?_
  exact heav_lp ha hf ⟨rfl, rfl, rfl⟩ 7 0 rfl
theorem likR_lp {L d : Nat} {V : Mv} {b : Bool} {m w : Nat} {Q : Option AV → Mv → Bool → Prop} (hm : m < 3) (hw : V 121 m = ((w + 1 : Nat) : Int)) (hw8 : w < 8) (hf : ∀ j, j < 8 → in64 (V 130 (8 * m + j))) (hQ : Q (some (.inl ((am (fun j => V 130 (8 * m + j)) w : Nat) : Int))) V b) : ∀ n k : Nat, k + n = w → Ev L d 170 13 [some (.inr (.inr 120)), some (.inl (m : Int)), some (.inl ((am (fun j => V 130 (8 * m + j)) k : Nat) : Int)), some (.inl ((k + 1 : Nat) : Int))] [] V b Q
  | 0, k, h => by
    obtain rfl : k = w := by omega
    refine Ev.blk 6 (B170_13 _ _ _ _ _ _ ⟨by omega, by omega⟩ ⟨by omega, by omega⟩ (show in32 (V 121 m) from ⟨by omega, by omega⟩)) rfl ?_
    refine Ev.ite (fun _ => ?_) (fun h => absurd (show V 121 m ≤ ((k + 1 : Nat) : Int) by omega) (of_decide_eq_false h))
    refine Ev.blk 1 (B170_61 _ _ _ _ _ _) rfl ?_
    exact Ev.ret rfl rfl rfl rfl hQ
  | n + 1, k, h => by
    have ih := likR_lp (L := L) (d := d) hm hw hw8 hf hQ n (k + 1) (by omega)
    have hl := am_le (fun j => V 130 (8 * m + j)) k
    have e1 : (8 * (m : Int) + ((k + 1 : Nat) : Int)).toNat = 8 * m + (k + 1) := by omega
    have e2 : (8 * (m : Int) + ((am (fun j => V 130 (8 * m + j)) k : Nat) : Int)).toNat = 8 * m + am (fun j => V 130 (8 * m + j)) k := by omega
    refine Ev.blk 6 (B170_13 _ _ _ _ _ _ ⟨by omega, by omega⟩ ⟨by omega, by omega⟩ (show in32 (V 121 m) from ⟨by omega, by omega⟩)) rfl ?_
    refine Ev.ite (fun q => ?_) (fun _ => ?_)
    · have q : V 121 m ≤ ((k + 1 : Nat) : Int) := of_decide_eq_true q
      omega
    · refine Ev.blk 18 (B170_23 _ _ _ _ _ _ ⟨by omega, by omega⟩ ⟨by omega, by omega⟩ (by rw [e1]; exact hf (k + 1) (by omega)) (by rw [e2]; exact hf _ (by omega)) (cmpI_in _ _)) rfl ?_
      refine Ev.ite (fun q => ?_) (fun q => ?_)
      · replace q := (cmpI_le _ _).mp (of_decide_eq_true q)
        rw [e1, e2] at q
        rw [am_f (f := fun j => V 130 (8 * m + j)) (k := k) (by omega)] at ih
        refine Ev.blk 1 (B170_53 _ _ _ _ _ _) rfl ?_
        refine Ev.blk 3 (B170_54 _ _ _ _ _ _ _) rfl ?_
        exact ih
      · have q : ¬ V 130 (8 * (m : Int) + ((k + 1 : Nat) : Int)).toNat ≤ V 130 (8 * (m : Int) + ((am (fun j => V 130 (8 * m + j)) k : Nat) : Int)).toNat := fun z => of_decide_eq_false q ((cmpI_le _ _).mpr z)
        rw [e1, e2] at q
        rw [am_t (f := fun j => V 130 (8 * m + j)) (k := k) (by omega)] at ih
        refine Ev.blk 2 (B170_49 _ _ _ _ _ _) rfl ?_
        refine Ev.blk 3 (B170_54 _ _ _ _ _ _ _) rfl ?_
        exact ih
def cLikely (V : Mv) (m : Int) : Int := if 0 ≤ m ∧ m < 3 then ((am (V (21 + 15 * m.toNat + 1)) 7 : Nat) : Int) else -1
def rLikely (V : Mv) (m : Int) : Int := if 0 ≤ m ∧ m ≤ 2 then ((am (fun j => V 130 (8 * m.toNat + j)) (V 121 m.toNat - 1).toNat : Nat) : Int) else -1
theorem likR' {L d : Nat} {V : Mv} {b : Bool} {m : Int} (hB : BdR V) (hf : ∀ m : Int, 0 ≤ m ∧ m < 3 → ∀ j, j < 8 → in64 (V 130 (8 * m.toNat + j))) (hm : 0 ≤ m ∧ m ≤ 2) : Ev L d 170 13 [some (.inr (.inr 120)), some (.inl m), some (.inl 0), some (.inl 1)] [] V b (Ans (some (.inl (rLikely V m))) V b) := by
  have hw := hB.w8 (i := m) (by omega)
  have h := likR_lp (L := L) (d := d) (V := V) (b := b) (m := m.toNat) (w := (V 121 m.toNat - 1).toNat) (Q := Ans (some (.inl (rLikely V m))) V b) (by omega) (by omega) (by omega) (hf m (by omega)) ⟨by unfold rLikely; rw [if_pos hm], rfl, rfl⟩ _ 0 (Nat.zero_add _)
  rw [show ((m.toNat : Nat) : Int) = m by omega] at h
  exact h
theorem x_likC {L d : Nat} {V : Mv} {b : Bool} {m : Int} (hf : ∀ m : Int, 0 ≤ m ∧ m < 3 → ∀ j, j < 8 → in64 (V (21 + 15 * m.toNat + 1) j)) (hm : in32 m) : Ex L (d + 1) 21 [.inr (.inr 1), .inl m] V b (Ans (some (.inl (cLikely V m))) V b) := by
  refine Ev.blk 1 (B21_0 _ _ _ _) rfl ?_
  refine Ev.call rfl rfl (rfl) (x_isMachineC (d := d) hm) (by omega) ?_
  rintro v V' b' ⟨rfl, rfl, rfl⟩
  refine Ev.blk 1 (B21_4 _ _ _ _ _ (by first | assumption | omega | exact b01_in _ | exact ⟨by omega, by omega⟩)) rfl ?_
  refine Ev.ite (fun q => ?_) (fun q => ?_)
  · replace q := nd_t q
    replace q := b01_1 q
    refine Ev.blk 4 (B21_9 _ _ _ _ (by first | assumption | omega | exact b01_in _ | exact ⟨by omega, by omega⟩)) rfl ?_
    refine Ev.call rfl rfl (vg rfl rfl (isT_0 (k_12 (by assumption))) (congrArg Prod.fst (isT_T (k_12 (by assumption)))) rfl) (x_heav (d := d) (k_12 (by assumption)) (hf _ (by assumption))) (by omega) ?_
    rintro v V' b' ⟨rfl, rfl, rfl⟩
    refine Ev.ret rfl rfl rfl (by first | rfl | exact decide_eq_true (b01_or _)) ?_
    refine ⟨?_, rfl, rfl⟩
    congr 2
    unfold cLikely
    repeat (first | rw [if_pos (by omega)] | rw [if_neg (by omega)])
  · replace q := nd_f q
    replace q := b01_0 q
    refine Ev.blk 1 (B21_7 _ _ _ _) rfl ?_
    refine Ev.ret rfl rfl rfl (by first | rfl | exact decide_eq_true (b01_or _)) ?_
    refine ⟨?_, rfl, rfl⟩
    congr 2
    unfold cLikely
    repeat (first | rw [if_pos (by omega)] | rw [if_neg (by omega)])

theorem x_likR {L d : Nat} {V : Mv} {b : Bool} {m : Int} (hB : BdR V) (hf : ∀ m : Int, 0 ≤ m ∧ m < 3 → ∀ j, j < 8 → in64 (V 130 (8 * m.toNat + j))) (hm : in32 m) : Ex L (d + 2) 170 [.inr (.inr 120), .inl m] V b (Ans (some (.inl (rLikely V m))) V b) := by
  refine Ev.blk 1 (B170_0 _ _ _ _) rfl ?_
  refine Ev.call rfl rfl (rfl) (x_isMachineR (d := d) hm) (by omega) ?_
  rintro v V' b' ⟨rfl, rfl, rfl⟩
  refine Ev.blk 1 (B170_4 _ _ _ _ _ (by first | assumption | omega | exact b01_in _ | exact ⟨by omega, by omega⟩)) rfl ?_
  refine Ev.ite (fun q => ?_) (fun q => ?_)
  · replace q := nd_t q
    replace q := b01_1 q
    refine Ev.blk 4 (B170_9 _ _ _ _) rfl ?_
    exact likR' hB hf (by assumption)
  · replace q := nd_f q
    replace q := b01_0 q
    refine Ev.blk 1 (B170_7 _ _ _ _) rfl ?_
    refine Ev.ret rfl rfl rfl (by first | rfl | exact decide_eq_true (b01_or _)) ?_
    refine ⟨?_, rfl, rfl⟩
    congr 2
    unfold rLikely
    repeat (first | rw [if_pos (by omega)] | rw [if_neg (by omega)])

theorem op_likely (a0 : Int) (h0 : in32 a0) : OpI 21 170 [.inl a0] := by
  refine opI_ro (fun L N V b hI => ?_)
  have f2 : ∀ m : Int, 0 ≤ m ∧ m < 3 → ∀ j, j < 8 → in64 (V 130 (8 * m.toNat + j)) := by
    intro m hm j hj
    have : 0 ≤ V 130 (8 * m.toNat + j) ∧ V 130 (8 * m.toNat + j) ≤ 1000000000000000 := (hI.1.tv m.toNat (by omega)).b j hj
    exact ⟨by omega, by omega⟩
  have f1 : ∀ m : Int, 0 ≤ m ∧ m < 3 → ∀ j, j < 8 → in64 (V (21 + 15 * m.toNat + 1) j) := by
    intro m hm j hj
    rw [show 21 + 15 * m.toNat + 1 = 22 + 15 * m.toNat by omega, hI.1.th m.toNat j (by omega) hj]
    exact f2 m hm j hj
  have e : in32 (rLikely V a0) ∧ rLikely V a0 = cLikely V a0 := by
    unfold rLikely cLikely
    by_cases q : 0 ≤ a0 ∧ a0 < 3
    · have c1 : 0 ≤ a0 ∧ a0 ≤ 2 := by omega
      rw [if_pos c1, if_pos q]
      have hw := hI.1.bdR.w8 q
      have hv := hI.1.tv a0.toNat (by omega)
      obtain ⟨w, hw2⟩ : ∃ w : Nat, (V 121 a0.toNat - 1).toNat = w := ⟨_, rfl⟩
      rw [hw2]
      have hl := am_le (fun j => V 130 (8 * a0.toNat + j)) w
      have c2 : am (V (21 + 15 * a0.toNat + 1)) 7 = am (fun j => V 130 (8 * a0.toNat + j)) 7 := by
        have g : ∀ k, k < 8 → am (V (21 + 15 * a0.toNat + 1)) k = am (fun j => V 130 (8 * a0.toNat + j)) k := by
          intro k
          induction k with
          | zero => intro _; rfl
          | succ k ih =>
            intro hk
            have i1 := ih (by omega)
            have i2 := am_le (fun j => V 130 (8 * a0.toNat + j)) k
            have i3 := hI.1.th a0.toNat (k + 1) (by omega) hk
            have i4 := hI.1.th a0.toNat (am (fun j => V 130 (8 * a0.toNat + j)) k) (by omega) (by omega)
            rw [show 22 + 15 * a0.toNat = 21 + 15 * a0.toNat + 1 by omega] at i3 i4
            show (if V (21 + 15 * a0.toNat + 1) (am (V (21 + 15 * a0.toNat + 1)) k) < V (21 + 15 * a0.toNat + 1) (k + 1) then k + 1 else am (V (21 + 15 * a0.toNat + 1)) k) = (if V 130 (8 * a0.toNat + am (fun j => V 130 (8 * a0.toNat + j)) k) < V 130 (8 * a0.toNat + (k + 1)) then k + 1 else am (fun j => V 130 (8 * a0.toNat + j)) k)
            rw [i1, i3, i4]
        exact g 7 (by omega)
      have c3 := am_more (f := fun j => V 130 (8 * a0.toNat + j)) (w := w) (fun a ha => (hv.b a ha).1) (fun a ha h => hv.z a ha (by omega)) (7 - w) (by omega)
      rw [show w + (7 - w) = 7 by omega] at c3
      rw [c2, c3]
      exact ⟨⟨by omega, by omega⟩, rfl⟩
    · rw [if_neg (by omega), if_neg (by omega)]
      exact ⟨by decide, rfl⟩
  exact ⟨_, e.1, e.2 ▸ x_likC (d := 28) f1 h0, x_likR (d := 27) hI.1.bdR f2 h0⟩
