/-! M11: the loop (by program, gen7.py) -/
/-- the 38 calls: what is left to be shown -/
def OPS : Prop := (∀ a0 a1 : Int, in32 a0 → in64 a1 → OpI 2 131 [.inl a0, .inr (.inl a1)]) ∧ (OpI 3 133 []) ∧ (OpI 4 134 []) ∧ (∀ a0 : Int, in32 a0 → OpI 5 144 [.inl a0]) ∧ (∀ a0 a1 : Int, in32 a0 → in32 a1 → OpI 7 146 [.inl a0, .inl a1]) ∧ (∀ a0 a1 a2 : Int, in32 a0 → in32 a1 → in32 a2 → OpI 8 148 [.inl a0, .inl a1, .inl a2]) ∧ (∀ a0 a1 a2 : Int, in32 a0 → in32 a1 → in32 a2 → OpI 10 150 [.inl a0, .inl a1, .inl a2]) ∧ (∀ a0 a1 a2 : Int, in32 a0 → in32 a1 → in32 a2 → OpI 11 152 [.inl a0, .inl a1, .inl a2]) ∧ (∀ a0 : Int, in32 a0 → OpI 13 154 [.inl a0]) ∧ (∀ a0 a1 : Int, in32 a0 → (a1 = 0 ∨ a1 = 1) → OpI 15 160 [.inl a0, .inl a1]) ∧ (∀ a0 a1 : Int, in32 a0 → in32 a1 → OpI 16 162 [.inl a0, .inl a1]) ∧ (∀ a0 a1 : Int, in32 a0 → in32 a1 → OpI 17 164 [.inl a0, .inl a1]) ∧ (∀ a0 a1 : Int, in32 a0 → in32 a1 → OpJ 18 165 [.inl a0, .inl a1]) ∧ (∀ a0 a1 a2 : Int, in32 a0 → in32 a1 → (a2 = 0 ∨ a2 = 1) → OpJ 19 166 [.inl a0, .inl a1, .inl a2]) ∧ (∀ a0 a1 : Int, in32 a0 → (a1 = 0 ∨ a1 = 1) → OpJ 20 169 [.inl a0, .inl a1]) ∧ (∀ a0 : Int, in32 a0 → OpI 21 170 [.inl a0]) ∧ (∀ a0 a1 a2 : Int, in32 a0 → in32 a1 → (a2 = 0 ∨ a2 = 1) → OpJ 22 171 [.inl a0, .inl a1, .inl a2]) ∧ (∀ a0 a1 a2 : Int, in32 a0 → in32 a1 → in32 a2 → OpI 23 172 [.inl a0, .inl a1, .inl a2]) ∧ (∀ a0 a1 a2 : Int, in32 a0 → in32 a1 → (a2 = 0 ∨ a2 = 1) → OpJ 25 174 [.inl a0, .inl a1, .inl a2]) ∧ (∀ a0 a1 a2 : Int, in32 a0 → in32 a1 → in32 a2 → OpI 26 182 [.inl a0, .inl a1, .inl a2]) ∧ (∀ a0 : Int, in32 a0 → OpI 27 183 [.inl a0]) ∧ (∀ a0 a1 : Int, in32 a0 → (a1 = 0 ∨ a1 = 1) → OpJ 29 190 [.inl a0, .inl a1]) ∧ (∀ a0 a1 a2 : Int, in32 a0 → in32 a1 → in32 a2 → OpI 30 191 [.inl a0, .inl a1, .inl a2]) ∧ (∀ a0 a1 a2 a3 : Int, in32 a0 → in32 a1 → in32 a2 → (a3 = 0 ∨ a3 = 1) → OpJ 31 192 [.inl a0, .inl a1, .inl a2, .inl a3]) ∧ (∀ a0 : Int, in32 a0 → OpI 33 194 [.inl a0]) ∧ (∀ a0 a1 a2 a3 a4 a5 : Int, in32 a0 → in32 a1 → in32 a2 → in32 a3 → in32 a4 → (a5 = 0 ∨ a5 = 1) → OpJ 34 195 [.inl a0, .inl a1, .inl a2, .inl a3, .inl a4, .inl a5]) ∧ (∀ a0 a1 a2 a3 a4 : Int, in32 a0 → in32 a1 → in32 a2 → in32 a3 → in32 a4 → OpI 36 200 [.inl a0, .inl a1, .inl a2, .inl a3, .inl a4]) ∧ (∀ a0 a1 a2 : Int, in32 a0 → in32 a1 → (a2 = 0 ∨ a2 = 1) → OpJ 37 201 [.inl a0, .inl a1, .inl a2]) ∧ (∀ a0 a1 : Int, in32 a0 → in32 a1 → OpI 39 218 [.inl a0, .inl a1]) ∧ (∀ a0 a1 a2 a3 a4 a5 : Int, in32 a0 → in32 a1 → in32 a2 → in32 a3 → in32 a4 → (a5 = 0 ∨ a5 = 1) → OpJ 40 219 [.inl a0, .inl a1, .inl a2, .inl a3, .inl a4, .inl a5]) ∧ (∀ a0 a1 a2 a3 a4 : Int, in32 a0 → in32 a1 → in32 a2 → in32 a3 → in32 a4 → OpI 42 221 [.inl a0, .inl a1, .inl a2, .inl a3, .inl a4]) ∧ (∀ a0 : Int, in32 a0 → OpI 43 222 [.inl a0]) ∧ (OpI 44 223 []) ∧ (∀ a0 : Int, in32 a0 → OpI 45 224 [.inl a0]) ∧ (∀ a0 a1 a2 : Int, in32 a0 → in32 a1 → in32 a2 → OpI 46 226 [.inl a0, .inl a1, .inl a2]) ∧ (∀ a0 : Int, in32 a0 → OpI 47 227 [.inl a0]) ∧ (∀ a0 : Int, in32 a0 → OpI 49 228 [.inl a0]) ∧ (∀ a0 : Int, in32 a0 → OpI 50 229 [.inl a0])
theorem law_lp (H : OPS) {L : Nat} (hL : L ≤ 3584) {Q : Option AV → Mv → Bool → Prop} (hQ : ∀ V b, Q (some (.inl 1)) V b) : ∀ n N : Nat, N + n = 513 → ∀ (V : Mv) (b : Bool), Iv N V → Ev L 30 0 18 [some (.inr (.inr 0)), some (.inr (.inr 1)), some (.inr (.inr 120)), some (.inl (7 * (N : Int)))] [] V b Q := by
  unfold OPS at H
  obtain ⟨o0, o1, o2, o3, o4, o5, o6, o7, o8, o9, o10, o11, o12, o13, o14, o15, o16, o17, o18, o19, o20, o21, o22, o23, o24, o25, o26, o27, o28, o29, o30, o31, o32, o33, o34, o35, o36, o37⟩ := H
  intro n
  induction n with
  | zero =>
    intro N hN V b hI
    refine Ev.blk 6 (B0_18 _ _ _ _ ⟨by omega, by omega⟩ hL) rfl ?_
    refine Ev.ite (fun q => ?_) (fun q => absurd (of_decide_eq_false q) (by omega))
    refine Ev.blk 1 (B0_1774 _ _ _ _) rfl ?_
    exact Ev.ret rfl rfl rfl rfl (hQ _ _)
  | succ n ih =>
    intro N hN V b hI
    have kk : ∀ V2 b2, Iv (N + 1) V2 → Ev L 30 0 18 [some (.inr (.inr 0)), some (.inr (.inr 1)), some (.inr (.inr 120)), some (.inl (7 * ((N + 1 : Nat) : Int)))] [] V2 b2 Q := fun V2 b2 h => ih (N + 1) (by omega) V2 b2 h
    refine Ev.blk 6 (B0_18 _ _ _ _ ⟨by omega, by omega⟩ hL) rfl ?_
    refine Ev.ite (fun q => ?_) (fun q => ?_)
    · refine Ev.blk 1 (B0_1774 _ _ _ _) rfl ?_
      exact Ev.ret rfl rfl rfl rfl (hQ _ _)
    replace q := of_decide_eq_false q
    have h7 : 7 * (N : Int) + 7 ≤ (L : Int) := by omega
    have hN2 : N < 512 := by omega
    by_cases hx : oAnd (V 0 (7 * (N : Int)).toNat) 63 < 0 ∨ 37 < oAnd (V 0 (7 * (N : Int)).toNat) 63
    · refine Ev.blk 6 (B0_27 _ _ _ _ 1768 ⟨by omega, by omega⟩ (oAnd_in _ _) ((tsw_out hx).trans rfl)) rfl ?_
      exact tail0 kk ⟨hI.1.more (by omega), hI.2⟩
    obtain ⟨k, hk⟩ : ∃ k : Nat, oAnd (V 0 (7 * (N : Int)).toNat) 63 = (k : Int) := ⟨(oAnd (V 0 (7 * (N : Int)).toNat) 63).toNat, by omega⟩
    rw [hk] at hx
    rcases k with _ | k
    · refine Ev.blk 6 (B0_27 _ _ _ _ 200 ⟨by omega, by omega⟩ (oAnd_in _ _) (by rw [hk]; rfl)) rfl ?_
      exact cs_0 o0 hL hN2 h7 hI kk
    rcases k with _ | k
    · refine Ev.blk 6 (B0_27 _ _ _ _ 263 ⟨by omega, by omega⟩ (oAnd_in _ _) (by rw [hk]; rfl)) rfl ?_
      exact cs_1 o1 hL hN2 h7 hI kk
    rcases k with _ | k
    · refine Ev.blk 6 (B0_27 _ _ _ _ 276 ⟨by omega, by omega⟩ (oAnd_in _ _) (by rw [hk]; rfl)) rfl ?_
      exact cs_2 o2 hL hN2 h7 hI kk
    rcases k with _ | k
    · refine Ev.blk 6 (B0_27 _ _ _ _ 289 ⟨by omega, by omega⟩ (oAnd_in _ _) (by rw [hk]; rfl)) rfl ?_
      exact cs_3 o3 hL hN2 h7 hI kk
    rcases k with _ | k
    · refine Ev.blk 6 (B0_27 _ _ _ _ 312 ⟨by omega, by omega⟩ (oAnd_in _ _) (by rw [hk]; rfl)) rfl ?_
      exact cs_4 o4 hL hN2 h7 hI kk
    rcases k with _ | k
    · refine Ev.blk 6 (B0_27 _ _ _ _ 345 ⟨by omega, by omega⟩ (oAnd_in _ _) (by rw [hk]; rfl)) rfl ?_
      exact cs_5 o5 hL hN2 h7 hI kk
    rcases k with _ | k
    · refine Ev.blk 6 (B0_27 _ _ _ _ 388 ⟨by omega, by omega⟩ (oAnd_in _ _) (by rw [hk]; rfl)) rfl ?_
      exact cs_6 o6 hL hN2 h7 hI kk
    rcases k with _ | k
    · refine Ev.blk 6 (B0_27 _ _ _ _ 431 ⟨by omega, by omega⟩ (oAnd_in _ _) (by rw [hk]; rfl)) rfl ?_
      exact cs_7 o7 hL hN2 h7 hI kk
    rcases k with _ | k
    · refine Ev.blk 6 (B0_27 _ _ _ _ 474 ⟨by omega, by omega⟩ (oAnd_in _ _) (by rw [hk]; rfl)) rfl ?_
      exact cs_8 o8 hL hN2 h7 hI kk
    rcases k with _ | k
    · refine Ev.blk 6 (B0_27 _ _ _ _ 497 ⟨by omega, by omega⟩ (oAnd_in _ _) (by rw [hk]; rfl)) rfl ?_
      by_cases hb : V 0 (7 * (N : Int) + 2).toNat = 0
      · exact cs_9t o9 hL hN2 h7 hI hb kk
      · exact cs_9f o9 hL hN2 h7 hI hb kk
    rcases k with _ | k
    · refine Ev.blk 6 (B0_27 _ _ _ _ 546 ⟨by omega, by omega⟩ (oAnd_in _ _) (by rw [hk]; rfl)) rfl ?_
      exact cs_10 o10 hL hN2 h7 hI kk
    rcases k with _ | k
    · refine Ev.blk 6 (B0_27 _ _ _ _ 579 ⟨by omega, by omega⟩ (oAnd_in _ _) (by rw [hk]; rfl)) rfl ?_
      exact cs_11 o11 hL hN2 h7 hI kk
    rcases k with _ | k
    · refine Ev.blk 6 (B0_27 _ _ _ _ 612 ⟨by omega, by omega⟩ (oAnd_in _ _) (by rw [hk]; rfl)) rfl ?_
      exact cs_12 o12 hL hN2 h7 hI kk
    rcases k with _ | k
    · refine Ev.blk 6 (B0_27 _ _ _ _ 646 ⟨by omega, by omega⟩ (oAnd_in _ _) (by rw [hk]; rfl)) rfl ?_
      by_cases hb : V 0 (7 * (N : Int) + 3).toNat = 0
      · exact cs_13t o13 hL hN2 h7 hI hb kk
      · exact cs_13f o13 hL hN2 h7 hI hb kk
    rcases k with _ | k
    · refine Ev.blk 6 (B0_27 _ _ _ _ 706 ⟨by omega, by omega⟩ (oAnd_in _ _) (by rw [hk]; rfl)) rfl ?_
      by_cases hb : V 0 (7 * (N : Int) + 2).toNat = 0
      · exact cs_14t o14 hL hN2 h7 hI hb kk
      · exact cs_14f o14 hL hN2 h7 hI hb kk
    rcases k with _ | k
    · refine Ev.blk 6 (B0_27 _ _ _ _ 756 ⟨by omega, by omega⟩ (oAnd_in _ _) (by rw [hk]; rfl)) rfl ?_
      exact cs_15 o15 hL hN2 h7 hI kk
    rcases k with _ | k
    · refine Ev.blk 6 (B0_27 _ _ _ _ 779 ⟨by omega, by omega⟩ (oAnd_in _ _) (by rw [hk]; rfl)) rfl ?_
      by_cases hb : V 0 (7 * (N : Int) + 3).toNat = 0
      · exact cs_16t o16 hL hN2 h7 hI hb kk
      · exact cs_16f o16 hL hN2 h7 hI hb kk
    rcases k with _ | k
    · refine Ev.blk 6 (B0_27 _ _ _ _ 839 ⟨by omega, by omega⟩ (oAnd_in _ _) (by rw [hk]; rfl)) rfl ?_
      exact cs_17 o17 hL hN2 h7 hI kk
    rcases k with _ | k
    · refine Ev.blk 6 (B0_27 _ _ _ _ 882 ⟨by omega, by omega⟩ (oAnd_in _ _) (by rw [hk]; rfl)) rfl ?_
      by_cases hb : V 0 (7 * (N : Int) + 3).toNat = 0
      · exact cs_18t o18 hL hN2 h7 hI hb kk
      · exact cs_18f o18 hL hN2 h7 hI hb kk
    rcases k with _ | k
    · refine Ev.blk 6 (B0_27 _ _ _ _ 942 ⟨by omega, by omega⟩ (oAnd_in _ _) (by rw [hk]; rfl)) rfl ?_
      exact cs_19 o19 hL hN2 h7 hI kk
    rcases k with _ | k
    · refine Ev.blk 6 (B0_27 _ _ _ _ 985 ⟨by omega, by omega⟩ (oAnd_in _ _) (by rw [hk]; rfl)) rfl ?_
      exact cs_20 o20 hL hN2 h7 hI kk
    rcases k with _ | k
    · refine Ev.blk 6 (B0_27 _ _ _ _ 1008 ⟨by omega, by omega⟩ (oAnd_in _ _) (by rw [hk]; rfl)) rfl ?_
      by_cases hb : V 0 (7 * (N : Int) + 2).toNat = 0
      · exact cs_21t o21 hL hN2 h7 hI hb kk
      · exact cs_21f o21 hL hN2 h7 hI hb kk
    rcases k with _ | k
    · refine Ev.blk 6 (B0_27 _ _ _ _ 1058 ⟨by omega, by omega⟩ (oAnd_in _ _) (by rw [hk]; rfl)) rfl ?_
      exact cs_22 o22 hL hN2 h7 hI kk
    rcases k with _ | k
    · refine Ev.blk 6 (B0_27 _ _ _ _ 1101 ⟨by omega, by omega⟩ (oAnd_in _ _) (by rw [hk]; rfl)) rfl ?_
      by_cases hb : V 0 (7 * (N : Int) + 4).toNat = 0
      · exact cs_23t o23 hL hN2 h7 hI hb kk
      · exact cs_23f o23 hL hN2 h7 hI hb kk
    rcases k with _ | k
    · refine Ev.blk 6 (B0_27 _ _ _ _ 1171 ⟨by omega, by omega⟩ (oAnd_in _ _) (by rw [hk]; rfl)) rfl ?_
      exact cs_24 o24 hL hN2 h7 hI kk
    rcases k with _ | k
    · refine Ev.blk 6 (B0_27 _ _ _ _ 1194 ⟨by omega, by omega⟩ (oAnd_in _ _) (by rw [hk]; rfl)) rfl ?_
      by_cases hb : V 0 (7 * (N : Int) + 6).toNat = 0
      · exact cs_25t o25 hL hN2 h7 hI hb kk
      · exact cs_25f o25 hL hN2 h7 hI hb kk
    rcases k with _ | k
    · refine Ev.blk 6 (B0_27 _ _ _ _ 1286 ⟨by omega, by omega⟩ (oAnd_in _ _) (by rw [hk]; rfl)) rfl ?_
      exact cs_26 o26 hL hN2 h7 hI kk
    rcases k with _ | k
    · refine Ev.blk 6 (B0_27 _ _ _ _ 1349 ⟨by omega, by omega⟩ (oAnd_in _ _) (by rw [hk]; rfl)) rfl ?_
      by_cases hb : V 0 (7 * (N : Int) + 3).toNat = 0
      · exact cs_27t o27 hL hN2 h7 hI hb kk
      · exact cs_27f o27 hL hN2 h7 hI hb kk
    rcases k with _ | k
    · refine Ev.blk 6 (B0_27 _ _ _ _ 1409 ⟨by omega, by omega⟩ (oAnd_in _ _) (by rw [hk]; rfl)) rfl ?_
      exact cs_28 o28 hL hN2 h7 hI kk
    rcases k with _ | k
    · refine Ev.blk 6 (B0_27 _ _ _ _ 1442 ⟨by omega, by omega⟩ (oAnd_in _ _) (by rw [hk]; rfl)) rfl ?_
      by_cases hb : V 0 (7 * (N : Int) + 6).toNat = 0
      · exact cs_29t o29 hL hN2 h7 hI hb kk
      · exact cs_29f o29 hL hN2 h7 hI hb kk
    rcases k with _ | k
    · refine Ev.blk 6 (B0_27 _ _ _ _ 1534 ⟨by omega, by omega⟩ (oAnd_in _ _) (by rw [hk]; rfl)) rfl ?_
      exact cs_30 o30 hL hN2 h7 hI kk
    rcases k with _ | k
    · refine Ev.blk 6 (B0_27 _ _ _ _ 1597 ⟨by omega, by omega⟩ (oAnd_in _ _) (by rw [hk]; rfl)) rfl ?_
      exact cs_31 o31 hL hN2 h7 hI kk
    rcases k with _ | k
    · refine Ev.blk 6 (B0_27 _ _ _ _ 1620 ⟨by omega, by omega⟩ (oAnd_in _ _) (by rw [hk]; rfl)) rfl ?_
      exact cs_32 o32 hL hN2 h7 hI kk
    rcases k with _ | k
    · refine Ev.blk 6 (B0_27 _ _ _ _ 1633 ⟨by omega, by omega⟩ (oAnd_in _ _) (by rw [hk]; rfl)) rfl ?_
      exact cs_33 o33 hL hN2 h7 hI kk
    rcases k with _ | k
    · refine Ev.blk 6 (B0_27 _ _ _ _ 1656 ⟨by omega, by omega⟩ (oAnd_in _ _) (by rw [hk]; rfl)) rfl ?_
      exact cs_34 o34 hL hN2 h7 hI kk
    rcases k with _ | k
    · refine Ev.blk 6 (B0_27 _ _ _ _ 1699 ⟨by omega, by omega⟩ (oAnd_in _ _) (by rw [hk]; rfl)) rfl ?_
      exact cs_35 o35 hL hN2 h7 hI kk
    rcases k with _ | k
    · refine Ev.blk 6 (B0_27 _ _ _ _ 1722 ⟨by omega, by omega⟩ (oAnd_in _ _) (by rw [hk]; rfl)) rfl ?_
      exact cs_36 o36 hL hN2 h7 hI kk
    rcases k with _ | k
    · refine Ev.blk 6 (B0_27 _ _ _ _ 1745 ⟨by omega, by omega⟩ (oAnd_in _ _) (by rw [hk]; rfl)) rfl ?_
      exact cs_37 o37 hL hN2 h7 hI kk
    omega

theorem iv_begin (xs : Nat → Int32) : Iv 0 (V0 xs) := ⟨inv_begin xs, fun k => ⟨Int32.le_toInt _, Int32.toInt_lt _⟩⟩
theorem lawr1 (H : OPS) : LAWR := by
  refine lawr_of (fun L xs hL => ?_)
  refine Ev.blk 2 (show nxs 2 0 16 [some (.inr (.inr 0)), some (.inr (.inr 1)), some (.inr (.inr 120)), none] [] (M0 L (V0 xs) false) = some (true, 18, [some (.inr (.inr 0)), some (.inr (.inr 1)), some (.inr (.inr 120)), some (.inl 0)], [], M0 L (V0 xs) false) from rfl) rfl ?_
  exact law_lp H hL (fun _ _ => rfl) 513 0 rfl _ _ (iv_begin xs)
