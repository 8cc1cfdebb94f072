/-! the 38 calls: which (specs68.py) -/
theorem cmpI_v (a c : Int) : cmpI a c = 1 ∨ cmpI a c = 0 ∨ cmpI a c = -1 := by
  unfold cmpI
  by_cases h1 : c < a
  · rw [decide_eq_true h1]
    exact Or.inl rfl
  · rw [decide_eq_false h1]
    by_cases h2 : a = c
    · rw [decide_eq_true h2]
      exact Or.inr (Or.inl rfl)
    · rw [decide_eq_false h2]
      exact Or.inr (Or.inr rfl)
theorem x_cmpL {L d : Nat} {V : Mv} {b : Bool} {x y : Int} (hx : in64 x) (hy : in64 y) : Ex L d 230 [.inr (.inl x), .inr (.inl y)] V b (Ans (some (.inl (cmpI x y))) V b) := by
  have cv := cmpI_v x y
  refine Ev.blk 4 (B230_0 _ _ _ _ _ hx hy (cmpI_in _ _)) rfl ?_
  refine Ev.ite (fun z => ?_) (fun z => ?_)
  · replace z := of_decide_eq_true z
    refine Ev.blk 4 (B230_10 _ _ _ _ _ hx hy (cmpI_in _ _)) rfl ?_
    refine Ev.ite (fun w => ?_) (fun w => ?_)
    · replace w := nd_t w
      refine Ev.blk 1 (B230_20 _ _ _ _ _) rfl ?_
      refine Ev.ret rfl rfl rfl rfl ⟨?_, rfl, rfl⟩
      rw [show cmpI x y = 1 by omega]
    · replace w := nd_f w
      refine Ev.blk 2 (B230_16 _ _ _ _ _) rfl ?_
      refine Ev.ret rfl rfl rfl rfl ⟨?_, rfl, rfl⟩
      rw [w]
  · replace z := of_decide_eq_false z
    refine Ev.blk 2 (B230_6 _ _ _ _ _) rfl ?_
    refine Ev.ret rfl rfl rfl rfl ⟨?_, rfl, rfl⟩
    rw [show cmpI x y = -1 by omega]
theorem x_cmpW {L d : Nat} {V : Mv} {b : Bool} {a : Nat} {x y : Int} (ha : isF a) (h1 : in64 (V a 0 * y)) (h2 : in64 (x * V a 1)) : Ex L (d + 1) 113 [.inr (.inr a), .inr (.inl x), .inr (.inl y)] V b (Ans (some (.inl (cmpI (V a 0 * y) (x * V a 1)))) V b) := by
  refine Ev.blk 8 (B113_0 _ _ _ _ _ _ ha) rfl ?_
  refine Ev.call rfl rfl rfl (x_cmpL (d := d) h1 h2) (by omega) ?_
  rintro v V' b' ⟨rfl, h_, g_⟩
  subst V' b'
  exact Ev.ret rfl rfl rfl rfl ⟨rfl, rfl, rfl⟩
theorem prb {x y : Nat} (hx : x ≤ 15840000000) (hy : y ≤ 80000000) : in64 ((x : Int) * (y : Int)) := by
  have h := mulb (x := (x : Int)) (y := (y : Int)) (A := 15840000000) (B := 80000000) ⟨by omega, by omega⟩ ⟨by omega, by omega⟩
  exact ⟨by omega, by omega⟩
theorem op_which (a0 a1 a2 : Int) (h0 : in32 a0) (h1 : in32 a1) (h2 : in32 a2) : OpI 26 182 [.inl a0, .inl a1, .inl a2] := by
  intro L N V b hL hN hI
  have hi := hI.1
  have no : ¬ (0 ≤ a0 ∧ a0 < 3 ∧ 0 ≤ a1 ∧ a1 < 4 ∧ 0 ≤ a2 ∧ a2 < 4) → Ev L 29 26 21 [some (.inr (.inr 1)), some (.inl a0), some (.inl a1), some (.inl a2), none, none, none, none, none] [] V b (fun v V1 b1 => ∃ z : Int, v = some (.inl z) ∧ in32 z ∧ V1 0 = V 0 ∧ Ex L 29 182 (.inr (.inr 120) :: [.inl a0, .inl a1, .inl a2]) V1 b1 (fun v2 V2 _ => v2 = some (.inl z) ∧ Iv (N + 1) V2)) := fun hn => by
    refine Ev.blk 1 (B26_21 _ _ _ _ _ _) rfl ?_
    refine Ev.ret rfl rfl rfl rfl ⟨_, rfl, by decide, rfl, ?_⟩
    refine Ev.blk 1 (B182_0 _ _ _ _ _ _) rfl ?_
    refine Ev.call rfl rfl rfl (x_isMachineR (d := 26) h0) (by omega) ?_
    rintro v V' b' ⟨rfl, h_, g_⟩
    subst V' b'
    refine Ev.blk 1 (B182_4 _ _ _ _ _ _ _ (b01_in _)) rfl ?_
    refine Ev.ite (fun q => ?_) (fun q => ?_)
    · refine Ev.blk 1 (B182_21 _ _ _ _ _ _) rfl ?_
      exact Ev.ret rfl rfl rfl rfl ⟨rfl, hi.more (Nat.le_succ N), hI.2⟩
    · replace q := b01_1 (of_decide_eq_false q)
      refine Ev.blk 1 (B182_7 _ _ _ _ _ _) rfl ?_
      refine Ev.call rfl rfl rfl (x_isRuleR (d := 26) h1) (by omega) ?_
      rintro v V' b' ⟨rfl, h_, g_⟩
      subst V' b'
      refine Ev.blk 1 (B182_11 _ _ _ _ _ _ _ (b01_in _)) rfl ?_
      refine Ev.ite (fun q2 => ?_) (fun q2 => ?_)
      · refine Ev.blk 1 (B182_21 _ _ _ _ _ _) rfl ?_
        exact Ev.ret rfl rfl rfl rfl ⟨rfl, hi.more (Nat.le_succ N), hI.2⟩
      · replace q2 := b01_1 (of_decide_eq_false q2)
        refine Ev.blk 1 (B182_14 _ _ _ _ _ _) rfl ?_
        refine Ev.call rfl rfl rfl (x_isRuleR (d := 26) h2) (by omega) ?_
        rintro v V' b' ⟨rfl, h_, g_⟩
        subst V' b'
        refine Ev.blk 1 (B182_18 _ _ _ _ _ _ _ (b01_in _)) rfl ?_
        refine Ev.ite (fun z => absurd (b01_1 (nd_t z)) (by omega)) (fun _ => ?_)
        refine Ev.blk 1 (B182_21 _ _ _ _ _ _) rfl ?_
        exact Ev.ret rfl rfl rfl rfl ⟨rfl, hi.more (Nat.le_succ N), hI.2⟩
  refine Ev.blk 1 (B26_0 _ _ _ _ _ _) rfl ?_
  refine Ev.call rfl rfl rfl (x_isMachineC (d := 27) h0) (by omega) ?_
  rintro v V' b' ⟨rfl, h_, g_⟩
  subst V' b'
  refine Ev.blk 1 (B26_4 _ _ _ _ _ _ _ (b01_in _)) rfl ?_
  refine Ev.ite (fun q => ?_) (fun q => ?_)
  · replace q := b01_0 (of_decide_eq_true q)
    exact no (by omega)
  replace q := b01_1 (of_decide_eq_false q)
  refine Ev.blk 1 (B26_7 _ _ _ _ _ _) rfl ?_
  refine Ev.call rfl rfl rfl (x_isRuleC (d := 27) h1) (by omega) ?_
  rintro v V' b' ⟨rfl, h_, g_⟩
  subst V' b'
  refine Ev.blk 1 (B26_11 _ _ _ _ _ _ _ (b01_in _)) rfl ?_
  refine Ev.ite (fun q2 => ?_) (fun q2 => ?_)
  · replace q2 := b01_0 (of_decide_eq_true q2)
    exact no (by omega)
  replace q2 := b01_1 (of_decide_eq_false q2)
  refine Ev.blk 1 (B26_14 _ _ _ _ _ _) rfl ?_
  refine Ev.call rfl rfl rfl (x_isRuleC (d := 27) h2) (by omega) ?_
  rintro v V' b' ⟨rfl, h_, g_⟩
  subst V' b'
  refine Ev.blk 1 (B26_18 _ _ _ _ _ _ _ (b01_in _)) rfl ?_
  refine Ev.ite (fun q3 => ?_) (fun q3 => ?_)
  rotate_left
  · replace q3 := b01_0 (nd_f q3)
    exact no (by omega)
  replace q3 := b01_1 (nd_t q3)
  obtain ⟨m, rfl⟩ : ∃ m : Nat, a0 = (m : Int) := ⟨a0.toNat, by omega⟩
  obtain ⟨r, rfl⟩ : ∃ r : Nat, a1 = (r : Int) := ⟨a1.toNat, by omega⟩
  obtain ⟨s, rfl⟩ : ∃ s : Nat, a2 = (s : Int) := ⟨a2.toNat, by omega⟩
  have hm : m < 3 := by omega
  have hr : r < 4 := by omega
  have hs : s < 4 := by omega
  have hK : isK (14 + 15 * m) := k_11 (i := (m : Int)) (by omega)
  obtain ⟨n, hn, hP, hPR, _⟩ := (hi.kd m hm).rows
  have hR1 : RB n (fun a c => rGo V (m : Int) (a : Int) (c : Int)) (fun j => V 124 (8 * m + j)) (fun j => V 126 (4 * m + j)) (fun j => V 127 (4 * m + j)) (fun a => V 135 (8 * r + a)) := (hi.kd m hm).rb hn (fun a ha => (hi.ru r a hr ha).2)
  have hR2 : RB n (fun a c => rGo V (m : Int) (a : Int) (c : Int)) (fun j => V 124 (8 * m + j)) (fun j => V 126 (4 * m + j)) (fun j => V 127 (4 * m + j)) (fun a => V 135 (8 * s + a)) := (hi.kd m hm).rb hn (fun a ha => (hi.ru s a hs ha).2)
  refine Ev.blk 12 (B26_23 _ _ _ _ _ _ ⟨by omega, by omega⟩ ⟨by omega, by omega⟩) rfl ?_
  rw [Int.toNat_natCast, Int.toNat_natCast]
  refine Ev.call rfl rfl rfl (x_findCost (d := 25) hK (Or.inr (Or.inr (Or.inr (Or.inr (Or.inr (Or.inr rfl)))))) (tt_rule hr) (by omega) hP hR1 (fun a ha => by rw [show 64 + 1 * r = 64 + r by omega]; exact (hi.ru r a hr ha).1)) (by omega) ?_
  rintro v W1 b1 ⟨rfl, w1, w2⟩
  have f1 : ∀ y, ¬ (100 ≤ y ∧ y ≤ 107) → y ≠ 68 → W1 y = V y := fun y h1 _ => w1 y (by omega) (by omega)
  rcases w2 with ⟨ok1, rfl, e0, e1⟩ | ⟨nok, rfl⟩
  · have bd1 := hR1.ne ok1
    refine Ev.blk 1 (B26_46 _ _ _ _ _ _ _ (by decide)) rfl ?_
    refine Ev.ite (fun _ => ?_) (fun z => absurd z (by decide))
    refine Ev.blk 20 (B26_52 _ _ _ _ _ _ ⟨by omega, by omega⟩ ⟨by omega, by omega⟩) rfl ?_
    rw [Int.toNat_natCast, Int.toNat_natCast, e0, e1]
    refine Ev.call rfl rfl rfl (x_findCost (d := 25) hK (Or.inr (Or.inr (Or.inr (Or.inr (Or.inr (Or.inr rfl)))))) (tt_rule hs) (by omega) (hP.frame (fun x h1 h2 => f1 x (by omega) (by omega))) hR2 (fun a ha => by rw [show 64 + 1 * s = 64 + s by omega, f1 (64 + s) (by omega) (by omega)]; exact (hi.ru s a hs ha).1)) (by omega) ?_
    rintro v W2 b2 ⟨rfl, v1, v2⟩
    have f2 : ∀ y, ¬ (100 ≤ y ∧ y ≤ 107) → y ≠ 68 → W2 y = V y := fun y h1 h3 => by rw [v1 y (by omega) (by omega)]; exact f1 y h1 h3
    have hPW : PR W2 m n (fun a c => rGo V (m : Int) (a : Int) (c : Int)) (fun j => V 124 (8 * m + j)) (fun j => V 126 (4 * m + j)) (fun j => V 127 (4 * m + j)) := hPR.frame (fun x h1 h2 => f2 x (by omega) (by omega))
    have lay := x_layCost (L := L) (d := 24) (V := W2) (b := b2) hm (r := r) (by omega) hPW hR1 (fun a _ => by rw [f2 135 (by omega) (by omega)])
    rcases v2 with ⟨ok2, rfl, g0, g1⟩ | ⟨nok, rfl⟩
    · have bd2 := hR2.ne ok2
      refine Ev.blk 1 (B26_93 _ _ _ _ _ _ _ _ _ (by decide)) rfl ?_
      refine Ev.ite (fun _ => ?_) (fun z => absurd z (by decide))
      refine Ev.blk 4 (B26_99 _ _ _ _ _ _ _ _) rfl ?_
      have p1 := prb bd2.1 bd1.2.2
      have p2 := prb bd1.1 bd2.2.2
      refine Ev.call rfl rfl rfl (x_cmpW (d := 27) (Or.inr (Or.inr (Or.inr (Or.inr (Or.inr (Or.inr rfl)))))) (by rw [g0]; exact p1) (by rw [g1]; exact p2)) (by omega) ?_
      rintro v V' b' ⟨rfl, h_, g_⟩
      subst V' b'
      rw [g0, g1]
      generalize hA : ((rN n (fun a c => rGo V (m : Int) (a : Int) (c : Int)) (fun j => V 124 (8 * m + j)) (fun j => V 126 (4 * m + j)) (fun j => V 127 (4 * m + j)) (fun a => V 135 (8 * r + a)) : Nat) : Int) = A at *
      generalize hB : ((rE n (fun a c => rGo V (m : Int) (a : Int) (c : Int)) (fun j => V 124 (8 * m + j)) (fun j => V 126 (4 * m + j)) (fun j => V 127 (4 * m + j)) (fun a => V 135 (8 * r + a)) : Nat) : Int) = B at *
      generalize hC : ((rN n (fun a c => rGo V (m : Int) (a : Int) (c : Int)) (fun j => V 124 (8 * m + j)) (fun j => V 126 (4 * m + j)) (fun j => V 127 (4 * m + j)) (fun a => V 135 (8 * s + a)) : Nat) : Int) = C at *
      generalize hD : ((rE n (fun a c => rGo V (m : Int) (a : Int) (c : Int)) (fun j => V 124 (8 * m + j)) (fun j => V 126 (4 * m + j)) (fun j => V 127 (4 * m + j)) (fun a => V 135 (8 * s + a)) : Nat) : Int) = D at *
      have refr : ∀ z : Int, (A * D < C * B → z = 1) → (C * B < A * D → z = 2) → (A * D = C * B → z = 3) → Ex L 29 182 (.inr (.inr 120) :: [.inl (m : Int), .inl (r : Int), .inl (s : Int)]) W2 b2 (fun v2 V2 _ => v2 = some (.inl z) ∧ Iv (N + 1) V2) := fun z z1 z2 z3 => by
        refine Ev.blk 1 (B182_0 _ _ _ _ _ _) rfl ?_
        refine Ev.call rfl rfl rfl (x_isMachineR (d := 26) h0) (by omega) ?_
        rintro v V' b' ⟨rfl, h_, g_⟩
        subst V' b'
        refine Ev.blk 1 (B182_4 _ _ _ _ _ _ _ (b01_in _)) rfl ?_
        refine Ev.ite (fun z => absurd (show 0 ≤ (m : Int) ∧ (m : Int) ≤ 2 by omega) (b01_0 (of_decide_eq_true z))) (fun _ => ?_)
        refine Ev.blk 1 (B182_7 _ _ _ _ _ _) rfl ?_
        refine Ev.call rfl rfl rfl (x_isRuleR (d := 26) h1) (by omega) ?_
        rintro v V' b' ⟨rfl, h_, g_⟩
        subst V' b'
        refine Ev.blk 1 (B182_11 _ _ _ _ _ _ _ (b01_in _)) rfl ?_
        refine Ev.ite (fun z => absurd (show 0 ≤ (r : Int) ∧ (r : Int) ≤ 3 by omega) (b01_0 (of_decide_eq_true z))) (fun _ => ?_)
        refine Ev.blk 1 (B182_14 _ _ _ _ _ _) rfl ?_
        refine Ev.call rfl rfl rfl (x_isRuleR (d := 26) h2) (by omega) ?_
        rintro v V' b' ⟨rfl, h_, g_⟩
        subst V' b'
        refine Ev.blk 1 (B182_18 _ _ _ _ _ _ _ (b01_in _)) rfl ?_
        refine Ev.ite (fun _ => ?_) (fun z => absurd (show 0 ≤ (s : Int) ∧ (s : Int) ≤ 3 by omega) (b01_0 (nd_f z)))
        refine Ev.blk 3 (B182_23 _ _ _ _ _ _) rfl ?_
        refine Ev.call rfl rfl rfl lay (by omega) ?_
        rintro v W3 b3 ⟨rfl, u1, u2⟩
        rcases u2 with ⟨_, rfl, k0, k1⟩ | ⟨nok, rfl⟩
        rotate_left
        · exact absurd ok1 nok
        refine Ev.blk 1 (B182_29 _ _ _ _ _ _ _ (by decide)) rfl ?_
        refine Ev.ite (fun _ => ?_) (fun z => absurd z (by decide))
        refine Ev.blk 9 (B182_35 _ _ _ _ _ _) rfl ?_
        rw [k0, k1]
        refine Ev.call rfl rfl rfl (x_layCost (d := 24) hm (r := s) (by omega) (hPW.frame (fun x h1 h2 => u1.row (by omega) (by omega))) hR2 (fun a _ => by rw [u1.row (by omega) (by omega), f2 135 (by omega) (by omega)])) (by omega) ?_
        rintro v W4 b4 ⟨rfl, t1, t2⟩
        rcases t2 with ⟨_, rfl, l0, l1⟩ | ⟨nok, rfl⟩
        rotate_left
        · exact absurd ok2 nok
        rw [hC] at l0
        rw [hD] at l1
        have bk : bkF W2 W4 := fun y k h1 h2 h3 => by rw [t1.bk y k h1 h2 h3, u1.bk y k h1 h2 h3]
        refine Ev.blk 1 (B182_53 _ _ _ _ _ _ _ _ _ (by decide)) rfl ?_
        refine Ev.ite (fun _ => ?_) (fun z => absurd z (by decide))
        refine Ev.blk 10 (B182_59 _ _ _ _ _ _ _ _ (by rw [l1]; exact p2) (by rw [l0]; exact p1) (cmpI_in _ _)) rfl ?_
        rw [l0, l1]
        refine Ev.ite (fun q => ?_) (fun q => ?_)
        · replace q := of_decide_eq_true q
          have q : ¬ A * D < C * B := fun y => by have := (cmpI_lt _ _).mpr y; omega
          refine Ev.blk 10 (B182_81 _ _ _ _ _ _ _ _ (by rw [l1]; exact p2) (by rw [l0]; exact p1) (cmpI_in _ _)) rfl ?_
          rw [l0, l1]
          refine Ev.ite (fun w => ?_) (fun w => ?_)
          · replace w := (cmpI_le _ _).mp (of_decide_eq_true w)
            refine Ev.blk 1 (B182_103 _ _ _ _ _ _ _ _) rfl ?_
            refine Ev.ret rfl rfl rfl rfl ⟨by rw [z3 (by omega)], (hi.more (Nat.le_succ N)).bkf f2 bk, fun k => by rw [bkF.z f2 bk]; exact hI.2 k⟩
          · have w : ¬ A * D ≤ C * B := fun y => of_decide_eq_false w ((cmpI_le _ _).mpr y)
            refine Ev.blk 2 (B182_99 _ _ _ _ _ _ _ _) rfl ?_
            refine Ev.ret rfl rfl rfl rfl ⟨by rw [z2 (by omega)], (hi.more (Nat.le_succ N)).bkf f2 bk, fun k => by rw [bkF.z f2 bk]; exact hI.2 k⟩
        · replace q := of_decide_eq_false q
          have q : A * D < C * B := (cmpI_lt _ _).mp (by omega)
          refine Ev.blk 2 (B182_77 _ _ _ _ _ _ _ _) rfl ?_
          refine Ev.ret rfl rfl rfl rfl ⟨by rw [z1 q], (hi.more (Nat.le_succ N)).bkf f2 bk, fun k => by rw [bkF.z f2 bk]; exact hI.2 k⟩
      have cv := cmpI_v (C * B) (A * D)
      have cl := cmpI_lt (C * B) (A * D)
      have cg := cmpI_gt (C * B) (A * D)
      have ce := cmpI_eq (C * B) (A * D)
      refine Ev.blk 3 (B26_110 _ _ _ _ _ _ _ _ _ (cmpI_in _ _)) rfl ?_
      refine Ev.ite (fun z => ?_) (fun z => ?_)
      · replace z := nd_t z
        refine Ev.blk 2 (B26_121 _ _ _ _ _ _ _ _ _ (cmpI_in _ _)) rfl ?_
        refine Ev.ite (fun w => ?_) (fun w => ?_)
        · replace w := of_decide_eq_true w
          have w2 := cl.mp (by omega)
          refine Ev.blk 1 (B26_130 _ _ _ _ _ _ _ _ _) rfl ?_
          exact Ev.ret rfl rfl rfl rfl ⟨_, rfl, by decide, f2 0 (by omega) (by omega), refr 2 (fun y => by omega) (fun _ => rfl) (fun y => by omega)⟩
        · replace w := of_decide_eq_false w
          have w2 := cg.mp (by omega)
          refine Ev.blk 2 (B26_126 _ _ _ _ _ _ _ _ _) rfl ?_
          exact Ev.ret rfl rfl rfl rfl ⟨_, rfl, by decide, f2 0 (by omega) (by omega), refr 1 (fun _ => rfl) (fun y => by omega) (fun y => by omega)⟩
      · replace z := ce.mp (nd_f z)
        refine Ev.blk 2 (B26_117 _ _ _ _ _ _ _ _ _) rfl ?_
        exact Ev.ret rfl rfl rfl rfl ⟨_, rfl, by decide, f2 0 (by omega) (by omega), refr 3 (fun y => by omega) (fun y => by omega) (fun _ => rfl)⟩
    · refine Ev.blk 1 (B26_93 _ _ _ _ _ _ _ _ _ (by decide)) rfl ?_
      refine Ev.ite (fun z => absurd z (by decide)) (fun _ => ?_)
      refine Ev.blk 1 (B26_96 _ _ _ _ _ _ _ _) rfl ?_
      refine Ev.ret rfl rfl rfl rfl ⟨_, rfl, by decide, f2 0 (by omega) (by omega), ?_⟩
      refine Ev.blk 1 (B182_0 _ _ _ _ _ _) rfl ?_
      refine Ev.call rfl rfl rfl (x_isMachineR (d := 26) h0) (by omega) ?_
      rintro v V' b' ⟨rfl, h_, g_⟩
      subst V' b'
      refine Ev.blk 1 (B182_4 _ _ _ _ _ _ _ (b01_in _)) rfl ?_
      refine Ev.ite (fun z => absurd (show 0 ≤ (m : Int) ∧ (m : Int) ≤ 2 by omega) (b01_0 (of_decide_eq_true z))) (fun _ => ?_)
      refine Ev.blk 1 (B182_7 _ _ _ _ _ _) rfl ?_
      refine Ev.call rfl rfl rfl (x_isRuleR (d := 26) h1) (by omega) ?_
      rintro v V' b' ⟨rfl, h_, g_⟩
      subst V' b'
      refine Ev.blk 1 (B182_11 _ _ _ _ _ _ _ (b01_in _)) rfl ?_
      refine Ev.ite (fun z => absurd (show 0 ≤ (r : Int) ∧ (r : Int) ≤ 3 by omega) (b01_0 (of_decide_eq_true z))) (fun _ => ?_)
      refine Ev.blk 1 (B182_14 _ _ _ _ _ _) rfl ?_
      refine Ev.call rfl rfl rfl (x_isRuleR (d := 26) h2) (by omega) ?_
      rintro v V' b' ⟨rfl, h_, g_⟩
      subst V' b'
      refine Ev.blk 1 (B182_18 _ _ _ _ _ _ _ (b01_in _)) rfl ?_
      refine Ev.ite (fun _ => ?_) (fun z => absurd (show 0 ≤ (s : Int) ∧ (s : Int) ≤ 3 by omega) (b01_0 (nd_f z)))
      refine Ev.blk 3 (B182_23 _ _ _ _ _ _) rfl ?_
      refine Ev.call rfl rfl rfl lay (by omega) ?_
      rintro v W3 b3 ⟨rfl, u1, u2⟩
      rcases u2 with ⟨_, rfl, k0, k1⟩ | ⟨nok1, rfl⟩
      rotate_left
      · exact absurd ok1 nok1
      refine Ev.blk 1 (B182_29 _ _ _ _ _ _ _ (by decide)) rfl ?_
      refine Ev.ite (fun _ => ?_) (fun z => absurd z (by decide))
      refine Ev.blk 9 (B182_35 _ _ _ _ _ _) rfl ?_
      refine Ev.call rfl rfl rfl (x_layCost (d := 24) hm (r := s) (by omega) (hPW.frame (fun x h1 h2 => u1.row (by omega) (by omega))) hR2 (fun a _ => by rw [u1.row (by omega) (by omega), f2 135 (by omega) (by omega)])) (by omega) ?_
      rintro v W4 b4 ⟨rfl, t1, t2⟩
      rcases t2 with ⟨ok, _⟩ | ⟨_, rfl⟩
      · exact absurd ok nok
      have bk : bkF W2 W4 := fun y k h1 h2 h3 => by rw [t1.bk y k h1 h2 h3, u1.bk y k h1 h2 h3]
      refine Ev.blk 1 (B182_53 _ _ _ _ _ _ _ _ _ (by decide)) rfl ?_
      refine Ev.ite (fun z => absurd z (by decide)) (fun _ => ?_)
      refine Ev.blk 1 (B182_56 _ _ _ _ _ _ _ _) rfl ?_
      exact Ev.ret rfl rfl rfl rfl ⟨rfl, (hi.more (Nat.le_succ N)).bkf f2 bk, fun k => by rw [bkF.z f2 bk]; exact hI.2 k⟩
  · refine Ev.blk 1 (B26_46 _ _ _ _ _ _ _ (by decide)) rfl ?_
    refine Ev.ite (fun z => absurd z (by decide)) (fun _ => ?_)
    refine Ev.blk 1 (B26_49 _ _ _ _ _ _) rfl ?_
    refine Ev.ret rfl rfl rfl rfl ⟨_, rfl, by decide, f1 0 (by omega) (by omega), ?_⟩
    have lay := x_layCost (L := L) (d := 24) (V := W1) (b := b1) hm (r := r) (by omega) (hPR.frame (fun x h1 h2 => f1 x (by omega) (by omega))) hR1 (fun a _ => by rw [f1 135 (by omega) (by omega)])
    refine Ev.blk 1 (B182_0 _ _ _ _ _ _) rfl ?_
    refine Ev.call rfl rfl rfl (x_isMachineR (d := 26) h0) (by omega) ?_
    rintro v V' b' ⟨rfl, h_, g_⟩
    subst V' b'
    refine Ev.blk 1 (B182_4 _ _ _ _ _ _ _ (b01_in _)) rfl ?_
    refine Ev.ite (fun z => absurd (show 0 ≤ (m : Int) ∧ (m : Int) ≤ 2 by omega) (b01_0 (of_decide_eq_true z))) (fun _ => ?_)
    refine Ev.blk 1 (B182_7 _ _ _ _ _ _) rfl ?_
    refine Ev.call rfl rfl rfl (x_isRuleR (d := 26) h1) (by omega) ?_
    rintro v V' b' ⟨rfl, h_, g_⟩
    subst V' b'
    refine Ev.blk 1 (B182_11 _ _ _ _ _ _ _ (b01_in _)) rfl ?_
    refine Ev.ite (fun z => absurd (show 0 ≤ (r : Int) ∧ (r : Int) ≤ 3 by omega) (b01_0 (of_decide_eq_true z))) (fun _ => ?_)
    refine Ev.blk 1 (B182_14 _ _ _ _ _ _) rfl ?_
    refine Ev.call rfl rfl rfl (x_isRuleR (d := 26) h2) (by omega) ?_
    rintro v V' b' ⟨rfl, h_, g_⟩
    subst V' b'
    refine Ev.blk 1 (B182_18 _ _ _ _ _ _ _ (b01_in _)) rfl ?_
    refine Ev.ite (fun _ => ?_) (fun z => absurd (show 0 ≤ (s : Int) ∧ (s : Int) ≤ 3 by omega) (b01_0 (nd_f z)))
    refine Ev.blk 3 (B182_23 _ _ _ _ _ _) rfl ?_
    refine Ev.call rfl rfl rfl lay (by omega) ?_
    rintro v W3 b3 ⟨rfl, u1, u2⟩
    rcases u2 with ⟨ok, _⟩ | ⟨_, rfl⟩
    · exact absurd ok nok
    have f2 := f1
    have bk := u1.bk
    refine Ev.blk 1 (B182_29 _ _ _ _ _ _ _ (by decide)) rfl ?_
    refine Ev.ite (fun z => absurd z (by decide)) (fun _ => ?_)
    refine Ev.blk 1 (B182_32 _ _ _ _ _ _) rfl ?_
    exact Ev.ret rfl rfl rfl rfl ⟨rfl, (hi.more (Nat.le_succ N)).bkf f2 bk, fun k => by rw [bkF.z f2 bk]; exact hI.2 k⟩
