/-! the class reads the text (specs50.py) -/
def P0 (V : Mv) (w : Int) : Mv := fun x => if x = 120 then (fun k => if k = 7 ∨ k = 8 then 0 else V 120 k) else if x = 121 then (fun k => if k = 3 then w else V 121 k) else if x = 122 then (fun k => if k = 3 then -9 else V 122 k) else if x = 123 then (fun k => if 192 ≤ k ∧ k < 192 + 64 then 0 else V 123 k) else if x = 124 then (fun k => if 24 ≤ k ∧ k < 24 + 8 then 0 else V 124 k) else if x = 125 then (fun k => if 24 ≤ k ∧ k < 24 + 8 then 0 else V 125 k) else if x = 126 then (fun k => if 12 ≤ k ∧ k < 12 + 4 then -9 else V 126 k) else if x = 127 then (fun k => if 12 ≤ k ∧ k < 12 + 4 then 0 else V 127 k) else V x
def BG (W V : Mv) (w : Int) : Prop := (∀ y, ¬ (4 ≤ y ∧ y ≤ 10) → W y = V y) ∧ (W 4 0 = w ∧ W 4 1 = -9 ∧ W 4 2 = 0 ∧ W 4 3 = 0) ∧ (∀ a c, a < 8 → c < 8 → W 5 (8 * a + c) = if a = c ∧ a < 8 then 10 else 0) ∧ (∀ a, a < 8 → W 6 a = 0 ∧ W 7 a = 0 ∧ W 8 a = 0) ∧ (∀ i, i < 4 → W 9 i = 0 ∧ W 10 i = -9)
theorem kd_beg0 {W V V1 : Mv} {w : Int} (h : BG W V w) (hw : 2 ≤ w ∧ w ≤ 8) : Kd (cmb W (P0 V1 w)) 4 3 := by
  obtain ⟨_, ⟨f0, f1, f2, f3⟩, h5, h6, h9⟩ := h
  have t0 : ∀ a c : Nat, a < 8 → c < 8 → P0 V1 w 123 (64 * 3 + 8 * a + c) = 0 := fun a c ha hc => if_pos (by omega)
  have l0 : ∀ a : Nat, a < 8 → rLv (P0 V1 w) 3 (a : Int) = 0 := fun a ha => by
    rw [rLv_n, sumN_congr 8 (g := fun _ => 0) (fun o ho => t0 a o ha ho)]
    rfl
  refine Kd.mk f0 hw.1 hw.2 f1 (Or.inl rfl) (fun a c ha hc => ?_) (fun a c ha hc _ => t0 a c ha hc) (fun a ha => ?_) (fun a ha => ?_) (fun a c ha hc => ?_) (fun a ha => ?_) (fun a ha => ?_) (fun i hi => ?_) (fun i hi => ?_)
  · show 0 ≤ P0 V1 w 123 (64 * 3 + 8 * a + c) ∧ P0 V1 w 123 (64 * 3 + 8 * a + c) ≤ 9
    rw [t0 a c ha hc]
    decide
  · show W 6 a = rLv (P0 V1 w) 3 (a : Int)
    rw [l0 a ha]
    exact (h6 a ha).1
  · show rLv (P0 V1 w) 3 (a : Int) ≤ 10
    rw [l0 a ha]
    decide
  · show W 5 (8 * a + c) = rGo (P0 V1 w) 3 (a : Int) (c : Int)
    rw [h5 a c ha hc]
    unfold rGo
    by_cases q : a = c
    · rw [if_pos ⟨q, ha⟩, if_pos (by omega), l0 a ha]
      rfl
    · rw [if_neg (fun z => q z.1), if_neg (by omega), show (64 * 3 + 8 * (a : Int) + (c : Int)).toNat = 64 * 3 + 8 * a + c by omega, t0 a c ha hc]
  · show W 7 a = P0 V1 w 124 (8 * 3 + a) ∧ 0 ≤ P0 V1 w 124 (8 * 3 + a) ∧ P0 V1 w 124 (8 * 3 + a) ≤ 99
    have e : P0 V1 w 124 (8 * 3 + a) = 0 := if_pos (by omega)
    rw [e]
    exact ⟨(h6 a ha).2.1, by decide, by decide⟩
  · show W 8 a = P0 V1 w 125 (8 * 3 + a) ∧ 0 ≤ P0 V1 w 125 (8 * 3 + a) ∧ P0 V1 w 125 (8 * 3 + a) ≤ 9
    have e : P0 V1 w 125 (8 * 3 + a) = 0 := if_pos (by omega)
    rw [e]
    exact ⟨(h6 a ha).2.2, by decide, by decide⟩
  · show W 9 i = P0 V1 w 127 (4 * 3 + i) ∧ 0 ≤ P0 V1 w 127 (4 * 3 + i) ∧ P0 V1 w 127 (4 * 3 + i) ≤ 99
    have e : P0 V1 w 127 (4 * 3 + i) = 0 := if_pos (by omega)
    rw [e]
    exact ⟨(h9 i hi).1, by decide, by decide⟩
  · show W 10 i = P0 V1 w 126 (4 * 3 + i) ∧ (P0 V1 w 126 (4 * 3 + i) = -9 ∨ _)
    have e : P0 V1 w 126 (4 * 3 + i) = -9 := if_pos (by omega)
    rw [e]
    exact ⟨(h9 i hi).2, Or.inl rfl⟩
theorem bg3_lp {L d : Nat} {V : Mv} {b : Bool} {w : Int} {Q : Option AV → Mv → Bool → Prop} (hQ : ∀ W, BG W V w → Q none W b) : ∀ (n k : Nat) (W : Mv), k + n = 4 → ((∀ y, ¬ (4 ≤ y ∧ y ≤ 10) → W y = V y) ∧ (W 4 0 = w ∧ W 4 1 = -9 ∧ W 4 2 = 0 ∧ W 4 3 = 0) ∧ (∀ a c, a < 8 → c < 8 → W 5 (8 * a + c) = if a = c ∧ a < 8 then 10 else 0) ∧ (∀ a, a < 8 → W 6 a = 0 ∧ W 7 a = 0 ∧ W 8 a = 0) ∧ (∀ i, i < k → W 9 i = 0 ∧ W 10 i = -9)) → Ev L d 67 92 [some (.inr (.inr 4)), some (.inl w), some (.inl (k : Int))] [] W b Q
  | 0, k, W, h, hr => by
    obtain rfl : k = 4 := by omega
    refine Ev.blk 3 (B67_92 _ _ _ _ _ _ (by decide)) rfl ?_
    refine Ev.ite (fun _ => ?_) (fun h => absurd h (by decide))
    exact Ev.ret rfl rfl rfl rfl (hQ W hr)
  | n + 1, k, W, h, ⟨r1, r2, r3, r4, r5⟩ => by
    refine Ev.blk 3 (B67_92 _ _ _ _ _ _ ⟨by omega, by omega⟩) rfl ?_
    refine Ev.ite (fun z => absurd (of_decide_eq_true z) (by omega)) (fun _ => ?_)
    refine Ev.blk 12 (B67_97 _ _ _ _ _ _ (Or.inl rfl) ⟨by omega, by omega⟩) rfl ?_
    rw [Int.toNat_natCast]
    refine bg3_lp (L := L) (d := d) hQ n (k + 1) _ (by omega) ⟨fun y hy => ?_, r2, r3, r4, fun i hi => ?_⟩
    · rw [uV_ne (by omega), uV_ne (by omega)]
      exact r1 y hy
    · have h5 := r5 i
      show uV (uV W 9 k 0) 10 k (-9) 9 i = 0 ∧ uV (uV W 9 k 0) 10 k (-9) 10 i = -9
      rw [uV_ne (by omega), uV_at, uV_at, uV_ne (by omega)]
      by_cases q : i = k
      · rw [if_pos q, if_pos q]
        exact ⟨rfl, rfl⟩
      · rw [if_neg q, if_neg q]
        exact h5 (by omega)
theorem bg2_lp {L d : Nat} {V : Mv} {b : Bool} {w : Int} {Q : Option AV → Mv → Bool → Prop} (hQ : ∀ W, BG W V w → Q none W b) : ∀ (n k : Nat) (W : Mv), k + n = 8 → ((∀ y, ¬ (4 ≤ y ∧ y ≤ 8) → W y = V y) ∧ (W 4 0 = w ∧ W 4 1 = -9 ∧ W 4 2 = 0 ∧ W 4 3 = 0) ∧ (∀ a c, a < 8 → c < 8 → W 5 (8 * a + c) = if a = c ∧ a < k then 10 else 0) ∧ (∀ a, a < k → W 6 a = 0 ∧ W 7 a = 0 ∧ W 8 a = 0)) → Ev L d 67 44 [some (.inr (.inr 4)), some (.inl w), some (.inl (k : Int))] [] W b Q
  | 0, k, W, h, ⟨r1, r2, r3, r4⟩ => by
    obtain rfl : k = 8 := by omega
    refine Ev.blk 3 (B67_44 _ _ _ _ _ _ (by decide)) rfl ?_
    refine Ev.ite (fun _ => ?_) (fun h => absurd h (by decide))
    refine Ev.blk 2 (B67_90 _ _ _ _ _ _) rfl ?_
    exact bg3_lp hQ 4 0 W rfl ⟨fun y hy => r1 y (by omega), r2, r3, r4, fun i hi => absurd hi (by omega)⟩
  | n + 1, k, W, h, ⟨r1, r2, r3, r4⟩ => by
    refine Ev.blk 3 (B67_44 _ _ _ _ _ _ ⟨by omega, by omega⟩) rfl ?_
    refine Ev.ite (fun z => absurd (of_decide_eq_true z) (by omega)) (fun _ => ?_)
    refine Ev.blk 26 (B67_50 _ _ _ _ _ _ (Or.inl rfl) ⟨by omega, by omega⟩ ⟨by omega, by omega⟩) rfl ?_
    rw [Int.toNat_natCast, show ((k : Int) * 8 + (k : Int)).toNat = 8 * k + k by omega]
    refine bg2_lp (L := L) (d := d) hQ n (k + 1) _ (by omega) ⟨fun y hy => ?_, r2, fun a c ha hc => ?_, fun a ha => ?_⟩
    · rw [uV_ne (by omega), uV_ne (by omega), uV_ne (by omega), uV_ne (by omega)]
      exact r1 y hy
    · show uV (uV (uV (uV W 5 (8 * k + k) 10) 6 k 0) 7 k 0) 8 k 0 5 (8 * a + c) = _
      have h3 := r3 a c ha hc
      rw [uV_ne (by omega), uV_ne (by omega), uV_ne (by omega), uV_at]
      by_cases q : 8 * a + c = 8 * k + k
      · rw [if_pos q, if_pos (by omega)]
      · rw [if_neg q, h3]
        by_cases z : a = c ∧ a < k
        · rw [if_pos z, if_pos (by omega)]
        · rw [if_neg z, if_neg (by omega)]
    · have h4 := r4 a
      show uV (uV (uV (uV W 5 (8 * k + k) 10) 6 k 0) 7 k 0) 8 k 0 6 a = 0 ∧ uV (uV (uV (uV W 5 (8 * k + k) 10) 6 k 0) 7 k 0) 8 k 0 7 a = 0 ∧ uV (uV (uV (uV W 5 (8 * k + k) 10) 6 k 0) 7 k 0) 8 k 0 8 a = 0
      have g6 : uV (uV (uV (uV W 5 (8 * k + k) 10) 6 k 0) 7 k 0) 8 k 0 6 a = if a = k then 0 else W 6 a := by rw [uV_ne (by omega), uV_ne (by omega), uV_at, uV_ne (by omega)]
      have g7 : uV (uV (uV (uV W 5 (8 * k + k) 10) 6 k 0) 7 k 0) 8 k 0 7 a = if a = k then 0 else W 7 a := by rw [uV_ne (by omega), uV_at, uV_ne (by omega), uV_ne (by omega)]
      have g8 : uV (uV (uV (uV W 5 (8 * k + k) 10) 6 k 0) 7 k 0) 8 k 0 8 a = if a = k then 0 else W 8 a := by rw [uV_at, uV_ne (by omega), uV_ne (by omega), uV_ne (by omega)]
      rw [g6, g7, g8]
      by_cases q : a = k
      · rw [if_pos q, if_pos q, if_pos q]
        exact ⟨rfl, rfl, rfl⟩
      · rw [if_neg q, if_neg q, if_neg q]
        exact h4 (by omega)
theorem bg1_lp {L d : Nat} {V : Mv} {b : Bool} {w : Int} {Q : Option AV → Mv → Bool → Prop} (hQ : ∀ W, BG W V w → Q none W b) : ∀ (n k : Nat) (W : Mv), k + n = 64 → ((∀ y, y ≠ 4 → y ≠ 5 → W y = V y) ∧ (W 4 0 = w ∧ W 4 1 = -9 ∧ W 4 2 = 0 ∧ W 4 3 = 0) ∧ (∀ i, i < k → W 5 i = 0)) → Ev L d 67 23 [some (.inr (.inr 4)), some (.inl w), some (.inl (k : Int))] [] W b Q
  | 0, k, W, h, ⟨r1, r2, r3⟩ => by
    obtain rfl : k = 64 := by omega
    refine Ev.blk 3 (B67_23 _ _ _ _ _ _ (by decide)) rfl ?_
    refine Ev.ite (fun _ => ?_) (fun h => absurd h (by decide))
    refine Ev.blk 2 (B67_42 _ _ _ _ _ _) rfl ?_
    exact bg2_lp hQ 8 0 W rfl ⟨fun y hy => r1 y (by omega) (by omega), r2, fun a c ha hc => by rw [if_neg (by omega)]; exact r3 _ (by omega), fun i hi => absurd hi (by omega)⟩
  | n + 1, k, W, h, ⟨r1, r2, r3⟩ => by
    refine Ev.blk 3 (B67_23 _ _ _ _ _ _ ⟨by omega, by omega⟩) rfl ?_
    refine Ev.ite (fun z => absurd (of_decide_eq_true z) (by omega)) (fun _ => ?_)
    refine Ev.blk 7 (B67_29 _ _ _ _ _ _ (Or.inl rfl) ⟨by omega, by omega⟩) rfl ?_
    rw [Int.toNat_natCast]
    refine bg1_lp (L := L) (d := d) hQ n (k + 1) _ (by omega) ⟨fun y h1 h2 => ?_, r2, fun i hi => ?_⟩
    · rw [uV_ne (by omega)]
      exact r1 y h1 h2
    · have h3 := r3 i
      show uV W 5 k 0 5 i = 0
      rw [uV_at]
      by_cases q : i = k
      · rw [if_pos q]
      · rw [if_neg q]
        exact h3 (by omega)
theorem x_begin {L d : Nat} {V : Mv} {b : Bool} {w : Int} : Ex L d 67 [.inr (.inr 4), .inl w] V b (fun r V' b' => r = none ∧ b' = b ∧ BG V' V w) := by
  refine Ev.blk 14 (B67_0 _ _ _ _ _ (Or.inl rfl)) rfl ?_
  refine bg1_lp (fun W hW => ⟨rfl, rfl, hW⟩) 64 0 _ rfl ⟨fun y h1 h2 => ?_, ⟨rfl, rfl, rfl, rfl⟩, fun i hi => absurd hi (by omega)⟩
  rw [uV_ne h1, uV_ne h1, uV_ne h1, uV_ne h1]
theorem stp_ge (T : Nat → Int) (n : Nat) (P : Mv) (j : Nat) : RES (stp T n P j) (fun f => f ≤ j + 4) (fun p => j + 2 ≤ p.1 ∧ p.1 ≤ j + 5) := by
  unfold stp
  repeat' split
  all_goals first | (show (_ : Nat) ≤ _; omega) | (show (_ : Nat) ≤ _ ∧ (_ : Nat) ≤ _; exact ⟨by omega, by omega⟩)
def prs (T : Nat → Int) (n : Nat) : Nat → Mv → Nat → Sum Nat Mv
  | 0, P, _ => .inr P
  | k + 1, P, j => if j < n then (match stp T n P j with
    | .inl f => .inl f
    | .inr p => prs T n k p.2 p.1) else .inr P
def full (T : Nat → Int) (n : Nat) (V : Mv) : Sum Nat Mv := if n = 0 ∨ ¬ T 0 = 78 then .inl 0 else if fOK T n 1 508 then prs T n 64 (P0 V (figN T 1 : Int)) 2 else .inl 1
def PF (V : Mv) (b : Bool) (r : Sum Nat Mv) : Option AV → Mv → Bool → Prop := fun v V' b' => b' = b ∧ (∀ y, ¬ (y = 2 ∨ 4 ≤ y ∧ y ≤ 10) → V' y = V y) ∧ V' 2 0 = V 2 0 ∧ RES r (fun f => v = some (.inl (f : Int)) ∧ f ≤ 300) (fun P => v = some (.inl (-9)) ∧ Kd (cmb V' P) 4 3)
theorem ri_lp {L d : Nat} {V0 : Mv} {b : Bool} {T : Nat → Int} {n : Nat} (hB : TB T n) : ∀ (k i : Nat) (V P : Mv) (j : Nat), i + k = 64 → CP V T n P j → n ≤ j + k → j ≤ 200 → (∀ y, ¬ (y = 2 ∨ 4 ≤ y ∧ y ≤ 10) → V y = V0 y) → V 2 0 = V0 2 0 → Ev L (d + 5) 54 18 [some (.inr (.inr 2)), some (.inr (.inr 4)), some (.inl (i : Int))] [] V b (PF V0 b (prs T n k P j))
  | 0, i, V, P, j, h, hC, hk, hj, w1, w0 => by
    obtain rfl : i = 64 := by omega
    refine Ev.blk 3 (B54_18 _ _ _ _ _ (by decide)) rfl ?_
    refine Ev.ite (fun _ => ?_) (fun h => absurd h (by decide))
    refine Ev.blk 2 (B54_55 _ _ _ _ _) rfl ?_
    rw [hC.1.2.2.2]
    exact Ev.ret rfl rfl rfl rfl ⟨rfl, w1, w0, rfl, hC.2.2.2.1⟩
  | k + 1, i, V, P, j, h, hC, hk, hj, w1, w0 => by
    have hn := hB.1
    refine Ev.blk 3 (B54_18 _ _ _ _ _ ⟨by omega, by omega⟩) rfl ?_
    refine Ev.ite (fun z => absurd (of_decide_eq_true z) (by omega)) (fun _ => ?_)
    refine Ev.blk 4 (B54_24 _ _ _ _ _ (by rw [hC.1.2.2.2]; decide)) rfl ?_
    refine Ev.ite (fun z => absurd hC.1.2.2.2 (nd_t z)) (fun _ => ?_)
    refine Ev.blk 5 (B54_33 _ _ _ _ _ (by rw [hC.1.2.2.1]; exact ⟨by omega, by omega⟩) (by rw [hC.1.1]; exact ⟨by omega, by omega⟩)) rfl ?_
    rw [hC.1.1, hC.1.2.2.1]
    refine Ev.ite (fun z => ?_) (fun z => ?_)
    · replace z := of_decide_eq_true z
      have e : prs T n (k + 1) P j = .inr P := if_neg (by omega)
      rw [e]
      refine Ev.blk 2 (B54_55 _ _ _ _ _) rfl ?_
      rw [hC.1.2.2.2]
      exact Ev.ret rfl rfl rfl rfl ⟨rfl, w1, w0, rfl, hC.2.2.2.1⟩
    · replace z := of_decide_eq_false z
      have e : prs T n (k + 1) P j = (match stp T n P j with
        | .inl f => .inl f
        | .inr p => prs T n k p.2 p.1) := if_pos (by omega)
      rw [e]
      refine Ev.blk 2 (B54_44 _ _ _ _ _) rfl ?_
      refine Ev.call rfl rfl rfl (x_part (d := d) hB hC (by omega)) (by omega) ?_
      rintro v V1 b1 ⟨rfl, rfl, g1, g0, g2⟩
      have hg := stp_ge T n P j
      refine Ev.blk 2 (B54_49 _ _ _ _ _) rfl ?_
      cases hs : stp T n P j with
      | inl f =>
        rw [hs] at g2 hg
        have g2 : V1 2 3 = (f : Int) := g2
        have hg : f ≤ j + 4 := hg
        have fin : Ev L (d + 5) 54 55 [some (.inr (.inr 2)), some (.inr (.inr 4)), some (.inl ((i : Int) + 1))] [] V1 b1 (PF V0 b1 (.inl f)) := by
          refine Ev.blk 2 (B54_55 _ _ _ _ _) rfl ?_
          rw [g2]
          exact Ev.ret rfl rfl rfl rfl ⟨rfl, fun y hy => by rw [g1 y hy, w1 y hy], by rw [g0, w0], rfl, by omega⟩
        refine Ev.blk 3 (B54_18 _ _ _ _ _ ⟨by omega, by omega⟩) rfl ?_
        refine Ev.ite (fun _ => fin) (fun _ => ?_)
        refine Ev.blk 4 (B54_24 _ _ _ _ _ (by rw [g2]; exact ⟨by omega, by omega⟩)) rfl ?_
        refine Ev.ite (fun _ => fin) (fun z => absurd (nd_f z) (by rw [g2]; omega))
      | inr p =>
        rw [hs] at g2 hg
        have g2 : CP V1 T n p.2 p.1 := g2
        have hg : j + 2 ≤ p.1 ∧ p.1 ≤ j + 5 := hg
        have ih := ri_lp (L := L) (d := d) (V0 := V0) (b := b1) hB k (i + 1) V1 p.2 p.1 (by omega) g2 (by omega) (by omega) (fun y hy => by rw [g1 y hy, w1 y hy]) (by rw [g0, w0])
        exact ih
theorem x_readC {L d : Nat} {V V1 : Mv} {b : Bool} {T : Nat → Int} {n : Nat} (hB : TB T n) (h0 : V 2 0 = (n : Int)) (hT : ∀ i, i < 64 → V 3 i = T i) : Ex L (d + 5) 54 [.inr (.inr 2), .inr (.inr 4)] V b (PF V b (full T n V1)) := by
  have hn := hB.1
  have hT0 := hB.2 0 (by omega)
  have e78 : V 3 (0 : Int).toNat = T 0 := hT 0 (by omega)
  have flt : ∀ (W : Mv) (f : Nat), W 2 3 = (f : Int) → f ≤ 300 → (∀ y, ¬ (y = 2 ∨ 4 ≤ y ∧ y ≤ 10) → W y = V y) → W 2 0 = V 2 0 → full T n V1 = .inl f → Ev L (d + 5) 54 16 [some (.inr (.inr 2)), some (.inr (.inr 4)), none] [] W b (PF V b (full T n V1)) := by
    intro W f h3 hf w1 w0 hs
    refine Ev.blk 2 (B54_16 _ _ _ _) rfl ?_
    refine Ev.blk 3 (B54_18 _ _ _ _ _ (by decide)) rfl ?_
    refine Ev.ite (fun z => absurd z (by decide)) (fun _ => ?_)
    refine Ev.blk 4 (B54_24 _ _ _ _ _ (by rw [h3]; exact ⟨by omega, by omega⟩)) rfl ?_
    refine Ev.ite (fun _ => ?_) (fun z => absurd (nd_f z) (by rw [h3]; omega))
    refine Ev.blk 2 (B54_55 _ _ _ _ _) rfl ?_
    rw [h3, hs]
    exact Ev.ret rfl rfl rfl rfl ⟨rfl, w1, w0, rfl, hf⟩
  refine Ev.blk 8 (B54_0 _ _ _ _) rfl ?_
  obtain ⟨U, hU⟩ : ∃ U, U = uV (uV V 2 2 0) 2 3 (-9) := ⟨_, rfl⟩
  rw [← hU]
  have u1 : ∀ y, y ≠ 2 → U y = V y := fun y hy => by rw [hU, uV_ne hy, uV_ne hy]
  have u0 : U 2 0 = (n : Int) := by rw [hU]; exact h0
  have u3 : U 2 3 = -9 := by rw [hU]; rfl
  have hsub : Ex L (d + 4) 55 [.inr (.inr 2), .inr (.inr 4)] U b (fun r V' b' => r = none ∧ b' = b ∧ (∀ y, ¬ (y = 2 ∨ 4 ≤ y ∧ y ≤ 10) → V' y = V y) ∧ V' 2 0 = V 2 0 ∧ ((∃ f, full T n V1 = .inl f ∧ f ≤ 1 ∧ V' 2 3 = (f : Int)) ∨ (full T n V1 = prs T n 64 (P0 V1 (figN T 1 : Int)) 2 ∧ CP V' T n (P0 V1 (figN T 1 : Int)) 2))) := by
    refine Ev.blk 3 (B55_0 _ _ _ _ (by rw [u0]; exact ⟨by omega, by omega⟩)) rfl ?_
    rw [u0]
    have no : (n = 0 ∨ ¬ T 0 = 78) → Ev L (d + 4) 55 18 [some (.inr (.inr 2)), some (.inr (.inr 4)), none] [] U b (fun r V' b' => r = none ∧ b' = b ∧ (∀ y, ¬ (y = 2 ∨ 4 ≤ y ∧ y ≤ 10) → V' y = V y) ∧ V' 2 0 = V 2 0 ∧ ((∃ f, full T n V1 = .inl f ∧ f ≤ 1 ∧ V' 2 3 = (f : Int)) ∨ (full T n V1 = prs T n 64 (P0 V1 (figN T 1 : Int)) 2 ∧ CP V' T n (P0 V1 (figN T 1 : Int)) 2))) := by
      intro hno
      refine Ev.blk 3 (B55_18 _ _ _ _) rfl ?_
      exact Ev.ret rfl rfl rfl rfl ⟨rfl, rfl, fr2 (fun y hy => u1 y (by omega)), by show U 2 0 = _; rw [u0, h0], Or.inl ⟨0, if_pos hno, by omega, rfl⟩⟩
    refine Ev.ite (fun z => ?_) (fun z => ?_)
    · replace z := of_decide_eq_true z
      exact no (Or.inl (by omega))
    · replace z := of_decide_eq_false z
      have u78 : U 3 (0 : Int).toNat = T 0 := by rw [u1 3 (by omega)]; exact e78
      refine Ev.blk 6 (B55_7 _ _ _ _ (by rw [u78]; exact ⟨by omega, by omega⟩)) rfl ?_
      rw [u78]
      refine Ev.ite (fun y => ?_) (fun y => ?_)
      · replace y := of_decide_eq_true y
        have hX : TX U T n 0 ∨ True := Or.inr trivial
        have hX1 : TX (uV U 2 2 ((1 : Nat) : Int)) T n 1 := by
          refine ⟨?_, fun i hi => ?_, rfl, ?_⟩
          · show U 2 0 = _
            exact u0
          · show U 3 i = _
            rw [u1 3 (by omega)]
            exact hT i hi
          · show U 2 3 = _
            exact u3
        have hfull : full T n V1 = if fOK T n 1 508 then prs T n 64 (P0 V1 (figN T 1 : Int)) 2 else .inl 1 := if_neg (by omega)
        have f1 : ∀ y, ¬ (y = 2 ∨ 4 ≤ y ∧ y ≤ 10) → uV U 2 2 ((1 : Nat) : Int) y = V y := fr2 (fun y hy => u1 y (by omega))
        refine Ev.blk 5 (B55_24 _ _ _ _) rfl ?_
        refine Ev.call rfl rfl rfl (x_bits (d := d)) (by omega) ?_
        rintro v V' b' ⟨rfl, h_, g_⟩
        subst V' b'
        refine Ev.blk 1 (B55_35 _ _ _ _ _) rfl ?_
        refine Ev.call rfl rfl rfl (x_bits (d := d)) (by omega) ?_
        rintro v V' b' ⟨rfl, h_, g_⟩
        subst V' b'
        refine Ev.blk 3 (B55_39 _ _ _ _ _ _) rfl ?_
        rw [show oAnd (oShl 1 9 - 1) (oXor (oShl 1 2 - 1) (-1)) = 508 by decide]
        refine Ev.call rfl rfl rfl (x_tk (d := d) (mask := 508) hB hX1 (by omega)) (by omega) ?_
        rintro v V2 b2 ⟨rfl, h⟩
        rcases h with ⟨h1, rfl, rfl⟩ | ⟨h1, rfl, rfl⟩
        · rw [if_pos h1] at hfull
          have a1 := h1.v.2
          have a2 : 2 ≤ figN T 1 ∧ figN T 1 ≤ 8 := by
            have : ∀ v, v < 10 → bit 508 v = true → 2 ≤ v ∧ v ≤ 8 := by decide
            exact this _ (by omega) h1.b
          refine Ev.blk 3 (B55_45 _ _ _ _ _ ⟨by omega, by omega⟩) rfl ?_
          refine Ev.ite (fun h => absurd (of_decide_eq_true h) (by omega)) (fun _ => ?_)
          refine Ev.blk 2 (B55_50 _ _ _ _ _) rfl ?_
          refine Ev.call rfl rfl rfl (x_begin (d := d)) (by omega) ?_
          rintro v V3 b3 ⟨rfl, rfl, hG⟩
          have hK := kd_beg0 (V1 := V1) hG (by omega)
          have fG := hG.1
          refine Ev.ret rfl rfl rfl rfl ⟨rfl, rfl, fun y hy => ?_, ?_, Or.inr ⟨hfull, ?_⟩⟩
          · rw [fG y (by omega)]
            exact fr2 f1 y hy
          · rw [fG 2 (by omega)]
            exact h0 ▸ u0
          · exact ⟨(hX1.to 2).frame (fG 2 (by omega)) (fG 3 (by omega)), hG.2.1.2.2.1, hG.2.1.2.2.2, hK, tb_0 _, tb_0 _⟩
        · rw [if_neg h1] at hfull
          refine Ev.blk 3 (B55_45 _ _ _ _ _ (by decide)) rfl ?_
          refine Ev.ite (fun _ => ?_) (fun h => absurd h (by decide))
          exact Ev.ret rfl rfl rfl rfl ⟨rfl, rfl, fr2 f1, h0 ▸ u0, Or.inl ⟨1, hfull, by omega, rfl⟩⟩
      · replace y := of_decide_eq_false y
        exact no (Or.inr y)
  refine Ev.call rfl rfl rfl (hsub) (by omega) ?_
  rintro v V2 b2 ⟨rfl, rfl, g1, g0, hr⟩
  rcases hr with ⟨f, hf, f1, f3⟩ | ⟨hf, hC⟩
  · exact flt V2 f f3 (by omega) g1 g0 hf
  · rw [hf]
    refine Ev.blk 2 (B54_16 _ _ _ _) rfl ?_
    exact ri_lp hB 64 0 V2 _ 2 rfl hC (by omega) (by omega) g1 g0
