/-! the reference reads the text; fault (specs53.py) -/
def rg (f : Nat → Int) (s k : Nat) (z : Int) : Nat → Int := fun i => if s ≤ i ∧ i < s + k then z else f i
theorem rg_0 (f : Nat → Int) (s : Nat) (z : Int) : rg f s 0 z = f := by
  funext i
  exact if_neg (by omega)
theorem rg_s {W : Mv} {x : Nat} {f : Nat → Int} {s k : Nat} {z : Int} (h : W x = rg f s k z) : uV W x (s + k) z x = rg f s (k + 1) z := by
  funext i
  rw [uV_at, h]
  unfold rg
  by_cases q : i = s + k
  · rw [if_pos q, if_pos (by omega)]
  · rw [if_neg q]
    by_cases y : s ≤ i ∧ i < s + k
    · rw [if_pos y, if_pos (by omega)]
    · rw [if_neg y, if_neg (by omega)]
theorem P0_o (V : Mv) (w : Int) {x : Nat} (h : ¬ (120 ≤ x ∧ x ≤ 127)) : P0 V w x = V x := by
  unfold P0
  rw [if_neg (by omega), if_neg (by omega), if_neg (by omega), if_neg (by omega), if_neg (by omega), if_neg (by omega), if_neg (by omega), if_neg (by omega)]
theorem P0_c {V V1 : Mv} {w w1 : Int} {x : Nat} (h : V x = V1 x) (hx : x ≠ 121) (h0 : x ≤ 127) (h1 : 120 ≤ x) : P0 V w x = P0 V1 w1 x := by
  have : x = 120 ∨ x = 122 ∨ x = 123 ∨ x = 124 ∨ x = 125 ∨ x = 126 ∨ x = 127 := by omega
  rcases this with rfl | rfl | rfl | rfl | rfl | rfl | rfl
  · show (fun k => if k = 7 ∨ k = 8 then 0 else V 120 k) = _
    rw [h]
    rfl
  · show (fun k => if k = 3 then -9 else V 122 k) = _
    rw [h]
    rfl
  · show (fun k => if 192 ≤ k ∧ k < 192 + 64 then 0 else V 123 k) = _
    rw [h]
    rfl
  · show (fun k => if 24 ≤ k ∧ k < 24 + 8 then 0 else V 124 k) = _
    rw [h]
    rfl
  · show (fun k => if 24 ≤ k ∧ k < 24 + 8 then 0 else V 125 k) = _
    rw [h]
    rfl
  · show (fun k => if 12 ≤ k ∧ k < 12 + 4 then -9 else V 126 k) = _
    rw [h]
    rfl
  · show (fun k => if 12 ≤ k ∧ k < 12 + 4 then 0 else V 127 k) = _
    rw [h]
    rfl
theorem bl3_lp {L d : Nat} {V : Mv} {b : Bool} {Q : Option AV → Mv → Bool → Prop} (hQ : ∀ W, (∀ x, x ≠ 121 → W x = P0 V 0 x) → W 121 = V 121 → Q none W b) : ∀ (n k : Nat) (W : Mv), k + n = 4 → ((∀ y, ¬ (123 ≤ y ∧ y ≤ 127) → W y = V y) ∧ W 123 = rg (V 123) 192 64 0 ∧ W 124 = rg (V 124) 24 8 0 ∧ W 125 = rg (V 125) 24 8 0 ∧ W 126 = rg (V 126) 12 k (-9) ∧ W 127 = rg (V 127) 12 k 0) → Ev L d 136 61 [some (.inr (.inr 120)), some (.inl (k : Int))] [] W b Q
  | 0, k, W, h, ⟨r1, r2, r3, r4, r5, r6⟩ => by
    obtain rfl : k = 4 := by omega
    refine Ev.blk 3 (B136_61 _ _ _ _ (by decide)) rfl ?_
    refine Ev.ite (fun _ => ?_) (fun h => absurd h (by decide))
    refine Ev.blk 11 (B136_93 _ _ _ _) rfl ?_
    refine Ev.ret rfl rfl rfl rfl (hQ _ (fun x hx => ?_) ?_)
    · by_cases q : 120 ≤ x ∧ x ≤ 127
      · have : x = 120 ∨ x = 122 ∨ x = 123 ∨ x = 124 ∨ x = 125 ∨ x = 126 ∨ x = 127 := by omega
        rcases this with rfl | rfl | rfl | rfl | rfl | rfl | rfl
        · funext i
          show uV (uV (uV W 122 3 (-9)) 120 7 0) 120 8 0 120 i = if i = 7 ∨ i = 8 then 0 else V 120 i
          rw [uV_at, uV_at, uV_ne (by omega), r1 120 (by omega)]
          by_cases q8 : i = 8
          · rw [if_pos q8, if_pos (Or.inr q8)]
          · rw [if_neg q8]
            by_cases q7 : i = 7
            · rw [if_pos q7, if_pos (Or.inl q7)]
            · rw [if_neg q7, if_neg (by omega)]
        · funext i
          show uV (uV (uV W 122 3 (-9)) 120 7 0) 120 8 0 122 i = if i = 3 then -9 else V 122 i
          rw [uV_ne (by omega), uV_ne (by omega), uV_at, r1 122 (by omega)]
        · rw [uV_ne (by omega), uV_ne (by omega), uV_ne (by omega), r2]
          rfl
        · rw [uV_ne (by omega), uV_ne (by omega), uV_ne (by omega), r3]
          rfl
        · rw [uV_ne (by omega), uV_ne (by omega), uV_ne (by omega), r4]
          rfl
        · rw [uV_ne (by omega), uV_ne (by omega), uV_ne (by omega), r5]
          rfl
        · rw [uV_ne (by omega), uV_ne (by omega), uV_ne (by omega), r6]
          rfl
      · rw [P0_o V 0 q, uV_ne (by omega), uV_ne (by omega), uV_ne (by omega), r1 x (by omega)]
    · rw [uV_ne (by omega), uV_ne (by omega), uV_ne (by omega), r1 121 (by omega)]
  | n + 1, k, W, h, ⟨r1, r2, r3, r4, r5, r6⟩ => by
    refine Ev.blk 3 (B136_61 _ _ _ _ ⟨by omega, by omega⟩) rfl ?_
    refine Ev.ite (fun z => absurd (of_decide_eq_true z) (by omega)) (fun _ => ?_)
    refine Ev.blk 16 (B136_66 _ _ _ _ ⟨by omega, by omega⟩) rfl ?_
    rw [show (12 + (k : Int)).toNat = 12 + k by omega]
    refine bl3_lp (L := L) (d := d) hQ n (k + 1) _ (by omega) ⟨fun y hy => ?_, ?_, ?_, ?_, ?_, ?_⟩
    · rw [uV_ne (by omega), uV_ne (by omega)]
      exact r1 y hy
    · rw [uV_ne (by omega), uV_ne (by omega)]
      exact r2
    · rw [uV_ne (by omega), uV_ne (by omega)]
      exact r3
    · rw [uV_ne (by omega), uV_ne (by omega)]
      exact r4
    · rw [uV_ne (by omega)]
      exact rg_s r5
    · exact rg_s (by rw [uV_ne (by omega)]; exact r6)
theorem bl2_lp {L d : Nat} {V : Mv} {b : Bool} {Q : Option AV → Mv → Bool → Prop} (hQ : ∀ W, (∀ x, x ≠ 121 → W x = P0 V 0 x) → W 121 = V 121 → Q none W b) : ∀ (n k : Nat) (W : Mv), k + n = 8 → ((∀ y, ¬ (123 ≤ y ∧ y ≤ 125) → W y = V y) ∧ W 123 = rg (V 123) 192 64 0 ∧ W 124 = rg (V 124) 24 k 0 ∧ W 125 = rg (V 125) 24 k 0) → Ev L d 136 27 [some (.inr (.inr 120)), some (.inl (k : Int))] [] W b Q
  | 0, k, W, h, ⟨r1, r2, r3, r4⟩ => by
    obtain rfl : k = 8 := by omega
    refine Ev.blk 3 (B136_27 _ _ _ _ (by decide)) rfl ?_
    refine Ev.ite (fun _ => ?_) (fun h => absurd h (by decide))
    refine Ev.blk 2 (B136_59 _ _ _ _) rfl ?_
    exact bl3_lp hQ 4 0 W rfl ⟨fun y hy => r1 y (by omega), r2, r3, r4, by rw [rg_0]; exact r1 126 (by omega), by rw [rg_0]; exact r1 127 (by omega)⟩
  | n + 1, k, W, h, ⟨r1, r2, r3, r4⟩ => by
    refine Ev.blk 3 (B136_27 _ _ _ _ ⟨by omega, by omega⟩) rfl ?_
    refine Ev.ite (fun z => absurd (of_decide_eq_true z) (by omega)) (fun _ => ?_)
    refine Ev.blk 16 (B136_33 _ _ _ _ ⟨by omega, by omega⟩) rfl ?_
    rw [show (24 + (k : Int)).toNat = 24 + k by omega]
    refine bl2_lp (L := L) (d := d) hQ n (k + 1) _ (by omega) ⟨fun y hy => ?_, ?_, ?_, ?_⟩
    · rw [uV_ne (by omega), uV_ne (by omega)]
      exact r1 y hy
    · rw [uV_ne (by omega), uV_ne (by omega)]
      exact r2
    · rw [uV_ne (by omega)]
      exact rg_s r3
    · exact rg_s (by rw [uV_ne (by omega)]; exact r4)
theorem bl1_lp {L d : Nat} {V : Mv} {b : Bool} {Q : Option AV → Mv → Bool → Prop} (hQ : ∀ W, (∀ x, x ≠ 121 → W x = P0 V 0 x) → W 121 = V 121 → Q none W b) : ∀ (n k : Nat) (W : Mv), k + n = 64 → ((∀ y, y ≠ 123 → W y = V y) ∧ W 123 = rg (V 123) 192 k 0) → Ev L d 136 2 [some (.inr (.inr 120)), some (.inl (k : Int))] [] W b Q
  | 0, k, W, h, ⟨r1, r2⟩ => by
    obtain rfl : k = 64 := by omega
    refine Ev.blk 3 (B136_2 _ _ _ _ (by decide)) rfl ?_
    refine Ev.ite (fun _ => ?_) (fun h => absurd h (by decide))
    refine Ev.blk 2 (B136_25 _ _ _ _) rfl ?_
    exact bl2_lp hQ 8 0 W rfl ⟨fun y hy => r1 y (by omega), r2, by rw [rg_0]; exact r1 124 (by omega), by rw [rg_0]; exact r1 125 (by omega)⟩
  | n + 1, k, W, h, ⟨r1, r2⟩ => by
    refine Ev.blk 3 (B136_2 _ _ _ _ ⟨by omega, by omega⟩) rfl ?_
    refine Ev.ite (fun z => absurd (of_decide_eq_true z) (by omega)) (fun _ => ?_)
    refine Ev.blk 9 (B136_8 _ _ _ _ ⟨by omega, by omega⟩) rfl ?_
    rw [show (192 + (k : Int)).toNat = 192 + k by omega]
    refine bl1_lp (L := L) (d := d) hQ n (k + 1) _ (by omega) ⟨fun y hy => ?_, rg_s r2⟩
    rw [uV_ne hy]
    exact r1 y hy
theorem x_blank {L d : Nat} {V : Mv} {b : Bool} : Ex L d 136 [.inr (.inr 120)] V b (fun r V' b' => r = none ∧ b' = b ∧ (∀ x, x ≠ 121 → V' x = P0 V 0 x) ∧ V' 121 = V 121) := by
  refine Ev.blk 2 (B136_0 _ _ _) rfl ?_
  exact bl1_lp (fun W h1 h2 => ⟨rfl, rfl, h1, h2⟩) 64 0 V rfl ⟨fun _ _ => rfl, (rg_0 _ _ _).symm⟩
def RF (V : Mv) (b : Bool) (r : Sum Nat Mv) : Option AV → Mv → Bool → Prop := fun v V' b' => b' = b ∧ FRM V V' ∧ RES r (fun f => v = some (.inl (f : Int))) (fun P => v = some (.inl (-9)) ∧ EQ7 V' P)
theorem rt_lp {L d : Nat} {V : Mv} {b : Bool} {T : Nat → Int} {n : Nat} (hB : TB T n) : ∀ (k : Nat) (W P : Mv) (j : Nat), RP W T n P j → FRM V W → n ≤ j + k → j ≤ 200 → Ev L (d + 5) 135 53 [some (.inr (.inr 120))] [] W b (RF V b (prs T n k P j))
  | 0, W, P, j, hR, hV, hk, hj => by
    have hX := hR.1
    have hn := hB.1
    refine Ev.blk 4 (B135_53 _ _ _ (by rw [hX.2.2.2]; decide)) rfl ?_
    refine Ev.ite (fun z => absurd hX.2.2.2 (nd_t z)) (fun _ => ?_)
    refine Ev.blk 5 (B135_62 _ _ _ (by rw [hX.2.2.1]; exact ⟨by omega, by omega⟩) (by rw [hX.1]; exact ⟨by omega, by omega⟩)) rfl ?_
    rw [hX.1, hX.2.2.1]
    refine Ev.ite (fun _ => ?_) (fun z => absurd (of_decide_eq_false z) (by omega))
    refine Ev.blk 2 (B135_89 _ _ _) rfl ?_
    rw [hX.2.2.2]
    exact Ev.ret rfl rfl rfl rfl ⟨rfl, hV, rfl, hR.2.1⟩
  | k + 1, W, P, j, hR, hV, hk, hj => by
    have hX := hR.1
    have hn := hB.1
    refine Ev.blk 4 (B135_53 _ _ _ (by rw [hX.2.2.2]; decide)) rfl ?_
    refine Ev.ite (fun z => absurd hX.2.2.2 (nd_t z)) (fun _ => ?_)
    refine Ev.blk 5 (B135_62 _ _ _ (by rw [hX.2.2.1]; exact ⟨by omega, by omega⟩) (by rw [hX.1]; exact ⟨by omega, by omega⟩)) rfl ?_
    rw [hX.1, hX.2.2.1]
    refine Ev.ite (fun z => ?_) (fun z => ?_)
    · replace z := of_decide_eq_true z
      have e : prs T n (k + 1) P j = .inr P := if_neg (by omega)
      rw [e]
      refine Ev.blk 2 (B135_89 _ _ _) rfl ?_
      rw [hX.2.2.2]
      exact Ev.ret rfl rfl rfl rfl ⟨rfl, hV, rfl, hR.2.1⟩
    · replace z := of_decide_eq_false z
      have e : prs T n (k + 1) P j = (match stp T n P j with
        | .inl f => .inl f
        | .inr p => prs T n k p.2 p.1) := if_pos (by omega)
      rw [e]
      refine Ev.blk 6 (B135_73 _ _ _ (by rw [hX.2.2.1]; omega)) rfl ?_
      rw [hX.2.2.1, Int.toNat_natCast, hX.2.1 j (by omega)]
      refine Ev.call rfl rfl rfl (x_partR (d := d) (V := V) hB hR hV (by omega)) (by omega) ?_
      rintro v V1 b1 ⟨rfl, rfl, g1, g2⟩
      have hg := stp_ge T n P j
      refine Ev.blk 1 (B135_86 _ _ _) rfl ?_
      cases hs : stp T n P j with
      | inl f =>
        rw [hs] at g2 hg
        have g2 : V1 120 12 = (f : Int) := g2
        have hg : f ≤ j + 4 := hg
        refine Ev.blk 4 (B135_53 _ _ _ (by rw [g2]; exact ⟨by omega, by omega⟩)) rfl ?_
        refine Ev.ite (fun _ => ?_) (fun z => absurd (nd_f z) (by rw [g2]; omega))
        refine Ev.blk 2 (B135_89 _ _ _) rfl ?_
        rw [g2]
        exact Ev.ret rfl rfl rfl rfl ⟨rfl, g1, rfl⟩
      | inr p =>
        rw [hs] at g2 hg
        have g2 : RP V1 T n p.2 p.1 := g2
        have hg : j + 2 ≤ p.1 ∧ p.1 ≤ j + 5 := hg
        exact rt_lp (L := L) (d := d) (V := V) (b := b1) hB k V1 p.2 p.1 g2 g1 (by omega) (by omega)
/-- a Kind that begins -/
def BGM (w : Int) : Mv := fun x k => if x = 4 then (if k = 0 then w else if k = 1 then -9 else 0) else if x = 5 then (if k / 8 = k % 8 then 10 else 0) else if x = 10 then -9 else 0
theorem BGM_ok (w : Int) : BG (BGM w) (BGM w) w := by
  refine ⟨fun _ _ => rfl, ⟨rfl, rfl, rfl, rfl⟩, fun a c ha hc => ?_, fun a ha => ⟨rfl, rfl, rfl⟩, fun i hi => ⟨rfl, rfl⟩⟩
  show (if (8 * a + c) / 8 = (8 * a + c) % 8 then (10 : Int) else 0) = _
  by_cases q : a = c
  · rw [if_pos (by omega), if_pos ⟨q, ha⟩]
  · rw [if_neg (by omega), if_neg (fun z => q z.1)]
theorem x_readR {L d : Nat} {V V1 : Mv} {b : Bool} {T : Nat → Int} {n : Nat} (hB : TB T n) (h0 : V 120 10 = (n : Int)) (hT : ∀ i, i < 64 → V 128 i = T i) (hV1 : ∀ x, 120 ≤ x → x ≤ 127 → V x = V1 x) : Ex L (d + 5) 135 [.inr (.inr 120)] V b (RF V b (full T n V1)) := by
  have hn := hB.1
  have hT0 := hB.2 0 (by omega)
  refine Ev.blk 1 (B135_0 _ _ _) rfl ?_
  refine Ev.call rfl rfl rfl (x_blank (d := d)) (by omega) ?_
  rintro v U b1 ⟨rfl, rfl, u1, u2⟩
  have fU : FRM V U := fun y k hy => by
    by_cases q : y = 121
    · rw [q, u2]
    · rw [u1 y q]
      by_cases z : 120 ≤ y ∧ y ≤ 127
      · unfold BDC at hy
        have : y = 120 ∨ y = 122 ∨ y = 123 ∨ y = 124 ∨ y = 125 ∨ y = 126 ∨ y = 127 := by omega
        rcases this with rfl | rfl | rfl | rfl | rfl | rfl | rfl <;> exact if_neg (by omega)
      · rw [P0_o V 0 z]
  have u10 : U 120 10 = (n : Int) := by
    rw [u1 120 (by omega)]
    exact h0
  have u128 : ∀ i, i < 64 → U 128 i = T i := fun i hi => by
    rw [u1 128 (by omega), P0_o V 0 (by omega)]
    exact hT i hi
  have BD : ∀ k, (k = 7 ∨ k = 8 ∨ k = 11 ∨ k = 12) → BDC 120 k := fun k h => Or.inl ⟨rfl, h⟩
  have f2 : FRM V (uV (uV U 120 11 0) 120 12 (-9)) := (fU.up _ (BD 11 (by omega))).up _ (BD 12 (by omega))
  have e10 : uV (uV U 120 11 0) 120 12 (-9) 120 10 = (n : Int) := u10
  have e78 : uV (uV U 120 11 0) 120 12 (-9) 128 (0 : Int).toNat = T 0 := u128 0 (by omega)
  have no : (n = 0 ∨ ¬ T 0 = 78) → Ev L (d + 5) 135 33 [some (.inr (.inr 120))] [] (uV (uV U 120 11 0) 120 12 (-9)) b1 (RF V b1 (full T n V1)) := by
    intro hno
    have e : full T n V1 = .inl 0 := if_pos hno
    rw [e]
    refine Ev.blk 1 (B135_33 _ _ _) rfl ?_
    exact Ev.ret rfl rfl rfl rfl ⟨rfl, f2, rfl⟩
  refine Ev.blk 9 (B135_4 _ _ _ (by rw [e10]; exact ⟨by omega, by omega⟩)) rfl ?_
  rw [e10]
  refine Ev.ite (fun z => ?_) (fun z => ?_)
  · replace z := of_decide_eq_true z
    exact no (Or.inl (by omega))
  · replace z := of_decide_eq_false z
    refine Ev.blk 6 (B135_22 _ _ _ (by rw [e78]; exact ⟨by omega, by omega⟩)) rfl ?_
    rw [e78]
    refine Ev.ite (fun y => ?_) (fun y => ?_)
    · replace y := of_decide_eq_true y
      have hfull : full T n V1 = if fOK T n 1 508 then prs T n 64 (P0 V1 (figN T 1 : Int)) 2 else .inl 1 := if_neg (by omega)
      have hX1 : RXX (uV (uV (uV U 120 11 0) 120 12 (-9)) 120 11 ((1 : Nat) : Int)) T n 1 := ⟨u10, u128, rfl, rfl⟩
      have f3 := f2.up ((1 : Nat) : Int) (BD 11 (by omega))
      refine Ev.blk 8 (B135_35 _ _ _) rfl ?_
      refine Ev.call rfl rfl rfl (x_fig (d := d) (mask := 508) (j := 1) hB hX1 (by omega)) (by omega) ?_
      rintro v V2 b2 ⟨rfl, h⟩
      rcases h with ⟨h1, rfl, rfl⟩ | ⟨h1, rfl, rfl⟩
      · rw [if_pos h1] at hfull
        have a1 := h1.v.2
        have a2 : 2 ≤ figN T 1 ∧ figN T 1 ≤ 8 := by
          have : ∀ v, v < 10 → bit 508 v = true → 2 ≤ v ∧ v ≤ 8 := by decide
          exact this _ (by omega) h1.b
        refine Ev.blk 1 (B135_52 _ _ _ _ _ _ _ (show TT L 121 = (1, 4) from rfl) ⟨by omega, by omega⟩ (by decide)) rfl ?_
        rw [hfull]
        refine rt_lp hB 64 _ _ 2 ⟨⟨u10, u128, rfl, rfl⟩, fun x h1 h2 => ?_, ?_, ?_, ⟨_, kd_beg0 (W := BGM (figN T 1 : Int)) (V := BGM (figN T 1 : Int)) (BGM_ok _) (by omega)⟩, tb_0 _, tb_0 _⟩ ((f3.up _ (BD 11 (by omega))).up _ (Or.inr (Or.inl ⟨rfl, rfl⟩))) (by omega) (by omega)
        · by_cases q : x = 121
          · subst q
            funext i
            show uV (uV (uV (uV (uV U 120 11 0) 120 12 (-9)) 120 11 ((1 : Nat) : Int)) 120 11 ((1 + 1 : Nat) : Int)) 121 3 (figN T 1 : Int) 121 i = if i = 3 then (figN T 1 : Int) else V1 121 i
            rw [uV_at, uV_ne (by omega), uV_ne (by omega), uV_ne (by omega), uV_ne (by omega), u2, hV1 121 (by omega) (by omega)]
          · rw [uV_ne q, uV_ne (by omega), uV_ne (by omega), uV_ne (by omega), uV_ne (by omega), u1 x q]
            exact P0_c (hV1 x (by omega) (by omega)) q (by omega) (by omega)
        · show U 120 7 = 0
          rw [u1 120 (by omega)]
          rfl
        · show U 120 8 = 0
          rw [u1 120 (by omega)]
          rfl
      · rw [if_neg h1] at hfull
        rw [hfull]
        refine Ev.blk 1 (B135_52 _ _ _ _ _ _ _ (show TT L 121 = (1, 4) from rfl) ⟨by omega, by omega⟩ (by decide)) rfl ?_
        refine Ev.blk 4 (B135_53 _ _ _ (by show in32 ((1 : Nat) : Int); decide)) rfl ?_
        refine Ev.ite (fun _ => ?_) (fun z => absurd (nd_f z) (by show ¬ ((1 : Nat) : Int) = -9; decide))
        refine Ev.blk 2 (B135_89 _ _ _) rfl ?_
        exact Ev.ret rfl rfl rfl rfl ⟨rfl, (f3.up _ (BD 12 (by omega))).up _ (Or.inr (Or.inl ⟨rfl, rfl⟩)), rfl⟩
    · replace y := of_decide_eq_false y
      exact no (Or.inr y)
