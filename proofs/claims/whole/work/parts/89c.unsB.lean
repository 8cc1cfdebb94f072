/-! when wear is not seen, the reference, 5 (specs44.py) -/
theorem Wn_congr {n : Nat} {w v : Nat → Int} {W : Int} (h : ∀ a, a < n → w a = v a) (hv : Wn n v W) : Wn n w W := ⟨fun a ha => by rw [h a ha]; exact hv.1 a ha, by rw [sumN_congr n h]; exact hv.2⟩
theorem sum_z {w : Nat → Int} : ∀ n : Nat, (∀ a, a < n → 0 ≤ w a) → sumN w n ≤ 0 → ∀ a, a < n → w a = 0
  | 0, _, _ => fun a ha => absurd ha (by omega)
  | n + 1, h, hs => fun a ha => by
    have h1 := sumN_nn n (fun i hi => h i (by omega))
    have h2 := h n (by omega)
    have h3 : sumN w (n + 1) = sumN w n + w n := rfl
    rcases Nat.lt_or_ge a n with q | q
    · exact sum_z n (fun i hi => h i (by omega)) (by omega) a q
    · obtain rfl : a = n := by omega
      omega
theorem xB_1 {L m n1 : Nat} {G : Nat → Nat → Int} {kq co mc mw : Nat → Int} {lk : Int} (hm : m < 3) (hB : UB n1 G kq co mc mw lk) (hX : XL L 216 m n1 G kq co mc mw lk 0 32) : XB L 215 m n1 G kq co mc mw lk 1 16 := by
  obtain ⟨l, hlv⟩ : ∃ l, l = 0 := ⟨_, rfl⟩
  suffices hS : XB L 215 m n1 G kq co mc mw lk (l + 1) 16 by
    rw [hlv] at hS
    exact hS
  intro V b v hU hv hz hW
  have hl : l ≤ 1 := by omega
  have hcs : pw 100 (l + 1) = 100 := by rw [hlv]; rfl
  rw [← hlv] at hX
  have h8 := hB.1.2.1
  have hwb := wB_b (l := l) (by omega)
  have hC : ∀ u : Int, (uC G kq co mc mw lk n1 l (pdz G kq n1 v u)).1 = (uC G kq co mc mw lk n1 l (pd G kq v u)).1 := fun u => congrArg Prod.fst (chU_congr (uG_congr G kq co mc mw lk n1 l) (fun a ha => if_pos ha))
  have hWp : ∀ u : Int, Wn n1 (pdz G kq n1 v u) (wB l) := fun u => Wn_congr (fun a ha => if_pos ha) ((pd_Wn h8 hB.1.2.2.1 hB.2.1 hW).le (wB_s hl))
  have hZp : ∀ u : Int, Zb n1 (pdz G kq n1 v u) := fun u a h1 h2 => if_neg (by omega)
  have hfin : ∀ c1 c0 : Int, c1 = (uC G kq co mc mw lk n1 l (pd G kq v 1)).1 → c0 = (uC G kq co mc mw lk n1 l (pd G kq v 0)).1 → 100 * sumN (fun a => v a * co a) 8 + c1 + c0 = uG G kq co mc mw lk n1 (l + 1) v := by
    intro c1 c0 e1 e0
    subst e1 e0
    show _ = goV G kq co n1 (l + 1) (fun w => (chU mc mw lk n1 l (uG G kq co mc mw lk n1 l) w).1) v
    unfold goV cS
    rw [if_neg (by omega), hcs, Int.mul_comm 100, Int.add_assoc, sum8 (w := fun a => v a * co a) (fun a q1 q2 => by show v a * co a = 0; rw [hz a q1 q2, Int.zero_mul]) h8]
    rfl
  have k72 : ∀ (c1 c0 : Int) (W : Mv), c1 = (uC G kq co mc mw lk n1 l (pd G kq v 1)).1 → c0 = (uC G kq co mc mw lk n1 l (pd G kq v 0)).1 → (∀ y, y ≠ 120 → y ≠ 142 → W y = V y) → (∀ j, j ≠ 33 → W 120 j = V 120 j) → (∀ j, j < 16 + 16 → W 142 j = V 142 j) → Ev L (3 * (l + 1) + 2) 215 72 [some (.inr (.inr 120)), some (.inl (m : Int)), some (.inr (.inl (100 * sumN (fun a => v a * co a) 8 + c1))), none] [.inr (.inl c0), .inr (.inl (100 * sumN (fun a => v a * co a) 8 + c1))] W b (fun r V' b' => r = some (.inr (.inl (uG G kq co mc mw lk n1 (l + 1) v))) ∧ b' = b ∧ (∀ y, y ≠ 120 → y ≠ 142 → V' y = V y) ∧ (∀ j, j ≠ 33 → V' 120 j = V 120 j) ∧ (∀ j, j < 16 + 16 → V' 142 j = V 142 j)) := by
    intro c1 c0 W e1 e0 w1 w2 w3
    refine Ev.blk 1 (B215_72 _ _ _ _ _ _ _) rfl ?_
    exact Ev.ret rfl rfl rfl rfl ⟨by rw [hfin c1 c0 e1 e0], rfl, w1, w2, w3⟩
  have k41 : ∀ (c1 : Int) (W : Mv), c1 = (uC G kq co mc mw lk n1 l (pd G kq v 1)).1 → (∀ y, y ≠ 120 → y ≠ 142 → W y = V y) → (∀ j, j ≠ 33 → W 120 j = V 120 j) → (∀ j, j < 16 + 16 → W 142 j = V 142 j) → Ev L (3 * (l + 1) + 2) 215 41 [some (.inr (.inr 120)), some (.inl (m : Int)), some (.inr (.inl (100 * sumN (fun a => v a * co a) 8))), none] [.inr (.inl c1), .inr (.inl (100 * sumN (fun a => v a * co a) 8))] W b (fun r V' b' => r = some (.inr (.inl (uG G kq co mc mw lk n1 (l + 1) v))) ∧ b' = b ∧ (∀ y, y ≠ 120 → y ≠ 142 → V' y = V y) ∧ (∀ j, j ≠ 33 → V' 120 j = V 120 j) ∧ (∀ j, j < 16 + 16 → V' 142 j = V 142 j)) := by
    intro c1 W e1 w1 w2 w3
    have hUW : UR W m n1 G kq co mc mw lk := hU.frame (fun y q1 q2 => w1 y (by omega) (by omega))
    have hvW : ∀ a, a < 8 → W 142 (16 + 8 + a) = v a := fun a ha => by rw [w3 _ (by omega)]; exact hv a ha
    refine Ev.blk 6 (B215_41 _ _ _ _ _ _ _) rfl ?_
    refine Ev.call rfl rfl rfl (x_goR (d := 3 * l) (f := 16 + 8) (u := 0) (w := v) hm hUW hB (by omega) (by decide) hvW) (by omega) ?_
    rintro v1 V1 b1 ⟨rfl, rfl, g1, g2, g3⟩
    have hU1 : UR V1 m n1 G kq co mc mw lk := hUW.frame (fun y q1 q2 => g1 y (by omega))
    refine Ev.blk 3 (B215_51 _ _ _ _ _) rfl ?_
    refine Ev.call rfl rfl rfl (x_sumAt (d := 3 * l) (f := 16 + 16) (w := pdz G kq n1 v 0) (by omega) g3) (by omega) ?_
    rintro v2 V' b' ⟨rfl, h_, g_⟩
    subst V' b'
    rw [sum8 (hZp 0) h8]
    have hs1 := sumN_nn n1 (hWp 0).1
    have hs2 := (hWp 0).2
    refine Ev.blk 3 (B215_58 _ _ _ _ _ _ _ ⟨by omega, by omega⟩ (cmpI_in _ _)) rfl ?_
    refine Ev.ite (fun z => ?_) (fun z => ?_)
    · have z := (cmpI_le _ _).mp (of_decide_eq_true z)
      refine Ev.blk 1 (B215_71 _ _ _ _ _ _) rfl ?_
      refine (fun c0 Z e0 => k72 c1 c0 Z e1 e0) 0 V1 ?_ ?_ ?_ ?_
      · rw [← hC 0]
        unfold uC
        rw [chU_congr (uG_congr G kq co mc mw lk n1 l) (v := fun _ => 0) (sum_z n1 (hWp 0).1 z), chU_0 (uG_hm G kq co mc mw lk n1 l)]
      · intro y q1 q2
        rw [g1 y q2, w1 y q1 q2]
      · intro j hj
        rw [g1 120 (by omega), w2 j hj]
      · intro j hj
        rw [g2 j (by omega), w3 j hj]
    · refine Ev.blk 2 (B215_63 _ _ _ _ _ _) rfl ?_
      refine Ev.call rfl rfl rfl (hX V1 _ (pdz G kq n1 v 0) hU1 g3 (hZp 0) (hWp 0)) (by omega) ?_
      rintro v2 V2 b2 ⟨rfl, rfl, k1, k2, k3, k4⟩
      refine Ev.blk 1 (B215_68 _ _ _ _ _ _ _) rfl ?_
      refine (fun c0 Z e0 => k72 c1 c0 Z e1 e0) _ V2 (hC 0) ?_ ?_ ?_
      · intro y q1 q2
        rw [k1 y q1 q2, g1 y q2, w1 y q1 q2]
      · intro j hj
        rw [k2 j hj, g1 120 (by omega), w2 j hj]
      · intro j hj
        rw [k3 j (by omega), g2 j (by omega), w3 j hj]
  have w1 : ∀ y, y ≠ 120 → y ≠ 142 → V y = V y := fun _ _ _ => rfl
  have w2 : ∀ j, j ≠ 33 → V 120 j = V 120 j := fun _ _ => rfl
  have w3 : ∀ j, j < 16 + 16 → V 142 j = V 142 j := fun _ _ => rfl
  have hUW := hU
  have hvW := hv
  refine Ev.blk 4 (B215_0 _ _ _ _) rfl ?_
  refine Ev.call rfl rfl rfl (x_runs (d := 3 * l) (f := 16 + 8) (w := v) hm hU hB (by omega) hv) (by omega) ?_
  rintro v0 V' b' ⟨rfl, h_, g_⟩
  subst V' b'
  refine Ev.blk 6 (B215_10 _ _ _ _ _ _) rfl ?_
  refine Ev.call rfl rfl rfl (x_goR (d := 3 * l) (f := 16 + 8) (u := 1) (w := v) hm hUW hB (by omega) (by decide) hvW) (by omega) ?_
  rintro v1 V1 b1 ⟨rfl, rfl, g1, g2, g3⟩
  have hU1 : UR V1 m n1 G kq co mc mw lk := hUW.frame (fun y q1 q2 => g1 y (by omega))
  refine Ev.blk 3 (B215_20 _ _ _ _ _) rfl ?_
  refine Ev.call rfl rfl rfl (x_sumAt (d := 3 * l) (f := 16 + 16) (w := pdz G kq n1 v 1) (by omega) g3) (by omega) ?_
  rintro v2 V' b' ⟨rfl, h_, g_⟩
  subst V' b'
  rw [sum8 (hZp 1) h8]
  have hs1 := sumN_nn n1 (hWp 1).1
  have hs2 := (hWp 1).2
  refine Ev.blk 3 (B215_27 _ _ _ _ _ _ _ ⟨by omega, by omega⟩ (cmpI_in _ _)) rfl ?_
  refine Ev.ite (fun z => ?_) (fun z => ?_)
  · have z := (cmpI_le _ _).mp (of_decide_eq_true z)
    refine Ev.blk 1 (B215_40 _ _ _ _ _ _) rfl ?_
    refine k41 0 V1 ?_ ?_ ?_ ?_
    · rw [← hC 1]
      unfold uC
      rw [chU_congr (uG_congr G kq co mc mw lk n1 l) (v := fun _ => 0) (sum_z n1 (hWp 1).1 z), chU_0 (uG_hm G kq co mc mw lk n1 l)]
    · intro y q1 q2
      rw [g1 y q2, w1 y q1 q2]
    · intro j hj
      rw [g1 120 (by omega), w2 j hj]
    · intro j hj
      rw [g2 j (by omega), w3 j hj]
  · refine Ev.blk 2 (B215_32 _ _ _ _ _ _) rfl ?_
    refine Ev.call rfl rfl rfl (hX V1 _ (pdz G kq n1 v 1) hU1 g3 (hZp 1) (hWp 1)) (by omega) ?_
    rintro v2 V2 b2 ⟨rfl, rfl, k1, k2, k3, k4⟩
    refine Ev.blk 1 (B215_37 _ _ _ _ _ _ _) rfl ?_
    refine k41 _ V2 (hC 1) ?_ ?_ ?_
    · intro y q1 q2
      rw [k1 y q1 q2, g1 y q2, w1 y q1 q2]
    · intro j hj
      rw [k2 j hj, g1 120 (by omega), w2 j hj]
    · intro j hj
      rw [k3 j (by omega), g2 j (by omega), w3 j hj]
theorem xB_2 {L m n1 : Nat} {G : Nat → Nat → Int} {kq co mc mw : Nat → Int} {lk : Int} (hm : m < 3) (hB : UB n1 G kq co mc mw lk) (hX : XL L 213 m n1 G kq co mc mw lk 1 16) : XB L 210 m n1 G kq co mc mw lk 2 0 := by
  obtain ⟨l, hlv⟩ : ∃ l, l = 1 := ⟨_, rfl⟩
  suffices hS : XB L 210 m n1 G kq co mc mw lk (l + 1) 0 by
    rw [hlv] at hS
    exact hS
  intro V b v hU hv hz hW
  have hl : l ≤ 1 := by omega
  have hcs : pw 100 (l + 1) = 10000 := by rw [hlv]; rfl
  rw [← hlv] at hX
  have h8 := hB.1.2.1
  have hwb := wB_b (l := l) (by omega)
  have hC : ∀ u : Int, (uC G kq co mc mw lk n1 l (pdz G kq n1 v u)).1 = (uC G kq co mc mw lk n1 l (pd G kq v u)).1 := fun u => congrArg Prod.fst (chU_congr (uG_congr G kq co mc mw lk n1 l) (fun a ha => if_pos ha))
  have hWp : ∀ u : Int, Wn n1 (pdz G kq n1 v u) (wB l) := fun u => Wn_congr (fun a ha => if_pos ha) ((pd_Wn h8 hB.1.2.2.1 hB.2.1 hW).le (wB_s hl))
  have hZp : ∀ u : Int, Zb n1 (pdz G kq n1 v u) := fun u a h1 h2 => if_neg (by omega)
  have hfin : ∀ c1 c0 : Int, c1 = (uC G kq co mc mw lk n1 l (pd G kq v 1)).1 → c0 = (uC G kq co mc mw lk n1 l (pd G kq v 0)).1 → 10000 * sumN (fun a => v a * co a) 8 + c1 + c0 = uG G kq co mc mw lk n1 (l + 1) v := by
    intro c1 c0 e1 e0
    subst e1 e0
    show _ = goV G kq co n1 (l + 1) (fun w => (chU mc mw lk n1 l (uG G kq co mc mw lk n1 l) w).1) v
    unfold goV cS
    rw [if_neg (by omega), hcs, Int.mul_comm 10000, Int.add_assoc, sum8 (w := fun a => v a * co a) (fun a q1 q2 => by show v a * co a = 0; rw [hz a q1 q2, Int.zero_mul]) h8]
    rfl
  have k72 : ∀ (c1 c0 : Int) (W : Mv), c1 = (uC G kq co mc mw lk n1 l (pd G kq v 1)).1 → c0 = (uC G kq co mc mw lk n1 l (pd G kq v 0)).1 → (∀ y, y ≠ 120 → y ≠ 142 → W y = V y) → (∀ j, j ≠ 33 → W 120 j = V 120 j) → (∀ j, j < 0 + 16 → W 142 j = V 142 j) → Ev L (3 * (l + 1) + 2) 210 72 [some (.inr (.inr 120)), some (.inl (m : Int)), some (.inr (.inl (10000 * sumN (fun a => v a * co a) 8 + c1))), none] [.inr (.inl c0), .inr (.inl (10000 * sumN (fun a => v a * co a) 8 + c1))] W b (fun r V' b' => r = some (.inr (.inl (uG G kq co mc mw lk n1 (l + 1) v))) ∧ b' = b ∧ (∀ y, y ≠ 120 → y ≠ 142 → V' y = V y) ∧ (∀ j, j ≠ 33 → V' 120 j = V 120 j) ∧ (∀ j, j < 0 + 16 → V' 142 j = V 142 j)) := by
    intro c1 c0 W e1 e0 w1 w2 w3
    refine Ev.blk 1 (B210_72 _ _ _ _ _ _ _) rfl ?_
    exact Ev.ret rfl rfl rfl rfl ⟨by rw [hfin c1 c0 e1 e0], rfl, w1, w2, w3⟩
  have k41 : ∀ (c1 : Int) (W : Mv), c1 = (uC G kq co mc mw lk n1 l (pd G kq v 1)).1 → (∀ y, y ≠ 120 → y ≠ 142 → W y = V y) → (∀ j, j ≠ 33 → W 120 j = V 120 j) → (∀ j, j < 0 + 16 → W 142 j = V 142 j) → Ev L (3 * (l + 1) + 2) 210 41 [some (.inr (.inr 120)), some (.inl (m : Int)), some (.inr (.inl (10000 * sumN (fun a => v a * co a) 8))), none] [.inr (.inl c1), .inr (.inl (10000 * sumN (fun a => v a * co a) 8))] W b (fun r V' b' => r = some (.inr (.inl (uG G kq co mc mw lk n1 (l + 1) v))) ∧ b' = b ∧ (∀ y, y ≠ 120 → y ≠ 142 → V' y = V y) ∧ (∀ j, j ≠ 33 → V' 120 j = V 120 j) ∧ (∀ j, j < 0 + 16 → V' 142 j = V 142 j)) := by
    intro c1 W e1 w1 w2 w3
    have hUW : UR W m n1 G kq co mc mw lk := hU.frame (fun y q1 q2 => w1 y (by omega) (by omega))
    have hvW : ∀ a, a < 8 → W 142 (0 + 8 + a) = v a := fun a ha => by rw [w3 _ (by omega)]; exact hv a ha
    refine Ev.blk 6 (B210_41 _ _ _ _ _ _ _) rfl ?_
    refine Ev.call rfl rfl rfl (x_goR (d := 3 * l) (f := 0 + 8) (u := 0) (w := v) hm hUW hB (by omega) (by decide) hvW) (by omega) ?_
    rintro v1 V1 b1 ⟨rfl, rfl, g1, g2, g3⟩
    have hU1 : UR V1 m n1 G kq co mc mw lk := hUW.frame (fun y q1 q2 => g1 y (by omega))
    refine Ev.blk 3 (B210_51 _ _ _ _ _) rfl ?_
    refine Ev.call rfl rfl rfl (x_sumAt (d := 3 * l) (f := 0 + 16) (w := pdz G kq n1 v 0) (by omega) g3) (by omega) ?_
    rintro v2 V' b' ⟨rfl, h_, g_⟩
    subst V' b'
    rw [sum8 (hZp 0) h8]
    have hs1 := sumN_nn n1 (hWp 0).1
    have hs2 := (hWp 0).2
    refine Ev.blk 3 (B210_58 _ _ _ _ _ _ _ ⟨by omega, by omega⟩ (cmpI_in _ _)) rfl ?_
    refine Ev.ite (fun z => ?_) (fun z => ?_)
    · have z := (cmpI_le _ _).mp (of_decide_eq_true z)
      refine Ev.blk 1 (B210_71 _ _ _ _ _ _) rfl ?_
      refine (fun c0 Z e0 => k72 c1 c0 Z e1 e0) 0 V1 ?_ ?_ ?_ ?_
      · rw [← hC 0]
        unfold uC
        rw [chU_congr (uG_congr G kq co mc mw lk n1 l) (v := fun _ => 0) (sum_z n1 (hWp 0).1 z), chU_0 (uG_hm G kq co mc mw lk n1 l)]
      · intro y q1 q2
        rw [g1 y q2, w1 y q1 q2]
      · intro j hj
        rw [g1 120 (by omega), w2 j hj]
      · intro j hj
        rw [g2 j (by omega), w3 j hj]
    · refine Ev.blk 2 (B210_63 _ _ _ _ _ _) rfl ?_
      refine Ev.call rfl rfl rfl (hX V1 _ (pdz G kq n1 v 0) hU1 g3 (hZp 0) (hWp 0)) (by omega) ?_
      rintro v2 V2 b2 ⟨rfl, rfl, k1, k2, k3, k4⟩
      refine Ev.blk 1 (B210_68 _ _ _ _ _ _ _) rfl ?_
      refine (fun c0 Z e0 => k72 c1 c0 Z e1 e0) _ V2 (hC 0) ?_ ?_ ?_
      · intro y q1 q2
        rw [k1 y q1 q2, g1 y q2, w1 y q1 q2]
      · intro j hj
        rw [k2 j hj, g1 120 (by omega), w2 j hj]
      · intro j hj
        rw [k3 j (by omega), g2 j (by omega), w3 j hj]
  have w1 : ∀ y, y ≠ 120 → y ≠ 142 → V y = V y := fun _ _ _ => rfl
  have w2 : ∀ j, j ≠ 33 → V 120 j = V 120 j := fun _ _ => rfl
  have w3 : ∀ j, j < 0 + 16 → V 142 j = V 142 j := fun _ _ => rfl
  have hUW := hU
  have hvW := hv
  refine Ev.blk 4 (B210_0 _ _ _ _) rfl ?_
  refine Ev.call rfl rfl rfl (x_runs (d := 3 * l) (f := 0 + 8) (w := v) hm hU hB (by omega) hv) (by omega) ?_
  rintro v0 V' b' ⟨rfl, h_, g_⟩
  subst V' b'
  refine Ev.blk 6 (B210_10 _ _ _ _ _ _) rfl ?_
  refine Ev.call rfl rfl rfl (x_goR (d := 3 * l) (f := 0 + 8) (u := 1) (w := v) hm hUW hB (by omega) (by decide) hvW) (by omega) ?_
  rintro v1 V1 b1 ⟨rfl, rfl, g1, g2, g3⟩
  have hU1 : UR V1 m n1 G kq co mc mw lk := hUW.frame (fun y q1 q2 => g1 y (by omega))
  refine Ev.blk 3 (B210_20 _ _ _ _ _) rfl ?_
  refine Ev.call rfl rfl rfl (x_sumAt (d := 3 * l) (f := 0 + 16) (w := pdz G kq n1 v 1) (by omega) g3) (by omega) ?_
  rintro v2 V' b' ⟨rfl, h_, g_⟩
  subst V' b'
  rw [sum8 (hZp 1) h8]
  have hs1 := sumN_nn n1 (hWp 1).1
  have hs2 := (hWp 1).2
  refine Ev.blk 3 (B210_27 _ _ _ _ _ _ _ ⟨by omega, by omega⟩ (cmpI_in _ _)) rfl ?_
  refine Ev.ite (fun z => ?_) (fun z => ?_)
  · have z := (cmpI_le _ _).mp (of_decide_eq_true z)
    refine Ev.blk 1 (B210_40 _ _ _ _ _ _) rfl ?_
    refine k41 0 V1 ?_ ?_ ?_ ?_
    · rw [← hC 1]
      unfold uC
      rw [chU_congr (uG_congr G kq co mc mw lk n1 l) (v := fun _ => 0) (sum_z n1 (hWp 1).1 z), chU_0 (uG_hm G kq co mc mw lk n1 l)]
    · intro y q1 q2
      rw [g1 y q2, w1 y q1 q2]
    · intro j hj
      rw [g1 120 (by omega), w2 j hj]
    · intro j hj
      rw [g2 j (by omega), w3 j hj]
  · refine Ev.blk 2 (B210_32 _ _ _ _ _ _) rfl ?_
    refine Ev.call rfl rfl rfl (hX V1 _ (pdz G kq n1 v 1) hU1 g3 (hZp 1) (hWp 1)) (by omega) ?_
    rintro v2 V2 b2 ⟨rfl, rfl, k1, k2, k3, k4⟩
    refine Ev.blk 1 (B210_37 _ _ _ _ _ _ _) rfl ?_
    refine k41 _ V2 (hC 1) ?_ ?_ ?_
    · intro y q1 q2
      rw [k1 y q1 q2, g1 y q2, w1 y q1 q2]
    · intro j hj
      rw [k2 j hj, g1 120 (by omega), w2 j hj]
    · intro j hj
      rw [k3 j (by omega), g2 j (by omega), w3 j hj]
