/-! when wear is not seen, the reference, 4 (specs43.py) -/
theorem xA_0 {L m n1 : Nat} {G : Nat → Nat → Int} {kq co mc mw : Nat → Int} {lk : Int} (hm : m < 3) (hB : UB n1 G kq co mc mw lk) : XA L 217 m n1 G kq co mc mw lk 0 32 := by
  intro V b w x hU hw hz hW hx
  obtain ⟨l, hlv⟩ : ∃ l, l = 0 := ⟨_, rfl⟩
  have hl : l ≤ 2 := by omega
  have hcs : pw 100 l = 1 := by rw [hlv]; rfl
  have hgc : ∀ v, Zb n1 v → sumN (fun a => v a * co a) 8 = uG G kq co mc mw lk n1 l v := fun v hv => by
    rw [hlv]
    show _ = goV G kq co n1 0 (fun _ => 0) v
    unfold goV cS
    rw [if_pos rfl, Int.add_zero, show pw 100 0 = 1 from rfl, Int.mul_one]
    exact sum8 (w := fun a => v a * co a) (fun a q1 q2 => by show v a * co a = 0; rw [hv a q1 q2, Int.zero_mul]) hB.1.2.1
  rw [← hlv] at hW ⊢
  have h8 := hB.1.2.1
  have hZ : Zb n1 (onl w x) := onl_Z hz
  have hWo : Wn n1 (onl w x) (wB l) := onl_W hW
  have hg := uG_bd hB l hl
  have hsn := sumN_nn n1 hWo.1
  have hwb := wB_b hl
  have hkb := KG_b hl
  have hK2 : KG l * wB l = wB l * KG l := Int.mul_comm _ _
  have hme := meV_nn (mw := mw) hg hB.1.2.2.2.2.2 hl
  have hac := fun i (hi : i ≤ 4) => acV_bd (mw := mw) (mc := mc) (l := l) (n := n1) hsn (hg (onl w x) (wB l) hWo) (fun i hi => Or.inr (hme i hi).1) i hi
  have hS8 := sum8 hZ h8
  have lp : ∀ (n k : Nat) (W : Mv), k + n = 4 → (∀ y, y ≠ 120 → y ≠ 142 → W y = V y) → (∀ j, j ≠ 33 → W 120 j = V 120 j) → (∀ j, j < 32 + 8 → W 142 j = V 142 j) → W 120 33 = (acV mc mw n1 l (uG G kq co mc mw lk n1 l) (onl w x) k).2 → Ev L (3 * l + 3) 217 7 [some (.inr (.inr 120)), some (.inl (m : Int)), some (.inl x), some (.inr (.inl (acV mc mw n1 l (uG G kq co mc mw lk n1 l) (onl w x) k).1)), none, some (.inl ((k : Int) + 1)), none, none] [] W b (fun r V' b' => r = some (.inr (.inl (acV mc mw n1 l (uG G kq co mc mw lk n1 l) (onl w x) 4).1)) ∧ b' = b ∧ (∀ y, y ≠ 120 → y ≠ 142 → V' y = V y) ∧ (∀ j, j ≠ 33 → V' 120 j = V 120 j) ∧ (∀ j, j < 32 + 8 → V' 142 j = V 142 j) ∧ V' 120 33 = (acV mc mw n1 l (uG G kq co mc mw lk n1 l) (onl w x) 4).2) := by
    intro n
    induction n with
    | zero =>
      intro k W h w1 w2 w3 w4
      obtain rfl : k = 4 := by omega
      refine Ev.blk 3 (B217_7 _ _ _ _ _ _ _ (by decide)) rfl ?_
      refine Ev.ite (fun _ => ?_) (fun h => absurd h (by decide))
      refine Ev.blk 1 (B217_98 _ _ _ _ _ _ _) rfl ?_
      exact Ev.ret rfl rfl rfl rfl ⟨rfl, rfl, w1, w2, w3, w4⟩
    | succ n ih =>
      intro k W h w1 w2 w3 w4
      have hU2 : UR W m n1 G kq co mc mw lk := hU.frame (fun y q1 q2 => w1 y (by omega) (by omega))
      have hw2 : ∀ a, a < 8 → W 142 (32 + a) = w a := fun a ha => by rw [w3 _ (by omega)]; exact hw a ha
      have hmb := hB.1.2.2.2.2.1 k (by omega)
      have hmk := hme k (by omega)
      have hSM := mulb (x := sumN (onl w x) n1) (y := meV mc mw l (uG G kq co mc mw lk n1 l) k) (A := wB l) (B := 99 * pw 100 l + KG l) ⟨hsn, hWo.2⟩ hmk
      have hak := hac k (by omega)
      refine Ev.blk 3 (B217_7 _ _ _ _ _ _ _ ⟨by omega, by omega⟩) rfl ?_
      refine Ev.ite (fun z => absurd (of_decide_eq_true z) (by omega)) (fun _ => ?_)
      refine Ev.blk 3 (B217_13 _ _ _ _ _ _ _) rfl ?_
      refine Ev.call rfl rfl rfl (x_there (d := 3 * l) (i := k) hm hU2 hB (by omega)) (by omega) ?_
      rintro v V' b' ⟨rfl, h_, g_⟩
      subst V' b'
      refine Ev.blk 1 (B217_20 _ _ _ _ _ _ _ _ (b01_in _)) rfl ?_
      refine Ev.ite (fun z => ?_) (fun z => ?_)
      · replace z := b01_0 (of_decide_eq_true z)
        have e := acV_f (mc := mc) (mw := mw) (n := n1) (l := l) (g := uG G kq co mc mw lk n1 l) (w := onl w x) (i := k) (fun y => z y.1)
        have ih2 := ih (k + 1) W (by omega) w1 w2 w3 (by rw [e]; exact w4)
        rw [e] at ih2
        refine Ev.blk 2 (B217_92 _ _ _ _ _ _ _) rfl ?_
        exact ih2
      · replace z := b01_1 (of_decide_eq_false z)
        refine Ev.blk 5 (B217_23 _ _ _ _ _ _ _) rfl ?_
        refine Ev.call rfl rfl rfl (x_lay1 (d := 3 * l) (f := 32) (i := k) (x := x) (w := w) hm hU2 hB (by omega) (by omega) z (by omega) hw2) (by omega) ?_
        rintro v V1 b1 ⟨rfl, rfl, l1, l2, l3⟩
        have hU3 : UR V1 m n1 G kq co mc mw lk := hU2.frame (fun y q1 q2 => l1 y (by omega))
        refine Ev.blk 3 (B217_33 _ _ _ _ _ _ _) rfl ?_
        refine Ev.call rfl rfl rfl (x_price (d := 3 * l) (i := k) hm hU3 hB (by omega)) (by omega) ?_
        rintro v V' b' ⟨rfl, h_, g_⟩
        subst V' b'
        have hcb := hB.1.2.2.2.2.2 k (by omega)
        refine Ev.blk 3 (B217_40 _ _ _ _ _ _ _ _ ⟨by omega, by omega⟩) rfl ?_
        refine Ev.call rfl rfl rfl (x_sumAt (d := 3 * l) (f := 32 + 8) (w := fun a => sumN (onl w x) 8 * one1 (mw k) a) (by omega) l3) (by omega) ?_
        rintro v V' b' ⟨rfl, h_, g_⟩
        subst V' b'
        have hZ1 : Zb n1 (fun a => sumN (onl w x) 8 * one1 (mw k) a) := one1_Z (by omega)
        rw [sum8 hZ1 h8, sumN_mul, one1_sum (by omega), Int.mul_one, hS8]
        refine Ev.blk 4 (B217_47 _ _ _ _ _ _ _ _ _) rfl ?_
        refine Ev.call rfl rfl rfl (x_runs (d := 3 * l) (f := 32 + 8) (w := fun a => sumN (onl w x) 8 * one1 (mw k) a) hm hU3 hB (by omega) l3) (by omega) ?_
        rintro v V' b' ⟨rfl, h_, g_⟩
        subst V' b'
        rw [hgc _ hZ1, hS8, uG_hm G kq co mc mw lk n1 l (sumN (onl w x) n1) (one1 (mw k)) hsn]
        have ev : mc k * sumN (onl w x) n1 + sumN (onl w x) n1 * uG G kq co mc mw lk n1 l (one1 (mw k)) = sumN (onl w x) n1 * meV mc mw l (uG G kq co mc mw lk n1 l) k := by
          rw [show sumN (onl w x) n1 * meV mc mw l (uG G kq co mc mw lk n1 l) k = sumN (onl w x) n1 * (mc k * pw 100 l + uG G kq co mc mw lk n1 l (one1 (mw k))) from rfl, hcs, Int.mul_one, Int.mul_add, Int.mul_comm (mc k)]
        have fr : ∀ s1 : Int, (∀ y, y ≠ 120 → y ≠ 142 → uV V1 120 33 s1 y = V y) ∧ (∀ j, j ≠ 33 → uV V1 120 33 s1 120 j = V 120 j) ∧ (∀ j, j < 32 + 8 → uV V1 120 33 s1 142 j = V 142 j) ∧ uV V1 120 33 s1 120 33 = s1 := fun s1 => by
          refine ⟨fun y q1 q2 => ?_, fun j hj => ?_, fun j hj => ?_, ?_⟩
          · rw [uV_ne q1, l1 y q2, w1 y q1 q2]
          · rw [uV_at, if_neg hj, l1 120 (by omega), w2 j hj]
          · rw [uV_ne (by omega), l2 j (by omega), w3 j hj]
          · rw [uV_at, if_pos rfl]
        refine Ev.blk 7 (B217_55 _ _ _ _ _ _ _ _ _ (by rw [ev]; exact ⟨by omega, by omega⟩) ⟨by omega, by omega⟩ (cmpI_in _ _)) rfl ?_
        rw [ev]
        refine Ev.ite (fun y => ?_) (fun y => ?_)
        · have y : (acV mc mw n1 l (uG G kq co mc mw lk n1 l) (onl w x) k).1 ≤ sumN (onl w x) n1 * meV mc mw l (uG G kq co mc mw lk n1 l) k := (cmpI_ge _ _).mp (of_decide_eq_true y)
          have e := acV_f (mc := mc) (mw := mw) (n := n1) (l := l) (g := uG G kq co mc mw lk n1 l) (w := onl w x) (i := k) (fun y2 => absurd y2.2 (by omega))
          refine Ev.blk 2 (B217_71 _ _ _ _ _ _ _ _) rfl ?_
          have f := fr (V1 120 33)
          have ih2 := ih (k + 1) _ (by omega) f.1 f.2.1 f.2.2.1 (by rw [f.2.2.2, l1 120 (by omega), w4, e])
          rw [e] at ih2
          refine Ev.blk 5 (B217_75 _ _ _ _ _ _ _ _ _ ⟨by omega, by omega⟩ ⟨by omega, by omega⟩ (cmpI_in _ _)) rfl ?_
          refine Ev.ite (fun _ => ?_) (fun y2 => absurd ((cmpI_ge _ _).mpr y) (of_decide_eq_false y2))
          refine Ev.blk 1 (B217_90 _ _ _ _ _ _ _ _) rfl ?_
          refine Ev.blk 1 (B217_91 _ _ _ _ _ _ _ _ _) rfl ?_
          refine Ev.kill [false, false, false, false, false, false, true] ?_
          dsimp only [mkl]
          refine Ev.blk 2 (B217_92 _ _ _ _ _ _ _) rfl ?_
          exact ih2
        · have y : ¬ (acV mc mw n1 l (uG G kq co mc mw lk n1 l) (onl w x) k).1 ≤ sumN (onl w x) n1 * meV mc mw l (uG G kq co mc mw lk n1 l) k := fun y2 => of_decide_eq_false y ((cmpI_ge _ _).mpr y2)
          have e := acV_t (mc := mc) (mw := mw) (n := n1) (l := l) (g := uG G kq co mc mw lk n1 l) (w := onl w x) (i := k) z (by omega)
          refine Ev.blk 2 (B217_66 _ _ _ _ _ _ _ _) rfl ?_
          have f := fr ((k : Int) + 1)
          have ih2 := ih (k + 1) _ (by omega) f.1 f.2.1 f.2.2.1 (by rw [f.2.2.2, e])
          rw [e] at ih2
          refine Ev.blk 5 (B217_75 _ _ _ _ _ _ _ _ _ ⟨by omega, by omega⟩ ⟨by omega, by omega⟩ (cmpI_in _ _)) rfl ?_
          refine Ev.ite (fun y2 => absurd ((cmpI_ge _ _).mp (of_decide_eq_true y2)) y) (fun _ => ?_)
          refine Ev.blk 2 (B217_85 _ _ _ _ _ _ _ _) rfl ?_
          refine Ev.blk 1 (B217_91 _ _ _ _ _ _ _ _ _) rfl ?_
          refine Ev.kill [false, false, false, false, false, false, true] ?_
          dsimp only [mkl]
          refine Ev.blk 2 (B217_92 _ _ _ _ _ _ _) rfl ?_
          exact ih2
  have ha0 := hac 0 (by omega)
  refine Ev.blk 4 (B217_0 _ _ _ _ _) rfl ?_
  refine Ev.blk 3 (B217_7 _ _ _ _ _ _ _ (by decide)) rfl ?_
  refine Ev.ite (fun h => absurd h (by decide)) (fun _ => ?_)
  refine Ev.blk 3 (B217_13 _ _ _ _ _ _ _) rfl ?_
  refine Ev.call rfl rfl rfl (x_there0 (d := 3 * l)) (by omega) ?_
  rintro v V' b' ⟨rfl, h_, g_⟩
  subst V' b'
  refine Ev.blk 1 (B217_20 _ _ _ _ _ _ _ _ (by decide)) rfl ?_
  refine Ev.ite (fun h => absurd h (by decide)) (fun _ => ?_)
  refine Ev.blk 5 (B217_23 _ _ _ _ _ _ _) rfl ?_
  refine Ev.call rfl rfl rfl (x_lay0 (d := 3 * l) (f := 32) (x := x) (w := w) (by omega) ⟨by omega, by omega⟩ hw) (by omega) ?_
  rintro v V1 b1 ⟨rfl, h_, g_⟩
  subst b1
  have l1 : ∀ y, y ≠ 142 → V1 y = V y := fun y hy => by rw [h_, fil_ne hy]
  have l2 : ∀ j, j < 32 + 8 → V1 142 j = V 142 j := fun j hj => by rw [h_, fil_out (by omega)]
  have l3 : ∀ a, a < 8 → V1 142 (32 + 8 + a) = onl w x a := fun a ha => by rw [h_, fil_at ha]
  have hU3 : UR V1 m n1 G kq co mc mw lk := hU.frame (fun y q1 q2 => l1 y (by omega))
  refine Ev.blk 3 (B217_33 _ _ _ _ _ _ _) rfl ?_
  refine Ev.call rfl rfl rfl (x_price0 (d := 3 * l)) (by omega) ?_
  rintro v V' b' ⟨rfl, h1_, g1_⟩
  subst V' b'
  refine Ev.blk 3 (B217_40 _ _ _ _ _ _ _ _ (by decide)) rfl ?_
  refine Ev.call rfl rfl rfl (x_sumAt (d := 3 * l) (f := 32 + 8) (w := onl w x) (by omega) l3) (by omega) ?_
  rintro v V' b' ⟨rfl, h1_, g1_⟩
  subst V' b'
  refine Ev.blk 4 (B217_47 _ _ _ _ _ _ _ _ _) rfl ?_
  refine Ev.call rfl rfl rfl (x_runs (d := 3 * l) (f := 32 + 8) (w := onl w x) hm hU3 hB (by omega) l3) (by omega) ?_
  rintro v V' b' ⟨rfl, h1_, g1_⟩
  subst V' b'
  rw [hgc _ hZ]
  have ev : 0 * sumN (onl w x) 8 + uG G kq co mc mw lk n1 l (onl w x) = (acV mc mw n1 l (uG G kq co mc mw lk n1 l) (onl w x) 0).1 := by
    rw [Int.zero_mul, Int.zero_add]
    rfl
  refine Ev.blk 7 (B217_55 _ _ _ _ _ _ _ _ _ (by rw [ev]; exact ⟨by omega, by omega⟩) ⟨by omega, by omega⟩ (cmpI_in _ _)) rfl ?_
  rw [ev]
  refine Ev.ite (fun y => absurd ((cmpI_ge _ _).mp (of_decide_eq_true y)) (by omega)) (fun _ => ?_)
  refine Ev.blk 2 (B217_66 _ _ _ _ _ _ _ _) rfl ?_
  have fin := lp 4 0 (uV V1 120 33 0) (by omega) (fun y q1 q2 => by rw [uV_ne q1, l1 y q2]) (fun j hj => by rw [uV_at, if_neg hj, l1 120 (by omega)]) (fun j hj => by rw [uV_ne (by omega), l2 j hj]) (by rw [uV_at, if_pos rfl]; rfl)
  refine Ev.blk 5 (B217_75 _ _ _ _ _ _ _ _ _ ⟨by omega, by omega⟩ ⟨by omega, by omega⟩ (cmpI_in _ _)) rfl ?_
  refine Ev.ite (fun y => absurd ((cmpI_ge _ _).mp (of_decide_eq_true y)) (by omega)) (fun _ => ?_)
  refine Ev.blk 2 (B217_85 _ _ _ _ _ _ _ _) rfl ?_
  refine Ev.blk 1 (B217_91 _ _ _ _ _ _ _ _ _) rfl ?_
  refine Ev.kill [false, false, false, false, false, false, true] ?_
  dsimp only [mkl]
  refine Ev.blk 2 (B217_92 _ _ _ _ _ _ _) rfl ?_
  exact fin
theorem xL_0 {L m n1 : Nat} {G : Nat → Nat → Int} {kq co mc mw : Nat → Int} {lk : Int} (hm : m < 3) (hB : UB n1 G kq co mc mw lk) (hX : XA L 217 m n1 G kq co mc mw lk 0 32) : XL L 216 m n1 G kq co mc mw lk 0 32 := by
  intro V b w hU hw hz hW
  obtain ⟨l, hlv⟩ : ∃ l, l = 0 := ⟨_, rfl⟩
  have hl : l ≤ 2 := by omega
  have hcs : pw 100 l = 1 := by rw [hlv]; rfl
  rw [← hlv] at hX hW ⊢
  have h8 := hB.1.2.1
  have hg := uG_bd hB l hl
  have hhm := uG_hm G kq co mc mw lk n1 l
  have hsn := sumN_nn n1 hW.1
  have hwb := wB_b hl
  have hkb := KG_b hl
  have hK2 : KG l * wB l = wB l * KG l := Int.mul_comm _ _
  have hme := meV_nn (mw := mw) hg hB.1.2.2.2.2.2 hl
  have hac := acV_bd (mw := mw) (mc := mc) (l := l) (n := n1) hsn (hg w (wB l) hW) (fun i hi => Or.inr (hme i hi).1) 4 (Nat.le_refl _)
  have hS8 := sum8 hz h8
  have hlk := hB.2.2
  have hseb : ∀ a, a < n1 → 0 ≤ seV mc mw l (uG G kq co mc mw lk n1 l) a 4 ∧ seV mc mw l (uG G kq co mc mw lk n1 l) a 4 ≤ KG l := fun a ha => by
    have := seV_bd (mc := mc) (mw := mw) (l := l) (a := a) (B := KG l * 1) (hg (one1 (a : Int)) 1 one1_Wn) (fun i hi => Or.inr (hme i hi).1) 4 (Nat.le_refl _)
    rw [Int.mul_one] at this
    exact this
  have hse := sum_le_mul (w := w) (f := fun a => seV mc mw l (uG G kq co mc mw lk n1 l) a 4) (n := n1) (B := KG l) hW.1 hseb
  have hse2 : sumN w n1 * KG l ≤ wB l * KG l := Int.mul_le_mul_of_nonneg_right hW.2 (by omega)
  refine Ev.blk 3 (B216_0 _ _ _ _) rfl ?_
  refine Ev.call rfl rfl rfl (hX V b w (-9) hU hw hz hW (Or.inl rfl)) (by omega) ?_
  rintro v V1 b1 ⟨rfl, rfl, g1, g2, g3, g4⟩
  rw [onl_all] at g4 ⊢
  have hU1 : UR V1 m n1 G kq co mc mw lk := hU.frame (fun y q1 q2 => g1 y (by omega) (by omega))
  have fin : ∀ (x2 x4 : Int) (W : Mv), (∀ y, y ≠ 120 → y ≠ 142 → W y = V y) → (∀ j, j ≠ 33 → W 120 j = V 120 j) → (∀ j, j < 32 + 8 → W 142 j = V 142 j) → x2 = (uC G kq co mc mw lk n1 l w).1 → x4 = (uC G kq co mc mw lk n1 l w).2 → Ev L (3 * l + 4) 216 121 [some (.inr (.inr 120)), some (.inl (m : Int)), some (.inr (.inl x2)), none, some (.inl x4), none, none, none] [] W b1 (fun r V' b' => r = some (.inr (.inl (uC G kq co mc mw lk n1 l w).1)) ∧ b' = b1 ∧ (∀ y, y ≠ 120 → y ≠ 142 → V' y = V y) ∧ (∀ j, j ≠ 33 → V' 120 j = V 120 j) ∧ (∀ j, j < 32 + 8 → V' 142 j = V 142 j) ∧ V' 120 33 = (uC G kq co mc mw lk n1 l w).2) := by
    intro x2 x4 W w1 w2 w3 e2 e4
    subst e2 e4
    refine Ev.blk 4 (B216_121 _ _ _ _ _ _) rfl ?_
    refine Ev.ret rfl rfl rfl rfl ⟨rfl, rfl, fun y q1 q2 => ?_, fun j hj => ?_, fun j hj => ?_, ?_⟩
    · rw [uV_ne q1, w1 y q1 q2]
    · rw [uV_at, if_neg hj, w2 j hj]
    · rw [uV_ne (by omega), w3 j hj]
    · rw [uV_at, if_pos rfl]
  refine Ev.blk 10 (B216_7 _ _ _ _ _ (by omega) (by rw [Int.toNat_natCast, hU1.2.2]; exact ⟨by omega, by omega⟩)) rfl ?_
  rw [Int.toNat_natCast, hU1.2.2, g4]
  refine Ev.ite (fun z => ?_) (fun z => ?_)
  · replace z := of_decide_eq_true z
    have e : uC G kq co mc mw lk n1 l w = acV mc mw n1 l (uG G kq co mc mw lk n1 l) w 4 := if_neg (fun y => y.1 z)
    exact fin _ _ V1 g1 g2 g3 (by rw [e]) (by rw [e])
  · replace z := of_decide_eq_false z
    have lkb : 0 ≤ lk ∧ lk ≤ 9 := by omega
    have hw1 : ∀ a, a < 8 → V1 142 (32 + a) = w a := fun a ha => by rw [g3 _ (by omega)]; exact hw a ha
    refine Ev.blk 7 (B216_25 _ _ _ _ _ _ (by omega) (by rw [Int.toNat_natCast, hU1.2.2]; exact ⟨by omega, by omega⟩)) rfl ?_
    rw [Int.toNat_natCast, hU1.2.2]
    refine Ev.call rfl rfl rfl (x_sumAt (d := 3 * l) (f := 32) (w := w) (by omega) hw1) (by omega) ?_
    rintro v V' b' ⟨rfl, h_, g_⟩
    subst V' b'
    rw [hS8]
    refine Ev.blk 4 (B216_38 _ _ _ _ _ _ _ _) rfl ?_
    have hp := mulb (x := lk) (y := pw 100 l) (A := 9) (B := pw 100 l) lkb ⟨by omega, Int.le_refl _⟩
    have hp2 := mulb (x := sumN w n1) (y := lk * pw 100 l) (A := wB l) (B := 9 * pw 100 l) ⟨hsn, hW.2⟩ hp
    obtain ⟨C0, hC0⟩ : ∃ C0 : Int, C0 = lk * sumN w n1 := ⟨_, rfl⟩
    have hC1 : C0 = sumN w n1 * (lk * pw 100 l) := by
      rw [hC0, hcs]
      rw [Int.mul_one]; exact Int.mul_comm _ _
    rw [← hC0]
    have hlo : loV mc mw lk n1 l (uG G kq co mc mw lk n1 l) w = C0 + sumN (fun a => w a * seV mc mw l (uG G kq co mc mw lk n1 l) a 4) n1 := by
      unfold loV
      rw [hC1, Int.mul_assoc, Int.add_comm]
    have lp : ∀ (n k : Nat) (W : Mv), k + n = n1 → (∀ y, y ≠ 120 → y ≠ 142 → W y = V y) → (∀ j, j ≠ 33 → W 120 j = V 120 j) → (∀ j, j < 32 + 8 → W 142 j = V 142 j) → Ev L (3 * l + 4) 216 44 [some (.inr (.inr 120)), some (.inl (m : Int)), some (.inr (.inl (acV mc mw n1 l (uG G kq co mc mw lk n1 l) w 4).1)), none, some (.inl (acV mc mw n1 l (uG G kq co mc mw lk n1 l) w 4).2), some (.inr (.inl (C0 + sumN (fun a => w a * seV mc mw l (uG G kq co mc mw lk n1 l) a 4) k))), none, some (.inl (k : Int))] [] W b1 (fun r V' b' => r = some (.inr (.inl (uC G kq co mc mw lk n1 l w).1)) ∧ b' = b1 ∧ (∀ y, y ≠ 120 → y ≠ 142 → V' y = V y) ∧ (∀ j, j ≠ 33 → V' 120 j = V 120 j) ∧ (∀ j, j < 32 + 8 → V' 142 j = V 142 j) ∧ V' 120 33 = (uC G kq co mc mw lk n1 l w).2) := by
      intro n
      induction n with
      | zero =>
        intro k W h w1 w2 w3
        obtain rfl : k = n1 := by omega
        have hw0 : W 121 m = (k : Int) := by rw [w1 121 (by omega) (by omega)]; exact hU.1.1
        refine Ev.blk 6 (B216_44 _ _ _ _ _ _ _ _ (by omega) ⟨by omega, by omega⟩ (by rw [Int.toNat_natCast, hw0]; exact ⟨by omega, by omega⟩)) rfl ?_
        rw [Int.toNat_natCast, hw0]
        refine Ev.ite (fun _ => ?_) (fun y => absurd (of_decide_eq_false y) (by omega))
        rw [← hlo]
        have lb : 0 ≤ loV mc mw lk k l (uG G kq co mc mw lk k l) w ∧ loV mc mw lk k l (uG G kq co mc mw lk k l) w ≤ 3000000000000000000 := by
          rw [hlo]
          omega
        refine Ev.blk 4 (B216_92 _ _ _ _ _ _ _ _ ⟨by omega, by omega⟩ ⟨by omega, by omega⟩ (cmpI_in _ _)) rfl ?_
        refine Ev.ite (fun y => ?_) (fun y => ?_)
        · have y : (acV mc mw k l (uG G kq co mc mw lk k l) w 4).1 ≤ loV mc mw lk k l (uG G kq co mc mw lk k l) w := (cmpI_ge _ _).mp (of_decide_eq_true y)
          have e : uC G kq co mc mw lk k l w = acV mc mw k l (uG G kq co mc mw lk k l) w 4 := if_neg (fun y2 => absurd y2.2 (by omega))
          refine Ev.blk 1 (B216_103 _ _ _ _ _ _ _ _) rfl ?_
          refine Ev.blk 5 (B216_105 _ _ _ _ _ _ _ _ _ ⟨by omega, by omega⟩ ⟨by omega, by omega⟩ (cmpI_in _ _)) rfl ?_
          refine Ev.ite (fun _ => ?_) (fun y2 => absurd ((cmpI_ge _ _).mpr y) (of_decide_eq_false y2))
          refine Ev.blk 1 (B216_119 _ _ _ _ _ _ _ _) rfl ?_
          refine Ev.blk 1 (B216_120 _ _ _ _ _ _ _ _ _) rfl ?_
          refine Ev.kill [false, false, false, false, false, true, false, true] ?_
          dsimp only [mkl]
          exact fin _ _ W w1 w2 w3 (by rw [e]) (by rw [e])
        · have y : ¬ (acV mc mw k l (uG G kq co mc mw lk k l) w 4).1 ≤ loV mc mw lk k l (uG G kq co mc mw lk k l) w := fun y2 => of_decide_eq_false y ((cmpI_ge _ _).mpr y2)
          have e : uC G kq co mc mw lk k l w = (loV mc mw lk k l (uG G kq co mc mw lk k l) w, 5) := if_pos ⟨z, by omega⟩
          refine Ev.blk 2 (B216_99 _ _ _ _ _ _ _ _) rfl ?_
          refine Ev.blk 5 (B216_105 _ _ _ _ _ _ _ _ _ ⟨by omega, by omega⟩ ⟨by omega, by omega⟩ (cmpI_in _ _)) rfl ?_
          refine Ev.ite (fun y2 => absurd ((cmpI_ge _ _).mp (of_decide_eq_true y2)) y) (fun _ => ?_)
          refine Ev.blk 2 (B216_114 _ _ _ _ _ _ _ _) rfl ?_
          refine Ev.blk 1 (B216_120 _ _ _ _ _ _ _ _ _) rfl ?_
          refine Ev.kill [false, false, false, false, false, true, false, true] ?_
          dsimp only [mkl]
          exact fin _ _ W w1 w2 w3 (by rw [e]) (by rw [e])
      | succ n ih =>
        intro k W h w1 w2 w3
        have hU2 : UR W m n1 G kq co mc mw lk := hU.frame (fun y q1 q2 => w1 y (by omega) (by omega))
        have hw0 := hU2.1.1
        have hw2 : ∀ a, a < 8 → W 142 (32 + a) = w a := fun a ha => by rw [w3 _ (by omega)]; exact hw a ha
        have e0 : ((32 : Int) + (k : Int)).toNat = 32 + k := by omega
        have hk0 := hW.1 k (by omega)
        have hkW : w k ≤ sumN w n1 := by
          have h1 := sumN_mono (f := w) (m := k + 1) (n := n1) (by omega) hW.1
          have h2 : 0 ≤ sumN w k := sumN_nn k (fun a ha => hW.1 a (by omega))
          have h3 : sumN w (k + 1) = sumN w k + w k := rfl
          omega
        have hkB : w k ≤ 640000000000000 := Int.le_trans hkW (Int.le_trans hW.2 hwb.2.1)
        have nx : ∀ (s1 : Int) (Y : Mv), s1 = w k * seV mc mw l (uG G kq co mc mw lk n1 l) k 4 → (∀ y, y ≠ 120 → y ≠ 142 → Y y = V y) → (∀ j, j ≠ 33 → Y 120 j = V 120 j) → (∀ j, j < 32 + 8 → Y 142 j = V 142 j) → Ev L (3 * l + 4) 216 83 [some (.inr (.inr 120)), some (.inl (m : Int)), some (.inr (.inl (acV mc mw n1 l (uG G kq co mc mw lk n1 l) w 4).1)), none, some (.inl (acV mc mw n1 l (uG G kq co mc mw lk n1 l) w 4).2), some (.inr (.inl (C0 + sumN (fun a => w a * seV mc mw l (uG G kq co mc mw lk n1 l) a 4) k))), none, some (.inl (k : Int))] [.inr (.inl s1), .inr (.inl (C0 + sumN (fun a => w a * seV mc mw l (uG G kq co mc mw lk n1 l) a 4) k))] Y b1 (fun r V' b' => r = some (.inr (.inl (uC G kq co mc mw lk n1 l w).1)) ∧ b' = b1 ∧ (∀ y, y ≠ 120 → y ≠ 142 → V' y = V y) ∧ (∀ j, j ≠ 33 → V' 120 j = V 120 j) ∧ (∀ j, j < 32 + 8 → V' 142 j = V 142 j) ∧ V' 120 33 = (uC G kq co mc mw lk n1 l w).2) := by
          intro s1 Y hs1 y1 y2 y3
          refine Ev.blk 4 (B216_83 _ _ _ _ _ _ _ _ _ _) rfl ?_
          rw [hs1, Int.add_assoc]
          exact ih (k + 1) Y (by omega) y1 y2 y3
        refine Ev.blk 6 (B216_44 _ _ _ _ _ _ _ _ (by omega) ⟨by omega, by omega⟩ (by rw [Int.toNat_natCast, hw0]; exact ⟨by omega, by omega⟩)) rfl ?_
        rw [Int.toNat_natCast, hw0]
        refine Ev.ite (fun y => absurd (of_decide_eq_true y) (by omega)) (fun _ => ?_)
        refine Ev.blk 10 (B216_55 _ _ _ _ _ _ _ _ (by omega) (by rw [e0, hw2 k (by omega)]; exact ⟨by omega, by omega⟩) (cmpI_in _ _)) rfl ?_
        rw [e0, hw2 k (by omega)]
        refine Ev.ite (fun y => ?_) (fun y => ?_)
        · replace y := (cmpI_le _ _).mp (of_decide_eq_true y)
          refine Ev.blk 1 (B216_82 _ _ _ _ _ _ _ _ _) rfl ?_
          exact nx 0 W (by rw [show w k = 0 by omega, Int.zero_mul]) w1 w2 w3
        · have y : ¬ w k ≤ 0 := fun y2 => of_decide_eq_false y ((cmpI_le _ _).mpr y2)
          refine Ev.blk 3 (B216_72 _ _ _ _ _ _ _ _ _) rfl ?_
          refine Ev.call rfl rfl rfl (hX W _ w (k : Int) hU2 hw2 hz hW (by omega)) (by omega) ?_
          rintro v V2 b2 ⟨rfl, rfl, k1, k2, k3, k4⟩
          refine Ev.blk 1 (B216_79 _ _ _ _ _ _ _ _ _ _) rfl ?_
          exact nx _ V2 (ac_one hhm (by omega) (by omega)) (fun y q1 q2 => by rw [k1 y q1 q2, w1 y q1 q2]) (fun j hj => by rw [k2 j hj, w2 j hj]) (fun j hj => by rw [k3 j hj, w3 j hj])
    have st := lp n1 0 V1 (by omega) g1 g2 g3
    rw [show C0 + sumN (fun a => w a * seV mc mw l (uG G kq co mc mw lk n1 l) a 4) 0 = C0 from Int.add_zero _] at st
    exact st
theorem xL_1 {L m n1 : Nat} {G : Nat → Nat → Int} {kq co mc mw : Nat → Int} {lk : Int} (hm : m < 3) (hB : UB n1 G kq co mc mw lk) (hX : XA L 214 m n1 G kq co mc mw lk 1 16) : XL L 213 m n1 G kq co mc mw lk 1 16 := by
  intro V b w hU hw hz hW
  obtain ⟨l, hlv⟩ : ∃ l, l = 1 := ⟨_, rfl⟩
  have hl : l ≤ 2 := by omega
  have hcs : pw 100 l = 100 := by rw [hlv]; rfl
  rw [← hlv] at hX hW ⊢
  have h8 := hB.1.2.1
  have hg := uG_bd hB l hl
  have hhm := uG_hm G kq co mc mw lk n1 l
  have hsn := sumN_nn n1 hW.1
  have hwb := wB_b hl
  have hkb := KG_b hl
  have hK2 : KG l * wB l = wB l * KG l := Int.mul_comm _ _
  have hme := meV_nn (mw := mw) hg hB.1.2.2.2.2.2 hl
  have hac := acV_bd (mw := mw) (mc := mc) (l := l) (n := n1) hsn (hg w (wB l) hW) (fun i hi => Or.inr (hme i hi).1) 4 (Nat.le_refl _)
  have hS8 := sum8 hz h8
  have hlk := hB.2.2
  have hseb : ∀ a, a < n1 → 0 ≤ seV mc mw l (uG G kq co mc mw lk n1 l) a 4 ∧ seV mc mw l (uG G kq co mc mw lk n1 l) a 4 ≤ KG l := fun a ha => by
    have := seV_bd (mc := mc) (mw := mw) (l := l) (a := a) (B := KG l * 1) (hg (one1 (a : Int)) 1 one1_Wn) (fun i hi => Or.inr (hme i hi).1) 4 (Nat.le_refl _)
    rw [Int.mul_one] at this
    exact this
  have hse := sum_le_mul (w := w) (f := fun a => seV mc mw l (uG G kq co mc mw lk n1 l) a 4) (n := n1) (B := KG l) hW.1 hseb
  have hse2 : sumN w n1 * KG l ≤ wB l * KG l := Int.mul_le_mul_of_nonneg_right hW.2 (by omega)
  refine Ev.blk 3 (B213_0 _ _ _ _) rfl ?_
  refine Ev.call rfl rfl rfl (hX V b w (-9) hU hw hz hW (Or.inl rfl)) (by omega) ?_
  rintro v V1 b1 ⟨rfl, rfl, g1, g2, g3, g4⟩
  rw [onl_all] at g4 ⊢
  have hU1 : UR V1 m n1 G kq co mc mw lk := hU.frame (fun y q1 q2 => g1 y (by omega) (by omega))
  have fin : ∀ (x2 x4 : Int) (W : Mv), (∀ y, y ≠ 120 → y ≠ 142 → W y = V y) → (∀ j, j ≠ 33 → W 120 j = V 120 j) → (∀ j, j < 16 + 8 → W 142 j = V 142 j) → x2 = (uC G kq co mc mw lk n1 l w).1 → x4 = (uC G kq co mc mw lk n1 l w).2 → Ev L (3 * l + 4) 213 125 [some (.inr (.inr 120)), some (.inl (m : Int)), some (.inr (.inl x2)), none, some (.inl x4), none, none, none] [] W b1 (fun r V' b' => r = some (.inr (.inl (uC G kq co mc mw lk n1 l w).1)) ∧ b' = b1 ∧ (∀ y, y ≠ 120 → y ≠ 142 → V' y = V y) ∧ (∀ j, j ≠ 33 → V' 120 j = V 120 j) ∧ (∀ j, j < 16 + 8 → V' 142 j = V 142 j) ∧ V' 120 33 = (uC G kq co mc mw lk n1 l w).2) := by
    intro x2 x4 W w1 w2 w3 e2 e4
    subst e2 e4
    refine Ev.blk 4 (B213_125 _ _ _ _ _ _) rfl ?_
    refine Ev.ret rfl rfl rfl rfl ⟨rfl, rfl, fun y q1 q2 => ?_, fun j hj => ?_, fun j hj => ?_, ?_⟩
    · rw [uV_ne q1, w1 y q1 q2]
    · rw [uV_at, if_neg hj, w2 j hj]
    · rw [uV_ne (by omega), w3 j hj]
    · rw [uV_at, if_pos rfl]
  refine Ev.blk 10 (B213_7 _ _ _ _ _ (by omega) (by rw [Int.toNat_natCast, hU1.2.2]; exact ⟨by omega, by omega⟩)) rfl ?_
  rw [Int.toNat_natCast, hU1.2.2, g4]
  refine Ev.ite (fun z => ?_) (fun z => ?_)
  · replace z := of_decide_eq_true z
    have e : uC G kq co mc mw lk n1 l w = acV mc mw n1 l (uG G kq co mc mw lk n1 l) w 4 := if_neg (fun y => y.1 z)
    exact fin _ _ V1 g1 g2 g3 (by rw [e]) (by rw [e])
  · replace z := of_decide_eq_false z
    have lkb : 0 ≤ lk ∧ lk ≤ 9 := by omega
    have hw1 : ∀ a, a < 8 → V1 142 (16 + a) = w a := fun a ha => by rw [g3 _ (by omega)]; exact hw a ha
    refine Ev.blk 9 (B213_25 _ _ _ _ _ _ (by omega) (by rw [Int.toNat_natCast, hU1.2.2]; exact ⟨by omega, by omega⟩)) rfl ?_
    rw [Int.toNat_natCast, hU1.2.2]
    refine Ev.call rfl rfl rfl (x_sumAt (d := 3 * l) (f := 16) (w := w) (by omega) hw1) (by omega) ?_
    rintro v V' b' ⟨rfl, h_, g_⟩
    subst V' b'
    rw [hS8]
    refine Ev.blk 4 (B213_42 _ _ _ _ _ _ _ _) rfl ?_
    have hp := mulb (x := lk) (y := pw 100 l) (A := 9) (B := pw 100 l) lkb ⟨by omega, Int.le_refl _⟩
    have hp2 := mulb (x := sumN w n1) (y := lk * pw 100 l) (A := wB l) (B := 9 * pw 100 l) ⟨hsn, hW.2⟩ hp
    obtain ⟨C0, hC0⟩ : ∃ C0 : Int, C0 = 100 * lk * sumN w n1 := ⟨_, rfl⟩
    have hC1 : C0 = sumN w n1 * (lk * pw 100 l) := by
      rw [hC0, hcs]
      rw [Int.mul_comm 100 lk]; exact Int.mul_comm _ _
    rw [← hC0]
    have hlo : loV mc mw lk n1 l (uG G kq co mc mw lk n1 l) w = C0 + sumN (fun a => w a * seV mc mw l (uG G kq co mc mw lk n1 l) a 4) n1 := by
      unfold loV
      rw [hC1, Int.mul_assoc, Int.add_comm]
    have lp : ∀ (n k : Nat) (W : Mv), k + n = n1 → (∀ y, y ≠ 120 → y ≠ 142 → W y = V y) → (∀ j, j ≠ 33 → W 120 j = V 120 j) → (∀ j, j < 16 + 8 → W 142 j = V 142 j) → Ev L (3 * l + 4) 213 48 [some (.inr (.inr 120)), some (.inl (m : Int)), some (.inr (.inl (acV mc mw n1 l (uG G kq co mc mw lk n1 l) w 4).1)), none, some (.inl (acV mc mw n1 l (uG G kq co mc mw lk n1 l) w 4).2), some (.inr (.inl (C0 + sumN (fun a => w a * seV mc mw l (uG G kq co mc mw lk n1 l) a 4) k))), none, some (.inl (k : Int))] [] W b1 (fun r V' b' => r = some (.inr (.inl (uC G kq co mc mw lk n1 l w).1)) ∧ b' = b1 ∧ (∀ y, y ≠ 120 → y ≠ 142 → V' y = V y) ∧ (∀ j, j ≠ 33 → V' 120 j = V 120 j) ∧ (∀ j, j < 16 + 8 → V' 142 j = V 142 j) ∧ V' 120 33 = (uC G kq co mc mw lk n1 l w).2) := by
      intro n
      induction n with
      | zero =>
        intro k W h w1 w2 w3
        obtain rfl : k = n1 := by omega
        have hw0 : W 121 m = (k : Int) := by rw [w1 121 (by omega) (by omega)]; exact hU.1.1
        refine Ev.blk 6 (B213_48 _ _ _ _ _ _ _ _ (by omega) ⟨by omega, by omega⟩ (by rw [Int.toNat_natCast, hw0]; exact ⟨by omega, by omega⟩)) rfl ?_
        rw [Int.toNat_natCast, hw0]
        refine Ev.ite (fun _ => ?_) (fun y => absurd (of_decide_eq_false y) (by omega))
        rw [← hlo]
        have lb : 0 ≤ loV mc mw lk k l (uG G kq co mc mw lk k l) w ∧ loV mc mw lk k l (uG G kq co mc mw lk k l) w ≤ 3000000000000000000 := by
          rw [hlo]
          omega
        refine Ev.blk 4 (B213_96 _ _ _ _ _ _ _ _ ⟨by omega, by omega⟩ ⟨by omega, by omega⟩ (cmpI_in _ _)) rfl ?_
        refine Ev.ite (fun y => ?_) (fun y => ?_)
        · have y : (acV mc mw k l (uG G kq co mc mw lk k l) w 4).1 ≤ loV mc mw lk k l (uG G kq co mc mw lk k l) w := (cmpI_ge _ _).mp (of_decide_eq_true y)
          have e : uC G kq co mc mw lk k l w = acV mc mw k l (uG G kq co mc mw lk k l) w 4 := if_neg (fun y2 => absurd y2.2 (by omega))
          refine Ev.blk 1 (B213_107 _ _ _ _ _ _ _ _) rfl ?_
          refine Ev.blk 5 (B213_109 _ _ _ _ _ _ _ _ _ ⟨by omega, by omega⟩ ⟨by omega, by omega⟩ (cmpI_in _ _)) rfl ?_
          refine Ev.ite (fun _ => ?_) (fun y2 => absurd ((cmpI_ge _ _).mpr y) (of_decide_eq_false y2))
          refine Ev.blk 1 (B213_123 _ _ _ _ _ _ _ _) rfl ?_
          refine Ev.blk 1 (B213_124 _ _ _ _ _ _ _ _ _) rfl ?_
          refine Ev.kill [false, false, false, false, false, true, false, true] ?_
          dsimp only [mkl]
          exact fin _ _ W w1 w2 w3 (by rw [e]) (by rw [e])
        · have y : ¬ (acV mc mw k l (uG G kq co mc mw lk k l) w 4).1 ≤ loV mc mw lk k l (uG G kq co mc mw lk k l) w := fun y2 => of_decide_eq_false y ((cmpI_ge _ _).mpr y2)
          have e : uC G kq co mc mw lk k l w = (loV mc mw lk k l (uG G kq co mc mw lk k l) w, 5) := if_pos ⟨z, by omega⟩
          refine Ev.blk 2 (B213_103 _ _ _ _ _ _ _ _) rfl ?_
          refine Ev.blk 5 (B213_109 _ _ _ _ _ _ _ _ _ ⟨by omega, by omega⟩ ⟨by omega, by omega⟩ (cmpI_in _ _)) rfl ?_
          refine Ev.ite (fun y2 => absurd ((cmpI_ge _ _).mp (of_decide_eq_true y2)) y) (fun _ => ?_)
          refine Ev.blk 2 (B213_118 _ _ _ _ _ _ _ _) rfl ?_
          refine Ev.blk 1 (B213_124 _ _ _ _ _ _ _ _ _) rfl ?_
          refine Ev.kill [false, false, false, false, false, true, false, true] ?_
          dsimp only [mkl]
          exact fin _ _ W w1 w2 w3 (by rw [e]) (by rw [e])
      | succ n ih =>
        intro k W h w1 w2 w3
        have hU2 : UR W m n1 G kq co mc mw lk := hU.frame (fun y q1 q2 => w1 y (by omega) (by omega))
        have hw0 := hU2.1.1
        have hw2 : ∀ a, a < 8 → W 142 (16 + a) = w a := fun a ha => by rw [w3 _ (by omega)]; exact hw a ha
        have e0 : ((16 : Int) + (k : Int)).toNat = 16 + k := by omega
        have hk0 := hW.1 k (by omega)
        have hkW : w k ≤ sumN w n1 := by
          have h1 := sumN_mono (f := w) (m := k + 1) (n := n1) (by omega) hW.1
          have h2 : 0 ≤ sumN w k := sumN_nn k (fun a ha => hW.1 a (by omega))
          have h3 : sumN w (k + 1) = sumN w k + w k := rfl
          omega
        have hkB : w k ≤ 640000000000000 := Int.le_trans hkW (Int.le_trans hW.2 hwb.2.1)
        have nx : ∀ (s1 : Int) (Y : Mv), s1 = w k * seV mc mw l (uG G kq co mc mw lk n1 l) k 4 → (∀ y, y ≠ 120 → y ≠ 142 → Y y = V y) → (∀ j, j ≠ 33 → Y 120 j = V 120 j) → (∀ j, j < 16 + 8 → Y 142 j = V 142 j) → Ev L (3 * l + 4) 213 87 [some (.inr (.inr 120)), some (.inl (m : Int)), some (.inr (.inl (acV mc mw n1 l (uG G kq co mc mw lk n1 l) w 4).1)), none, some (.inl (acV mc mw n1 l (uG G kq co mc mw lk n1 l) w 4).2), some (.inr (.inl (C0 + sumN (fun a => w a * seV mc mw l (uG G kq co mc mw lk n1 l) a 4) k))), none, some (.inl (k : Int))] [.inr (.inl s1), .inr (.inl (C0 + sumN (fun a => w a * seV mc mw l (uG G kq co mc mw lk n1 l) a 4) k))] Y b1 (fun r V' b' => r = some (.inr (.inl (uC G kq co mc mw lk n1 l w).1)) ∧ b' = b1 ∧ (∀ y, y ≠ 120 → y ≠ 142 → V' y = V y) ∧ (∀ j, j ≠ 33 → V' 120 j = V 120 j) ∧ (∀ j, j < 16 + 8 → V' 142 j = V 142 j) ∧ V' 120 33 = (uC G kq co mc mw lk n1 l w).2) := by
          intro s1 Y hs1 y1 y2 y3
          refine Ev.blk 4 (B213_87 _ _ _ _ _ _ _ _ _ _) rfl ?_
          rw [hs1, Int.add_assoc]
          exact ih (k + 1) Y (by omega) y1 y2 y3
        refine Ev.blk 6 (B213_48 _ _ _ _ _ _ _ _ (by omega) ⟨by omega, by omega⟩ (by rw [Int.toNat_natCast, hw0]; exact ⟨by omega, by omega⟩)) rfl ?_
        rw [Int.toNat_natCast, hw0]
        refine Ev.ite (fun y => absurd (of_decide_eq_true y) (by omega)) (fun _ => ?_)
        refine Ev.blk 10 (B213_59 _ _ _ _ _ _ _ _ (by omega) (by rw [e0, hw2 k (by omega)]; exact ⟨by omega, by omega⟩) (cmpI_in _ _)) rfl ?_
        rw [e0, hw2 k (by omega)]
        refine Ev.ite (fun y => ?_) (fun y => ?_)
        · replace y := (cmpI_le _ _).mp (of_decide_eq_true y)
          refine Ev.blk 1 (B213_86 _ _ _ _ _ _ _ _ _) rfl ?_
          exact nx 0 W (by rw [show w k = 0 by omega, Int.zero_mul]) w1 w2 w3
        · have y : ¬ w k ≤ 0 := fun y2 => of_decide_eq_false y ((cmpI_le _ _).mpr y2)
          refine Ev.blk 3 (B213_76 _ _ _ _ _ _ _ _ _) rfl ?_
          refine Ev.call rfl rfl rfl (hX W _ w (k : Int) hU2 hw2 hz hW (by omega)) (by omega) ?_
          rintro v V2 b2 ⟨rfl, rfl, k1, k2, k3, k4⟩
          refine Ev.blk 1 (B213_83 _ _ _ _ _ _ _ _ _ _) rfl ?_
          exact nx _ V2 (ac_one hhm (by omega) (by omega)) (fun y q1 q2 => by rw [k1 y q1 q2, w1 y q1 q2]) (fun j hj => by rw [k2 j hj, w2 j hj]) (fun j hj => by rw [k3 j hj, w3 j hj])
    have st := lp n1 0 V1 (by omega) g1 g2 g3
    rw [show C0 + sumN (fun a => w a * seV mc mw l (uG G kq co mc mw lk n1 l) a 4) 0 = C0 from Int.add_zero _] at st
    exact st
theorem xL_2 {L m n1 : Nat} {G : Nat → Nat → Int} {kq co mc mw : Nat → Int} {lk : Int} (hm : m < 3) (hB : UB n1 G kq co mc mw lk) (hX : XA L 205 m n1 G kq co mc mw lk 2 0) : XL L 204 m n1 G kq co mc mw lk 2 0 := by
  intro V b w hU hw hz hW
  obtain ⟨l, hlv⟩ : ∃ l, l = 2 := ⟨_, rfl⟩
  have hl : l ≤ 2 := by omega
  have hcs : pw 100 l = 10000 := by rw [hlv]; rfl
  rw [← hlv] at hX hW ⊢
  have h8 := hB.1.2.1
  have hg := uG_bd hB l hl
  have hhm := uG_hm G kq co mc mw lk n1 l
  have hsn := sumN_nn n1 hW.1
  have hwb := wB_b hl
  have hkb := KG_b hl
  have hK2 : KG l * wB l = wB l * KG l := Int.mul_comm _ _
  have hme := meV_nn (mw := mw) hg hB.1.2.2.2.2.2 hl
  have hac := acV_bd (mw := mw) (mc := mc) (l := l) (n := n1) hsn (hg w (wB l) hW) (fun i hi => Or.inr (hme i hi).1) 4 (Nat.le_refl _)
  have hS8 := sum8 hz h8
  have hlk := hB.2.2
  have hseb : ∀ a, a < n1 → 0 ≤ seV mc mw l (uG G kq co mc mw lk n1 l) a 4 ∧ seV mc mw l (uG G kq co mc mw lk n1 l) a 4 ≤ KG l := fun a ha => by
    have := seV_bd (mc := mc) (mw := mw) (l := l) (a := a) (B := KG l * 1) (hg (one1 (a : Int)) 1 one1_Wn) (fun i hi => Or.inr (hme i hi).1) 4 (Nat.le_refl _)
    rw [Int.mul_one] at this
    exact this
  have hse := sum_le_mul (w := w) (f := fun a => seV mc mw l (uG G kq co mc mw lk n1 l) a 4) (n := n1) (B := KG l) hW.1 hseb
  have hse2 : sumN w n1 * KG l ≤ wB l * KG l := Int.mul_le_mul_of_nonneg_right hW.2 (by omega)
  refine Ev.blk 3 (B204_0 _ _ _ _) rfl ?_
  refine Ev.call rfl rfl rfl (hX V b w (-9) hU hw hz hW (Or.inl rfl)) (by omega) ?_
  rintro v V1 b1 ⟨rfl, rfl, g1, g2, g3, g4⟩
  rw [onl_all] at g4 ⊢
  have hU1 : UR V1 m n1 G kq co mc mw lk := hU.frame (fun y q1 q2 => g1 y (by omega) (by omega))
  have fin : ∀ (x2 x4 : Int) (W : Mv), (∀ y, y ≠ 120 → y ≠ 142 → W y = V y) → (∀ j, j ≠ 33 → W 120 j = V 120 j) → (∀ j, j < 0 + 8 → W 142 j = V 142 j) → x2 = (uC G kq co mc mw lk n1 l w).1 → x4 = (uC G kq co mc mw lk n1 l w).2 → Ev L (3 * l + 4) 204 121 [some (.inr (.inr 120)), some (.inl (m : Int)), some (.inr (.inl x2)), none, some (.inl x4), none, none, none] [] W b1 (fun r V' b' => r = some (.inr (.inl (uC G kq co mc mw lk n1 l w).1)) ∧ b' = b1 ∧ (∀ y, y ≠ 120 → y ≠ 142 → V' y = V y) ∧ (∀ j, j ≠ 33 → V' 120 j = V 120 j) ∧ (∀ j, j < 0 + 8 → V' 142 j = V 142 j) ∧ V' 120 33 = (uC G kq co mc mw lk n1 l w).2) := by
    intro x2 x4 W w1 w2 w3 e2 e4
    subst e2 e4
    refine Ev.blk 4 (B204_121 _ _ _ _ _ _) rfl ?_
    refine Ev.ret rfl rfl rfl rfl ⟨rfl, rfl, fun y q1 q2 => ?_, fun j hj => ?_, fun j hj => ?_, ?_⟩
    · rw [uV_ne q1, w1 y q1 q2]
    · rw [uV_at, if_neg hj, w2 j hj]
    · rw [uV_ne (by omega), w3 j hj]
    · rw [uV_at, if_pos rfl]
  refine Ev.blk 10 (B204_7 _ _ _ _ _ (by omega) (by rw [Int.toNat_natCast, hU1.2.2]; exact ⟨by omega, by omega⟩)) rfl ?_
  rw [Int.toNat_natCast, hU1.2.2, g4]
  refine Ev.ite (fun z => ?_) (fun z => ?_)
  · replace z := of_decide_eq_true z
    have e : uC G kq co mc mw lk n1 l w = acV mc mw n1 l (uG G kq co mc mw lk n1 l) w 4 := if_neg (fun y => y.1 z)
    exact fin _ _ V1 g1 g2 g3 (by rw [e]) (by rw [e])
  · replace z := of_decide_eq_false z
    have lkb : 0 ≤ lk ∧ lk ≤ 9 := by omega
    have hw1 : ∀ a, a < 8 → V1 142 (0 + a) = w a := fun a ha => by rw [g3 _ (by omega)]; exact hw a ha
    refine Ev.blk 9 (B204_25 _ _ _ _ _ _ (by omega) (by rw [Int.toNat_natCast, hU1.2.2]; exact ⟨by omega, by omega⟩)) rfl ?_
    rw [Int.toNat_natCast, hU1.2.2]
    refine Ev.call rfl rfl rfl (x_sumAt (d := 3 * l) (f := 0) (w := w) (by omega) hw1) (by omega) ?_
    rintro v V' b' ⟨rfl, h_, g_⟩
    subst V' b'
    rw [hS8]
    refine Ev.blk 4 (B204_41 _ _ _ _ _ _ _ _) rfl ?_
    have hp := mulb (x := lk) (y := pw 100 l) (A := 9) (B := pw 100 l) lkb ⟨by omega, Int.le_refl _⟩
    have hp2 := mulb (x := sumN w n1) (y := lk * pw 100 l) (A := wB l) (B := 9 * pw 100 l) ⟨hsn, hW.2⟩ hp
    obtain ⟨C0, hC0⟩ : ∃ C0 : Int, C0 = 10000 * lk * sumN w n1 := ⟨_, rfl⟩
    have hC1 : C0 = sumN w n1 * (lk * pw 100 l) := by
      rw [hC0, hcs]
      rw [Int.mul_comm 10000 lk]; exact Int.mul_comm _ _
    rw [← hC0]
    have hlo : loV mc mw lk n1 l (uG G kq co mc mw lk n1 l) w = C0 + sumN (fun a => w a * seV mc mw l (uG G kq co mc mw lk n1 l) a 4) n1 := by
      unfold loV
      rw [hC1, Int.mul_assoc, Int.add_comm]
    have lp : ∀ (n k : Nat) (W : Mv), k + n = n1 → (∀ y, y ≠ 120 → y ≠ 142 → W y = V y) → (∀ j, j ≠ 33 → W 120 j = V 120 j) → (∀ j, j < 0 + 8 → W 142 j = V 142 j) → Ev L (3 * l + 4) 204 47 [some (.inr (.inr 120)), some (.inl (m : Int)), some (.inr (.inl (acV mc mw n1 l (uG G kq co mc mw lk n1 l) w 4).1)), none, some (.inl (acV mc mw n1 l (uG G kq co mc mw lk n1 l) w 4).2), some (.inr (.inl (C0 + sumN (fun a => w a * seV mc mw l (uG G kq co mc mw lk n1 l) a 4) k))), none, some (.inl (k : Int))] [] W b1 (fun r V' b' => r = some (.inr (.inl (uC G kq co mc mw lk n1 l w).1)) ∧ b' = b1 ∧ (∀ y, y ≠ 120 → y ≠ 142 → V' y = V y) ∧ (∀ j, j ≠ 33 → V' 120 j = V 120 j) ∧ (∀ j, j < 0 + 8 → V' 142 j = V 142 j) ∧ V' 120 33 = (uC G kq co mc mw lk n1 l w).2) := by
      intro n
      induction n with
      | zero =>
        intro k W h w1 w2 w3
        obtain rfl : k = n1 := by omega
        have hw0 : W 121 m = (k : Int) := by rw [w1 121 (by omega) (by omega)]; exact hU.1.1
        refine Ev.blk 6 (B204_47 _ _ _ _ _ _ _ _ (by omega) ⟨by omega, by omega⟩ (by rw [Int.toNat_natCast, hw0]; exact ⟨by omega, by omega⟩)) rfl ?_
        rw [Int.toNat_natCast, hw0]
        refine Ev.ite (fun _ => ?_) (fun y => absurd (of_decide_eq_false y) (by omega))
        rw [← hlo]
        have lb : 0 ≤ loV mc mw lk k l (uG G kq co mc mw lk k l) w ∧ loV mc mw lk k l (uG G kq co mc mw lk k l) w ≤ 3000000000000000000 := by
          rw [hlo]
          omega
        refine Ev.blk 4 (B204_92 _ _ _ _ _ _ _ _ ⟨by omega, by omega⟩ ⟨by omega, by omega⟩ (cmpI_in _ _)) rfl ?_
        refine Ev.ite (fun y => ?_) (fun y => ?_)
        · have y : (acV mc mw k l (uG G kq co mc mw lk k l) w 4).1 ≤ loV mc mw lk k l (uG G kq co mc mw lk k l) w := (cmpI_ge _ _).mp (of_decide_eq_true y)
          have e : uC G kq co mc mw lk k l w = acV mc mw k l (uG G kq co mc mw lk k l) w 4 := if_neg (fun y2 => absurd y2.2 (by omega))
          refine Ev.blk 1 (B204_103 _ _ _ _ _ _ _ _) rfl ?_
          refine Ev.blk 5 (B204_105 _ _ _ _ _ _ _ _ _ ⟨by omega, by omega⟩ ⟨by omega, by omega⟩ (cmpI_in _ _)) rfl ?_
          refine Ev.ite (fun _ => ?_) (fun y2 => absurd ((cmpI_ge _ _).mpr y) (of_decide_eq_false y2))
          refine Ev.blk 1 (B204_119 _ _ _ _ _ _ _ _) rfl ?_
          refine Ev.blk 1 (B204_120 _ _ _ _ _ _ _ _ _) rfl ?_
          refine Ev.kill [false, false, false, false, false, true, false, true] ?_
          dsimp only [mkl]
          exact fin _ _ W w1 w2 w3 (by rw [e]) (by rw [e])
        · have y : ¬ (acV mc mw k l (uG G kq co mc mw lk k l) w 4).1 ≤ loV mc mw lk k l (uG G kq co mc mw lk k l) w := fun y2 => of_decide_eq_false y ((cmpI_ge _ _).mpr y2)
          have e : uC G kq co mc mw lk k l w = (loV mc mw lk k l (uG G kq co mc mw lk k l) w, 5) := if_pos ⟨z, by omega⟩
          refine Ev.blk 2 (B204_99 _ _ _ _ _ _ _ _) rfl ?_
          refine Ev.blk 5 (B204_105 _ _ _ _ _ _ _ _ _ ⟨by omega, by omega⟩ ⟨by omega, by omega⟩ (cmpI_in _ _)) rfl ?_
          refine Ev.ite (fun y2 => absurd ((cmpI_ge _ _).mp (of_decide_eq_true y2)) y) (fun _ => ?_)
          refine Ev.blk 2 (B204_114 _ _ _ _ _ _ _ _) rfl ?_
          refine Ev.blk 1 (B204_120 _ _ _ _ _ _ _ _ _) rfl ?_
          refine Ev.kill [false, false, false, false, false, true, false, true] ?_
          dsimp only [mkl]
          exact fin _ _ W w1 w2 w3 (by rw [e]) (by rw [e])
      | succ n ih =>
        intro k W h w1 w2 w3
        have hU2 : UR W m n1 G kq co mc mw lk := hU.frame (fun y q1 q2 => w1 y (by omega) (by omega))
        have hw0 := hU2.1.1
        have hw2 : ∀ a, a < 8 → W 142 (0 + a) = w a := fun a ha => by rw [w3 _ (by omega)]; exact hw a ha
        have e0 : ((k : Int)).toNat = 0 + k := by omega
        have hk0 := hW.1 k (by omega)
        have hkW : w k ≤ sumN w n1 := by
          have h1 := sumN_mono (f := w) (m := k + 1) (n := n1) (by omega) hW.1
          have h2 : 0 ≤ sumN w k := sumN_nn k (fun a ha => hW.1 a (by omega))
          have h3 : sumN w (k + 1) = sumN w k + w k := rfl
          omega
        have hkB : w k ≤ 640000000000000 := Int.le_trans hkW (Int.le_trans hW.2 hwb.2.1)
        have nx : ∀ (s1 : Int) (Y : Mv), s1 = w k * seV mc mw l (uG G kq co mc mw lk n1 l) k 4 → (∀ y, y ≠ 120 → y ≠ 142 → Y y = V y) → (∀ j, j ≠ 33 → Y 120 j = V 120 j) → (∀ j, j < 0 + 8 → Y 142 j = V 142 j) → Ev L (3 * l + 4) 204 83 [some (.inr (.inr 120)), some (.inl (m : Int)), some (.inr (.inl (acV mc mw n1 l (uG G kq co mc mw lk n1 l) w 4).1)), none, some (.inl (acV mc mw n1 l (uG G kq co mc mw lk n1 l) w 4).2), some (.inr (.inl (C0 + sumN (fun a => w a * seV mc mw l (uG G kq co mc mw lk n1 l) a 4) k))), none, some (.inl (k : Int))] [.inr (.inl s1), .inr (.inl (C0 + sumN (fun a => w a * seV mc mw l (uG G kq co mc mw lk n1 l) a 4) k))] Y b1 (fun r V' b' => r = some (.inr (.inl (uC G kq co mc mw lk n1 l w).1)) ∧ b' = b1 ∧ (∀ y, y ≠ 120 → y ≠ 142 → V' y = V y) ∧ (∀ j, j ≠ 33 → V' 120 j = V 120 j) ∧ (∀ j, j < 0 + 8 → V' 142 j = V 142 j) ∧ V' 120 33 = (uC G kq co mc mw lk n1 l w).2) := by
          intro s1 Y hs1 y1 y2 y3
          refine Ev.blk 4 (B204_83 _ _ _ _ _ _ _ _ _ _) rfl ?_
          rw [hs1, Int.add_assoc]
          exact ih (k + 1) Y (by omega) y1 y2 y3
        refine Ev.blk 6 (B204_47 _ _ _ _ _ _ _ _ (by omega) ⟨by omega, by omega⟩ (by rw [Int.toNat_natCast, hw0]; exact ⟨by omega, by omega⟩)) rfl ?_
        rw [Int.toNat_natCast, hw0]
        refine Ev.ite (fun y => absurd (of_decide_eq_true y) (by omega)) (fun _ => ?_)
        refine Ev.blk 8 (B204_58 _ _ _ _ _ _ _ _ (by omega) (by rw [e0, hw2 k (by omega)]; exact ⟨by omega, by omega⟩) (cmpI_in _ _)) rfl ?_
        rw [e0, hw2 k (by omega)]
        refine Ev.ite (fun y => ?_) (fun y => ?_)
        · replace y := (cmpI_le _ _).mp (of_decide_eq_true y)
          refine Ev.blk 1 (B204_82 _ _ _ _ _ _ _ _ _) rfl ?_
          exact nx 0 W (by rw [show w k = 0 by omega, Int.zero_mul]) w1 w2 w3
        · have y : ¬ w k ≤ 0 := fun y2 => of_decide_eq_false y ((cmpI_le _ _).mpr y2)
          refine Ev.blk 3 (B204_72 _ _ _ _ _ _ _ _ _) rfl ?_
          refine Ev.call rfl rfl rfl (hX W _ w (k : Int) hU2 hw2 hz hW (by omega)) (by omega) ?_
          rintro v V2 b2 ⟨rfl, rfl, k1, k2, k3, k4⟩
          refine Ev.blk 1 (B204_79 _ _ _ _ _ _ _ _ _ _) rfl ?_
          exact nx _ V2 (ac_one hhm (by omega) (by omega)) (fun y q1 q2 => by rw [k1 y q1 q2, w1 y q1 q2]) (fun j hj => by rw [k2 j hj, w2 j hj]) (fun j hj => by rw [k3 j hj, w3 j hj])
    have st := lp n1 0 V1 (by omega) g1 g2 g3
    rw [show C0 + sumN (fun a => w a * seV mc mw l (uG G kq co mc mw lk n1 l) a 4) 0 = C0 from Int.add_zero _] at st
    exact st
