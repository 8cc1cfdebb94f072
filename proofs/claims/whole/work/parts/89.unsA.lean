/-! when wear is not seen, the reference, 3 (specs42.py) -/
def XB (L mth m n1 : Nat) (G : Nat → Nat → Int) (kq co mc mw : Nat → Int) (lk : Int) (l f : Nat) : Prop := ∀ (V : Mv) (b : Bool) (v : Nat → Int), UR V m n1 G kq co mc mw lk → (∀ a, a < 8 → V 142 (f + 8 + a) = v a) → Zb n1 v → Wn n1 v (wB l) → Ex L (3 * l + 2) mth [.inr (.inr 120), .inl (m : Int)] V b (fun r V' b' => r = some (.inr (.inl (uG G kq co mc mw lk n1 l v))) ∧ b' = b ∧ (∀ y, y ≠ 120 → y ≠ 142 → V' y = V y) ∧ (∀ j, j ≠ 33 → V' 120 j = V 120 j) ∧ (∀ j, j < f + 16 → V' 142 j = V 142 j))
def XA (L mth m n1 : Nat) (G : Nat → Nat → Int) (kq co mc mw : Nat → Int) (lk : Int) (l f : Nat) : Prop := ∀ (V : Mv) (b : Bool) (w : Nat → Int) (x : Int), UR V m n1 G kq co mc mw lk → (∀ a, a < 8 → V 142 (f + a) = w a) → Zb n1 w → Wn n1 w (wB l) → (x = -9 ∨ 0 ≤ x ∧ x < (n1 : Int)) → Ex L (3 * l + 3) mth [.inr (.inr 120), .inl (m : Int), .inl x] V b (fun r V' b' => r = some (.inr (.inl (acV mc mw n1 l (uG G kq co mc mw lk n1 l) (onl w x) 4).1)) ∧ b' = b ∧ (∀ y, y ≠ 120 → y ≠ 142 → V' y = V y) ∧ (∀ j, j ≠ 33 → V' 120 j = V 120 j) ∧ (∀ j, j < f + 8 → V' 142 j = V 142 j) ∧ V' 120 33 = (acV mc mw n1 l (uG G kq co mc mw lk n1 l) (onl w x) 4).2)
def XL (L mth m n1 : Nat) (G : Nat → Nat → Int) (kq co mc mw : Nat → Int) (lk : Int) (l f : Nat) : Prop := ∀ (V : Mv) (b : Bool) (w : Nat → Int), UR V m n1 G kq co mc mw lk → (∀ a, a < 8 → V 142 (f + a) = w a) → Zb n1 w → Wn n1 w (wB l) → Ex L (3 * l + 4) mth [.inr (.inr 120), .inl (m : Int)] V b (fun r V' b' => r = some (.inr (.inl (uC G kq co mc mw lk n1 l w).1)) ∧ b' = b ∧ (∀ y, y ≠ 120 → y ≠ 142 → V' y = V y) ∧ (∀ j, j ≠ 33 → V' 120 j = V 120 j) ∧ (∀ j, j < f + 8 → V' 142 j = V 142 j) ∧ V' 120 33 = (uC G kq co mc mw lk n1 l w).2)
theorem onl_Z {n : Nat} {w : Nat → Int} {x : Int} (h : Zb n w) : Zb n (onl w x) := fun a h1 h2 => by
  unfold onl
  split
  · exact h a h1 h2
  · rfl
theorem onl_W {n : Nat} {w : Nat → Int} {x W : Int} (h : Wn n w W) : Wn n (onl w x) W := by
  refine ⟨fun a ha => ?_, Int.le_trans (sumN_le n (fun a ha => ?_)) h.2⟩
  · unfold onl
    split
    · exact h.1 a ha
    · exact Int.le_refl 0
  · unfold onl
    split
    · exact Int.le_refl _
    · exact h.1 a ha
theorem one1_Z {n : Nat} {x s : Int} (hx : 0 ≤ x ∧ x < (n : Int)) : Zb n (fun a => s * one1 x a) := fun a h1 h2 => by
  show s * one1 x a = 0
  unfold one1
  rw [if_neg (by omega), Int.mul_zero]
theorem one1_sum {n : Nat} {x : Int} (hx : 0 ≤ x ∧ x < (n : Int)) : sumN (one1 x) n = 1 := by
  have : ∀ k : Nat, sumN (one1 x) k = if x < (k : Int) then 1 else 0 := by
    intro k
    induction k with
    | zero => rw [if_neg (by omega)]; rfl
    | succ k ih =>
      show sumN (one1 x) k + one1 x k = _
      rw [ih]
      unfold one1
      by_cases e : (k : Int) = x
      · rw [if_pos e, if_neg (by omega), if_pos (by omega)]
        rfl
      · rw [if_neg e]
        by_cases e2 : x < (k : Int)
        · rw [if_pos e2, if_pos (by omega)]
          rfl
        · rw [if_neg e2, if_neg (by omega)]
          rfl
  rw [this n, if_pos hx.2]
theorem ac_se {mc mw : Nat → Int} {n l a : Nat} {g : (Nat → Int) → Int} (ha : a < n) : ∀ i, (acV mc mw n l g (one1 (a : Int)) i).1 = seV mc mw l g a i
  | 0 => rfl
  | i + 1 => by
    have ih := ac_se (mc := mc) (mw := mw) (l := l) (g := g) ha i
    by_cases q : ¬ mw i = -9 ∧ meV mc mw l g i < seV mc mw l g a i
    · rw [acV_t q.1 (by rw [one1_sum (by omega), Int.one_mul, ih]; exact q.2)]
      show sumN (one1 (a : Int)) n * meV mc mw l g i = (if ¬ mw i = -9 ∧ meV mc mw l g i < seV mc mw l g a i then meV mc mw l g i else seV mc mw l g a i)
      rw [if_pos q, one1_sum (by omega), Int.one_mul]
    · rw [acV_f (by rw [one1_sum (by omega), Int.one_mul, ih]; exact q), ih]
      exact (if_neg q).symm
theorem onl_one {w : Nat → Int} {a : Nat} : onl w (a : Int) = fun c => w a * one1 (a : Int) c := by
  funext c
  unfold onl one1
  by_cases q : (c : Int) = (a : Int)
  · rw [if_pos (Or.inr q), if_pos q, Int.mul_one, show c = a by omega]
  · rw [if_neg (by omega), if_neg q, Int.mul_zero]
theorem ac_one {mc mw : Nat → Int} {n l a : Nat} {g : (Nat → Int) → Int} {w : Nat → Int} (hg : gHm g) (ha : a < n) (hw : 0 < w a) : (acV mc mw n l g (onl w (a : Int)) 4).1 = w a * seV mc mw l g a 4 := by
  rw [onl_one, acV_mul hg hw, ac_se ha]
theorem onl_all {w : Nat → Int} : onl w (-9) = w := by
  funext a
  unfold onl
  rw [if_pos (Or.inl rfl)]
theorem xA_1 {L m n1 : Nat} {G : Nat → Nat → Int} {kq co mc mw : Nat → Int} {lk : Int} (hm : m < 3) (hB : UB n1 G kq co mc mw lk) (hX : XB L 215 m n1 G kq co mc mw lk 1 16) : XA L 214 m n1 G kq co mc mw lk 1 16 := by
  intro V b w x hU hw hz hW hx
  obtain ⟨l, hlv⟩ : ∃ l, l = 1 := ⟨_, rfl⟩
  have hl : l ≤ 2 := by omega
  have hcs : pw 100 l = 100 := by rw [hlv]; rfl
  rw [← hlv] at hX hW ⊢
  have h8 := hB.1.2.1
  have hZ : Zb n1 (onl w x) := onl_Z hz
  have hWo : Wn n1 (onl w x) (wB l) := onl_W hW
  have hg := uG_bd hB l hl
  have hsn := sumN_nn n1 hWo.1
  have hwb := wB_b hl
  have hkb := KG_b hl
  have hK2 : KG l * wB l = wB l * KG l := Int.mul_comm _ _
  have hme := meV_nn (mw := mw) hg hB.1.2.2.2.2.2 hl
  have hac := fun i (hi : i ≤ 4) => acV_bd (mw := mw) (mc := mc) (l := l) (n := n1) hsn (hg (onl w x) (wB l) hWo) (fun i hi => Or.inr (hme i hi).1) i hi
  have hS8 := sum8 hZ h8
  have lp : ∀ (n k : Nat) (W : Mv), k + n = 4 → (∀ y, y ≠ 120 → y ≠ 142 → W y = V y) → (∀ j, j ≠ 33 → W 120 j = V 120 j) → (∀ j, j < 16 + 8 → W 142 j = V 142 j) → Ev L (3 * l + 3) 214 10 [some (.inr (.inr 120)), some (.inl (m : Int)), some (.inl x), some (.inr (.inl (acV mc mw n1 l (uG G kq co mc mw lk n1 l) (onl w x) k).1)), none, some (.inl (acV mc mw n1 l (uG G kq co mc mw lk n1 l) (onl w x) k).2), some (.inl ((k : Int) + 1)), none, none] [] W b (fun r V' b' => r = some (.inr (.inl (acV mc mw n1 l (uG G kq co mc mw lk n1 l) (onl w x) 4).1)) ∧ b' = b ∧ (∀ y, y ≠ 120 → y ≠ 142 → V' y = V y) ∧ (∀ j, j ≠ 33 → V' 120 j = V 120 j) ∧ (∀ j, j < 16 + 8 → V' 142 j = V 142 j) ∧ V' 120 33 = (acV mc mw n1 l (uG G kq co mc mw lk n1 l) (onl w x) 4).2) := by
    intro n
    induction n with
    | zero =>
      intro k W h w1 w2 w3
      obtain rfl : k = 4 := by omega
      refine Ev.blk 3 (B214_10 _ _ _ _ _ _ _ _ (by decide)) rfl ?_
      refine Ev.ite (fun _ => ?_) (fun h => absurd h (by decide))
      refine Ev.blk 4 (B214_99 _ _ _ _ _ _ _ _) rfl ?_
      refine Ev.ret rfl rfl rfl rfl ⟨rfl, rfl, fun y q1 q2 => ?_, fun j hj => ?_, fun j hj => ?_, ?_⟩
      · rw [uV_ne q1, w1 y q1 q2]
      · rw [uV_at, if_neg hj, w2 j hj]
      · rw [uV_ne (by omega), w3 j hj]
      · rw [uV_at, if_pos rfl]
    | succ n ih =>
      intro k W h w1 w2 w3
      have hU2 : UR W m n1 G kq co mc mw lk := hU.frame (fun y q1 q2 => w1 y (by omega) (by omega))
      have hw2 : ∀ a, a < 8 → W 142 (16 + a) = w a := fun a ha => by rw [w3 _ (by omega)]; exact hw a ha
      have hmb := hB.1.2.2.2.2.1 k (by omega)
      have hmk := hme k (by omega)
      have hSM := mulb (x := sumN (onl w x) n1) (y := meV mc mw l (uG G kq co mc mw lk n1 l) k) (A := wB l) (B := 99 * pw 100 l + KG l) ⟨hsn, hWo.2⟩ hmk
      have hak := hac k (by omega)
      refine Ev.blk 3 (B214_10 _ _ _ _ _ _ _ _ ⟨by omega, by omega⟩) rfl ?_
      refine Ev.ite (fun z => absurd (of_decide_eq_true z) (by omega)) (fun _ => ?_)
      refine Ev.blk 3 (B214_16 _ _ _ _ _ _ _ _) rfl ?_
      refine Ev.call rfl rfl rfl (x_there (d := 3 * l) (i := k) hm hU2 hB (by omega)) (by omega) ?_
      rintro v V' b' ⟨rfl, h_, g_⟩
      subst V' b'
      refine Ev.blk 1 (B214_23 _ _ _ _ _ _ _ _ _ (b01_in _)) rfl ?_
      refine Ev.ite (fun z => ?_) (fun z => ?_)
      · replace z := b01_0 (of_decide_eq_true z)
        have ih2 := ih (k + 1) W (by omega) w1 w2 w3
        rw [acV_f (fun y => z y.1)] at ih2
        refine Ev.blk 2 (B214_93 _ _ _ _ _ _ _ _) rfl ?_
        exact ih2
      · replace z := b01_1 (of_decide_eq_false z)
        refine Ev.blk 5 (B214_26 _ _ _ _ _ _ _ _) rfl ?_
        refine Ev.call rfl rfl rfl (x_lay1 (d := 3 * l) (f := 16) (i := k) (x := x) (w := w) hm hU2 hB (by omega) (by omega) z (by omega) hw2) (by omega) ?_
        rintro v V1 b1 ⟨rfl, rfl, l1, l2, l3⟩
        have hU3 : UR V1 m n1 G kq co mc mw lk := hU2.frame (fun y q1 q2 => l1 y (by omega))
        refine Ev.blk 4 (B214_36 _ _ _ _ _ _ _ _) rfl ?_
        refine Ev.call rfl rfl rfl (x_price (d := 3 * l) (i := k) hm hU3 hB (by omega)) (by omega) ?_
        rintro v V' b' ⟨rfl, h_, g_⟩
        subst V' b'
        have hcb := hB.1.2.2.2.2.2 k (by omega)
        refine Ev.blk 4 (B214_46 _ _ _ _ _ _ _ _ _ _ ⟨by omega, by omega⟩) rfl ?_
        refine Ev.call rfl rfl rfl (x_sumAt (d := 3 * l) (f := 16 + 8) (w := fun a => sumN (onl w x) 8 * one1 (mw k) a) (by omega) l3) (by omega) ?_
        rintro v V' b' ⟨rfl, h_, g_⟩
        subst V' b'
        have hZ1 : Zb n1 (fun a => sumN (onl w x) 8 * one1 (mw k) a) := one1_Z (by omega)
        rw [sum8 hZ1 h8, sumN_mul, one1_sum (by omega), Int.mul_one, hS8]
        refine Ev.blk 3 (B214_54 _ _ _ _ _ _ _ _ _ _) rfl ?_
        refine Ev.call rfl rfl rfl (hX V1 _ (fun a => sumN (onl w x) n1 * one1 (mw k) a) hU3 (fun a ha => by rw [l3 a ha, hS8]) (by rw [← hS8]; exact hZ1) ⟨fun a ha => Int.mul_nonneg hsn (one1_Wn (n := n1).1 a ha), by rw [sumN_mul, one1_sum (by omega), Int.mul_one]; exact hWo.2⟩) (by omega) ?_
        rintro v V2 b2 ⟨rfl, rfl, g1, g2, g3⟩
        rw [uG_hm G kq co mc mw lk n1 l (sumN (onl w x) n1) (one1 (mw k)) hsn]
        have ev : 100 * mc k * sumN (onl w x) n1 + sumN (onl w x) n1 * uG G kq co mc mw lk n1 l (one1 (mw k)) = sumN (onl w x) n1 * meV mc mw l (uG G kq co mc mw lk n1 l) k := by
          rw [show 100 * mc k = mc k * pw 100 l by rw [hcs]; exact Int.mul_comm _ _, Int.mul_comm (mc k * pw 100 l), ← Int.mul_add]
          rfl
        have w1' : ∀ y, y ≠ 120 → y ≠ 142 → V2 y = V y := fun y q1 q2 => by rw [g1 y q1 q2, l1 y q2, w1 y q1 q2]
        have w2' : ∀ j, j ≠ 33 → V2 120 j = V 120 j := fun j hj => by rw [g2 j hj, l1 120 (by omega), w2 j hj]
        have w3' : ∀ j, j < 16 + 8 → V2 142 j = V 142 j := fun j hj => by rw [g3 j (by omega), l2 j (by omega), w3 j hj]
        have ih2 := ih (k + 1) V2 (by omega) w1' w2' w3'
        refine Ev.blk 6 (B214_60 _ _ _ _ _ _ _ _ _ _ (by rw [ev]; exact ⟨by omega, by omega⟩) ⟨by omega, by omega⟩ (cmpI_in _ _)) rfl ?_
        rw [ev]
        refine Ev.ite (fun y => ?_) (fun y => ?_)
        · have y : (acV mc mw n1 l (uG G kq co mc mw lk n1 l) (onl w x) k).1 ≤ sumN (onl w x) n1 * meV mc mw l (uG G kq co mc mw lk n1 l) k := (cmpI_ge _ _).mp (of_decide_eq_true y)
          rw [acV_f (fun y2 => absurd y2.2 (by omega))] at ih2
          refine Ev.blk 1 (B214_75 _ _ _ _ _ _ _ _ _) rfl ?_
          refine Ev.blk 5 (B214_77 _ _ _ _ _ _ _ _ _ _ ⟨by omega, by omega⟩ ⟨by omega, by omega⟩ (cmpI_in _ _)) rfl ?_
          refine Ev.ite (fun _ => ?_) (fun y2 => absurd ((cmpI_ge _ _).mpr y) (of_decide_eq_false y2))
          refine Ev.blk 1 (B214_91 _ _ _ _ _ _ _ _ _) rfl ?_
          refine Ev.blk 1 (B214_92 _ _ _ _ _ _ _ _ _ _) rfl ?_
          refine Ev.kill [false, false, false, false, false, false, false, true] ?_
          dsimp only [mkl]
          refine Ev.blk 2 (B214_93 _ _ _ _ _ _ _ _) rfl ?_
          exact ih2
        · have y : ¬ (acV mc mw n1 l (uG G kq co mc mw lk n1 l) (onl w x) k).1 ≤ sumN (onl w x) n1 * meV mc mw l (uG G kq co mc mw lk n1 l) k := fun y2 => of_decide_eq_false y ((cmpI_ge _ _).mpr y2)
          rw [acV_t z (by omega)] at ih2
          refine Ev.blk 2 (B214_70 _ _ _ _ _ _ _ _ _) rfl ?_
          refine Ev.blk 5 (B214_77 _ _ _ _ _ _ _ _ _ _ ⟨by omega, by omega⟩ ⟨by omega, by omega⟩ (cmpI_in _ _)) rfl ?_
          refine Ev.ite (fun y2 => absurd ((cmpI_ge _ _).mp (of_decide_eq_true y2)) y) (fun _ => ?_)
          refine Ev.blk 2 (B214_86 _ _ _ _ _ _ _ _ _) rfl ?_
          refine Ev.blk 1 (B214_92 _ _ _ _ _ _ _ _ _ _) rfl ?_
          refine Ev.kill [false, false, false, false, false, false, false, true] ?_
          dsimp only [mkl]
          refine Ev.blk 2 (B214_93 _ _ _ _ _ _ _ _) rfl ?_
          exact ih2
  have ha0 := hac 0 (by omega)
  refine Ev.blk 6 (B214_0 _ _ _ _ _) rfl ?_
  refine Ev.blk 3 (B214_10 _ _ _ _ _ _ _ _ (by decide)) rfl ?_
  refine Ev.ite (fun h => absurd h (by decide)) (fun _ => ?_)
  refine Ev.blk 3 (B214_16 _ _ _ _ _ _ _ _) rfl ?_
  refine Ev.call rfl rfl rfl (x_there0 (d := 3 * l)) (by omega) ?_
  rintro v V' b' ⟨rfl, h_, g_⟩
  subst V' b'
  refine Ev.blk 1 (B214_23 _ _ _ _ _ _ _ _ _ (by decide)) rfl ?_
  refine Ev.ite (fun h => absurd h (by decide)) (fun _ => ?_)
  refine Ev.blk 5 (B214_26 _ _ _ _ _ _ _ _) rfl ?_
  refine Ev.call rfl rfl rfl (x_lay0 (d := 3 * l) (f := 16) (x := x) (w := w) (by omega) ⟨by omega, by omega⟩ hw) (by omega) ?_
  rintro v V1 b1 ⟨rfl, h_, g_⟩
  subst b1
  have l1 : ∀ y, y ≠ 142 → V1 y = V y := fun y hy => by rw [h_, fil_ne hy]
  have l2 : ∀ j, j < 16 + 8 → V1 142 j = V 142 j := fun j hj => by rw [h_, fil_out (by omega)]
  have l3 : ∀ a, a < 8 → V1 142 (16 + 8 + a) = onl w x a := fun a ha => by rw [h_, fil_at ha]
  have hU3 : UR V1 m n1 G kq co mc mw lk := hU.frame (fun y q1 q2 => l1 y (by omega))
  refine Ev.blk 4 (B214_36 _ _ _ _ _ _ _ _) rfl ?_
  refine Ev.call rfl rfl rfl (x_price0 (d := 3 * l)) (by omega) ?_
  rintro v V' b' ⟨rfl, h1_, g1_⟩
  subst V' b'
  refine Ev.blk 4 (B214_46 _ _ _ _ _ _ _ _ _ _ (by decide)) rfl ?_
  refine Ev.call rfl rfl rfl (x_sumAt (d := 3 * l) (f := 16 + 8) (w := onl w x) (by omega) l3) (by omega) ?_
  rintro v V' b' ⟨rfl, h1_, g1_⟩
  subst V' b'
  refine Ev.blk 3 (B214_54 _ _ _ _ _ _ _ _ _ _) rfl ?_
  refine Ev.call rfl rfl rfl (hX V1 _ (onl w x) hU3 l3 hZ hWo) (by omega) ?_
  rintro v V2 b2 ⟨rfl, rfl, g1, g2, g3⟩
  have ev : 100 * 0 * sumN (onl w x) 8 + uG G kq co mc mw lk n1 l (onl w x) = (acV mc mw n1 l (uG G kq co mc mw lk n1 l) (onl w x) 0).1 := by
    rw [Int.mul_zero, Int.zero_mul, Int.zero_add]
    rfl
  have fin := lp 4 0 V2 (by omega) (fun y q1 q2 => by rw [g1 y q1 q2, l1 y q2]) (fun j hj => by rw [g2 j hj, l1 120 (by omega)]) (fun j hj => by rw [g3 j (by omega), l2 j hj])
  refine Ev.blk 6 (B214_60 _ _ _ _ _ _ _ _ _ _ (by rw [ev]; exact ⟨by omega, by omega⟩) ⟨by omega, by omega⟩ (cmpI_in _ _)) rfl ?_
  rw [ev]
  refine Ev.ite (fun y => absurd ((cmpI_ge _ _).mp (of_decide_eq_true y)) (by omega)) (fun _ => ?_)
  refine Ev.blk 2 (B214_70 _ _ _ _ _ _ _ _ _) rfl ?_
  refine Ev.blk 5 (B214_77 _ _ _ _ _ _ _ _ _ _ ⟨by omega, by omega⟩ ⟨by omega, by omega⟩ (cmpI_in _ _)) rfl ?_
  refine Ev.ite (fun y => absurd ((cmpI_ge _ _).mp (of_decide_eq_true y)) (by omega)) (fun _ => ?_)
  refine Ev.blk 2 (B214_86 _ _ _ _ _ _ _ _ _) rfl ?_
  refine Ev.blk 1 (B214_92 _ _ _ _ _ _ _ _ _ _) rfl ?_
  refine Ev.kill [false, false, false, false, false, false, false, true] ?_
  dsimp only [mkl]
  refine Ev.blk 2 (B214_93 _ _ _ _ _ _ _ _) rfl ?_
  exact fin
theorem xA_2 {L m n1 : Nat} {G : Nat → Nat → Int} {kq co mc mw : Nat → Int} {lk : Int} (hm : m < 3) (hB : UB n1 G kq co mc mw lk) (hX : XB L 210 m n1 G kq co mc mw lk 2 0) : XA L 205 m n1 G kq co mc mw lk 2 0 := by
  intro V b w x hU hw hz hW hx
  obtain ⟨l, hlv⟩ : ∃ l, l = 2 := ⟨_, rfl⟩
  have hl : l ≤ 2 := by omega
  have hcs : pw 100 l = 10000 := by rw [hlv]; rfl
  rw [← hlv] at hX hW ⊢
  have h8 := hB.1.2.1
  have hZ : Zb n1 (onl w x) := onl_Z hz
  have hWo : Wn n1 (onl w x) (wB l) := onl_W hW
  have hg := uG_bd hB l hl
  have hsn := sumN_nn n1 hWo.1
  have hwb := wB_b hl
  have hkb := KG_b hl
  have hK2 : KG l * wB l = wB l * KG l := Int.mul_comm _ _
  have hme := meV_nn (mw := mw) hg hB.1.2.2.2.2.2 hl
  have hac := fun i (hi : i ≤ 4) => acV_bd (mw := mw) (mc := mc) (l := l) (n := n1) hsn (hg (onl w x) (wB l) hWo) (fun i hi => Or.inr (hme i hi).1) i hi
  have hS8 := sum8 hZ h8
  have lp : ∀ (n k : Nat) (W : Mv), k + n = 4 → (∀ y, y ≠ 120 → y ≠ 142 → W y = V y) → (∀ j, j ≠ 33 → W 120 j = V 120 j) → (∀ j, j < 0 + 8 → W 142 j = V 142 j) → Ev L (3 * l + 3) 205 10 [some (.inr (.inr 120)), some (.inl (m : Int)), some (.inl x), some (.inr (.inl (acV mc mw n1 l (uG G kq co mc mw lk n1 l) (onl w x) k).1)), none, some (.inl (acV mc mw n1 l (uG G kq co mc mw lk n1 l) (onl w x) k).2), some (.inl ((k : Int) + 1)), none, none] [] W b (fun r V' b' => r = some (.inr (.inl (acV mc mw n1 l (uG G kq co mc mw lk n1 l) (onl w x) 4).1)) ∧ b' = b ∧ (∀ y, y ≠ 120 → y ≠ 142 → V' y = V y) ∧ (∀ j, j ≠ 33 → V' 120 j = V 120 j) ∧ (∀ j, j < 0 + 8 → V' 142 j = V 142 j) ∧ V' 120 33 = (acV mc mw n1 l (uG G kq co mc mw lk n1 l) (onl w x) 4).2) := by
    intro n
    induction n with
    | zero =>
      intro k W h w1 w2 w3
      obtain rfl : k = 4 := by omega
      refine Ev.blk 3 (B205_10 _ _ _ _ _ _ _ _ (by decide)) rfl ?_
      refine Ev.ite (fun _ => ?_) (fun h => absurd h (by decide))
      refine Ev.blk 4 (B205_98 _ _ _ _ _ _ _ _) rfl ?_
      refine Ev.ret rfl rfl rfl rfl ⟨rfl, rfl, fun y q1 q2 => ?_, fun j hj => ?_, fun j hj => ?_, ?_⟩
      · rw [uV_ne q1, w1 y q1 q2]
      · rw [uV_at, if_neg hj, w2 j hj]
      · rw [uV_ne (by omega), w3 j hj]
      · rw [uV_at, if_pos rfl]
    | succ n ih =>
      intro k W h w1 w2 w3
      have hU2 : UR W m n1 G kq co mc mw lk := hU.frame (fun y q1 q2 => w1 y (by omega) (by omega))
      have hw2 : ∀ a, a < 8 → W 142 (0 + a) = w a := fun a ha => by rw [w3 _ (by omega)]; exact hw a ha
      have hmb := hB.1.2.2.2.2.1 k (by omega)
      have hmk := hme k (by omega)
      have hSM := mulb (x := sumN (onl w x) n1) (y := meV mc mw l (uG G kq co mc mw lk n1 l) k) (A := wB l) (B := 99 * pw 100 l + KG l) ⟨hsn, hWo.2⟩ hmk
      have hak := hac k (by omega)
      refine Ev.blk 3 (B205_10 _ _ _ _ _ _ _ _ ⟨by omega, by omega⟩) rfl ?_
      refine Ev.ite (fun z => absurd (of_decide_eq_true z) (by omega)) (fun _ => ?_)
      refine Ev.blk 3 (B205_16 _ _ _ _ _ _ _ _) rfl ?_
      refine Ev.call rfl rfl rfl (x_there (d := 3 * l) (i := k) hm hU2 hB (by omega)) (by omega) ?_
      rintro v V' b' ⟨rfl, h_, g_⟩
      subst V' b'
      refine Ev.blk 1 (B205_23 _ _ _ _ _ _ _ _ _ (b01_in _)) rfl ?_
      refine Ev.ite (fun z => ?_) (fun z => ?_)
      · replace z := b01_0 (of_decide_eq_true z)
        have ih2 := ih (k + 1) W (by omega) w1 w2 w3
        rw [acV_f (fun y => z y.1)] at ih2
        refine Ev.blk 2 (B205_92 _ _ _ _ _ _ _ _) rfl ?_
        exact ih2
      · replace z := b01_1 (of_decide_eq_false z)
        refine Ev.blk 5 (B205_26 _ _ _ _ _ _ _ _) rfl ?_
        refine Ev.call rfl rfl rfl (x_lay1 (d := 3 * l) (f := 0) (i := k) (x := x) (w := w) hm hU2 hB (by omega) (by omega) z (by omega) hw2) (by omega) ?_
        rintro v V1 b1 ⟨rfl, rfl, l1, l2, l3⟩
        have hU3 : UR V1 m n1 G kq co mc mw lk := hU2.frame (fun y q1 q2 => l1 y (by omega))
        refine Ev.blk 4 (B205_35 _ _ _ _ _ _ _ _) rfl ?_
        refine Ev.call rfl rfl rfl (x_price (d := 3 * l) (i := k) hm hU3 hB (by omega)) (by omega) ?_
        rintro v V' b' ⟨rfl, h_, g_⟩
        subst V' b'
        have hcb := hB.1.2.2.2.2.2 k (by omega)
        refine Ev.blk 4 (B205_45 _ _ _ _ _ _ _ _ _ _ ⟨by omega, by omega⟩) rfl ?_
        refine Ev.call rfl rfl rfl (x_sumAt (d := 3 * l) (f := 0 + 8) (w := fun a => sumN (onl w x) 8 * one1 (mw k) a) (by omega) l3) (by omega) ?_
        rintro v V' b' ⟨rfl, h_, g_⟩
        subst V' b'
        have hZ1 : Zb n1 (fun a => sumN (onl w x) 8 * one1 (mw k) a) := one1_Z (by omega)
        rw [sum8 hZ1 h8, sumN_mul, one1_sum (by omega), Int.mul_one, hS8]
        refine Ev.blk 3 (B205_53 _ _ _ _ _ _ _ _ _ _) rfl ?_
        refine Ev.call rfl rfl rfl (hX V1 _ (fun a => sumN (onl w x) n1 * one1 (mw k) a) hU3 (fun a ha => by rw [l3 a ha, hS8]) (by rw [← hS8]; exact hZ1) ⟨fun a ha => Int.mul_nonneg hsn (one1_Wn (n := n1).1 a ha), by rw [sumN_mul, one1_sum (by omega), Int.mul_one]; exact hWo.2⟩) (by omega) ?_
        rintro v V2 b2 ⟨rfl, rfl, g1, g2, g3⟩
        rw [uG_hm G kq co mc mw lk n1 l (sumN (onl w x) n1) (one1 (mw k)) hsn]
        have ev : 10000 * mc k * sumN (onl w x) n1 + sumN (onl w x) n1 * uG G kq co mc mw lk n1 l (one1 (mw k)) = sumN (onl w x) n1 * meV mc mw l (uG G kq co mc mw lk n1 l) k := by
          rw [show 10000 * mc k = mc k * pw 100 l by rw [hcs]; exact Int.mul_comm _ _, Int.mul_comm (mc k * pw 100 l), ← Int.mul_add]
          rfl
        have w1' : ∀ y, y ≠ 120 → y ≠ 142 → V2 y = V y := fun y q1 q2 => by rw [g1 y q1 q2, l1 y q2, w1 y q1 q2]
        have w2' : ∀ j, j ≠ 33 → V2 120 j = V 120 j := fun j hj => by rw [g2 j hj, l1 120 (by omega), w2 j hj]
        have w3' : ∀ j, j < 0 + 8 → V2 142 j = V 142 j := fun j hj => by rw [g3 j (by omega), l2 j (by omega), w3 j hj]
        have ih2 := ih (k + 1) V2 (by omega) w1' w2' w3'
        refine Ev.blk 6 (B205_59 _ _ _ _ _ _ _ _ _ _ (by rw [ev]; exact ⟨by omega, by omega⟩) ⟨by omega, by omega⟩ (cmpI_in _ _)) rfl ?_
        rw [ev]
        refine Ev.ite (fun y => ?_) (fun y => ?_)
        · have y : (acV mc mw n1 l (uG G kq co mc mw lk n1 l) (onl w x) k).1 ≤ sumN (onl w x) n1 * meV mc mw l (uG G kq co mc mw lk n1 l) k := (cmpI_ge _ _).mp (of_decide_eq_true y)
          rw [acV_f (fun y2 => absurd y2.2 (by omega))] at ih2
          refine Ev.blk 1 (B205_74 _ _ _ _ _ _ _ _ _) rfl ?_
          refine Ev.blk 5 (B205_76 _ _ _ _ _ _ _ _ _ _ ⟨by omega, by omega⟩ ⟨by omega, by omega⟩ (cmpI_in _ _)) rfl ?_
          refine Ev.ite (fun _ => ?_) (fun y2 => absurd ((cmpI_ge _ _).mpr y) (of_decide_eq_false y2))
          refine Ev.blk 1 (B205_90 _ _ _ _ _ _ _ _ _) rfl ?_
          refine Ev.blk 1 (B205_91 _ _ _ _ _ _ _ _ _ _) rfl ?_
          refine Ev.kill [false, false, false, false, false, false, false, true] ?_
          dsimp only [mkl]
          refine Ev.blk 2 (B205_92 _ _ _ _ _ _ _ _) rfl ?_
          exact ih2
        · have y : ¬ (acV mc mw n1 l (uG G kq co mc mw lk n1 l) (onl w x) k).1 ≤ sumN (onl w x) n1 * meV mc mw l (uG G kq co mc mw lk n1 l) k := fun y2 => of_decide_eq_false y ((cmpI_ge _ _).mpr y2)
          rw [acV_t z (by omega)] at ih2
          refine Ev.blk 2 (B205_69 _ _ _ _ _ _ _ _ _) rfl ?_
          refine Ev.blk 5 (B205_76 _ _ _ _ _ _ _ _ _ _ ⟨by omega, by omega⟩ ⟨by omega, by omega⟩ (cmpI_in _ _)) rfl ?_
          refine Ev.ite (fun y2 => absurd ((cmpI_ge _ _).mp (of_decide_eq_true y2)) y) (fun _ => ?_)
          refine Ev.blk 2 (B205_85 _ _ _ _ _ _ _ _ _) rfl ?_
          refine Ev.blk 1 (B205_91 _ _ _ _ _ _ _ _ _ _) rfl ?_
          refine Ev.kill [false, false, false, false, false, false, false, true] ?_
          dsimp only [mkl]
          refine Ev.blk 2 (B205_92 _ _ _ _ _ _ _ _) rfl ?_
          exact ih2
  have ha0 := hac 0 (by omega)
  refine Ev.blk 6 (B205_0 _ _ _ _ _) rfl ?_
  refine Ev.blk 3 (B205_10 _ _ _ _ _ _ _ _ (by decide)) rfl ?_
  refine Ev.ite (fun h => absurd h (by decide)) (fun _ => ?_)
  refine Ev.blk 3 (B205_16 _ _ _ _ _ _ _ _) rfl ?_
  refine Ev.call rfl rfl rfl (x_there0 (d := 3 * l)) (by omega) ?_
  rintro v V' b' ⟨rfl, h_, g_⟩
  subst V' b'
  refine Ev.blk 1 (B205_23 _ _ _ _ _ _ _ _ _ (by decide)) rfl ?_
  refine Ev.ite (fun h => absurd h (by decide)) (fun _ => ?_)
  refine Ev.blk 5 (B205_26 _ _ _ _ _ _ _ _) rfl ?_
  refine Ev.call rfl rfl rfl (x_lay0 (d := 3 * l) (f := 0) (x := x) (w := w) (by omega) ⟨by omega, by omega⟩ hw) (by omega) ?_
  rintro v V1 b1 ⟨rfl, h_, g_⟩
  subst b1
  have l1 : ∀ y, y ≠ 142 → V1 y = V y := fun y hy => by rw [h_, fil_ne hy]
  have l2 : ∀ j, j < 0 + 8 → V1 142 j = V 142 j := fun j hj => by rw [h_, fil_out (by omega)]
  have l3 : ∀ a, a < 8 → V1 142 (0 + 8 + a) = onl w x a := fun a ha => by rw [h_, fil_at ha]
  have hU3 : UR V1 m n1 G kq co mc mw lk := hU.frame (fun y q1 q2 => l1 y (by omega))
  refine Ev.blk 4 (B205_35 _ _ _ _ _ _ _ _) rfl ?_
  refine Ev.call rfl rfl rfl (x_price0 (d := 3 * l)) (by omega) ?_
  rintro v V' b' ⟨rfl, h1_, g1_⟩
  subst V' b'
  refine Ev.blk 4 (B205_45 _ _ _ _ _ _ _ _ _ _ (by decide)) rfl ?_
  refine Ev.call rfl rfl rfl (x_sumAt (d := 3 * l) (f := 0 + 8) (w := onl w x) (by omega) l3) (by omega) ?_
  rintro v V' b' ⟨rfl, h1_, g1_⟩
  subst V' b'
  refine Ev.blk 3 (B205_53 _ _ _ _ _ _ _ _ _ _) rfl ?_
  refine Ev.call rfl rfl rfl (hX V1 _ (onl w x) hU3 l3 hZ hWo) (by omega) ?_
  rintro v V2 b2 ⟨rfl, rfl, g1, g2, g3⟩
  have ev : 10000 * 0 * sumN (onl w x) 8 + uG G kq co mc mw lk n1 l (onl w x) = (acV mc mw n1 l (uG G kq co mc mw lk n1 l) (onl w x) 0).1 := by
    rw [Int.mul_zero, Int.zero_mul, Int.zero_add]
    rfl
  have fin := lp 4 0 V2 (by omega) (fun y q1 q2 => by rw [g1 y q1 q2, l1 y q2]) (fun j hj => by rw [g2 j hj, l1 120 (by omega)]) (fun j hj => by rw [g3 j (by omega), l2 j hj])
  refine Ev.blk 6 (B205_59 _ _ _ _ _ _ _ _ _ _ (by rw [ev]; exact ⟨by omega, by omega⟩) ⟨by omega, by omega⟩ (cmpI_in _ _)) rfl ?_
  rw [ev]
  refine Ev.ite (fun y => absurd ((cmpI_ge _ _).mp (of_decide_eq_true y)) (by omega)) (fun _ => ?_)
  refine Ev.blk 2 (B205_69 _ _ _ _ _ _ _ _ _) rfl ?_
  refine Ev.blk 5 (B205_76 _ _ _ _ _ _ _ _ _ _ ⟨by omega, by omega⟩ ⟨by omega, by omega⟩ (cmpI_in _ _)) rfl ?_
  refine Ev.ite (fun y => absurd ((cmpI_ge _ _).mp (of_decide_eq_true y)) (by omega)) (fun _ => ?_)
  refine Ev.blk 2 (B205_85 _ _ _ _ _ _ _ _ _) rfl ?_
  refine Ev.blk 1 (B205_91 _ _ _ _ _ _ _ _ _ _) rfl ?_
  refine Ev.kill [false, false, false, false, false, false, false, true] ?_
  dsimp only [mkl]
  refine Ev.blk 2 (B205_92 _ _ _ _ _ _ _ _) rfl ?_
  exact fin
