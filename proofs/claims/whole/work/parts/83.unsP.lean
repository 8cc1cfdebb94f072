/-! when wear is not seen (pure) -/
/-- costs of a day and all the weight -/
def cS (co : Nat → Int) (n : Nat) (w : Nat → Int) : Int := sumN (fun a => w a * co a) n
/-- weights behind a day and a knock (h = 1) or none -/
def pd (G : Nat → Nat → Int) (q : Nat → Int) (w : Nat → Int) (h : Int) : Nat → Int := kF q h (dF G w)
def goV (G : Nat → Nat → Int) (q co : Nat → Int) (n l : Nat) (C : (Nat → Int) → Int) (w : Nat → Int) : Int := cS co n w * pw 100 l + (if l = 0 then 0 else C (pd G q w 1) + C (pd G q w 0))
/-- mended first; the least that one wear costs, over the first k mendings -/
def meV (mc mw : Nat → Int) (l : Nat) (g : (Nat → Int) → Int) (i : Nat) : Int := mc i * pw 100 l + g (one1 (mw i))
def seV (mc mw : Nat → Int) (l : Nat) (g : (Nat → Int) → Int) (a : Nat) : Nat → Int
  | 0 => g (one1 (a : Int))
  | i + 1 => if ¬ mw i = -9 ∧ meV mc mw l g i < seV mc mw l g a i then meV mc mw l g i else seV mc mw l g a i
/-- acts but the look, over the first k mendings -/
def acV (mc mw : Nat → Int) (n l : Nat) (g : (Nat → Int) → Int) (w : Nat → Int) : Nat → Int × Int
  | 0 => (g w, 0)
  | i + 1 => if ¬ mw i = -9 ∧ sumN w n * meV mc mw l g i < (acV mc mw n l g w i).1 then (sumN w n * meV mc mw l g i, (i : Int) + 1) else acV mc mw n l g w i
def loV (mc mw : Nat → Int) (lk : Int) (n l : Nat) (g : (Nat → Int) → Int) (w : Nat → Int) : Int := sumN (fun a => w a * seV mc mw l g a 4) n + sumN w n * lk * pw 100 l
def chU (mc mw : Nat → Int) (lk : Int) (n l : Nat) (g : (Nat → Int) → Int) (w : Nat → Int) : Int × Int := if ¬ lk = -9 ∧ loV mc mw lk n l g w < (acV mc mw n l g w 4).1 then (loV mc mw lk n l g w, 5) else acV mc mw n l g w 4
def uG (G : Nat → Nat → Int) (q co mc mw : Nat → Int) (lk : Int) (n : Nat) : Nat → (Nat → Int) → Int
  | 0 => goV G q co n 0 (fun _ => 0)
  | l + 1 => goV G q co n (l + 1) (fun v => (chU mc mw lk n l (uG G q co mc mw lk n l) v).1)
/-- the least, and the first act, with l + 1 days left -/
def uC (G : Nat → Nat → Int) (q co mc mw : Nat → Int) (lk : Int) (n l : Nat) (w : Nat → Int) : Int × Int := chU mc mw lk n l (uG G q co mc mw lk n l) w
/-! only the first n weights matter -/
theorem cS_congr {co w v : Nat → Int} {n : Nat} (h : ∀ a, a < n → w a = v a) : cS co n w = cS co n v := sumN_congr n (fun a ha => by rw [h a ha])
theorem pd_congr {G : Nat → Nat → Int} {q w v : Nat → Int} {hh : Int} {n : Nat} (h : ∀ a, a < n → w a = v a) : ∀ a, a < n → pd G q w hh a = pd G q v hh a := by
  intro a ha
  unfold pd kF dF
  rw [sumN_congr (a + 1) (fun i hi => by rw [h i (by omega)])]
def gCg (n : Nat) (g : (Nat → Int) → Int) : Prop := ∀ w v : Nat → Int, (∀ a, a < n → w a = v a) → g w = g v
theorem acV_congr {mc mw : Nat → Int} {n l : Nat} {g : (Nat → Int) → Int} (hg : gCg n g) {w v : Nat → Int} (h : ∀ a, a < n → w a = v a) : ∀ i, acV mc mw n l g w i = acV mc mw n l g v i
  | 0 => by
    show (g w, (0 : Int)) = (g v, 0)
    rw [hg w v h]
  | i + 1 => by
    show (if ¬ mw i = -9 ∧ sumN w n * meV mc mw l g i < (acV mc mw n l g w i).1 then (sumN w n * meV mc mw l g i, (i : Int) + 1) else acV mc mw n l g w i) = (if ¬ mw i = -9 ∧ sumN v n * meV mc mw l g i < (acV mc mw n l g v i).1 then (sumN v n * meV mc mw l g i, (i : Int) + 1) else acV mc mw n l g v i)
    rw [acV_congr hg h i, sumN_congr n h]
theorem chU_congr {mc mw : Nat → Int} {lk : Int} {n l : Nat} {g : (Nat → Int) → Int} (hg : gCg n g) {w v : Nat → Int} (h : ∀ a, a < n → w a = v a) : chU mc mw lk n l g w = chU mc mw lk n l g v := by
  have e : loV mc mw lk n l g w = loV mc mw lk n l g v := by
    unfold loV
    rw [sumN_congr n h, sumN_congr n (fun a ha => by rw [h a ha])]
  unfold chU
  rw [e, acV_congr hg h]
theorem uG_congr (G : Nat → Nat → Int) (q co mc mw : Nat → Int) (lk : Int) (n : Nat) : ∀ l, gCg n (uG G q co mc mw lk n l)
  | 0 => fun w v h => by
    show goV G q co n 0 (fun _ => 0) w = goV G q co n 0 (fun _ => 0) v
    unfold goV
    rw [cS_congr h]
  | l + 1 => fun w v h => by
    have ih := uG_congr G q co mc mw lk n l
    show goV G q co n (l + 1) _ w = goV G q co n (l + 1) _ v
    unfold goV
    rw [cS_congr h]
    dsimp only
    rw [chU_congr ih (pd_congr (hh := 1) h), chU_congr ih (pd_congr (hh := 0) h)]
/-! weights times a number -/
theorem sumN_mul (s : Int) (f : Nat → Int) : ∀ n, sumN (fun a => s * f a) n = s * sumN f n
  | 0 => (Int.mul_zero s).symm
  | n + 1 => by
    show sumN (fun a => s * f a) n + s * f n = s * (sumN f n + f n)
    rw [sumN_mul s f n, Int.mul_add]
theorem cS_mul (s : Int) (co w : Nat → Int) (n : Nat) : cS co n (fun a => s * w a) = s * cS co n w := by
  unfold cS
  rw [← sumN_mul]
  exact sumN_congr n (fun a _ => by rw [Int.mul_assoc])
theorem pd_mul (s : Int) (G : Nat → Nat → Int) (q w : Nat → Int) (h : Int) : pd G q (fun a => s * w a) h = fun a => s * pd G q w h a := by
  funext a
  unfold pd kF dF
  rw [← Int.mul_assoc, ← sumN_mul]
  rw [sumN_congr (a + 1) (fun i _ => by rw [Int.mul_assoc])]
def gHm (g : (Nat → Int) → Int) : Prop := ∀ (s : Int) (w : Nat → Int), 0 ≤ s → g (fun a => s * w a) = s * g w
theorem min_mul {s x y : Int} (hs : 0 < s) : (s * x < s * y) ↔ x < y := ⟨fun h => Int.lt_of_mul_lt_mul_left h (by omega), fun h => Int.mul_lt_mul_of_pos_left h hs⟩
theorem acV_mul {mc mw : Nat → Int} {n l : Nat} {g : (Nat → Int) → Int} (hg : gHm g) {s : Int} (hs : 0 < s) (w : Nat → Int) : ∀ i, acV mc mw n l g (fun a => s * w a) i = (s * (acV mc mw n l g w i).1, (acV mc mw n l g w i).2)
  | 0 => by
    show (g (fun a => s * w a), (0 : Int)) = (s * g w, 0)
    rw [hg s w (by omega)]
  | i + 1 => by
    show (if ¬ mw i = -9 ∧ sumN (fun a => s * w a) n * meV mc mw l g i < (acV mc mw n l g (fun a => s * w a) i).1 then (sumN (fun a => s * w a) n * meV mc mw l g i, (i : Int) + 1) else acV mc mw n l g (fun a => s * w a) i) = (s * (if ¬ mw i = -9 ∧ sumN w n * meV mc mw l g i < (acV mc mw n l g w i).1 then (sumN w n * meV mc mw l g i, (i : Int) + 1) else acV mc mw n l g w i).1, (if ¬ mw i = -9 ∧ sumN w n * meV mc mw l g i < (acV mc mw n l g w i).1 then (sumN w n * meV mc mw l g i, (i : Int) + 1) else acV mc mw n l g w i).2)
    rw [acV_mul hg hs w i, sumN_mul, Int.mul_assoc]
    dsimp only
    by_cases q : ¬ mw i = -9 ∧ sumN w n * meV mc mw l g i < (acV mc mw n l g w i).1
    · rw [if_pos q, if_pos ⟨q.1, (min_mul hs).mpr q.2⟩]
    · rw [if_neg q, if_neg (fun z => q ⟨z.1, (min_mul hs).mp z.2⟩)]
theorem chU_mul {mc mw : Nat → Int} {lk : Int} {n l : Nat} {g : (Nat → Int) → Int} (hg : gHm g) {s : Int} (hs : 0 < s) (w : Nat → Int) : chU mc mw lk n l g (fun a => s * w a) = (s * (chU mc mw lk n l g w).1, (chU mc mw lk n l g w).2) := by
  have e : loV mc mw lk n l g (fun a => s * w a) = s * loV mc mw lk n l g w := by
    unfold loV
    rw [Int.mul_add, sumN_mul, sumN_congr n (g := fun a => s * (w a * seV mc mw l g a 4)) (fun a _ => Int.mul_assoc _ _ _), sumN_mul, Int.mul_assoc, Int.mul_assoc, Int.mul_assoc]
  unfold chU
  rw [e, acV_mul hg hs w 4]
  dsimp only
  by_cases q : ¬ lk = -9 ∧ loV mc mw lk n l g w < (acV mc mw n l g w 4).1
  · rw [if_pos q, if_pos ⟨q.1, (min_mul hs).mpr q.2⟩]
  · rw [if_neg q, if_neg (fun z => q ⟨z.1, (min_mul hs).mp z.2⟩)]
theorem acV_0 {mc mw : Nat → Int} {n l : Nat} {g : (Nat → Int) → Int} (hg : gHm g) : ∀ i, acV mc mw n l g (fun _ => 0) i = (0, 0)
  | 0 => by
    show (g (fun _ => 0), (0 : Int)) = (0, 0)
    have := hg 0 (fun _ => 0) (Int.le_refl 0)
    simp only [Int.zero_mul] at this
    rw [this]
  | i + 1 => by
    show (if ¬ mw i = -9 ∧ sumN (fun _ => 0) n * meV mc mw l g i < (acV mc mw n l g (fun _ => 0) i).1 then (sumN (fun _ => 0) n * meV mc mw l g i, (i : Int) + 1) else acV mc mw n l g (fun _ => 0) i) = _
    rw [acV_0 hg i, sumN_0 n (fun _ _ => rfl), Int.zero_mul, if_neg (fun z => absurd z.2 (by decide))]
theorem chU_0 {mc mw : Nat → Int} {lk : Int} {n l : Nat} {g : (Nat → Int) → Int} (hg : gHm g) : chU mc mw lk n l g (fun _ => 0) = (0, 0) := by
  have e : loV mc mw lk n l g (fun _ => 0) = 0 := by
    unfold loV
    rw [sumN_0 n (fun _ _ => Int.zero_mul _), sumN_0 n (fun _ _ => rfl), Int.zero_mul, Int.zero_mul]
    rfl
  unfold chU
  rw [e, acV_0 hg 4, if_neg (fun z => absurd z.2 (by decide))]
theorem uG_hm (G : Nat → Nat → Int) (q co mc mw : Nat → Int) (lk : Int) (n : Nat) : ∀ l, gHm (uG G q co mc mw lk n l)
  | 0 => fun s w _ => by
    show goV G q co n 0 (fun _ => 0) _ = s * goV G q co n 0 (fun _ => 0) w
    unfold goV
    rw [cS_mul, if_pos rfl, Int.add_zero, Int.add_zero, Int.mul_assoc]
  | l + 1 => fun s w hs => by
    have ih := uG_hm G q co mc mw lk n l
    have C : ∀ v : Nat → Int, (chU mc mw lk n l (uG G q co mc mw lk n l) (fun a => s * v a)).1 = s * (chU mc mw lk n l (uG G q co mc mw lk n l) v).1 := fun v => by
      by_cases z : s = 0
      · rw [z, show (fun a : Nat => (0 : Int) * v a) = fun _ => 0 from funext (fun _ => Int.zero_mul _), chU_0 ih, Int.zero_mul]
      · rw [chU_mul ih (by omega)]
    show goV G q co n (l + 1) _ _ = s * goV G q co n (l + 1) _ w
    unfold goV
    rw [cS_mul, pd_mul, pd_mul]
    dsimp only
    rw [C, C, if_neg (by omega), if_neg (by omega), Int.mul_add, Int.mul_add, Int.mul_assoc]
/-! bounds -/
/-- weights that are not below 0, W in all -/
def Wn (n : Nat) (w : Nat → Int) (W : Int) : Prop := (∀ a, a < n → 0 ≤ w a) ∧ sumN w n ≤ W
def KG : Nat → Int
  | 0 => 99
  | l + 1 => 99 * pw 100 (l + 1) + 1600 * KG l
theorem KG_b {l : Nat} (h : l ≤ 2) : 99 ≤ KG l ∧ KG l ≤ 300000000 ∧ 1 ≤ pw 100 l ∧ pw 100 l ≤ 10000 := by
  have : l = 0 ∨ l = 1 ∨ l = 2 := by omega
  rcases this with rfl | rfl | rfl <;> decide
theorem sumN_nn {f : Nat → Int} : ∀ n, (∀ i, i < n → 0 ≤ f i) → 0 ≤ sumN f n
  | 0, _ => Int.le_refl 0
  | n + 1, h => Int.add_nonneg (sumN_nn n (fun i hi => h i (by omega))) (h n (by omega))
theorem sumN_mulr (s : Int) (f : Nat → Int) : ∀ n, sumN (fun a => f a * s) n = sumN f n * s
  | 0 => (Int.zero_mul s).symm
  | n + 1 => by
    show sumN (fun a => f a * s) n + f n * s = (sumN f n + f n) * s
    rw [sumN_mulr s f n, Int.add_mul]
theorem sumN_mono {f : Nat → Int} {m n : Nat} (h : m ≤ n) (h0 : ∀ i, i < n → 0 ≤ f i) : sumN f m ≤ sumN f n := by
  obtain ⟨k, rfl⟩ : ∃ k, n = m + k := ⟨n - m, by omega⟩
  clear h
  induction k with
  | zero => exact Int.le_refl _
  | succ k ih =>
    have h1 := ih (fun i hi => h0 i (by omega))
    have h2 := h0 (m + k) (by omega)
    show sumN f m ≤ sumN f (m + k) + f (m + k)
    omega
theorem sum_le_mul {w f : Nat → Int} {n : Nat} {B : Int} (hw : ∀ a, a < n → 0 ≤ w a) (hf : ∀ a, a < n → 0 ≤ f a ∧ f a ≤ B) : 0 ≤ sumN (fun a => w a * f a) n ∧ sumN (fun a => w a * f a) n ≤ sumN w n * B := by
  rw [← sumN_mulr]
  exact ⟨sumN_nn n (fun a ha => Int.mul_nonneg (hw a ha) (hf a ha).1), sumN_le n (fun a ha => Int.mul_le_mul_of_nonneg_left (hf a ha).2 (hw a ha))⟩
theorem pd_Wn {G : Nat → Nat → Int} {q w : Nat → Int} {n : Nat} {W h : Int} (hn : n ≤ 8) (hG : ∀ i j, i < 8 → j < 8 → 0 ≤ G i j ∧ G i j ≤ 10) (hq : ∀ j, j < 8 → 0 ≤ q j ∧ q j ≤ 9) (hw : Wn n w W) : Wn n (pd G q w h) (800 * W) := by
  have hs := sumN_nn n hw.1
  have b : ∀ a, a < n → 0 ≤ pd G q w h a ∧ pd G q w h a ≤ 100 * sumN w n := fun a ha => by
    have h1 := sum_le_mul (w := w) (f := fun i => G i a) (n := a + 1) (B := 10) (fun i hi => hw.1 i (by omega)) (fun i hi => hG i a (by omega) (by omega))
    have h2 := sumN_mono (f := w) (m := a + 1) (n := n) (by omega) hw.1
    have h3 := hq a (by omega)
    have h4 : 0 ≤ (if h = 0 then 10 - q a else q a) ∧ (if h = 0 then 10 - q a else q a) ≤ 10 := by split <;> omega
    have h5 := mulb (x := dF G w a) (y := if h = 0 then 10 - q a else q a) (A := 10 * sumN w n) (B := 10) ⟨h1.1, by show sumN (fun fr => w fr * G fr a) (a + 1) ≤ _; omega⟩ h4
    show 0 ≤ dF G w a * (if h = 0 then 10 - q a else q a) ∧ dF G w a * (if h = 0 then 10 - q a else q a) ≤ _
    omega
  refine ⟨fun a ha => (b a ha).1, ?_⟩
  have h6 := sumN_bd (f := pd G q w h) (B := 100 * sumN w n) n b
  have h7 : (n : Int) * (100 * sumN w n) ≤ 8 * (100 * sumN w n) := Int.mul_le_mul_of_nonneg_right (by omega) (by omega)
  have h8 := hw.2
  omega
def UB (n : Nat) (G : Nat → Nat → Int) (q co mc mw : Nat → Int) (lk : Int) : Prop := PB n G co mw mc ∧ (∀ j, j < 8 → 0 ≤ q j ∧ q j ≤ 9) ∧ (lk = -9 ∨ 0 ≤ lk ∧ lk ≤ 9)
theorem acV_bd {mc mw : Nat → Int} {n l : Nat} {g : (Nat → Int) → Int} {w : Nat → Int} {B : Int} (hs : 0 ≤ sumN w n) (h0 : 0 ≤ g w ∧ g w ≤ B) (hm : ∀ i, i < 4 → mw i = -9 ∨ 0 ≤ meV mc mw l g i) : ∀ i, i ≤ 4 → 0 ≤ (acV mc mw n l g w i).1 ∧ (acV mc mw n l g w i).1 ≤ B
  | 0, _ => h0
  | i + 1, hi => by
    have ih := acV_bd hs h0 hm i (by omega)
    show 0 ≤ (if ¬ mw i = -9 ∧ sumN w n * meV mc mw l g i < (acV mc mw n l g w i).1 then (sumN w n * meV mc mw l g i, (i : Int) + 1) else acV mc mw n l g w i).1 ∧ (if ¬ mw i = -9 ∧ sumN w n * meV mc mw l g i < (acV mc mw n l g w i).1 then (sumN w n * meV mc mw l g i, (i : Int) + 1) else acV mc mw n l g w i).1 ≤ B
    by_cases q : ¬ mw i = -9 ∧ sumN w n * meV mc mw l g i < (acV mc mw n l g w i).1
    · rw [if_pos q]
      have h1 := Int.mul_nonneg hs ((hm i (by omega)).resolve_left q.1)
      show 0 ≤ sumN w n * meV mc mw l g i ∧ sumN w n * meV mc mw l g i ≤ B
      omega
    · rw [if_neg q]
      exact ih
theorem seV_bd {mc mw : Nat → Int} {l a : Nat} {g : (Nat → Int) → Int} {B : Int} (h0 : 0 ≤ g (one1 (a : Int)) ∧ g (one1 (a : Int)) ≤ B) (hm : ∀ i, i < 4 → mw i = -9 ∨ 0 ≤ meV mc mw l g i) : ∀ i, i ≤ 4 → 0 ≤ seV mc mw l g a i ∧ seV mc mw l g a i ≤ B
  | 0, _ => h0
  | i + 1, hi => by
    have ih := seV_bd h0 hm i (by omega)
    show 0 ≤ (if ¬ mw i = -9 ∧ meV mc mw l g i < seV mc mw l g a i then meV mc mw l g i else seV mc mw l g a i) ∧ (if ¬ mw i = -9 ∧ meV mc mw l g i < seV mc mw l g a i then meV mc mw l g i else seV mc mw l g a i) ≤ B
    by_cases q : ¬ mw i = -9 ∧ meV mc mw l g i < seV mc mw l g a i
    · rw [if_pos q]
      have := (hm i (by omega)).resolve_left q.1
      omega
    · rw [if_neg q]
      exact ih
theorem one1_Wn {n : Nat} {x : Int} : Wn n (one1 x) 1 := by
  refine ⟨fun a _ => by unfold one1; split <;> omega, ?_⟩
  have : ∀ n : Nat, sumN (one1 x) n ≤ (if x < (n : Int) ∧ 0 ≤ x then 1 else 0) := by
    intro n
    induction n with
    | zero => show (0 : Int) ≤ _; split <;> omega
    | succ n ih =>
      show sumN (one1 x) n + one1 x n ≤ _
      unfold one1 at ih ⊢
      by_cases e : (n : Int) = x
      · rw [if_pos e]
        rw [if_neg (by omega)] at ih
        rw [if_pos (by omega)]
        omega
      · rw [if_neg e]
        by_cases e2 : x < (n : Int) ∧ 0 ≤ x
        · rw [if_pos e2] at ih
          rw [if_pos (by omega)]
          omega
        · rw [if_neg e2] at ih
          rw [if_neg (by omega)]
          omega
  have := this n
  split at this <;> omega
/-- a chooser that keeps to its bounds -/
def gBd (n : Nat) (g : (Nat → Int) → Int) (K : Int) : Prop := ∀ (w : Nat → Int) (W : Int), Wn n w W → 0 ≤ g w ∧ g w ≤ K * W
theorem meV_nn {n l : Nat} {mc mw : Nat → Int} {g : (Nat → Int) → Int} {K : Int} (hg : gBd n g K) (hmc : ∀ j, j < 4 → 0 ≤ mc j ∧ mc j ≤ 99) (hl : l ≤ 2) : ∀ i, i < 4 → 0 ≤ meV mc mw l g i ∧ meV mc mw l g i ≤ 99 * pw 100 l + K := fun i hi => by
  unfold meV
  have h1 := hg (one1 (mw i)) 1 one1_Wn
  have h2 := KG_b hl
  have h3 := mulb (hmc i hi) ⟨Int.le_trans (by decide) h2.2.2.1, Int.le_refl (pw 100 l)⟩
  omega
theorem chU_bd {n l : Nat} {mc mw : Nat → Int} {lk : Int} {g : (Nat → Int) → Int} {K : Int} (hg : gBd n g K) (hmc : ∀ j, j < 4 → 0 ≤ mc j ∧ mc j ≤ 99) (hlk : lk = -9 ∨ 0 ≤ lk ∧ lk ≤ 9) (hl : l ≤ 2) {w : Nat → Int} {W : Int} (hw : Wn n w W) : 0 ≤ (chU mc mw lk n l g w).1 ∧ (chU mc mw lk n l g w).1 ≤ K * W := by
  have hs := sumN_nn n hw.1
  have hme := meV_nn (mw := mw) hg hmc hl
  have ha := acV_bd (mw := mw) (mc := mc) (l := l) (n := n) hs (hg w W hw) (fun i hi => Or.inr (hme i hi).1) 4 (Nat.le_refl _)
  unfold chU
  by_cases q : ¬ lk = -9 ∧ loV mc mw lk n l g w < (acV mc mw n l g w 4).1
  · rw [if_pos q]
    have h1 : 0 ≤ sumN (fun a => w a * seV mc mw l g a 4) n := sumN_nn n (fun a ha => Int.mul_nonneg (hw.1 a ha) (seV_bd (B := K * 1) (hg (one1 (a : Int)) 1 one1_Wn) (fun i hi => Or.inr (hme i hi).1) 4 (Nat.le_refl _)).1)
    have h2 := Int.mul_nonneg (Int.mul_nonneg hs (show 0 ≤ lk by omega)) (show 0 ≤ pw 100 l by have := KG_b hl; omega)
    have h3 := q.2
    unfold loV at h3 ⊢
    show 0 ≤ sumN (fun a => w a * seV mc mw l g a 4) n + sumN w n * lk * pw 100 l ∧ sumN (fun a => w a * seV mc mw l g a 4) n + sumN w n * lk * pw 100 l ≤ K * W
    omega
  · rw [if_neg q]
    exact ha
theorem uG_bd {n : Nat} {G : Nat → Nat → Int} {q co mc mw : Nat → Int} {lk : Int} (hU : UB n G q co mc mw lk) : ∀ l, l ≤ 2 → gBd n (uG G q co mc mw lk n l) (KG l)
  | 0, _ => fun w W hw => by
    have h1 := sum_le_mul (w := w) (f := co) (B := 99) hw.1 (fun a ha => hU.1.2.2.2.1 a (by have := hU.1.2.1; omega))
    have h2 := hw.2
    show 0 ≤ goV G q co n 0 (fun _ => 0) w ∧ goV G q co n 0 (fun _ => 0) w ≤ 99 * W
    unfold goV cS
    rw [if_pos rfl, show pw 100 0 = 1 from rfl]
    omega
  | l + 1, hl => fun w W hw => by
    have ih := uG_bd hU l (by omega)
    have h1 := sum_le_mul (w := w) (f := co) (B := 99) hw.1 (fun a ha => hU.1.2.2.2.1 a (by have := hU.1.2.1; omega))
    have hk := KG_b (l := l + 1) hl
    have h2 := mulb (x := cS co n w) (y := pw 100 (l + 1)) (A := sumN w n * 99) (B := pw 100 (l + 1)) h1 ⟨by omega, Int.le_refl _⟩
    have c1 := chU_bd (mw := mw) (lk := lk) (l := l) ih hU.1.2.2.2.2.2 hU.2.2 (by omega) (pd_Wn (h := 1) hU.1.2.1 hU.1.2.2.1 hU.2.1 hw)
    have c0 := chU_bd (mw := mw) (lk := lk) (l := l) ih hU.1.2.2.2.2.2 hU.2.2 (by omega) (pd_Wn (h := 0) hU.1.2.1 hU.1.2.2.1 hU.2.1 hw)
    have e1 : KG l * (800 * W) = 800 * KG l * W := by rw [← Int.mul_assoc, Int.mul_comm (KG l) 800]
    have e2 : sumN w n * 99 * pw 100 (l + 1) ≤ W * 99 * pw 100 (l + 1) := Int.mul_le_mul_of_nonneg_right (Int.mul_le_mul_of_nonneg_right hw.2 (by omega)) (by omega)
    have e3 : KG (l + 1) * W = W * 99 * pw 100 (l + 1) + 1600 * KG l * W := by
      show (99 * pw 100 (l + 1) + 1600 * KG l) * W = _
      rw [Int.add_mul, Int.mul_comm (99 * pw 100 (l + 1)) W, ← Int.mul_assoc]
    have e4 : 1600 * KG l * W = 800 * KG l * W + 800 * KG l * W := by
      rw [← Int.add_mul]
      congr 1
      omega
    show 0 ≤ goV G q co n (l + 1) _ w ∧ goV G q co n (l + 1) _ w ≤ KG (l + 1) * W
    unfold goV
    rw [if_neg (by omega)]
    dsimp only
    rw [e1] at c1 c0
    omega
