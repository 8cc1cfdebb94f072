/-! reading of the text: a Kind against the machine that is read -/
theorem sumN_up (f : Nat → Int) (b : Nat) (c : Int) : ∀ n, sumN (fun o => if o = b then c else f o) n = sumN f n + (if b < n then c - f b else 0)
  | 0 => rfl
  | n + 1 => by
    have ih := sumN_up f b c n
    show sumN (fun o => if o = b then c else f o) n + (if n = b then c else f n) = sumN f n + f n + _
    rw [ih]
    by_cases q : n = b
    · rw [if_pos q, if_neg (by omega), if_pos (by omega), q]
      omega
    · rw [if_neg q]
      by_cases z : b < n
      · rw [if_pos z, if_pos (by omega)]
        omega
      · rw [if_neg z, if_neg (by omega)]
        omega
theorem rLv_n (P : Mv) (a : Nat) : rLv P 3 (a : Int) = sumN (fun o => P 123 (192 + 8 * a + o)) 8 := by
  unfold rLv
  refine sumN_congr 8 (fun o ho => ?_)
  rw [show ((64 * 3 + 8 * (a : Int) + (o : Int)).toNat) = 192 + 8 * a + o by omega]
theorem rLv_up (P : Mv) {a b a' : Nat} {c : Int} (hb : b < 8) : rLv (uV P 123 (192 + 8 * a + b) c) 3 (a' : Int) = if a' = a then rLv P 3 (a : Int) + c - P 123 (192 + 8 * a + b) else rLv P 3 (a' : Int) := by
  rw [rLv_n, rLv_n, rLv_n]
  by_cases q : a' = a
  · subst q
    rw [if_pos rfl, sumN_congr 8 (g := fun o => if o = b then c else P 123 (192 + 8 * a' + o)) (fun o ho => ?_), sumN_up, if_pos hb]
    · omega
    · rw [uV_at]
      by_cases z : o = b
      · rw [if_pos z, if_pos (by omega)]
      · rw [if_neg z, if_neg (by omega)]
  · rw [if_neg q]
    refine sumN_congr 8 (fun o ho => ?_)
    rw [uV_at, if_neg (by omega)]
theorem rLv_cmb (V P : Mv) (a : Int) : rLv (cmb V P) 3 a = rLv P 3 a := rfl
theorem kd_way {V P : Mv} (h : Kd (cmb V P) 4 3) {a b : Nat} {c : Int} (hab : a < b) (hb : (b : Int) < P 121 3) (h0 : P 123 (192 + 8 * a + b) = 0) (hc : 1 ≤ c ∧ c ≤ 9) (hl : rLv P 3 (a : Int) + c ≤ 10) : Kd (cmb (uV (uV (uV V 5 (8 * a + b) c) 5 (8 * a + a) (V 5 (8 * a + a) - c)) 6 a (V 6 a + c)) (uV P 123 (192 + 8 * a + b) c)) 4 3 := by
  have w8 : P 121 3 ≤ 8 := h.w8
  have hb8 : b < 8 := by omega
  have tnI : ∀ a' c' : Nat, uV P 123 (192 + 8 * a + b) c 123 (64 * 3 + 8 * a' + c') = if 8 * a' + c' = 8 * a + b then c else P 123 (64 * 3 + 8 * a' + c') := fun a' c' => by
    rw [uV_at]
    by_cases q : 8 * a' + c' = 8 * a + b
    · rw [if_pos q, if_pos (by omega)]
    · rw [if_neg q, if_neg (by omega)]
  refine Kd.mk h.w h.w2 h.w8 h.lk h.lk9 (fun a' c' h1 h2 => ?_) (fun a' c' h1 h2 h3 => ?_) (fun a' h1 => ?_) (fun a' h1 => ?_) (fun a' c' h1 h2 => ?_) h.co h.kn h.mc h.mw
  · show 0 ≤ uV P 123 (192 + 8 * a + b) c 123 (64 * 3 + 8 * a' + c') ∧ uV P 123 (192 + 8 * a + b) c 123 (64 * 3 + 8 * a' + c') ≤ 9
    rw [tnI]
    split
    · omega
    · exact h.tn a' c' h1 h2
  · show uV P 123 (192 + 8 * a + b) c 123 (64 * 3 + 8 * a' + c') = 0
    have h3' : ¬ (a' < c' ∧ (c' : Int) < P 121 3) := h3
    rw [tnI, if_neg (by omega)]
    exact h.tn0 a' c' h1 h2 h3
  · show uV (uV (uV V 5 (8 * a + b) c) 5 (8 * a + a) (V 5 (8 * a + a) - c)) 6 a (V 6 a + c) 6 a' = rLv (uV P 123 (192 + 8 * a + b) c) 3 (a' : Int)
    rw [uV_at, uV_ne (by omega), uV_ne (by omega), rLv_up P hb8]
    split
    · have : V 6 a = rLv P 3 (a : Int) := h.lv a (by omega)
      rw [h0, this]
      omega
    · exact h.lv a' h1
  · show rLv (uV P 123 (192 + 8 * a + b) c) 3 (a' : Int) ≤ 10
    rw [rLv_up P hb8]
    split
    · rw [h0]
      omega
    · exact h.lv10 a' h1
  · show uV (uV (uV V 5 (8 * a + b) c) 5 (8 * a + a) (V 5 (8 * a + a) - c)) 6 a (V 6 a + c) 5 (8 * a' + c') = rGo (uV P 123 (192 + 8 * a + b) c) 3 (a' : Int) (c' : Int)
    have g1 : V 5 (8 * a' + c') = rGo P 3 (a' : Int) (c' : Int) := h.go a' c' h1 h2
    have g2 : V 5 (8 * a + a) = rGo P 3 (a : Int) (a : Int) := h.go a a (by omega) (by omega)
    have e2 : rGo P 3 (a : Int) (a : Int) = 10 - rLv P 3 (a : Int) := if_pos rfl
    rw [uV_ne (by omega), uV_at, uV_at]
    unfold rGo at g1 ⊢
    by_cases q : (a' : Int) = (c' : Int)
    · rw [if_pos q] at g1 ⊢
      rw [rLv_up P hb8]
      by_cases z : a' = a
      · rw [if_pos (by omega), if_pos z, g2, e2, h0]
        omega
      · rw [if_neg (by omega), if_neg (by omega), if_neg z]
        exact g1
    · rw [if_neg q] at g1 ⊢
      rw [if_neg (by omega)]
      rw [show ((64 * 3 + 8 * (a' : Int) + (c' : Int)).toNat) = 64 * 3 + 8 * a' + c' by omega] at g1 ⊢
      rw [tnI, g1]
theorem kd_cost {V P : Mv} (h : Kd (cmb V P) 4 3) {a : Nat} {x y z : Int} (ha : a < 8) (hx : 0 ≤ x ∧ x ≤ 99) : Kd (cmb (uV (uV V 4 2 y) 7 a x) (uV (uV P 124 (24 + a) x) 120 7 z)) 4 3 := by
  refine Kd.mk h.w h.w2 h.w8 h.lk h.lk9 h.tn h.tn0 h.lv h.lv10 h.go (fun a' h1 => ?_) h.kn h.mc h.mw
  show uV (uV V 4 2 y) 7 a x 7 a' = uV (uV P 124 (24 + a) x) 120 7 z 124 (8 * 3 + a') ∧ 0 ≤ uV (uV P 124 (24 + a) x) 120 7 z 124 (8 * 3 + a') ∧ uV (uV P 124 (24 + a) x) 120 7 z 124 (8 * 3 + a') ≤ 99
  rw [uV_at, uV_ne (by omega), uV_ne (by omega), uV_at]
  by_cases q : a' = a
  · rw [if_pos q, if_pos (by omega)]
    exact ⟨rfl, hx⟩
  · rw [if_neg q, if_neg (by omega)]
    exact h.co a' h1
theorem kd_knock {V P : Mv} (h : Kd (cmb V P) 4 3) {a : Nat} {x y z : Int} (ha : a < 8) (hx : 0 ≤ x ∧ x ≤ 9) : Kd (cmb (uV (uV V 4 3 y) 8 a x) (uV (uV P 125 (24 + a) x) 120 8 z)) 4 3 := by
  refine Kd.mk h.w h.w2 h.w8 h.lk h.lk9 h.tn h.tn0 h.lv h.lv10 h.go h.co (fun a' h1 => ?_) h.mc h.mw
  show uV (uV V 4 3 y) 8 a x 8 a' = uV (uV P 125 (24 + a) x) 120 8 z 125 (8 * 3 + a') ∧ 0 ≤ uV (uV P 125 (24 + a) x) 120 8 z 125 (8 * 3 + a') ∧ uV (uV P 125 (24 + a) x) 120 8 z 125 (8 * 3 + a') ≤ 9
  rw [uV_at, uV_ne (by omega), uV_ne (by omega), uV_at]
  by_cases q : a' = a
  · rw [if_pos q, if_pos (by omega)]
    exact ⟨rfl, hx⟩
  · rw [if_neg q, if_neg (by omega)]
    exact h.kn a' h1
theorem kd_mend {V P : Mv} (h : Kd (cmb V P) 4 3) {i : Nat} {x w : Int} (hi : i < 4) (hx : 0 ≤ x ∧ x ≤ 99) (hw : 0 ≤ w ∧ w + 2 ≤ P 121 3) : Kd (cmb (uV (uV V 10 i w) 9 i x) (uV (uV P 127 (12 + i) x) 126 (12 + i) w)) 4 3 := by
  refine Kd.mk h.w h.w2 h.w8 h.lk h.lk9 h.tn h.tn0 h.lv h.lv10 h.go h.co h.kn (fun a' h1 => ?_) (fun a' h1 => ?_)
  · show uV (uV V 10 i w) 9 i x 9 a' = uV (uV P 127 (12 + i) x) 126 (12 + i) w 127 (4 * 3 + a') ∧ 0 ≤ uV (uV P 127 (12 + i) x) 126 (12 + i) w 127 (4 * 3 + a') ∧ uV (uV P 127 (12 + i) x) 126 (12 + i) w 127 (4 * 3 + a') ≤ 99
    rw [uV_at, uV_ne (by omega), uV_ne (by omega), uV_at]
    by_cases q : a' = i
    · rw [if_pos q, if_pos (by omega)]
      exact ⟨rfl, hx⟩
    · rw [if_neg q, if_neg (by omega)]
      exact h.mc a' h1
  · show uV (uV V 10 i w) 9 i x 10 a' = uV (uV P 127 (12 + i) x) 126 (12 + i) w 126 (4 * 3 + a') ∧ (uV (uV P 127 (12 + i) x) 126 (12 + i) w 126 (4 * 3 + a') = -9 ∨ 0 ≤ uV (uV P 127 (12 + i) x) 126 (12 + i) w 126 (4 * 3 + a') ∧ uV (uV P 127 (12 + i) x) 126 (12 + i) w 126 (4 * 3 + a') + 2 ≤ P 121 3)
    rw [uV_ne (by omega), uV_at, uV_at, uV_ne (by omega)]
    by_cases q : a' = i
    · rw [if_pos q, if_pos (by omega)]
      exact ⟨rfl, Or.inr hw⟩
    · rw [if_neg q, if_neg (by omega)]
      exact h.mw a' h1
theorem kd_look {V P : Mv} (h : Kd (cmb V P) 4 3) {x : Int} (hx : 0 ≤ x ∧ x ≤ 9) : Kd (cmb (uV V 4 1 x) (uV P 122 3 x)) 4 3 := by
  refine Kd.mk h.w h.w2 h.w8 rfl (Or.inr hx) h.tn h.tn0 h.lv h.lv10 h.go h.co h.kn h.mc h.mw
theorem kd_place {V P : Mv} (h : Kd (cmb V P) 4 3) {j : Nat} {x : Int} : Kd (cmb (uV V 2 j x) P) 4 3 := by
  exact Kd.mk h.w h.w2 h.w8 h.lk h.lk9 h.tn h.tn0 h.lv h.lv10 h.go h.co h.kn h.mc h.mw
/-- the reference's machine 3 within its bounds -/
def KP (P : Mv) : Prop := (∃ V0, Kd (cmb V0 P) 4 3) ∧ tb (P 120 7) (P 121 3) ∧ tb (P 120 8) (P 121 3)
