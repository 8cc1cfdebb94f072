/-! the best rule, in the reference (specs75.py) -/
theorem pr_lp {L d : Nat} {V : Mv} {b : Bool} {Q : Option AV → Mv → Bool → Prop} {B n : Nat} (hB : 0 < B ∧ B ≤ 5) (h8 : n ≤ 8) (hQ : ∀ z : Int, in32 z → (z ≤ 1024 ↔ B ^ n ≤ 1024) → Q (some (.inl z)) V b) : ∀ (g k : Nat), k + g = n → B ^ k ≤ 10000 → Ev L d 185 5 [some (.inr (.inr 120)), some (.inl (B : Int)), some (.inl (n : Int)), some (.inl ((B ^ k : Nat) : Int)), some (.inl (k : Int))] [] V b Q
  | 0, k, h, hk => by
    obtain rfl : k = n := by omega
    refine Ev.blk 3 (B185_5 _ _ _ _ _ _ _ ⟨by omega, by omega⟩ ⟨by omega, by omega⟩) rfl ?_
    refine Ev.ite (fun _ => ?_) (fun z => absurd (of_decide_eq_false z) (by omega))
    refine Ev.blk 1 (B185_28 _ _ _ _ _ _ _) rfl ?_
    exact Ev.ret rfl rfl rfl rfl (hQ _ (nat32 (by omega)) (by omega))
  | g + 1, k, h, hk => by
    have mo : B ^ k ≤ B ^ n := Nat.pow_le_pow_right hB.1 (by omega)
    refine Ev.blk 3 (B185_5 _ _ _ _ _ _ _ ⟨by omega, by omega⟩ ⟨by omega, by omega⟩) rfl ?_
    refine Ev.ite (fun z => absurd (of_decide_eq_true z) (by omega)) (fun _ => ?_)
    refine Ev.blk 3 (B185_11 _ _ _ _ _ _ _ (nat32 (by omega))) rfl ?_
    refine Ev.ite (fun z => ?_) (fun z => ?_)
    · replace z := of_decide_eq_true z
      refine Ev.blk 1 (B185_28 _ _ _ _ _ _ _) rfl ?_
      exact Ev.ret rfl rfl rfl rfl (hQ _ (nat32 (by omega)) (by omega))
    · replace z := of_decide_eq_false z
      refine Ev.blk 6 (B185_18 _ _ _ _ _ _ _) rfl ?_
      have e : B ^ (k + 1) ≤ 1999 * 5 := by
        rw [Nat.pow_succ]
        exact Nat.mul_le_mul (by omega) hB.2
      have ih := pr_lp (L := L) (d := d) hB h8 hQ g (k + 1) (by omega) (by omega)
      rw [Nat.pow_succ, Int.natCast_mul] at ih
      exact ih
theorem x_powR {L d : Nat} {V : Mv} {b : Bool} {B n : Nat} (hB : 0 < B ∧ B ≤ 5) (h8 : n ≤ 8) : Ex L d 185 [.inr (.inr 120), .inl (B : Int), .inl (n : Int)] V b (fun v W b' => W = V ∧ b' = b ∧ ∃ z : Int, v = some (.inl z) ∧ in32 z ∧ (z ≤ 1024 ↔ B ^ n ≤ 1024)) := by
  refine Ev.blk 4 (B185_0 _ _ _ _ _) rfl ?_
  exact pr_lp hB h8 (fun z h1 h2 => ⟨rfl, rfl, z, rfl, h1, h2⟩) n 0 (by omega) (by rw [Nat.pow_zero]; omega)
theorem mb_mbK (f : Nat → Int) : ∀ k, mb f k = mbK f k
  | 0 => rfl
  | k + 1 => by
    show oOr (mb f k) _ = oOr (mbK f k) _
    rw [mb_mbK f k]
/-- an act that may be -/
def okd (mw : Nat → Int) (d : Nat) : Prop := d = 0 ∨ ¬ mw (d - 1) = -9
theorem dg_j {x n j : Nat} (h : j < n) : dg x n (n - 1 - j) = ((x / 5 ^ j % 5 : Nat) : Int) := by
  rw [dg_t (by omega)]
  unfold rs
  rw [show n - (n - 1 - j + 1) = j by omega]
theorem hasM_d {mw : Nat → Int} {x n : Nat} (h : hasM (dg x n) mw n) {j : Nat} (hj : j < n) : okd mw (x / 5 ^ j % 5) := by
  have := h (n - 1 - j) (by omega)
  rw [dg_j hj] at this
  rcases this with z | z
  · exact Or.inl (by omega)
  · by_cases q : x / 5 ^ j % 5 = 0
    · exact Or.inl q
    · refine Or.inr ?_
      rw [show (((x / 5 ^ j % 5 : Nat) : Int) - 1).toNat = x / 5 ^ j % 5 - 1 by omega] at z
      exact z
def skS (mw : Nat → Int) (x k : Nat) (s : Nat) : Prop := (s = 0 ∧ ∀ j, j < k → okd mw (x / 5 ^ j % 5)) ∨ (∃ j, j < k ∧ s = 5 ^ j ∧ ¬ okd mw (x / 5 ^ j % 5))
theorem p5_b {k : Nat} (h : k ≤ 8) : 0 < 5 ^ k ∧ 5 ^ k ≤ 390625 := ⟨Nat.pow_pos (by omega), p58 h⟩
theorem sk_lp {L d : Nat} {V : Mv} {b : Bool} {Q : Option AV → Mv → Bool → Prop} {m n x : Nat} {mw : Nat → Int} {x2 : Int} (hm3 : m < 3) (h8 : n ≤ 8) (hx : x < 5 ^ n) (h121 : V 121 m = (n : Int)) (hQ : ∀ s : Nat, skS mw x n s → Ev L d 186 97 [some (.inr (.inr 120)), some (.inl (m : Int)), some (.inl x2), some (.inl (mb (fun j => mw j) 4)), some (.inl ((5 ^ n : Nat) : Int)), some (.inl (x : Int)), some (.inl (s : Int)), some (.inl ((5 ^ n : Nat) : Int)), some (.inl (n : Int)), none] [] V b Q) : ∀ (g k s : Nat), k + g = n → skS mw x k s → Ev L d 186 40 [some (.inr (.inr 120)), some (.inl (m : Int)), some (.inl x2), some (.inl (mb (fun j => mw j) 4)), some (.inl ((5 ^ n : Nat) : Int)), some (.inl (x : Int)), some (.inl (s : Int)), some (.inl ((5 ^ k : Nat) : Int)), some (.inl (k : Int)), none] [] V b Q
  | 0, k, s, h, hs => by
    obtain rfl : k = n := by omega
    have e0 : V 121 ((m : Int)).toNat = (k : Int) := by rw [Int.toNat_natCast]; exact h121
    refine Ev.blk 6 (B186_40 _ _ _ _ _ _ _ _ _ _ _ ⟨by omega, by omega⟩ ⟨by omega, by omega⟩ (by rw [e0]; exact ⟨by omega, by omega⟩)) rfl ?_
    rw [e0]
    refine Ev.ite (fun _ => ?_) (fun z => absurd (of_decide_eq_false z) (by omega))
    exact hQ s hs
  | g + 1, k, s, h, hs => by
    have e0 : V 121 ((m : Int)).toNat = (n : Int) := by rw [Int.toNat_natCast]; exact h121
    have pb := p5_b (k := k) (by omega)
    have pn := p5_b h8
    have dl : x / 5 ^ k ≤ x := Nat.div_le_self _ _
    have eD : Int.tdiv (x : Int) ((5 ^ k : Nat) : Int) = ((x / 5 ^ k : Nat) : Int) := rfl
    have eM : Int.tmod (Int.tdiv (x : Int) ((5 ^ k : Nat) : Int)) 5 = ((x / 5 ^ k % 5 : Nat) : Int) := by rw [eD]; exact tmv _
    have db : x / 5 ^ k % 5 < 5 := Nat.mod_lt _ (by omega)
    have nxt : ∀ s' : Nat, skS mw x (k + 1) s' → Ev L d 186 83 [some (.inr (.inr 120)), some (.inl (m : Int)), some (.inl x2), some (.inl (mb (fun j => mw j) 4)), some (.inl ((5 ^ n : Nat) : Int)), some (.inl (x : Int)), some (.inl (s : Int)), some (.inl ((5 ^ k : Nat) : Int)), some (.inl (k : Int)), some (.inl ((x / 5 ^ k % 5 : Nat) : Int))] [.inl (s' : Int)] V b Q := fun s' h' => by
      have ih := sk_lp (L := L) (d := d) hm3 h8 hx h121 hQ g (k + 1) s' (by omega) h'
      rw [Nat.pow_succ, Int.natCast_mul] at ih
      refine Ev.blk 7 (B186_83 _ _ _ _ _ _ _ _ _ _ _ _ _) rfl ?_
      refine Ev.kill [false, false, false, false, false, false, false, false, false, true] ?_
      dsimp only [mkl]
      exact ih
    have good : okd mw (x / 5 ^ k % 5) → skS mw x (k + 1) s := fun o => by
      rcases hs with ⟨z, a⟩ | ⟨j, hj, z⟩
      · refine Or.inl ⟨z, fun j hj => ?_⟩
        by_cases e : j = k
        · rw [e]
          exact o
        · exact a j (by omega)
      · exact Or.inr ⟨j, by omega, z⟩
    refine Ev.blk 6 (B186_40 _ _ _ _ _ _ _ _ _ _ _ ⟨by omega, by omega⟩ ⟨by omega, by omega⟩ (by rw [e0]; exact ⟨by omega, by omega⟩)) rfl ?_
    rw [e0]
    refine Ev.ite (fun z => absurd (of_decide_eq_true z) (by omega)) (fun _ => ?_)
    refine Ev.blk 8 (B186_51 _ _ _ _ _ _ _ _ _ _ _ (nat32 (by omega)) (nat32 (by omega)) (by omega) (by rw [eD]; exact nat32 (by omega)) (by rw [eM]; exact nat32 (by omega))) rfl ?_
    rw [eM]
    refine Ev.ite (fun z => ?_) (fun z => ?_)
    · replace z := of_decide_eq_true z
      refine Ev.blk 1 (B186_81 _ _ _ _ _ _ _ _ _ _ _ _) rfl ?_
      exact nxt s (good (Or.inl (by omega)))
    · replace z := of_decide_eq_false z
      have tt := tst (m := mb (fun j => mw j) 4) (v := ((x / 5 ^ k % 5 : Nat) : Int) - 1) (by omega)
      rw [mb_mbK, show (((x / 5 ^ k % 5 : Nat) : Int) - 1).toNat = x / 5 ^ k % 5 - 1 by omega, mbK_bit (fun j => mw j) (v := x / 5 ^ k % 5 - 1) (by omega) 4 (by omega)] at tt
      rw [mb_mbK] at *
      refine Ev.blk 8 (B186_65 _ _ _ _ _ _ _ _ _ _ _ _ (oAnd_in _ _)) rfl ?_
      refine Ev.ite (fun y => ?_) (fun y => ?_)
      · replace y := tt.mp (nd_t y)
        refine Ev.blk 1 (B186_81 _ _ _ _ _ _ _ _ _ _ _ _) rfl ?_
        exact nxt s (good (Or.inr y.2))
      · replace y := nd_f y
        refine Ev.blk 2 (B186_76 _ _ _ _ _ _ _ _ _ _ _ _) rfl ?_
        refine nxt (5 ^ k) (Or.inr ⟨k, by omega, rfl, fun o => ?_⟩)
        rcases o with o | o
        · omega
        · exact tt.mpr ⟨by omega, o⟩ y
theorem skip_no {mw : Nat → Int} {x j n : Nat} (hj : j < n) (h : ¬ okd mw (x / 5 ^ j % 5)) {y : Nat} (h1 : x ≤ y) (h2 : y < x / 5 ^ j * 5 ^ j + 5 ^ j) : ¬ hasM (dg y n) mw n := fun hm => by
  have p : 0 < 5 ^ j := Nat.pow_pos (by omega)
  have e : y / 5 ^ j = x / 5 ^ j := by
    have a : x / 5 ^ j ≤ y / 5 ^ j := Nat.div_le_div_right h1
    have c : y / 5 ^ j < x / 5 ^ j + 1 := Nat.div_lt_of_lt_mul (by rw [Nat.mul_comm, Nat.add_mul, Nat.one_mul]; exact h2)
    omega
  have := hasM_d hm hj
  rw [e] at this
  exact h this
theorem skip_le {x j n : Nat} (hj : j < n) (hx : x < 5 ^ n) : x / 5 ^ j * 5 ^ j + 5 ^ j ≤ 5 ^ n ∧ x < x / 5 ^ j * 5 ^ j + 5 ^ j := by
  have p : 0 < 5 ^ j := Nat.pow_pos (by omega)
  have e : 5 ^ n = 5 ^ (n - j) * 5 ^ j := by rw [← Nat.pow_add, show n - j + j = n by omega]
  have a : x / 5 ^ j < 5 ^ (n - j) := Nat.div_lt_of_lt_mul (by rw [Nat.mul_comm, ← e]; exact hx)
  have c : (x / 5 ^ j + 1) * 5 ^ j ≤ 5 ^ (n - j) * 5 ^ j := Nat.mul_le_mul_right _ a
  rw [Nat.add_mul, Nat.one_mul, ← e] at c
  refine ⟨c, ?_⟩
  have d := Nat.div_add_mod x (5 ^ j)
  have m := Nat.mod_lt x p
  rw [Nat.mul_comm] at d
  omega
theorem lb_lp {L d : Nat} {V : Mv} {b : Bool} {Q : Option AV → Mv → Bool → Prop} {m : Nat} {n : Nat} {G : Nat → Nat → Int} {co mw mc : Nat → Int} (hm3 : m < 3) (hP : PR V m n G co mw mc) (hR : ∀ x, RB n G co mw mc (dg x n)) (hQ : ∀ W, bkF V W → lsR W (foR n G co mw mc (5 ^ n)) → Q (some (.inl (foR n G co mw mc (5 ^ n)).1)) W b) : ∀ (g x : Nat) (W : Mv), 5 ^ n ≤ x + g → x ≤ 5 ^ n → bkF V W → lsR W (foR n G co mw mc x) → Ev L (d + 6) 186 24 [some (.inr (.inr 120)), some (.inl (m : Int)), some (.inl (foR n G co mw mc x).1), some (.inl (mb (fun j => mw j) 4)), some (.inl ((5 ^ n : Nat) : Int)), some (.inl (x : Int)), none, none, none, none] [] W b Q := by
  have h8 := (hR 0).1.2.1
  have pn := p5_b h8
  intro g
  induction g with
  | zero =>
    intro x W h1 h2 w1 w2
    obtain rfl : x = 5 ^ n := by omega
    refine Ev.blk 3 (B186_24 _ _ _ _ _ _ _ _ (nat32 (by omega)) (nat32 (by omega))) rfl ?_
    refine Ev.ite (fun _ => ?_) (fun z => absurd (of_decide_eq_false z) (by omega))
    refine Ev.blk 1 (B186_147 _ _ _ _ _ _ _ _) rfl ?_
    exact Ev.ret rfl rfl rfl rfl (hQ W w1 w2)
  | succ g ih =>
    intro x W h1 h2 w1 w2
    refine Ev.blk 3 (B186_24 _ _ _ _ _ _ _ _ (nat32 (by omega)) (nat32 (by omega))) rfl ?_
    refine Ev.ite (fun z => ?_) (fun z => ?_)
    · replace z := of_decide_eq_true z
      obtain rfl : x = 5 ^ n := by omega
      refine Ev.blk 1 (B186_147 _ _ _ _ _ _ _ _) rfl ?_
      exact Ev.ret rfl rfl rfl rfl (hQ W w1 w2)
    replace z := of_decide_eq_false z
    have e121 : W 121 m = (n : Int) := by rw [w1.row (by omega) (by omega) (by omega)]; exact hP.1
    refine Ev.blk 6 (B186_31 _ _ _ _ _ _ _ _) rfl ?_
    refine sk_lp (V := W) (mw := mw) hm3 h8 (x := x) (by omega) e121 (fun s hs => ?_) n 0 0 (by omega) (Or.inl ⟨rfl, fun j hj => absurd hj (by omega)⟩)
    rcases hs with ⟨rfl, ha⟩ | ⟨j, hj, rfl, hno⟩
    · have sI := foR_i h8 hR x (by omega)
      refine Ev.blk 2 (B186_97 _ _ _ _ _ _ _ _ _ _ _ (by decide)) rfl ?_
      refine Ev.ite (fun _ => ?_) (fun z => absurd z (by decide))
      refine Ev.blk 4 (B186_118 _ _ _ _ _ _ _ _ _ _ _) rfl ?_
      refine Ev.call rfl rfl rfl (x_tryN (d := d) (r := 4) (x := x) hm3 e121 h8 (by omega) (by omega)) (by omega) ?_
      rintro v W2 b2 ⟨rfl, rfl, v1, v2, v3⟩
      have b2_ : bkF V W2 := fun y k q1 q2 q3 => by
        by_cases q : y = 135
        · subst q
          rw [v2 k (by omega)]
          exact w1 135 k q1 q2 q3
        · rw [v1 y q]
          exact w1 y k q1 q2 q3
      have l2 : lsR W2 (foR n G co mw mc x) := by
        unfold lsR
        rw [v1 120 (by omega)]
        exact w2
      refine Ev.blk 2 (B186_126 _ _ _ _ _ _ _ _ _ _ _) rfl ?_
      refine Ev.call rfl rfl rfl (x_isLess (d := d) hm3 (hP.frame (fun y q1 q2 => b2_.row (by omega) (by omega) (by omega))) (hR x) (fun a ha => v3 a ha) sI l2 (x : Int)) (by omega) ?_
      rintro v W3 b3 ⟨rfl, u1, u2, u3⟩
      have b3_ : bkF V W3 := fun y k q1 q2 q3 => by rw [u1 y k q1 q3]; exact b2_ y k q1 q2 q3
      have nxt : ∀ z : Int, z = (foR n G co mw mc (x + 1)).1 → Ev L (d + 6) 186 140 [some (.inr (.inr 120)), some (.inl (m : Int)), some (.inl (foR n G co mw mc x).1), some (.inl (mb (fun j => mw j) 4)), some (.inl ((5 ^ n : Nat) : Int)), some (.inl (x : Int)), some (.inl ((0 : Nat) : Int)), some (.inl ((5 ^ n : Nat) : Int)), some (.inl (n : Int)), none] [.inl z] W3 b3 Q := fun z hz => by
        subst hz
        refine Ev.blk 2 (B186_140 _ _ _ _ _ _ _ _ _ _ _ _) rfl ?_
        refine Ev.blk 1 (B186_144 _ _ _ _ _ _ _ _ _ _ _) rfl ?_
        refine Ev.kill [false, false, false, false, false, false, true, true, true] ?_
        dsimp only [mkl]
        exact ih (x + 1) W3 (by omega) (by omega) b3_ u2
      rcases u3 with ⟨c, rfl⟩ | ⟨c, rfl⟩
      · refine Ev.blk 1 (B186_131 _ _ _ _ _ _ _ _ _ _ _ _ (by decide)) rfl ?_
        refine Ev.ite (fun z => absurd z (by decide)) (fun _ => ?_)
        refine Ev.blk 2 (B186_134 _ _ _ _ _ _ _ _ _ _ _) rfl ?_
        refine nxt _ ?_
        show _ = (lst (foR n G co mw mc x) (x : Int) n G co mw mc (dg x n)).1
        rw [lst_t c]
      · refine Ev.blk 1 (B186_131 _ _ _ _ _ _ _ _ _ _ _ _ (by decide)) rfl ?_
        refine Ev.ite (fun _ => ?_) (fun z => absurd z (by decide))
        refine Ev.blk 1 (B186_139 _ _ _ _ _ _ _ _ _ _ _) rfl ?_
        refine nxt _ ?_
        show _ = (lst (foR n G co mw mc x) (x : Int) n G co mw mc (dg x n)).1
        rw [lst_f c]
    · have pj := p5_b (k := j) (by omega)
      have sl := skip_le hj (show x < 5 ^ n by omega)
      have gap := foR_gap (n := n) (G := G) (co := co) (mw := mw) (mc := mc) (x := x) (x / 5 ^ j * 5 ^ j + 5 ^ j - x) (fun y q1 q2 => skip_no hj hno q1 (by omega))
      rw [show x + (x / 5 ^ j * 5 ^ j + 5 ^ j - x) = x / 5 ^ j * 5 ^ j + 5 ^ j by omega] at gap
      have eD : Int.tdiv (x : Int) ((5 ^ j : Nat) : Int) * ((5 ^ j : Nat) : Int) + ((5 ^ j : Nat) : Int) = ((x / 5 ^ j * 5 ^ j + 5 ^ j : Nat) : Int) := by
        rw [Int.natCast_add, Int.natCast_mul]
        rfl
      refine Ev.blk 2 (B186_97 _ _ _ _ _ _ _ _ _ _ _ (nat32 (by omega))) rfl ?_
      refine Ev.ite (fun z => absurd (of_decide_eq_true z) (by omega)) (fun _ => ?_)
      refine Ev.blk 9 (B186_102 _ _ _ _ _ _ _ _ _ _ _ (nat32 (by omega)) (nat32 (by omega)) (by omega)) rfl ?_
      rw [eD]
      refine Ev.blk 1 (B186_144 _ _ _ _ _ _ _ _ _ _ _) rfl ?_
      refine Ev.kill [false, false, false, false, false, false, true, true, true] ?_
      dsimp only [mkl]
      rw [← gap]
      exact ih _ W (by omega) sl.1 w1 (by rw [gap]; exact w2)
theorem x_layBest {L d : Nat} {V : Mv} {b : Bool} {m : Nat} {n : Nat} {G : Nat → Nat → Int} {co mw mc : Nat → Int} (hm3 : m < 3) (hP : PR V m n G co mw mc) (hR : ∀ x, RB n G co mw mc (dg x n)) : Ex L (d + 6) 186 [.inr (.inr 120), .inl (m : Int)] V b (fun v W b' => b' = b ∧ v = some (.inl (foR n G co mw mc (5 ^ n)).1) ∧ bkF V W ∧ lsR W (foR n G co mw mc (5 ^ n))) := by
  have h8 := (hR 0).1.2.1
  refine Ev.blk 7 (B186_0 _ _ _ _) rfl ?_
  refine Ev.call rfl rfl rfl (x_bitsR (d := d) (m := m) (by omega) (fun j hj => by
    rw [uV_ne (by omega), hP.2.2.2.1 j hj]
    have := (hR 0).1.2.2.2.2.1 j hj
    exact ⟨by omega, by omega⟩)) (by omega) ?_
  rintro v V' b' ⟨rfl, h_, g_⟩
  subst V' b'
  rw [mb_congr (g := fun j => mw j) 4 (fun j hj => by rw [uV_ne (by omega)]; exact hP.2.2.2.1 j hj)]
  refine Ev.blk 3 (B186_13 _ _ _ _ _ _) rfl ?_
  refine Ev.call rfl rfl rfl (x_allNum (d := d) (w := n) (by omega) (by rw [uV_ne (by omega)]; exact hP.1) h8) (by omega) ?_
  rintro v V' b' ⟨rfl, h_, g_⟩
  subst V' b'
  have e5 : pw 5 n = ((5 ^ n : Nat) : Int) := pw_pow 5 n
  rw [e5]
  refine Ev.blk 3 (B186_19 _ _ _ _ _ _ _) rfl ?_
  refine lb_lp (V := V) hm3 hP hR (fun W w1 w2 => ⟨rfl, rfl, w1, w2⟩) (5 ^ n) 0 _ (by rw [Nat.zero_add]; exact Nat.le_refl _) (Nat.zero_le _) (fun y k h1 h2 h3 => by rw [uV_cell, if_neg (by omega)]) ⟨by rw [uV_cell, if_pos ⟨rfl, rfl⟩]; rfl, Or.inl rfl⟩
