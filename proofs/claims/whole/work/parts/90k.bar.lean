/-! the least so far; bars (specs69.py) -/
/-- a rule is taken where it costs less than the least so far -/
def stC (s : Int × Nat × Nat) (n : Nat) (G : Nat → Nat → Int) (co mw mc act : Nat → Int) : Prop := rOk n G mw act ∧ (s.2.2 = 0 ∨ rN n G co mw mc act * s.2.2 < s.2.1 * rE n G co mw mc act)
noncomputable def lst (s : Int × Nat × Nat) (num : Int) (n : Nat) (G : Nat → Nat → Int) (co mw mc act : Nat → Int) : Int × Nat × Nat := @ite _ (stC s n G co mw mc act) (Classical.propDecidable _) (num, rN n G co mw mc act, rE n G co mw mc act) s
theorem lst_t {s : Int × Nat × Nat} {num : Int} {n : Nat} {G : Nat → Nat → Int} {co mw mc act : Nat → Int} (h : stC s n G co mw mc act) : lst s num n G co mw mc act = (num, rN n G co mw mc act, rE n G co mw mc act) := if_pos h
theorem lst_f {s : Int × Nat × Nat} {num : Int} {n : Nat} {G : Nat → Nat → Int} {co mw mc act : Nat → Int} (h : ¬ stC s n G co mw mc act) : lst s num n G co mw mc act = s := if_neg h
def stI (s : Int × Nat × Nat) : Prop := (s.1 = -9 ↔ s.2.2 = 0) ∧ s.2.1 ≤ 15840000000 ∧ s.2.2 ≤ 80000000 ∧ in32 s.1
theorem stI_0 : stI (-9, 0, 0) := ⟨⟨fun _ => rfl, fun _ => rfl⟩, by decide, by decide, by decide⟩
theorem stI.s {s : Int × Nat × Nat} (h : stI s) {num : Int} (h0 : 0 ≤ num ∧ num ≤ 1000000) {n : Nat} {G : Nat → Nat → Int} {co mw mc act : Nat → Int} (hR : RB n G co mw mc act) : stI (lst s num n G co mw mc act) := by
  by_cases q : stC s n G co mw mc act
  · rw [lst_t q]
    have := hR.ne q.1
    refine ⟨⟨fun z => ?_, fun z => ?_⟩, this.1, this.2.2, ⟨by show -2147483648 ≤ num; omega, by show num < 2147483648; omega⟩⟩
    · have z : num = -9 := z
      omega
    · have z : rE n G co mw mc act = 0 := z
      omega
  · rw [lst_f q]
    exact h
/-- the reference's memory of the least so far -/
def lsR (V : Mv) (s : Int × Nat × Nat) : Prop := V 120 28 = (s.2.2 : Int) ∧ (s.2.2 = 0 ∨ V 120 27 = (s.2.1 : Int))
theorem lsT {L d : Nat} {V W : Mv} {b : Bool} {Q : Option AV → Mv → Bool → Prop} {m : Int} {z : Int} (hz : z = 0 ∨ z = 1) (hQ : Q (some (.inl z)) (uV (uV W 120 27 (if z = 0 then W 120 27 else W 120 24)) 120 28 (if z = 0 then W 120 28 else W 120 25)) b) : Ev L d 189 45 [some (.inr (.inr 120)), some (.inl m), none] [.inl z] W b Q := by
  rcases hz with rfl | rfl
  · rw [if_pos rfl, if_pos rfl] at hQ
    refine Ev.blk 4 (B189_45 _ _ _ _ _ (by decide)) rfl ?_
    refine Ev.ite (fun _ => ?_) (fun z => absurd z (by decide))
    refine Ev.blk 2 (B189_58 _ _ _ _ _) rfl ?_
    refine Ev.blk 4 (B189_62 _ _ _ _ _ _ (by decide)) rfl ?_
    refine Ev.ite (fun _ => ?_) (fun z => absurd z (by decide))
    refine Ev.blk 2 (B189_77 _ _ _ _ _) rfl ?_
    refine Ev.blk 2 (B189_81 _ _ _ _ _ _) rfl ?_
    rw [uV_cell W 120 27 120 28, if_neg (by omega)]
    exact Ev.ret rfl rfl rfl rfl hQ
  · rw [if_neg (by decide), if_neg (by decide)] at hQ
    refine Ev.blk 4 (B189_45 _ _ _ _ _ (by decide)) rfl ?_
    refine Ev.ite (fun z => absurd z (by decide)) (fun _ => ?_)
    refine Ev.blk 3 (B189_51 _ _ _ _ _) rfl ?_
    refine Ev.blk 4 (B189_62 _ _ _ _ _ _ (by decide)) rfl ?_
    refine Ev.ite (fun z => absurd z (by decide)) (fun _ => ?_)
    refine Ev.blk 3 (B189_70 _ _ _ _ _) rfl ?_
    refine Ev.blk 2 (B189_81 _ _ _ _ _ _) rfl ?_
    rw [uV_cell W 120 27 120 25, if_neg (by omega)]
    exact Ev.ret rfl rfl rfl rfl hQ
theorem x_isLess {L d : Nat} {V : Mv} {b : Bool} {m n : Nat} {G : Nat → Nat → Int} {co mw mc act : Nat → Int} (hm3 : m < 3) (hP : PR V m n G co mw mc) (hR : RB n G co mw mc act) (hA : ∀ a, a < 8 → V 135 (32 + a) = act a) {s : Int × Nat × Nat} (hs : stI s) (hl : lsR V s) (num : Int) : Ex L (d + 5) 189 [.inr (.inr 120), .inl (m : Int)] V b (fun v W b' => b' = b ∧ (∀ y k, ¬ (136 ≤ y ∧ y ≤ 139) → ¬ (y = 120 ∧ 23 ≤ k ∧ k ≤ 28) → W y k = V y k) ∧ lsR W (lst s num n G co mw mc act) ∧ ((stC s n G co mw mc act ∧ v = some (.inl 1)) ∨ (¬ stC s n G co mw mc act ∧ v = some (.inl 0)))) := by
  refine Ev.blk 3 (B189_0 _ _ _ _) rfl ?_
  refine Ev.call rfl rfl rfl (x_layCost (d := d) hm3 (r := 4) (by omega) hP hR hA) (by omega) ?_
  rintro v W b1 ⟨rfl, w1, w2⟩
  have e28 : W 120 28 = (s.2.2 : Int) := by rw [w1 120 28 (by omega) (by omega)]; exact hl.1
  have e27 : s.2.2 = 0 ∨ W 120 27 = (s.2.1 : Int) := by rw [w1 120 27 (by omega) (by omega)]; exact hl.2
  have b2 := hs.2.2.1
  have yes : stC s n G co mw mc act → W 120 24 = (rN n G co mw mc act : Int) → W 120 25 = (rE n G co mw mc act : Int) → Ev L (d + 5) 189 45 [some (.inr (.inr 120)), some (.inl (m : Int)), none] [.inl 1] W b1 (fun v W b' => b' = b1 ∧ (∀ y k, ¬ (136 ≤ y ∧ y ≤ 139) → ¬ (y = 120 ∧ 23 ≤ k ∧ k ≤ 28) → W y k = V y k) ∧ lsR W (lst s num n G co mw mc act) ∧ ((stC s n G co mw mc act ∧ v = some (.inl 1)) ∨ (¬ stC s n G co mw mc act ∧ v = some (.inl 0)))) := fun c e0 e1 => by
    refine lsT (V := V) (Or.inr rfl) ⟨rfl, fun y k h1 h2 => ?_, ?_, Or.inl ⟨c, rfl⟩⟩
    · rw [uV_cell, if_neg (by omega), uV_cell, if_neg (by omega)]
      exact w1 y k h1 (by omega)
    · rw [lst_t c]
      refine ⟨?_, Or.inr ?_⟩
      · rw [uV_cell, if_pos ⟨rfl, rfl⟩, if_neg (by decide)]
        exact e1
      · rw [uV_cell, if_neg (by omega), uV_cell, if_pos ⟨rfl, rfl⟩, if_neg (by decide)]
        exact e0
  have no : ¬ stC s n G co mw mc act → Ev L (d + 5) 189 45 [some (.inr (.inr 120)), some (.inl (m : Int)), none] [.inl 0] W b1 (fun v W b' => b' = b1 ∧ (∀ y k, ¬ (136 ≤ y ∧ y ≤ 139) → ¬ (y = 120 ∧ 23 ≤ k ∧ k ≤ 28) → W y k = V y k) ∧ lsR W (lst s num n G co mw mc act) ∧ ((stC s n G co mw mc act ∧ v = some (.inl 1)) ∨ (¬ stC s n G co mw mc act ∧ v = some (.inl 0)))) := fun c => by
    refine lsT (V := V) (Or.inl rfl) ⟨rfl, fun y k h1 h2 => ?_, ?_, Or.inr ⟨c, rfl⟩⟩
    · rw [uV_cell, if_neg (by omega), uV_cell, if_neg (by omega)]
      exact w1 y k h1 (by omega)
    · rw [lst_f c]
      refine ⟨?_, ?_⟩
      · rw [uV_cell, if_pos ⟨rfl, rfl⟩, if_pos rfl]
        exact e28
      · rw [uV_cell, if_neg (by omega), uV_cell, if_pos ⟨rfl, rfl⟩, if_pos rfl]
        exact e27
  rcases w2 with ⟨ok, rfl, e0, e1⟩ | ⟨nok, rfl⟩
  · have bd := hR.ne ok
    refine Ev.blk 1 (B189_6 _ _ _ _ _ (by decide)) rfl ?_
    refine Ev.ite (fun z => absurd z (by decide)) (fun _ => ?_)
    refine Ev.blk 5 (B189_9 _ _ _ _ (by rw [e28]; exact ⟨by omega, by omega⟩) (cmpI_in _ _)) rfl ?_
    rw [e28]
    refine Ev.ite (fun z => ?_) (fun z => ?_)
    · replace z := (cmpI_eq _ _).mp (of_decide_eq_true z)
      refine Ev.blk 2 (B189_40 _ _ _ _) rfl ?_
      exact yes ⟨ok, Or.inl (by omega)⟩ e0 e1
    · have z : ¬ s.2.2 = 0 := fun y => of_decide_eq_false z ((cmpI_eq _ _).mpr (by omega))
      have e27 : W 120 27 = (s.2.1 : Int) := by
        rcases e27 with y | y
        · exact absurd y z
        · exact y
      have p1 := prb bd.1 b2
      have p2 := prb hs.2.1 bd.2.2
      have eq : ((rN n G co mw mc act * s.2.2 < s.2.1 * rE n G co mw mc act) ↔ ((rN n G co mw mc act : Int) * (s.2.2 : Int) < (s.2.1 : Int) * (rE n G co mw mc act : Int))) := by
        rw [← Int.natCast_mul, ← Int.natCast_mul, Int.ofNat_lt]
      refine Ev.blk 12 (B189_18 _ _ _ _ (by rw [e0, e28]; exact p1) (by rw [e27, e1]; exact p2) (cmpI_in _ _)) rfl ?_
      rw [e0, e28, e27, e1]
      refine Ev.ite (fun w => ?_) (fun w => ?_)
      · replace w := of_decide_eq_true w
        refine Ev.blk 1 (B189_44 _ _ _ _) rfl ?_
        refine no (fun c => ?_)
        rcases c.2 with y | y
        · exact z y
        · have := (cmpI_lt _ _).mpr (eq.mp y)
          omega
      · replace w := of_decide_eq_false w
        refine Ev.blk 2 (B189_40 _ _ _ _) rfl ?_
        exact yes ⟨ok, Or.inr (eq.mpr ((cmpI_lt _ _).mp (by omega)))⟩ e0 e1
  · refine Ev.blk 1 (B189_6 _ _ _ _ _ (by decide)) rfl ?_
    refine Ev.ite (fun _ => ?_) (fun z => absurd z (by decide))
    refine Ev.blk 1 (B189_44 _ _ _ _) rfl ?_
    exact no (fun c => nok c.1)
/-- the acts of a bar -/
def brA (i bb a : Nat) : Int := if a < bb then 0 else (i : Int) + 1
theorem brA_b {i bb : Nat} (hi : i < 4) (a : Nat) : 0 ≤ brA i bb a ∧ brA i bb a ≤ 4 := by
  unfold brA
  split <;> omega
theorem tb_lp {L d : Nat} {V : Mv} {b : Bool} {Q : Option AV → Mv → Bool → Prop} {i bb : Nat} (hb : bb < 100) (hQ : ∀ W, (∀ y k, ¬ (y = 135 ∧ 32 ≤ k) → W y k = V y k) → (∀ a, a < 8 → W 135 (32 + a) = brA i bb a) → Q none W b) : ∀ (g k : Nat) (W : Mv), k + g = 8 → (∀ y k, ¬ (y = 135 ∧ 32 ≤ k) → W y k = V y k) → (∀ a, a < k → W 135 (32 + a) = brA i bb a) → Ev L d 193 2 [some (.inr (.inr 120)), some (.inl (i : Int)), some (.inl (bb : Int)), some (.inl (k : Int))] [] W b Q
  | 0, k, W, h, w1, w2 => by
    obtain rfl : k = 8 := by omega
    refine Ev.blk 3 (B193_2 _ _ _ _ _ _ (by decide)) rfl ?_
    refine Ev.ite (fun _ => ?_) (fun z => absurd z (by decide))
    exact Ev.ret rfl rfl rfl rfl (hQ W w1 w2)
  | g + 1, k, W, h, w1, w2 => by
    have nxt : ∀ z : Int, z = brA i bb k → Ev L d 193 28 [some (.inr (.inr 120)), some (.inl (i : Int)), some (.inl (bb : Int)), some (.inl (k : Int))] [.inl z, .inl (32 + (k : Int)), .inr (.inr 135)] W b Q := fun z hz => by
      refine Ev.blk 3 (B193_28 _ _ _ _ _ _ _ _ _ _ rfl ⟨by omega, by omega⟩ (by decide)) rfl ?_
      rw [show (32 + (k : Int)).toNat = 32 + k by omega, hz]
      refine tb_lp (L := L) (d := d) hb hQ g (k + 1) _ (by omega) (fun y j hy => by rw [uV_cell, if_neg (by omega)]; exact w1 y j hy) (fun a ha => ?_)
      rw [uV_at]
      by_cases q : a = k
      · rw [if_pos (by omega), q]
      · rw [if_neg (by omega)]
        exact w2 a (by omega)
    refine Ev.blk 3 (B193_2 _ _ _ _ _ _ ⟨by omega, by omega⟩) rfl ?_
    refine Ev.ite (fun z => absurd (of_decide_eq_true z) (by omega)) (fun _ => ?_)
    refine Ev.blk 8 (B193_8 _ _ _ _ _ _ ⟨by omega, by omega⟩ ⟨by omega, by omega⟩) rfl ?_
    refine Ev.ite (fun z => ?_) (fun z => ?_)
    · replace z := of_decide_eq_true z
      refine Ev.blk 1 (B193_27 _ _ _ _ _ _ _ _ _ rfl) rfl ?_
      exact nxt 0 (by unfold brA; rw [if_pos (by omega)])
    · replace z := of_decide_eq_false z
      refine Ev.blk 4 (B193_21 _ _ _ _ _ _ _ _ _ rfl) rfl ?_
      exact nxt _ (by unfold brA; rw [if_neg (by omega)])
theorem x_tryBar {L d : Nat} {V : Mv} {b : Bool} {i bb : Nat} (hb : bb < 100) : Ex L d 193 [.inr (.inr 120), .inl (i : Int), .inl (bb : Int)] V b (fun v W b' => v = none ∧ b' = b ∧ (∀ y k, ¬ (y = 135 ∧ 32 ≤ k) → W y k = V y k) ∧ ∀ a, a < 8 → W 135 (32 + a) = brA i bb a) := by
  refine Ev.blk 2 (B193_0 _ _ _ _ _) rfl ?_
  exact tb_lp hb (fun W w1 w2 => ⟨rfl, rfl, w1, w2⟩) 8 0 V (by omega) (fun _ _ _ => rfl) (fun a ha => absurd ha (by omega))
theorem fb_lp {L d : Nat} {V : Mv} {b : Bool} {Q : Option AV → Mv → Bool → Prop} {m i bb : Nat} (hb : bb < 100) (hQ : ∀ W, (∀ y, y ≠ 68 → W y = V y) → (∀ a, a < 8 → W 68 a = brA i bb a) → Ev L d 32 36 [some (.inr (.inr 1)), some (.inl (m : Int)), some (.inl (i : Int)), some (.inl (bb : Int)), some (.inl 8)] [] W b Q) : ∀ (g k : Nat) (W : Mv), k + g = 8 → (∀ y, y ≠ 68 → W y = V y) → (∀ a, a < k → W 68 a = brA i bb a) → Ev L d 32 3 [some (.inr (.inr 1)), some (.inl (m : Int)), some (.inl (i : Int)), some (.inl (bb : Int)), some (.inl (k : Int))] [] W b Q
  | 0, k, W, h, w1, w2 => by
    obtain rfl : k = 8 := by omega
    refine Ev.blk 3 (B32_3 _ _ _ _ _ _ _ (by decide)) rfl ?_
    refine Ev.ite (fun _ => ?_) (fun z => absurd z (by decide))
    exact hQ W w1 w2
  | g + 1, k, W, h, w1, w2 => by
    have nxt : ∀ z : Int, z = brA i bb k → Ev L d 32 29 [some (.inr (.inr 1)), some (.inl (m : Int)), some (.inl (i : Int)), some (.inl (bb : Int)), some (.inl (k : Int))] [.inl z, .inl (k : Int), .inr (.inr 68)] W b Q := fun z hz => by
      refine Ev.blk 3 (B32_29 _ _ _ _ _ _ _ _ _ _ _ rfl ⟨by omega, by omega⟩ (by decide)) rfl ?_
      rw [Int.toNat_natCast, hz]
      refine fb_lp (L := L) (d := d) hb hQ g (k + 1) _ (by omega) (fun y hy => by rw [uV_ne hy]; exact w1 y hy) (fun a ha => ?_)
      rw [uV_at]
      by_cases q : a = k
      · rw [if_pos q, q]
      · rw [if_neg q]
        exact w2 a (by omega)
    refine Ev.blk 3 (B32_3 _ _ _ _ _ _ _ ⟨by omega, by omega⟩) rfl ?_
    refine Ev.ite (fun z => absurd (of_decide_eq_true z) (by omega)) (fun _ => ?_)
    refine Ev.blk 6 (B32_10 _ _ _ _ _ _ _ ⟨by omega, by omega⟩ ⟨by omega, by omega⟩) rfl ?_
    refine Ev.ite (fun z => ?_) (fun z => ?_)
    · replace z := of_decide_eq_true z
      refine Ev.blk 1 (B32_28 _ _ _ _ _ _ _ _ _ _ rfl) rfl ?_
      exact nxt 0 (by unfold brA; rw [if_pos (by omega)])
    · replace z := of_decide_eq_false z
      refine Ev.blk 4 (B32_22 _ _ _ _ _ _ _ _ _ _ rfl) rfl ?_
      exact nxt _ (by unfold brA; rw [if_neg (by omega)])
theorem x_findBar {L d : Nat} {V : Mv} {b : Bool} {m n i bb : Nat} {G : Nat → Nat → Int} {co mw mc : Nat → Int} (hm : m < 3) (hb : bb < 100) (hP : PK V (14 + 15 * m) n G co mw mc) (hR : RB n G co mw mc (brA i bb)) : Ex L (d + 4) 32 [.inr (.inr 1), .inl (m : Int), .inl (i : Int), .inl (bb : Int)] V b (fun v W b' => b' = b ∧ (∀ y, ¬ (100 ≤ y ∧ y ≤ 107) → y ≠ 68 → W y = V y) ∧ ((rOk n G mw (brA i bb) ∧ v = some (.inl 1) ∧ W 107 0 = (rN n G co mw mc (brA i bb) : Int) ∧ W 107 1 = (rE n G co mw mc (brA i bb) : Int)) ∨ (¬ rOk n G mw (brA i bb) ∧ v = some (.inl 0)))) := by
  have hK : isK (14 + 15 * m) := k_11 (i := (m : Int)) (by omega)
  refine Ev.blk 2 (B32_0 _ _ _ _ _ _) rfl ?_
  refine fb_lp hb (fun W w1 w2 => ?_) 8 0 V (by omega) (fun _ _ => rfl) (fun a ha => absurd ha (by omega))
  refine Ev.blk 10 (B32_36 _ _ _ _ _ _ _ ⟨by omega, by omega⟩) rfl ?_
  rw [Int.toNat_natCast]
  refine Ev.call rfl rfl rfl (x_findCost (d := d) hK (Or.inr (Or.inr (Or.inr (Or.inr (Or.inr (Or.inr rfl)))))) rfl (by omega) (hP.frame (fun x h1 h2 => w1 x (by omega))) hR w2) (by omega) ?_
  rintro v W2 b2 ⟨rfl, v1, v2⟩
  have fr : ∀ y, ¬ (100 ≤ y ∧ y ≤ 107) → y ≠ 68 → W2 y = V y := fun y h1 h2 => by rw [v1 y (by omega) (by omega)]; exact w1 y h2
  rcases v2 with ⟨ok, rfl, e0, e1⟩ | ⟨nok, rfl⟩
  · exact Ev.ret rfl rfl rfl rfl ⟨rfl, fr, Or.inl ⟨ok, rfl, e0, e1⟩⟩
  · exact Ev.ret rfl rfl rfl rfl ⟨rfl, fr, Or.inr ⟨nok, rfl⟩⟩
