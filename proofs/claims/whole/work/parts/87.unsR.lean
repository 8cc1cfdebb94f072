/-! when wear is not seen, the reference (specs40.py) -/
def UR (V : Mv) (m n1 : Nat) (G : Nat → Nat → Int) (kq co mc mw : Nat → Int) (lk : Int) : Prop := PR V m n1 G co mw mc ∧ (∀ j, j < 8 → V 125 (8 * m + j) = kq j) ∧ V 122 m = lk
theorem UR.frame {V W : Mv} {m n1 : Nat} {G : Nat → Nat → Int} {kq co mc mw : Nat → Int} {lk : Int} (h : UR V m n1 G kq co mc mw lk) (e : ∀ x, 121 ≤ x → x ≤ 127 → W x = V x) : UR W m n1 G kq co mc mw lk := by
  refine ⟨h.1.frame e, fun j hj => ?_, ?_⟩
  · rw [e 125 (by omega) (by omega)]
    exact h.2.1 j hj
  · rw [e 122 (by omega) (by omega)]
    exact h.2.2
/-- nothing beyond the wears -/
def Zb (n : Nat) (w : Nat → Int) : Prop := ∀ a, n ≤ a → a < 8 → w a = 0
theorem sum8 {n : Nat} {w : Nat → Int} (hz : Zb n w) (hn : n ≤ 8) : sumN w 8 = sumN w n := by
  have : ∀ k, n + k ≤ 8 → sumN w (n + k) = sumN w n := by
    intro k
    induction k with
    | zero => intro _; rfl
    | succ k ih =>
      intro h
      show sumN w (n + k) + w (n + k) = _
      rw [ih (by omega), hz (n + k) (by omega) (by omega), Int.add_zero]
  have h := this (8 - n) (by omega)
  rw [show n + (8 - n) = 8 by omega] at h
  exact h
theorem sa_lp {L d : Nat} {V : Mv} {b : Bool} {Q : Option AV → Mv → Bool → Prop} {f : Nat} {w : Nat → Int} (hf : f ≤ 40) (hw : ∀ a, a < 8 → V 142 (f + a) = w a) (hQ : Q (some (.inr (.inl (sumN w 8)))) V b) : ∀ n k : Nat, k + n = 8 → Ev L (d) 208 5 [some (.inr (.inr 120)), some (.inl (f : Int)), some (.inr (.inl (sumN w k))), none, some (.inl (k : Int))] [] V b Q
  | 0, k, h => by
    obtain rfl : k = 8 := by omega
    refine Ev.blk 3 (B208_5 _ _ _ _ _ _ (by first | assumption | omega | decide | exact cmpI_in _ _ | exact ⟨by omega, by omega⟩)) rfl ?_
    refine Ev.ite (fun q => ?_) (fun q => ?_)
    · replace q := of_decide_eq_true q
      exact Ev.blk 1 (B208_30 _ _ _ _ _ _) rfl (Ev.ret rfl rfl rfl rfl hQ)
    · replace q := of_decide_eq_false q
      exact absurd q (by omega)
  | n + 1, k, h => by
    have ih := sa_lp (L := L) (d := d) hf hw hQ n (k + 1) (by omega)
    refine Ev.blk 3 (B208_5 _ _ _ _ _ _ (by first | assumption | omega | decide | exact cmpI_in _ _ | exact ⟨by omega, by omega⟩)) rfl ?_
    refine Ev.ite (fun q => ?_) (fun q => ?_)
    · replace q := of_decide_eq_true q
      exact absurd q (by omega)
    · replace q := of_decide_eq_false q
      refine Ev.blk 11 (B208_12 _ _ _ _ _ _ (by first | assumption | omega | decide | exact cmpI_in _ _ | exact ⟨by omega, by omega⟩)) rfl ?_
      refine Ev.val ?_ rfl ih
      rw [show ((f : Int) + (k : Int)).toNat = f + k by omega, hw k (by omega)]
      rfl

theorem x_sumAt {L d : Nat} {V : Mv} {b : Bool} {f : Nat} {w : Nat → Int} (hf : f ≤ 40) (hw : ∀ a, a < 8 → V 142 (f + a) = w a) : Ex L d 208 [.inr (.inr 120), .inl (f : Int)] V b (Ans (some (.inr (.inl (sumN w 8)))) V b) := by
  refine Ev.blk 4 (B208_0 _ _ _ _) rfl ?_
  exact sa_lp hf hw ⟨rfl, rfl, rfl⟩ 8 0 rfl
theorem ru_lp {L d : Nat} {V : Mv} {b : Bool} {Q : Option AV → Mv → Bool → Prop} {m n1 : Nat} {G : Nat → Nat → Int} {kq co mc mw : Nat → Int} {lk : Int} {f : Nat} {w : Nat → Int} (hm : m < 3) (hU : UR V m n1 G kq co mc mw lk) (hB : UB n1 G kq co mc mw lk) (hf : f ≤ 40) (hw : ∀ a, a < 8 → V 142 (f + a) = w a) (hQ : Q (some (.inr (.inl (sumN (fun a => w a * co a) 8)))) V b) : ∀ n k : Nat, k + n = 8 → Ev L (d) 211 5 [some (.inr (.inr 120)), some (.inl (m : Int)), some (.inl (f : Int)), some (.inr (.inl (sumN (fun a => w a * co a) k))), none, some (.inl (k : Int))] [] V b Q
  | 0, k, h => by
    obtain rfl : k = 8 := by omega
    refine Ev.blk 3 (B211_5 _ _ _ _ _ _ _ (by first | assumption | omega | decide | exact cmpI_in _ _ | exact ⟨by omega, by omega⟩)) rfl ?_
    refine Ev.ite (fun q => ?_) (fun q => ?_)
    · replace q := of_decide_eq_true q
      exact Ev.blk 1 (B211_44 _ _ _ _ _ _ _) rfl (Ev.ret rfl rfl rfl rfl hQ)
    · replace q := of_decide_eq_false q
      exact absurd q (by omega)
  | n + 1, k, h => by
    have ih := ru_lp (L := L) (d := d) hm hU hB hf hw hQ n (k + 1) (by omega)
    have e0 : (8 * (m : Int) + (k : Int)).toNat = 8 * m + k := by omega
    have ec := hU.1.2.2.1 k (by omega)
    have cb := hB.1.2.2.2.1 k (by omega)
    refine Ev.blk 3 (B211_5 _ _ _ _ _ _ _ (by first | assumption | omega | decide | exact cmpI_in _ _ | exact ⟨by omega, by omega⟩)) rfl ?_
    refine Ev.ite (fun q => ?_) (fun q => ?_)
    · replace q := of_decide_eq_true q
      exact absurd q (by omega)
    · replace q := of_decide_eq_false q
      refine Ev.blk 21 (B211_12 _ _ _ _ _ _ _ (by first | omega | (rw [e0, ec]; exact ⟨by omega, by omega⟩) | exact ⟨by omega, by omega⟩) (by first | omega | (rw [e0, ec]; exact ⟨by omega, by omega⟩) | exact ⟨by omega, by omega⟩) (by first | omega | (rw [e0, ec]; exact ⟨by omega, by omega⟩) | exact ⟨by omega, by omega⟩)) rfl ?_
      refine Ev.val ?_ rfl ih
      rw [show ((f : Int) + (k : Int)).toNat = f + k by omega, hw k (by omega), e0, ec]
      rfl

theorem x_runs {L d : Nat} {V : Mv} {b : Bool} {m n1 : Nat} {G : Nat → Nat → Int} {kq co mc mw : Nat → Int} {lk : Int} {f : Nat} {w : Nat → Int} (hm : m < 3) (hU : UR V m n1 G kq co mc mw lk) (hB : UB n1 G kq co mc mw lk) (hf : f ≤ 40) (hw : ∀ a, a < 8 → V 142 (f + a) = w a) : Ex L d 211 [.inr (.inr 120), .inl (m : Int), .inl (f : Int)] V b (Ans (some (.inr (.inl (sumN (fun a => w a * co a) 8)))) V b) := by
  refine Ev.blk 4 (B211_0 _ _ _ _ _) rfl ?_
  exact ru_lp hm hU hB hf hw ⟨rfl, rfl, rfl⟩ 8 0 rfl
theorem x_there0 {L d : Nat} {V : Mv} {b : Bool} {m : Int} : Ex L d 206 [.inr (.inr 120), .inl m, .inl 0] V b (Ans (some (.inl 1)) V b) := by
  refine Ev.blk 2 (B206_0 _ _ _ _ _ (by decide)) rfl ?_
  refine Ev.ite (fun _ => ?_) (fun h => absurd h (by decide))
  refine Ev.blk 2 (B206_21 _ _ _ _ _) rfl ?_
  exact Ev.ret rfl rfl rfl rfl ⟨rfl, rfl, rfl⟩
theorem x_there {L d : Nat} {V : Mv} {b : Bool} {m n1 : Nat} {G : Nat → Nat → Int} {kq co mc mw : Nat → Int} {lk : Int} {i : Nat} (hm : m < 3) (hU : UR V m n1 G kq co mc mw lk) (hB : UB n1 G kq co mc mw lk) (hi : i < 4) : Ex L d 206 [.inr (.inr 120), .inl (m : Int), .inl ((i : Int) + 1)] V b (Ans (some (.inl (b01 (¬ mw i = -9)))) V b) := by
  have e0 : (4 * (m : Int) + ((i : Int) + 1) - 1).toNat = 4 * m + i := by omega
  have em := hU.1.2.2.2.1 i hi
  have mb := hB.1.2.2.2.2.1 i hi
  have h8 := hB.1.2.1
  refine Ev.blk 2 (B206_0 _ _ _ _ _ ⟨by omega, by omega⟩) rfl ?_
  refine Ev.ite (fun z => absurd (of_decide_eq_true z) (by omega)) (fun _ => ?_)
  refine Ev.blk 12 (B206_4 _ _ _ _ _ (by omega) (by rw [e0, em]; exact ⟨by omega, by omega⟩)) rfl ?_
  rw [e0, em]
  refine Ev.ite (fun z => ?_) (fun z => ?_)
  · replace z := of_decide_eq_true z
    refine Ev.blk 1 (B206_25 _ _ _ _ _) rfl ?_
    refine Ev.ret rfl rfl rfl rfl ⟨?_, rfl, rfl⟩
    unfold b01
    rw [if_neg (fun y => y z)]
  · replace z := of_decide_eq_false z
    refine Ev.blk 2 (B206_21 _ _ _ _ _) rfl ?_
    refine Ev.ret rfl rfl rfl rfl ⟨?_, rfl, rfl⟩
    unfold b01
    rw [if_pos z]
theorem x_price0 {L d : Nat} {V : Mv} {b : Bool} {m : Int} : Ex L d 209 [.inr (.inr 120), .inl m, .inl 0] V b (Ans (some (.inl 0)) V b) := by
  refine Ev.blk 2 (B209_0 _ _ _ _ _ (by decide)) rfl ?_
  refine Ev.ite (fun h => absurd h (by decide)) (fun _ => ?_)
  refine Ev.blk 2 (B209_4 _ _ _ _ _) rfl ?_
  exact Ev.ret rfl rfl rfl rfl ⟨rfl, rfl, rfl⟩
theorem x_price {L d : Nat} {V : Mv} {b : Bool} {m n1 : Nat} {G : Nat → Nat → Int} {kq co mc mw : Nat → Int} {lk : Int} {i : Nat} (hm : m < 3) (hU : UR V m n1 G kq co mc mw lk) (hB : UB n1 G kq co mc mw lk) (hi : i < 4) : Ex L d 209 [.inr (.inr 120), .inl (m : Int), .inl ((i : Int) + 1)] V b (Ans (some (.inl (mc i))) V b) := by
  have e0 : (4 * (m : Int) + ((i : Int) + 1) - 1).toNat = 4 * m + i := by omega
  refine Ev.blk 2 (B209_0 _ _ _ _ _ ⟨by omega, by omega⟩) rfl ?_
  refine Ev.ite (fun _ => ?_) (fun z => absurd (nd_f z) (by omega))
  refine Ev.blk 10 (B209_8 _ _ _ _ _ (by omega)) rfl ?_
  rw [e0, hU.1.2.2.2.2 i hi]
  exact Ev.ret rfl rfl rfl rfl ⟨rfl, rfl, rfl⟩
/-- of one wear alone, or of all -/
def onl (w : Nat → Int) (x : Int) : Nat → Int := fun a => if x = -9 ∨ (a : Int) = x then w a else 0
theorem onl_t {w : Nat → Int} {x : Int} {a : Nat} (h : x = -9 ∨ (a : Int) = x) : w a = onl w x a := (if_pos h).symm
theorem onl_f {w : Nat → Int} {x : Int} {a : Nat} (h : ¬ (x = -9 ∨ (a : Int) = x)) : 0 = onl w x a := (if_neg h).symm
theorem la0_lp {L d : Nat} {V : Mv} {b : Bool} {Q : Option AV → Mv → Bool → Prop} {m f : Nat} {x : Int} {w : Nat → Int} (hf : f ≤ 32) (hx : in32 x) (hw : ∀ a, a < 8 → V 142 (f + a) = w a) (hQ : Ev L d 207 58 [some (.inr (.inr 120)), some (.inl (m : Int)), some (.inl (f : Int)), some (.inl x), some (.inl 0), some (.inl 8)] [] (fil V 142 (f + 8) (onl w x) 8) b Q) : ∀ n k : Nat, k + n = 8 → Ev L (d) 207 3 [some (.inr (.inr 120)), some (.inl (m : Int)), some (.inl (f : Int)), some (.inl x), some (.inl 0), some (.inl (k : Int))] [] (fil V 142 (f + 8) (onl w x) k) b Q
  | 0, k, h => by
    obtain rfl : k = 8 := by omega
    refine Ev.blk 3 (B207_3 _ _ _ _ _ _ _ _ (by first | assumption | omega | decide | exact cmpI_in _ _ | exact ⟨by omega, by omega⟩)) rfl ?_
    refine Ev.ite (fun q => ?_) (fun q => ?_)
    · replace q := of_decide_eq_true q
      exact hQ
    · replace q := of_decide_eq_false q
      exact absurd q (by omega)
  | n + 1, k, h => by
    have ih := la0_lp (L := L) (d := d) (m := m) hf hx hw hQ n (k + 1) (by omega)
    have hb : ¬ (0 : Int) < 0 := by decide
    have e0 : ((f : Int) + 8 + (k : Int)).toNat = f + 8 + k := by omega
    have e1 : (fil V 142 (f + 8) (onl w x) k) 142 ((f : Int) + (k : Int)).toNat = w k := by
      rw [show ((f : Int) + (k : Int)).toNat = f + k by omega, fil_out (by omega)]
      exact hw k (by omega)
    refine Ev.blk 3 (B207_3 _ _ _ _ _ _ _ _ (by first | assumption | omega | decide | exact cmpI_in _ _ | exact ⟨by omega, by omega⟩)) rfl ?_
    refine Ev.ite (fun q => ?_) (fun q => ?_)
    · replace q := of_decide_eq_true q
      exact absurd q (by omega)
    · replace q := of_decide_eq_false q
      refine Ev.blk 9 (B207_10 _ _ _ _ _ _ _ _ (by first | decide | omega | exact ⟨by omega, by omega⟩)) rfl ?_
      refine Ev.ite (fun q => absurd (of_decide_eq_true q) hb) (fun _ => ?_)
      refine Ev.blk 3 (J207_26 _ _ _ _ _ _ _ _ _ _ _ (by first | exact (show TT L 142 = (2, 48) from rfl) | exact hx | omega | exact ⟨by omega, by omega⟩) (by first | exact (show TT L 142 = (2, 48) from rfl) | exact hx | omega | exact ⟨by omega, by omega⟩)) rfl ?_
      refine Ev.ite (fun q => ?_) (fun q => ?_)
      · replace q := of_decide_eq_true q
        refine Ev.blk 6 (J207_42 _ _ _ _ _ _ _ _ _ _ _ (by first | exact (show TT L 142 = (2, 48) from rfl) | omega | exact ⟨by omega, by omega⟩) (by first | exact (show TT L 142 = (2, 48) from rfl) | omega | exact ⟨by omega, by omega⟩)) rfl ?_
        refine Ev.blk 3 (J207_51 _ _ _ _ _ _ _ _ _ _ _ _ (by first | exact (show TT L 142 = (2, 48) from rfl) | decide | omega | exact ⟨by omega, by omega⟩) (by first | exact (show TT L 142 = (2, 48) from rfl) | decide | omega | exact ⟨by omega, by omega⟩) (by first | exact (show TT L 142 = (2, 48) from rfl) | decide | omega | exact ⟨by omega, by omega⟩)) rfl ?_
        exact Ev.mem (fil_st e0 (by first | exact onl_t (by omega) | exact onl_f (by omega) | (rw [e1]; exact onl_t (by omega)))) ih
      · replace q := of_decide_eq_false q
        refine Ev.blk 3 (J207_32 _ _ _ _ _ _ _ _ _ _ _ (by first | exact (show TT L 142 = (2, 48) from rfl) | exact hx | omega | exact ⟨by omega, by omega⟩) (by first | exact (show TT L 142 = (2, 48) from rfl) | exact hx | omega | exact ⟨by omega, by omega⟩) (by first | exact (show TT L 142 = (2, 48) from rfl) | exact hx | omega | exact ⟨by omega, by omega⟩)) rfl ?_
        refine Ev.ite (fun q => ?_) (fun q => ?_)
        · replace q := of_decide_eq_true q
          refine Ev.blk 6 (J207_42 _ _ _ _ _ _ _ _ _ _ _ (by first | exact (show TT L 142 = (2, 48) from rfl) | omega | exact ⟨by omega, by omega⟩) (by first | exact (show TT L 142 = (2, 48) from rfl) | omega | exact ⟨by omega, by omega⟩)) rfl ?_
          refine Ev.blk 3 (J207_51 _ _ _ _ _ _ _ _ _ _ _ _ (by first | exact (show TT L 142 = (2, 48) from rfl) | decide | omega | exact ⟨by omega, by omega⟩) (by first | exact (show TT L 142 = (2, 48) from rfl) | decide | omega | exact ⟨by omega, by omega⟩) (by first | exact (show TT L 142 = (2, 48) from rfl) | decide | omega | exact ⟨by omega, by omega⟩)) rfl ?_
          exact Ev.mem (fil_st e0 (by first | exact onl_t (by omega) | exact onl_f (by omega) | (rw [e1]; exact onl_t (by omega)))) ih
        · replace q := of_decide_eq_false q
          refine Ev.blk 2 (J207_38 _ _ _ _ _ _ _ _ _ _ _ (show TT L 142 = (2, 48) from rfl)) rfl ?_
          refine Ev.blk 3 (J207_51 _ _ _ _ _ _ _ _ _ _ _ _ (by first | exact (show TT L 142 = (2, 48) from rfl) | decide | omega | exact ⟨by omega, by omega⟩) (by first | exact (show TT L 142 = (2, 48) from rfl) | decide | omega | exact ⟨by omega, by omega⟩) (by first | exact (show TT L 142 = (2, 48) from rfl) | decide | omega | exact ⟨by omega, by omega⟩)) rfl ?_
          exact Ev.mem (fil_st e0 (by first | exact onl_t (by omega) | exact onl_f (by omega) | (rw [e1]; exact onl_t (by omega)))) ih

theorem la1_lp {L d : Nat} {V : Mv} {b : Bool} {Q : Option AV → Mv → Bool → Prop} {m f : Nat} {x act : Int} (hf : f ≤ 32) (ha : 0 < act ∧ act ≤ 4) (hQ : Ev L d 207 58 [some (.inr (.inr 120)), some (.inl (m : Int)), some (.inl (f : Int)), some (.inl x), some (.inl act), some (.inl 8)] [] (fil V 142 (f + 8) (fun _ => 0) 8) b Q) : ∀ n k : Nat, k + n = 8 → Ev L (d) 207 3 [some (.inr (.inr 120)), some (.inl (m : Int)), some (.inl (f : Int)), some (.inl x), some (.inl act), some (.inl (k : Int))] [] (fil V 142 (f + 8) (fun _ => 0) k) b Q
  | 0, k, h => by
    obtain rfl : k = 8 := by omega
    refine Ev.blk 3 (B207_3 _ _ _ _ _ _ _ _ (by first | assumption | omega | decide | exact cmpI_in _ _ | exact ⟨by omega, by omega⟩)) rfl ?_
    refine Ev.ite (fun q => ?_) (fun q => ?_)
    · replace q := of_decide_eq_true q
      exact hQ
    · replace q := of_decide_eq_false q
      exact absurd q (by omega)
  | n + 1, k, h => by
    have ih := la1_lp (L := L) (d := d) (m := m) (x := x) hf ha hQ n (k + 1) (by omega)
    have e0 : ((f : Int) + 8 + (k : Int)).toNat = f + 8 + k := by omega
    refine Ev.blk 3 (B207_3 _ _ _ _ _ _ _ _ (by first | assumption | omega | decide | exact cmpI_in _ _ | exact ⟨by omega, by omega⟩)) rfl ?_
    refine Ev.ite (fun q => ?_) (fun q => ?_)
    · replace q := of_decide_eq_true q
      exact absurd q (by omega)
    · replace q := of_decide_eq_false q
      refine Ev.blk 9 (B207_10 _ _ _ _ _ _ _ _ (by first | omega | exact ⟨by omega, by omega⟩)) rfl ?_
      refine Ev.ite (fun q => ?_) (fun q => ?_)
      · replace q := of_decide_eq_true q
        refine Ev.blk 2 (J207_38 _ _ _ _ _ _ _ _ _ _ _ (show TT L 142 = (2, 48) from rfl)) rfl ?_
        refine Ev.blk 3 (J207_51 _ _ _ _ _ _ _ _ _ _ _ _ (by first | exact (show TT L 142 = (2, 48) from rfl) | decide | omega | exact ⟨by omega, by omega⟩) (by first | exact (show TT L 142 = (2, 48) from rfl) | decide | omega | exact ⟨by omega, by omega⟩) (by first | exact (show TT L 142 = (2, 48) from rfl) | decide | omega | exact ⟨by omega, by omega⟩)) rfl ?_
        exact Ev.mem (fil_st e0 rfl) ih
      · replace q := of_decide_eq_false q
        exact absurd ha.1 q

theorem x_lay0 {L d : Nat} {V : Mv} {b : Bool} {m f : Nat} {x : Int} {w : Nat → Int} (hf : f ≤ 32) (hx : in32 x) (hw : ∀ a, a < 8 → V 142 (f + a) = w a) : Ex L d 207 [.inr (.inr 120), .inl (m : Int), .inl (f : Int), .inl x, .inl 0] V b (Ans none (fil V 142 (f + 8) (onl w x) 8) b) := by
  refine Ev.blk 2 (B207_0 _ _ _ _ _ _ _) rfl ?_
  refine Ev.mem (fil_0 V 142 (f + 8) (onl w x)).symm (la0_lp hf hx hw ?_ 8 0 rfl)
  refine Ev.blk 2 (B207_58 _ _ _ _ _ _ _ _ (by decide)) rfl ?_
  refine Ev.ite (fun _ => ?_) (fun h => absurd h (by decide))
  exact Ev.ret rfl rfl rfl rfl ⟨rfl, rfl, rfl⟩
theorem onl_sum {w : Nat → Int} {a0 : Nat} (ha : a0 < 8) : sumN (onl w (a0 : Int)) 8 = w a0 := by
  have e : ∀ a, onl w (a0 : Int) a = if a = a0 then w a0 else 0 := fun a => by
    unfold onl
    by_cases q : a = a0
    · rw [if_pos (by omega), if_pos q, q]
    · rw [if_neg (by omega), if_neg q]
  have : a0 = 0 ∨ a0 = 1 ∨ a0 = 2 ∨ a0 = 3 ∨ a0 = 4 ∨ a0 = 5 ∨ a0 = 6 ∨ a0 = 7 := by omega
  show 0 + onl w (a0 : Int) 0 + onl w (a0 : Int) 1 + onl w (a0 : Int) 2 + onl w (a0 : Int) 3 + onl w (a0 : Int) 4 + onl w (a0 : Int) 5 + onl w (a0 : Int) 6 + onl w (a0 : Int) 7 = w a0
  rw [e, e, e, e, e, e, e, e]
  rcases this with rfl | rfl | rfl | rfl | rfl | rfl | rfl | rfl
  all_goals (simp only [reduceIte, Nat.reduceEqDiff]; omega)
theorem x_lay1 {L d : Nat} {V : Mv} {b : Bool} {m n1 : Nat} {G : Nat → Nat → Int} {kq co mc mw : Nat → Int} {lk : Int} {f i : Nat} {x : Int} {w : Nat → Int} (hm : m < 3) (hU : UR V m n1 G kq co mc mw lk) (hB : UB n1 G kq co mc mw lk) (hf : f ≤ 32) (hi : i < 4) (hmi : ¬ mw i = -9) (hx : x = -9 ∨ 0 ≤ x ∧ x < 8) (hw : ∀ a, a < 8 → V 142 (f + a) = w a) : Ex L (d + 1) 207 [.inr (.inr 120), .inl (m : Int), .inl (f : Int), .inl x, .inl ((i : Int) + 1)] V b (fun v V' b' => v = none ∧ b' = b ∧ (∀ y, y ≠ 142 → V' y = V y) ∧ (∀ j, ¬ (f + 8 ≤ j ∧ j < f + 16) → V' 142 j = V 142 j) ∧ (∀ a, a < 8 → V' 142 (f + 8 + a) = sumN (onl w x) 8 * one1 (mw i) a)) := by
  have e1 : (4 * (m : Int) + ((i : Int) + 1) - 1).toNat = 4 * m + i := by omega
  have em := hU.1.2.2.2.1 i hi
  have mb := hB.1.2.2.2.2.1 i hi
  have h8 := hB.1.2.1
  refine Ev.blk 2 (B207_0 _ _ _ _ _ _ _) rfl ?_
  refine Ev.mem (fil_0 V 142 (f + 8) (fun _ => 0)).symm (la1_lp hf (by omega) ?_ 8 0 rfl)
  obtain ⟨Y, hY⟩ : ∃ Y, Y = fil V 142 (f + 8) (fun _ => 0) 8 := ⟨_, rfl⟩
  rw [← hY]
  have y1 : ∀ y, y ≠ 142 → Y y = V y := fun y hy => by rw [hY, fil_ne hy]
  have y2 : ∀ a, a < 8 → Y 142 (f + a) = w a := fun a ha => by
    rw [hY, fil_out (by omega)]
    exact hw a ha
  have e2 : ((f : Int) + 8 + mw i).toNat = f + 8 + (mw i).toNat := by omega
  refine Ev.blk 2 (B207_58 _ _ _ _ _ _ _ _ ⟨by omega, by omega⟩) rfl ?_
  refine Ev.ite (fun z => absurd (of_decide_eq_true z) (by omega)) (fun _ => ?_)
  have last : ∀ s2 : Int, s2 = sumN (onl w x) 8 → Ev L (d + 1) 207 107 [some (.inr (.inr 120)), some (.inl (m : Int)), some (.inl (f : Int)), some (.inl x), some (.inl ((i : Int) + 1)), some (.inl 8)] [.inr (.inl s2), .inl ((f : Int) + 8 + mw i), .inr (.inr 142)] Y b (fun v V' b' => v = none ∧ b' = b ∧ (∀ y, y ≠ 142 → V' y = V y) ∧ (∀ j, ¬ (f + 8 ≤ j ∧ j < f + 16) → V' 142 j = V 142 j) ∧ (∀ a, a < 8 → V' 142 (f + 8 + a) = sumN (onl w x) 8 * one1 (mw i) a)) := by
    intro s2 hs2
    refine Ev.blk 1 (J207_107 _ _ _ _ _ _ _ _ _ _ _ _ (show TT L 142 = (2, 48) from rfl) ⟨by omega, by omega⟩ (by decide)) rfl ?_
    rw [e2]
    refine Ev.ret rfl rfl rfl rfl ⟨rfl, rfl, fun y hy => by rw [uV_ne hy, y1 y hy], fun j hj => ?_, fun a ha => ?_⟩
    · rw [uV_at, if_neg (by omega), hY, fil_out (by omega)]
    · rw [uV_at]
      unfold one1
      by_cases q : (a : Int) = mw i
      · rw [if_pos (by omega), if_pos q, Int.mul_one, hs2]
      · rw [if_neg (by omega), if_neg q, Int.mul_zero, hY, fil_at ha]
  refine Ev.blk 19 (B207_63 _ _ _ _ _ _ _ _ (by omega) ⟨by omega, by omega⟩) rfl ?_
  rw [e1, y1 126 (by omega), em]
  refine Ev.ite (fun z => ?_) (fun z => ?_)
  · replace z := nd_t z
    obtain ⟨a0, rfl⟩ : ∃ k : Nat, x = (k : Int) := ⟨x.toNat, by omega⟩
    refine Ev.blk 6 (J207_99 _ _ _ _ _ _ _ _ _ _ _ (show TT L 142 = (2, 48) from rfl) ⟨by omega, by omega⟩) rfl ?_
    rw [show ((f : Int) + (a0 : Int)).toNat = f + a0 by omega, y2 a0 (by omega)]
    exact last _ (onl_sum (by omega)).symm
  · replace z := nd_f z
    refine Ev.blk 2 (J207_91 _ _ _ _ _ _ _ _ _ _ _ (show TT L 142 = (2, 48) from rfl)) rfl ?_
    refine Ev.call rfl rfl rfl (x_sumAt (d := d) (f := f) (by omega) y2) (by omega) ?_
    rintro v V' b' ⟨rfl, h_, g_⟩
    subst V' b'
    refine Ev.blk 1 (J207_96 _ _ _ _ _ _ _ _ _ _ _ _ (show TT L 142 = (2, 48) from rfl)) rfl ?_
    exact last _ (sumN_congr 8 (fun a _ => onl_t (Or.inl z)))
