/-! thoughts, both sides (specs12.py) -/
theorem Ev.mem {L d m pc : Nat} {ls : LSt} {st : St} {V V' : Mv} {b : Bool} {Q : Option AV → Mv → Bool → Prop} (h : V = V') (k : Ev L d m pc ls st V' b Q) : Ev L d m pc ls st V b Q := by
  subst h
  exact k
theorem Ev.val {L d m pc : Nat} {ls ls' : LSt} {st st' : St} {V : Mv} {b : Bool} {Q : Option AV → Mv → Bool → Prop} (h : ls = ls') (h2 : st = st') (k : Ev L d m pc ls' st' V b Q) : Ev L d m pc ls st V b Q := by
  subst h h2
  exact k
/-- one wear for sure -/
def one1 (w : Int) : Nat → Int := fun j => if (j : Int) = w then 1 else 0
theorem one1_t {w : Int} {j : Nat} (h : (j : Int) = w) : 1 = one1 w j := (if_pos h).symm
theorem one1_f {w : Int} {j : Nat} (h : ¬ (j : Int) = w) : 0 = one1 w j := (if_neg h).symm
/-- weights behind a day: G says by how many tenths it goes -/
def dF (G : Nat → Nat → Int) (w : Nat → Int) (to : Nat) : Int := sumN (fun fr => w fr * G fr to) (to + 1)
/-- weights behind a knock (h = 1) or none -/
def kF (q : Nat → Int) (h : Int) (w : Nat → Int) (a : Nat) : Int := w a * (if h = 0 then 10 - q a else q a)
theorem kF_0 {q w : Nat → Int} {h : Int} {a : Nat} (e : h = 0) : w a * (10 - q a) = kF q h w a := by
  unfold kF
  rw [if_pos e]
theorem kF_1 {q w : Nat → Int} {h : Int} {a : Nat} (e : ¬ h = 0) : w a * q a = kF q h w a := by
  unfold kF
  rw [if_neg e]
theorem settleC_lp {L d : Nat} {V : Mv} {b : Bool} {Q : Option AV → Mv → Bool → Prop} {a : Nat} {w : Int} (ha : isT a) (hw : in32 w) (hQ : Q none (fil V (a + 1) 0 (one1 w) 8) b) : ∀ n k : Nat, k + n = 8 → Ev L (d) 79 2 [some (.inr (.inr a)), some (.inl w), some (.inl (k : Int))] [] (fil V (a + 1) 0 (one1 w) k) b Q
  | 0, k, h => by
    obtain rfl : k = 8 := by omega
    refine Ev.blk 3 (B79_2 _ _ _ _ _ _ (by first | assumption | omega | decide | exact cmpI_in _ _ | exact ⟨by omega, by omega⟩)) rfl ?_
    refine Ev.ite (fun q => ?_) (fun q => ?_)
    · replace q := of_decide_eq_true q
      exact Ev.ret rfl rfl rfl rfl hQ
    · replace q := of_decide_eq_false q
      exact absurd q (by omega)
  | n + 1, k, h => by
    have ih := settleC_lp (L := L) (d := d) ha hw hQ n (k + 1) (by omega)
    refine Ev.blk 3 (B79_2 _ _ _ _ _ _ (by first | assumption | omega | decide | exact cmpI_in _ _ | exact ⟨by omega, by omega⟩)) rfl ?_
    refine Ev.ite (fun q => ?_) (fun q => ?_)
    · replace q := of_decide_eq_true q
      exact absurd q (by omega)
    · replace q := of_decide_eq_false q
      refine Ev.blk 6 (B79_8 _ _ _ _ _ _ (by first | assumption | omega | decide | exact cmpI_in _ _ | exact ⟨by omega, by omega⟩) (by first | assumption | omega | decide | exact cmpI_in _ _ | exact ⟨by omega, by omega⟩) (by first | assumption | omega | decide | exact cmpI_in _ _ | exact ⟨by omega, by omega⟩)) rfl ?_
      refine Ev.ite (fun q => ?_) (fun q => ?_)
      · replace q := nd_t q
        refine Ev.blk 1 (J79_22 _ _ _ _ _ _ _ _ _ (isT_A0 ha)) rfl ?_
        refine Ev.blk 3 (J79_23 _ _ _ _ _ _ _ _ _ _ (by first | exact isT_A0 ha | omega | exact ⟨by omega, by omega⟩) (by first | exact isT_A0 ha | omega | exact ⟨by omega, by omega⟩) (by first | exact isT_A0 ha | omega | exact ⟨by omega, by omega⟩)) rfl ?_
        exact Ev.mem (fil_st (by omega) (by first | exact one1_t q | exact one1_f q)) ih
      · replace q := nd_f q
        refine Ev.blk 2 (J79_18 _ _ _ _ _ _ _ _ _ (isT_A0 ha)) rfl ?_
        refine Ev.blk 3 (J79_23 _ _ _ _ _ _ _ _ _ _ (by first | exact isT_A0 ha | omega | exact ⟨by omega, by omega⟩) (by first | exact isT_A0 ha | omega | exact ⟨by omega, by omega⟩) (by first | exact isT_A0 ha | omega | exact ⟨by omega, by omega⟩)) rfl ?_
        exact Ev.mem (fil_st (by omega) (by first | exact one1_t q | exact one1_f q)) ih

theorem x_settleC {L d : Nat} {V : Mv} {b : Bool} {a : Nat} {w : Int} (ha : isT a) (hw : in32 w) : Ex L d 79 [.inr (.inr a), .inl w] V b (Ans none (fil V (a + 1) 0 (one1 w) 8) b) := by
  refine Ev.blk 2 (B79_0 _ _ _ _ _) rfl ?_
  exact Ev.mem (fil_0 V (a + 1) 0 (one1 w)).symm (settleC_lp ha hw ⟨rfl, rfl, rfl⟩ 8 0 rfl)
theorem seen_lp {L d : Nat} {V : Mv} {b : Bool} {Q : Option AV → Mv → Bool → Prop} {w : Int} (hw : in32 w) (hQ : Q none (fil V 131 0 (one1 w) 8) b) : ∀ n k : Nat, k + n = 8 → Ev L (d) 163 2 [some (.inr (.inr 120)), some (.inl w), some (.inl (k : Int))] [] (fil V 131 0 (one1 w) k) b Q
  | 0, k, h => by
    obtain rfl : k = 8 := by omega
    refine Ev.blk 3 (B163_2 _ _ _ _ _ (by first | assumption | omega | decide | exact cmpI_in _ _ | exact ⟨by omega, by omega⟩)) rfl ?_
    refine Ev.ite (fun q => ?_) (fun q => ?_)
    · replace q := of_decide_eq_true q
      exact Ev.ret rfl rfl rfl rfl hQ
    · replace q := of_decide_eq_false q
      exact absurd q (by omega)
  | n + 1, k, h => by
    have ih := seen_lp (L := L) (d := d) hw hQ n (k + 1) (by omega)
    refine Ev.blk 3 (B163_2 _ _ _ _ _ (by first | assumption | omega | decide | exact cmpI_in _ _ | exact ⟨by omega, by omega⟩)) rfl ?_
    refine Ev.ite (fun q => ?_) (fun q => ?_)
    · replace q := of_decide_eq_true q
      exact absurd q (by omega)
    · replace q := of_decide_eq_false q
      refine Ev.blk 6 (B163_8 _ _ _ _ _ (by first | assumption | omega | decide | exact cmpI_in _ _ | exact ⟨by omega, by omega⟩) (by first | assumption | omega | decide | exact cmpI_in _ _ | exact ⟨by omega, by omega⟩)) rfl ?_
      refine Ev.ite (fun q => ?_) (fun q => ?_)
      · replace q := nd_t q
        refine Ev.blk 1 (J163_22 _ _ _ _ _ _ _ _ rfl) rfl ?_
        refine Ev.blk 3 (J163_23 _ _ _ _ _ _ _ _ _ (by first | rfl | omega | exact ⟨by omega, by omega⟩) (by first | rfl | omega | exact ⟨by omega, by omega⟩) (by first | rfl | omega | exact ⟨by omega, by omega⟩)) rfl ?_
        exact Ev.mem (fil_st (by omega) (by first | exact one1_t q | exact one1_f q)) ih
      · replace q := nd_f q
        refine Ev.blk 2 (J163_18 _ _ _ _ _ _ _ _ rfl) rfl ?_
        refine Ev.blk 3 (J163_23 _ _ _ _ _ _ _ _ _ (by first | rfl | omega | exact ⟨by omega, by omega⟩) (by first | rfl | omega | exact ⟨by omega, by omega⟩) (by first | rfl | omega | exact ⟨by omega, by omega⟩)) rfl ?_
        exact Ev.mem (fil_st (by omega) (by first | exact one1_t q | exact one1_f q)) ih

theorem x_seen {L d : Nat} {V : Mv} {b : Bool} {w : Int} (hw : in32 w) : Ex L d 163 [.inr (.inr 120), .inl w] V b (Ans none (fil V 131 0 (one1 w) 8) b) := by
  refine Ev.blk 2 (B163_0 _ _ _ _) rfl ?_
  exact Ev.mem (fil_0 V 131 0 (one1 w)).symm (seen_lp hw ⟨rfl, rfl, rfl⟩ 8 0 rfl)
theorem take_lp {L d : Nat} {V : Mv} {b : Bool} {Q : Option AV → Mv → Bool → Prop} {m : Nat} (hm : m < 3) (hQ : Q none (fil V 131 0 (fun j => V 130 (8 * m + j)) 8) b) : ∀ n k : Nat, k + n = 8 → Ev L (d) 155 2 [some (.inr (.inr 120)), some (.inl (m : Int)), some (.inl (k : Int))] [] (fil V 131 0 (fun j => V 130 (8 * m + j)) k) b Q
  | 0, k, h => by
    obtain rfl : k = 8 := by omega
    refine Ev.blk 3 (B155_2 _ _ _ _ _ (by first | assumption | omega | decide | exact cmpI_in _ _ | exact ⟨by omega, by omega⟩)) rfl ?_
    refine Ev.ite (fun q => ?_) (fun q => ?_)
    · replace q := of_decide_eq_true q
      exact Ev.ret rfl rfl rfl rfl hQ
    · replace q := of_decide_eq_false q
      exact absurd q (by omega)
  | n + 1, k, h => by
    have ih := take_lp (L := L) (d := d) hm hQ n (k + 1) (by omega)
    refine Ev.blk 3 (B155_2 _ _ _ _ _ (by first | assumption | omega | decide | exact cmpI_in _ _ | exact ⟨by omega, by omega⟩)) rfl ?_
    refine Ev.ite (fun q => ?_) (fun q => ?_)
    · replace q := of_decide_eq_true q
      exact absurd q (by omega)
    · replace q := of_decide_eq_false q
      refine Ev.blk 14 (B155_8 _ _ _ _ _ (by first | assumption | omega | decide | exact cmpI_in _ _ | exact ⟨by omega, by omega⟩) (by first | assumption | omega | decide | exact cmpI_in _ _ | exact ⟨by omega, by omega⟩)) rfl ?_
      exact Ev.mem (fil_st (by omega) (by rw [fil_ne (by omega), show (8 * (m : Int) + (k : Int)).toNat = 8 * m + k by omega])) ih

theorem x_take {L d : Nat} {V : Mv} {b : Bool} {m : Nat} (hm : m < 3) : Ex L d 155 [.inr (.inr 120), .inl (m : Int)] V b (Ans none (fil V 131 0 (fun j => V 130 (8 * m + j)) 8) b) := by
  refine Ev.blk 2 (B155_0 _ _ _ _) rfl ?_
  exact Ev.mem (fil_0 V 131 0 (fun j => V 130 (8 * m + j))).symm (take_lp hm ⟨rfl, rfl, rfl⟩ 8 0 rfl)
theorem putT_lp {L d : Nat} {V : Mv} {b : Bool} {Q : Option AV → Mv → Bool → Prop} {m : Nat} (hm : m < 3) (hQ : Q none (fil V 130 (8 * m) (V 131) 8) b) : ∀ n k : Nat, k + n = 8 → Ev L (d) 159 2 [some (.inr (.inr 120)), some (.inl (m : Int)), some (.inl (k : Int))] [] (fil V 130 (8 * m) (V 131) k) b Q
  | 0, k, h => by
    obtain rfl : k = 8 := by omega
    refine Ev.blk 3 (B159_2 _ _ _ _ _ (by first | assumption | omega | decide | exact cmpI_in _ _ | exact ⟨by omega, by omega⟩)) rfl ?_
    refine Ev.ite (fun q => ?_) (fun q => ?_)
    · replace q := of_decide_eq_true q
      exact Ev.ret rfl rfl rfl rfl hQ
    · replace q := of_decide_eq_false q
      exact absurd q (by omega)
  | n + 1, k, h => by
    have ih := putT_lp (L := L) (d := d) hm hQ n (k + 1) (by omega)
    refine Ev.blk 3 (B159_2 _ _ _ _ _ (by first | assumption | omega | decide | exact cmpI_in _ _ | exact ⟨by omega, by omega⟩)) rfl ?_
    refine Ev.ite (fun q => ?_) (fun q => ?_)
    · replace q := of_decide_eq_true q
      exact absurd q (by omega)
    · replace q := of_decide_eq_false q
      refine Ev.blk 14 (B159_8 _ _ _ _ _ (by first | assumption | omega | decide | exact cmpI_in _ _ | exact ⟨by omega, by omega⟩) (by first | assumption | omega | decide | exact cmpI_in _ _ | exact ⟨by omega, by omega⟩)) rfl ?_
      exact Ev.mem (fil_st (by omega) (by rw [fil_ne (by omega), Int.toNat_natCast])) ih

theorem x_putT {L d : Nat} {V : Mv} {b : Bool} {m : Nat} (hm : m < 3) : Ex L d 159 [.inr (.inr 120), .inl (m : Int)] V b (Ans none (fil V 130 (8 * m) (V 131) 8) b) := by
  refine Ev.blk 2 (B159_0 _ _ _ _) rfl ?_
  exact Ev.mem (fil_0 V 130 (8 * m) (V 131)).symm (putT_lp hm ⟨rfl, rfl, rfl⟩ 8 0 rfl)
theorem tn_bd {f : Nat → Int} (hf : ∀ j, j < 8 → 0 ≤ f j ∧ f j ≤ 100000000000000000) : ∀ k, k ≤ 8 → gN f k ≤ 100000000000000000 ∧ 0 ≤ mx f k ∧ mx f k ≤ 100000000000000000 := by
  intro k hk
  exact ⟨gN_bd k (fun j hj => hf j (by omega)), mx_bd (by omega) k (fun j hj => hf j (by omega))⟩
theorem tn1_lp {L d : Nat} {V : Mv} {b : Bool} {Q : Option AV → Mv → Bool → Prop} {a : Nat} (ha : isT a) (hf : ∀ j, j < 8 → 0 ≤ V (a + 2) j ∧ V (a + 2) j ≤ 100000000000000000) (hQ : Ev L (d + 1) 81 44 [some (.inr (.inr a)), some (.inr (.inl ((gN (V (a + 2)) 8 : Nat) : Int))), none, some (.inr (.inl (mx (V (a + 2)) 8))), none, some (.inl 8)] [] V b Q) : ∀ n k : Nat, k + n = 8 → Ev L (d + 1) 81 7 [some (.inr (.inr a)), some (.inr (.inl ((gN (V (a + 2)) k : Nat) : Int))), none, some (.inr (.inl (mx (V (a + 2)) k))), none, some (.inl (k : Int))] [] V b Q
  | 0, k, h => by
    obtain rfl : k = 8 := by omega
    refine Ev.blk 3 (B81_7 _ _ _ _ _ _ _ (by first | assumption | omega | decide | exact cmpI_in _ _ | exact ⟨by omega, by omega⟩)) rfl ?_
    refine Ev.ite (fun q => ?_) (fun q => ?_)
    · replace q := of_decide_eq_true q
      exact hQ
    · replace q := of_decide_eq_false q
      exact absurd q (by omega)
  | n + 1, k, h => by
    have ih := tn1_lp (L := L) (d := d) ha hf hQ n (k + 1) (by omega)
    have h1 := tn_bd hf k (by omega)
    have h2 := hf k (by omega)
    have e1 : V (a + 2) k = (((V (a + 2) k).toNat : Nat) : Int) := by omega
    have hg : Ex L d 14 [.inr (.inl ((gN (V (a + 2)) k : Nat) : Int)), .inr (.inl (V (a + 2) k))] V b (Ans (some (.inr (.inl ((gN (V (a + 2)) (k + 1) : Nat) : Int)))) V b) := by
      rw [e1]
      exact x_gcdC (by omega) (by omega)
    refine Ev.blk 3 (B81_7 _ _ _ _ _ _ _ (by first | assumption | omega | decide | exact cmpI_in _ _ | exact ⟨by omega, by omega⟩)) rfl ?_
    refine Ev.ite (fun q => ?_) (fun q => ?_)
    · replace q := of_decide_eq_true q
      exact absurd q (by omega)
    · replace q := of_decide_eq_false q
      refine Ev.blk 5 (B81_14 _ _ _ _ _ _ _ (by first | assumption | omega | decide | exact cmpI_in _ _ | exact ⟨by omega, by omega⟩) (by first | assumption | omega | decide | exact cmpI_in _ _ | exact ⟨by omega, by omega⟩)) rfl ?_
      refine Ev.call rfl rfl (rfl) (hg) (by omega) ?_
      rintro v V' b' ⟨rfl, rfl, rfl⟩
      refine Ev.blk 10 (B81_25 _ _ _ _ _ _ _ _ (by first | exact ha | omega | (rw [Int.toNat_natCast]; exact ⟨by omega, by omega⟩) | exact ⟨by omega, by omega⟩) (by first | exact ha | omega | (rw [Int.toNat_natCast]; exact ⟨by omega, by omega⟩) | exact ⟨by omega, by omega⟩) (by first | exact ha | omega | (rw [Int.toNat_natCast]; exact ⟨by omega, by omega⟩) | exact ⟨by omega, by omega⟩) (by first | exact ha | omega | (rw [Int.toNat_natCast]; exact ⟨by omega, by omega⟩) | exact ⟨by omega, by omega⟩)) rfl ?_
      exact ih

theorem tn2_lp {L d : Nat} {V : Mv} {b : Bool} {Q : Option AV → Mv → Bool → Prop} {a p : Nat} {u : Int} (ha : isT a) (hp : 0 < p ∧ p < 9223372036854775808) (hf : ∀ j, j < 8 → 0 ≤ V (a + 2) j ∧ V (a + 2) j ≤ 100000000000000000) (hQ : Q (some (.inl 1)) (fil V (a + 1) 0 (fun j => V (a + 2) j / (p : Int)) 8) b) : ∀ n k : Nat, k + n = 8 → Ev L (d) 81 69 [some (.inr (.inr a)), some (.inr (.inl (p : Int))), none, some (.inr (.inl u)), none, some (.inl (k : Int))] [] (fil V (a + 1) 0 (fun j => V (a + 2) j / (p : Int)) k) b Q
  | 0, k, h => by
    obtain rfl : k = 8 := by omega
    refine Ev.blk 3 (B81_69 _ _ _ _ _ _ _ (by first | assumption | omega | decide | exact cmpI_in _ _ | exact ⟨by omega, by omega⟩)) rfl ?_
    refine Ev.ite (fun q => ?_) (fun q => ?_)
    · replace q := of_decide_eq_true q
      exact Ev.blk 1 (B81_98 _ _ _ _ _ _ _) rfl (Ev.ret rfl rfl rfl rfl hQ)
    · replace q := of_decide_eq_false q
      exact absurd q (by omega)
  | n + 1, k, h => by
    have ih := tn2_lp (L := L) (d := d) (u := u) ha hp hf hQ n (k + 1) (by omega)
    have h2 := hf k (by omega)
    refine Ev.blk 3 (B81_69 _ _ _ _ _ _ _ (by first | assumption | omega | decide | exact cmpI_in _ _ | exact ⟨by omega, by omega⟩)) rfl ?_
    refine Ev.ite (fun q => ?_) (fun q => ?_)
    · replace q := of_decide_eq_true q
      exact absurd q (by omega)
    · replace q := of_decide_eq_false q
      refine Ev.blk 12 (B81_76 _ _ _ _ _ _ _ (by first | exact ha | omega | (rw [fil_ne (by omega), Int.toNat_natCast]; exact ⟨by omega, by omega⟩) | exact ⟨by omega, by omega⟩) (by first | exact ha | omega | (rw [fil_ne (by omega), Int.toNat_natCast]; exact ⟨by omega, by omega⟩) | exact ⟨by omega, by omega⟩) (by first | exact ha | omega | (rw [fil_ne (by omega), Int.toNat_natCast]; exact ⟨by omega, by omega⟩) | exact ⟨by omega, by omega⟩) (by first | exact ha | omega | (rw [fil_ne (by omega), Int.toNat_natCast]; exact ⟨by omega, by omega⟩) | exact ⟨by omega, by omega⟩) (by first | exact ha | omega | (rw [fil_ne (by omega), Int.toNat_natCast]; exact ⟨by omega, by omega⟩) | exact ⟨by omega, by omega⟩)) rfl ?_
      exact Ev.mem (fil_st (by omega) (by rw [fil_ne (by omega), Int.toNat_natCast, Int.tdiv_eq_ediv_of_nonneg h2.1])) ih

theorem x_takeNext {L d : Nat} {V : Mv} {b : Bool} {a : Nat} (ha : isT a) (hf : ∀ j, j < 8 → 0 ≤ V (a + 2) j ∧ V (a + 2) j ≤ 100000000000000000) : Ex L (d + 1) 81 [.inr (.inr a)] V b (Ans (some (.inl (sA (V (a + 2))))) (if sA (V (a + 2)) = 1 then fil V (a + 1) 0 (nrm (V (a + 2))) 8 else V) b) := by
  refine Ev.blk 6 (B81_0 _ _ _ _) rfl ?_
  refine tn1_lp ha hf ?_ 8 0 rfl
  have hb := tn_bd hf 8 (Nat.le_refl _)
  have h0 := (hf 0 (by omega)).1
  refine Ev.blk 4 (B81_44 _ _ _ _ _ _ _ ⟨by omega, by omega⟩ (cmpI_in _ _)) rfl ?_
  refine Ev.ite (fun q => ?_) (fun q => ?_)
  · have q := nd_t q
    rw [cmpI_eq] at q
    have hp : 0 < gN (V (a + 2)) 8 := by omega
    have e2 : Int.tdiv (mx (V (a + 2)) 8) ((gN (V (a + 2)) 8 : Nat) : Int) = mx (V (a + 2)) 8 / ((gN (V (a + 2)) 8 : Nat) : Int) := Int.tdiv_eq_ediv_of_nonneg hb.2.1
    have e3 : 0 ≤ mx (V (a + 2)) 8 / ((gN (V (a + 2)) 8 : Nat) : Int) ∧ mx (V (a + 2)) 8 / ((gN (V (a + 2)) 8 : Nat) : Int) ≤ mx (V (a + 2)) 8 := ⟨Int.ediv_nonneg hb.2.1 (by omega), Int.ediv_le_self _ hb.2.1⟩
    refine Ev.blk 6 (B81_53 _ _ _ _ _ _ _ ⟨by omega, by omega⟩ ⟨by omega, by omega⟩ (by omega) (by rw [e2]; exact ⟨by omega, by omega⟩) (cmpI_in _ _)) rfl ?_
    rw [e2]
    refine Ev.ite (fun q2 => ?_) (fun q2 => ?_)
    · replace q2 := (cmpI_le _ _).mp (of_decide_eq_true q2)
      have e4 := sA_1 (by omega) ((mx_full h0 hp).mp q2)
      refine Ev.blk 2 (B81_66 _ _ _ _ _ _ _) rfl ?_
      rw [e4, if_pos rfl]
      exact Ev.mem (fil_0 V (a + 1) 0 (nrm (V (a + 2)))).symm (tn2_lp ha (p := gN (V (a + 2)) 8) ⟨hp, by omega⟩ hf ⟨rfl, rfl, rfl⟩ 8 0 rfl)
    · have q2 : ¬ mx (V (a + 2)) 8 / ((gN (V (a + 2)) 8 : Nat) : Int) ≤ 1000000000000000 := fun z => of_decide_eq_false q2 ((cmpI_le _ _).mpr z)
      have e4 := sA_4 (f := V (a + 2)) (by omega) (fun z => q2 ((mx_full h0 hp).mpr z))
      refine Ev.blk 1 (B81_63 _ _ _ _ _ _ _) rfl ?_
      rw [e4, if_neg (by decide)]
      exact Ev.ret rfl rfl rfl rfl ⟨rfl, rfl, rfl⟩
  · have q := nd_f q
    rw [cmpI_eq] at q
    have e4 := sA_3 (f := V (a + 2)) (by omega)
    refine Ev.blk 1 (B81_50 _ _ _ _ _ _ _) rfl ?_
    rw [e4, if_neg (by decide)]
    exact Ev.ret rfl rfl rfl rfl ⟨rfl, rfl, rfl⟩
