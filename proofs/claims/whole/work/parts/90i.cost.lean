/-! the 38 calls: cost, which (specs67.py) -/
theorem sumN_tr {f : Nat → Int} {n : Nat} : ∀ k, (∀ i, n ≤ i → i < n + k → f i = 0) → sumN f (n + k) = sumN f n
  | 0, _ => rfl
  | k + 1, h => by
    show sumN f (n + k) + f (n + k) = sumN f n
    rw [sumN_tr k (fun i h1 h2 => h i h1 (by omega)), h (n + k) (by omega) (by omega)]
    omega
theorem Kd.rb {V : Mv} {K m n : Nat} {act : Nat → Int} (hk : Kd V K m) (hn : V 121 m = (n : Int)) (hA : ∀ a, a < 8 → 0 ≤ act a ∧ act a ≤ 4) : RB n (fun a c => rGo V (m : Int) (a : Int) (c : Int)) (fun j => V 124 (8 * m + j)) (fun j => V 126 (4 * m + j)) (fun j => V 127 (4 * m + j)) act := by
  have h2 := hk.w2
  have h8 := hk.w8
  obtain ⟨wn, e, _, _, hB⟩ := hk.rows
  obtain rfl : wn = n := by omega
  refine ⟨hB, fun a ha => ?_, fun a c hc ha => ?_, hA⟩
  · have e1 : ∀ c, c < wn → rGo V (m : Int) (a : Int) (c : Int) = if c = a then 10 - rLv V (m : Int) (a : Int) else V 123 (64 * m + 8 * a + c) := fun c hc => by
      unfold rGo
      by_cases q : c = a
      · rw [if_pos (by omega), if_pos q]
      · rw [if_neg (by omega), if_neg q, show (64 * (m : Int) + 8 * (a : Int) + (c : Int)).toNat = 64 * m + 8 * a + c by omega]
    have e2 : rLv V (m : Int) (a : Int) = sumN (fun c => V 123 (64 * m + 8 * a + c)) wn := by
      unfold rLv
      rw [sumN_congr 8 (g := fun c => V 123 (64 * m + 8 * a + c)) (fun o _ => by rw [show (64 * (m : Int) + 8 * (a : Int) + (o : Int)).toNat = 64 * m + 8 * a + o by omega])]
      have := sumN_tr (f := fun c => V 123 (64 * m + 8 * a + c)) (n := wn) (8 - wn) (fun i h1 h2 => hk.tn0 a i (by omega) (by omega) (by omega))
      rw [show wn + (8 - wn) = 8 by omega] at this
      exact this
    have e3 := hk.tn0 a a (by omega) (by omega) (by omega)
    rw [sumN_congr wn e1, sumN_up (fun c => V 123 (64 * m + 8 * a + c)) a _ wn, if_pos ha, e3, e2]
    omega
  · show rGo V (m : Int) (a : Int) (c : Int) = 0
    unfold rGo
    rw [if_neg (by omega), show (64 * (m : Int) + 8 * (a : Int) + (c : Int)).toNat = 64 * m + 8 * a + c by omega]
    exact hk.tn0 a c ha (by omega) (by omega)
theorem lcF.bk {V W : Mv} (h : lcF V W) : bkF V W := fun y k h1 _ h3 => h y k h1 (by omega)
theorem Inv.bkf {N : Nat} {V W1 W2 : Mv} (h : Inv N V) (h1 : ∀ y, ¬ (100 ≤ y ∧ y ≤ 107) → y ≠ 68 → W1 y = V y) (h2 : bkF W1 W2) : Inv N W2 := by
  have c2 : ∀ y k, ¬ (136 ≤ y ∧ y ≤ 139) → ¬ (y = 135 ∧ 32 ≤ k) → ¬ (y = 120 ∧ 23 ≤ k ∧ k ≤ 28) → ¬ (100 ≤ y ∧ y ≤ 107) → y ≠ 68 → W2 y k = V y k := fun y k a1 a2 a3 a4 a5 => by rw [h2 y k a1 a2 a3, h1 y a4 a5]
  refine h.rule (fun a ha n1 n2 => ?_) (c2 120 10 (by omega) (by omega) (by omega) (by omega) (by omega)) (c2 120 37 (by omega) (by omega) (by omega) (by omega) (by omega)) (fun r a hr ha => ?_)
  · unfold dI at ha
    funext k
    by_cases q : a = 120
    · omega
    · exact c2 a k (by omega) (by omega) (by omega) (by omega) (by omega)
  · rw [c2 (64 + r) a (by omega) (by omega) (by omega) (by omega) (by omega), c2 135 (8 * r + a) (by omega) (by omega) (by omega) (by omega) (by omega)]
    exact h.ru r a hr ha
theorem bkF.z {V W1 W2 : Mv} (h1 : ∀ y, ¬ (100 ≤ y ∧ y ≤ 107) → y ≠ 68 → W1 y = V y) (h2 : bkF W1 W2) (k : Nat) : W2 0 k = V 0 k := by
  rw [h2 0 k (by omega) (by omega) (by omega), h1 0 (by omega) (by omega)]
theorem tt_rule {L r : Nat} (h : r < 4) : TT L (64 + 1 * r) = (1, 8) := by
  have : r = 0 ∨ r = 1 ∨ r = 2 ∨ r = 3 := by omega
  rcases this with rfl | rfl | rfl | rfl <;> rfl
theorem RB.ne {n : Nat} {G : Nat → Nat → Int} {co mw mc act : Nat → Int} (h : RB n G co mw mc act) (ok : rOk n G mw act) : rN n G co mw mc act ≤ 15840000000 ∧ 0 < rE n G co mw mc act ∧ rE n G co mw mc act ≤ 80000000 := by
  have ud := h.ud ok.1 ok.2
  have h1 : rN n G co mw mc act ≤ rU n G co mw mc act := Nat.div_le_self _ _
  have h2 : rE n G co mw mc act ≤ rD n G mw act := Nat.div_le_self _ _
  have h3 : 0 < rE n G co mw mc act := Nat.div_pos (Nat.gcd_le_right _ ud.2.2.2.1) (gcd_p ud.2.2.2.1)
  omega
theorem op_cost (a0 a1 a2 : Int) (h0 : in32 a0) (h1 : in32 a1) (h2 : a2 = 0 ∨ a2 = 1) : OpJ 25 174 [.inl a0, .inl a1, .inl a2] := by
  intro L N V b hL hN hI
  have hi := hI.1
  have no : ¬ (0 ≤ a0 ∧ a0 < 3 ∧ 0 ≤ a1 ∧ a1 < 4) → Ev L 29 25 14 [some (.inr (.inr 1)), some (.inl a0), some (.inl a1), some (.inl a2)] [] V b (fun v V1 b1 => ∃ z : Int, v = some (.inr (.inl z)) ∧ in64 z ∧ V1 0 = V 0 ∧ Ex L 29 174 (.inr (.inr 120) :: [.inl a0, .inl a1, .inl a2]) V1 b1 (fun v2 V2 _ => v2 = some (.inr (.inl z)) ∧ Iv (N + 1) V2)) := fun hn => by
    refine Ev.blk 1 (B25_14 _ _ _ _ _ _) rfl ?_
    refine Ev.ret rfl rfl rfl rfl ⟨_, rfl, by decide, rfl, ?_⟩
    refine Ev.blk 1 (B174_0 _ _ _ _ _ _) rfl ?_
    refine Ev.call rfl rfl rfl (x_isMachineR (d := 26) h0) (by omega) ?_
    rintro v V' b' ⟨rfl, h_, g_⟩
    subst V' b'
    refine Ev.blk 1 (B174_4 _ _ _ _ _ _ _ (b01_in _)) rfl ?_
    refine Ev.ite (fun q => ?_) (fun q => ?_)
    · refine Ev.blk 1 (B174_14 _ _ _ _ _ _) rfl ?_
      exact Ev.ret rfl rfl rfl rfl ⟨rfl, hi.more (Nat.le_succ N), hI.2⟩
    · replace q := b01_1 (of_decide_eq_false q)
      refine Ev.blk 1 (B174_7 _ _ _ _ _ _) rfl ?_
      refine Ev.call rfl rfl rfl (x_isRuleR (d := 26) h1) (by omega) ?_
      rintro v V' b' ⟨rfl, h_, g_⟩
      subst V' b'
      refine Ev.blk 1 (B174_11 _ _ _ _ _ _ _ (b01_in _)) rfl ?_
      refine Ev.ite (fun z => absurd (b01_1 (nd_t z)) (by omega)) (fun _ => ?_)
      refine Ev.blk 1 (B174_14 _ _ _ _ _ _) rfl ?_
      exact Ev.ret rfl rfl rfl rfl ⟨rfl, hi.more (Nat.le_succ N), hI.2⟩
  refine Ev.blk 1 (B25_0 _ _ _ _ _ _) rfl ?_
  refine Ev.call rfl rfl rfl (x_isMachineC (d := 27) h0) (by omega) ?_
  rintro v V' b' ⟨rfl, h_, g_⟩
  subst V' b'
  refine Ev.blk 1 (B25_4 _ _ _ _ _ _ _ (b01_in _)) rfl ?_
  refine Ev.ite (fun q => ?_) (fun q => ?_)
  · replace q := b01_0 (of_decide_eq_true q)
    exact no (by omega)
  replace q := b01_1 (of_decide_eq_false q)
  refine Ev.blk 1 (B25_7 _ _ _ _ _ _) rfl ?_
  refine Ev.call rfl rfl rfl (x_isRuleC (d := 27) h1) (by omega) ?_
  rintro v V' b' ⟨rfl, h_, g_⟩
  subst V' b'
  refine Ev.blk 1 (B25_11 _ _ _ _ _ _ _ (b01_in _)) rfl ?_
  refine Ev.ite (fun q2 => ?_) (fun q2 => ?_)
  rotate_left
  · replace q2 := b01_0 (nd_f q2)
    exact no (by omega)
  replace q2 := b01_1 (nd_t q2)
  obtain ⟨m, rfl⟩ : ∃ m : Nat, a0 = (m : Int) := ⟨a0.toNat, by omega⟩
  obtain ⟨r, rfl⟩ : ∃ r : Nat, a1 = (r : Int) := ⟨a1.toNat, by omega⟩
  have hm : m < 3 := by omega
  have hr : r < 4 := by omega
  have hK : isK (14 + 15 * m) := k_11 (i := (m : Int)) (by omega)
  obtain ⟨n, hn, hP, hPR, _⟩ := (hi.kd m hm).rows
  have hRB : RB n (fun a c => rGo V (m : Int) (a : Int) (c : Int)) (fun j => V 124 (8 * m + j)) (fun j => V 126 (4 * m + j)) (fun j => V 127 (4 * m + j)) (fun a => V 135 (8 * r + a)) := (hi.kd m hm).rb hn (fun a ha => (hi.ru r a hr ha).2)
  refine Ev.blk 12 (B25_18 _ _ _ _ _ _ ⟨by omega, by omega⟩ ⟨by omega, by omega⟩) rfl ?_
  rw [Int.toNat_natCast, Int.toNat_natCast]
  refine Ev.call rfl rfl rfl (x_findCost (d := 25) hK (Or.inr (Or.inr (Or.inr (Or.inr (Or.inr (Or.inr rfl)))))) (tt_rule hr) (by omega) hP hRB (fun a ha => by rw [show 64 + 1 * r = 64 + r by omega]; exact (hi.ru r a hr ha).1)) (by omega) ?_
  rintro v W1 b1 ⟨rfl, w1, w2⟩
  have f1 : ∀ y, ¬ (100 ≤ y ∧ y ≤ 107) → y ≠ 68 → W1 y = V y := fun y h1 _ => w1 y (by omega) (by omega)
  have hPW : PR W1 m n (fun a c => rGo V (m : Int) (a : Int) (c : Int)) (fun j => V 124 (8 * m + j)) (fun j => V 126 (4 * m + j)) (fun j => V 127 (4 * m + j)) := hPR.frame (fun x h1 h2 => f1 x (by omega) (by omega))
  have lay := x_layCost (L := L) (d := 24) (V := W1) (b := b1) hm (r := r) (by omega) hPW hRB (fun a _ => by rw [f1 135 (by omega) (by omega)])
  rcases w2 with ⟨ok, rfl, e0, e1⟩ | ⟨nok, rfl⟩
  · have bd := hRB.ne ok
    refine Ev.blk 1 (B25_41 _ _ _ _ _ _ _ (by decide)) rfl ?_
    refine Ev.ite (fun _ => ?_) (fun z => absurd z (by decide))
    refine Ev.blk 3 (B25_48 _ _ _ _ _ _) rfl ?_
    refine Ev.call rfl rfl rfl (x_toldC (d := 28) (a := 107) (Or.inr (Or.inr (Or.inr (Or.inr (Or.inr (Or.inr rfl)))))) h2) (by omega) ?_
    rintro v V' b' ⟨rfl, h_, g_⟩
    subst V' b'
    refine Ev.ret rfl rfl rfl rfl ⟨_, rfl, ?_, f1 0 (by omega) (by omega), ?_⟩
    · rw [e0, e1]
      split
      · exact ⟨by omega, by omega⟩
      · exact ⟨by omega, by omega⟩
    refine Ev.blk 1 (B174_0 _ _ _ _ _ _) rfl ?_
    refine Ev.call rfl rfl rfl (x_isMachineR (d := 26) h0) (by omega) ?_
    rintro v V' b' ⟨rfl, h_, g_⟩
    subst V' b'
    refine Ev.blk 1 (B174_4 _ _ _ _ _ _ _ (b01_in _)) rfl ?_
    refine Ev.ite (fun z => absurd (show 0 ≤ (m : Int) ∧ (m : Int) ≤ 2 by omega) (b01_0 (of_decide_eq_true z))) (fun _ => ?_)
    refine Ev.blk 1 (B174_7 _ _ _ _ _ _) rfl ?_
    refine Ev.call rfl rfl rfl (x_isRuleR (d := 26) h1) (by omega) ?_
    rintro v V' b' ⟨rfl, h_, g_⟩
    subst V' b'
    refine Ev.blk 1 (B174_11 _ _ _ _ _ _ _ (b01_in _)) rfl ?_
    refine Ev.ite (fun _ => ?_) (fun z => absurd (show 0 ≤ (r : Int) ∧ (r : Int) ≤ 3 by omega) (b01_0 (nd_f z)))
    refine Ev.blk 3 (B174_18 _ _ _ _ _ _) rfl ?_
    refine Ev.call rfl rfl rfl lay (by omega) ?_
    rintro v W2 b2 ⟨rfl, v1, v2⟩
    rcases v2 with ⟨_, rfl, g0, g1⟩ | ⟨nok, rfl⟩
    · refine Ev.blk 1 (B174_24 _ _ _ _ _ _ _ (by decide)) rfl ?_
      refine Ev.ite (fun z => absurd z (by decide)) (fun _ => ?_)
      refine Ev.blk 2 (B174_27 _ _ _ _ _ _ ⟨by omega, by omega⟩) rfl ?_
      refine Ev.ite (fun z => ?_) (fun z => ?_)
      · replace z := of_decide_eq_true z
        refine Ev.blk 3 (B174_38 _ _ _ _ _ _) rfl ?_
        refine Ev.ret rfl rfl rfl rfl ⟨?_, (hi.more (Nat.le_succ N)).bkf f1 v1.bk, fun k => by rw [bkF.z f1 v1.bk]; exact hI.2 k⟩
        rw [if_pos z, e1, g1]
      · replace z := of_decide_eq_false z
        refine Ev.blk 3 (B174_31 _ _ _ _ _ _) rfl ?_
        refine Ev.ret rfl rfl rfl rfl ⟨?_, (hi.more (Nat.le_succ N)).bkf f1 v1.bk, fun k => by rw [bkF.z f1 v1.bk]; exact hI.2 k⟩
        rw [if_neg z, e0, g0]
    · exact absurd ok nok
  · refine Ev.blk 1 (B25_41 _ _ _ _ _ _ _ (by decide)) rfl ?_
    refine Ev.ite (fun z => absurd z (by decide)) (fun _ => ?_)
    refine Ev.blk 1 (B25_44 _ _ _ _ _ _) rfl ?_
    refine Ev.ret rfl rfl rfl rfl ⟨_, rfl, by decide, f1 0 (by omega) (by omega), ?_⟩
    refine Ev.blk 1 (B174_0 _ _ _ _ _ _) rfl ?_
    refine Ev.call rfl rfl rfl (x_isMachineR (d := 26) h0) (by omega) ?_
    rintro v V' b' ⟨rfl, h_, g_⟩
    subst V' b'
    refine Ev.blk 1 (B174_4 _ _ _ _ _ _ _ (b01_in _)) rfl ?_
    refine Ev.ite (fun z => absurd (show 0 ≤ (m : Int) ∧ (m : Int) ≤ 2 by omega) (b01_0 (of_decide_eq_true z))) (fun _ => ?_)
    refine Ev.blk 1 (B174_7 _ _ _ _ _ _) rfl ?_
    refine Ev.call rfl rfl rfl (x_isRuleR (d := 26) h1) (by omega) ?_
    rintro v V' b' ⟨rfl, h_, g_⟩
    subst V' b'
    refine Ev.blk 1 (B174_11 _ _ _ _ _ _ _ (b01_in _)) rfl ?_
    refine Ev.ite (fun _ => ?_) (fun z => absurd (show 0 ≤ (r : Int) ∧ (r : Int) ≤ 3 by omega) (b01_0 (nd_f z)))
    refine Ev.blk 3 (B174_18 _ _ _ _ _ _) rfl ?_
    refine Ev.call rfl rfl rfl lay (by omega) ?_
    rintro v W2 b2 ⟨rfl, v1, v2⟩
    rcases v2 with ⟨ok, _⟩ | ⟨_, rfl⟩
    · exact absurd ok nok
    · refine Ev.blk 1 (B174_24 _ _ _ _ _ _ _ (by decide)) rfl ?_
      refine Ev.ite (fun _ => ?_) (fun z => absurd z (by decide))
      refine Ev.blk 1 (B174_45 _ _ _ _ _ _) rfl ?_
      exact Ev.ret rfl rfl rfl rfl ⟨rfl, (hi.more (Nat.le_succ N)).bkf f1 v1.bk, fun k => by rw [bkF.z f1 v1.bk]; exact hI.2 k⟩
