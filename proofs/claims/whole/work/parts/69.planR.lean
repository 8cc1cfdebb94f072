/-! some days ahead, the reference (specs27.py) -/
theorem prc_ge {c f : Int} (h : 0 ≤ c - f) : c - f = prc c f := by
  unfold prc
  by_cases y : 0 < c - f
  · rw [decide_eq_true y]
    rfl
  · rw [decide_eq_false y]
    show c - f = 0
    omega
theorem prc_lt {c f : Int} (h : ¬ 0 ≤ c - f) : 0 = prc c f := by
  unfold prc
  rw [decide_eq_false (by omega)]
  rfl
theorem dfR_lp {L d : Nat} {V : Mv} {b : Bool} {Q : Option AV → Mv → Bool → Prop} {a : Nat} {s : Int} {m wn : Nat} {G : Nat → Nat → Int} {co mw mc : Nat → Int} {lt : Nat → Int} (hm : m < 3) (hP : PR V m wn G co mw mc) (hB : PB wn G co mw mc) (ha : a < wn) (hl : ∀ j, j < wn → V 140 j = lt j) (hQ : Q (some (.inr (.inl (rnV G co lt wn s a)))) V b) : ∀ n k : Nat, k + n = wn - a → Ev L (d + 2) 198 19 [some (.inr (.inr 120)), some (.inl (m : Int)), some (.inl (a : Int)), some (.inr (.inl s)), none, some (.inr (.inl (dyV G co lt s a k))), none, some (.inl ((a + k : Nat) : Int))] [] V b Q
  | 0, k, h => by
    obtain rfl : k = wn - a := by omega
    have h8 := hB.2.1
    have hw := hP.1
    refine Ev.blk 6 (B198_19 _ _ _ _ _ _ _ _ (by first | omega | (rw [Int.toNat_natCast, hw]; exact ⟨by omega, by omega⟩) | exact ⟨by omega, by omega⟩) (by first | omega | (rw [Int.toNat_natCast, hw]; exact ⟨by omega, by omega⟩) | exact ⟨by omega, by omega⟩) (by first | omega | (rw [Int.toNat_natCast, hw]; exact ⟨by omega, by omega⟩) | exact ⟨by omega, by omega⟩)) rfl ?_
    refine Ev.ite (fun q => ?_) (fun q => ?_)
    · replace q := of_decide_eq_true q
      rw [Int.toNat_natCast, hw] at q
      exact Ev.blk 1 (B198_58 _ _ _ _ _ _ _ _) rfl (Ev.ret rfl rfl rfl rfl hQ)
    · replace q := of_decide_eq_false q
      rw [Int.toNat_natCast, hw] at q
      exact absurd q (by omega)
  | n + 1, k, h => by
    have ih := dfR_lp (L := L) (d := d) hm hP hB ha hl hQ n (k + 1) (by omega)
    have h8 := hB.2.1
    have hw := hP.1
    have e2 : rGo V (m : Int) (a : Int) ((a + k : Nat) : Int) = G a (a + k) := hP.2.1 a (a + k) (by omega) (by omega)
    have h2 := hB.2.2.1 a (a + k) (by omega) (by omega)
    refine Ev.blk 6 (B198_19 _ _ _ _ _ _ _ _ (by first | omega | (rw [Int.toNat_natCast, hw]; exact ⟨by omega, by omega⟩) | exact ⟨by omega, by omega⟩) (by first | omega | (rw [Int.toNat_natCast, hw]; exact ⟨by omega, by omega⟩) | exact ⟨by omega, by omega⟩) (by first | omega | (rw [Int.toNat_natCast, hw]; exact ⟨by omega, by omega⟩) | exact ⟨by omega, by omega⟩)) rfl ?_
    refine Ev.ite (fun q => ?_) (fun q => ?_)
    · replace q := of_decide_eq_true q
      rw [Int.toNat_natCast, hw] at q
      exact absurd q (by omega)
    · replace q := of_decide_eq_false q
      rw [Int.toNat_natCast, hw] at q
      refine Ev.blk 5 (B198_30 _ _ _ _ _ _ _ _) rfl ?_
      refine Ev.call rfl rfl (rfl) (x_goesOf (d := d) (m := (m : Int)) (a := (a : Int)) (c := ((a + k : Nat) : Int)) (by omega) (by omega) (by omega)) (by omega) ?_
      rintro v V' b' ⟨rfl, h_, g_⟩
      subst V' b'
      refine Ev.blk 10 (B198_40 _ _ _ _ _ _ _ _ _ _ (by first | omega | (rw [e2]; exact ⟨by omega, by omega⟩) | exact ⟨by omega, by omega⟩) (by first | omega | (rw [e2]; exact ⟨by omega, by omega⟩) | exact ⟨by omega, by omega⟩)) rfl ?_
      refine Ev.val ?_ rfl ih
      rw [dyV_s, e2, Int.toNat_natCast, hl (a + k) (by omega)]
      rfl

theorem x_dayFrom {L d : Nat} {V : Mv} {b : Bool} {a : Nat} {s : Int} {m wn : Nat} {G : Nat → Nat → Int} {co mw mc : Nat → Int} {lt : Nat → Int} (hm : m < 3) (hP : PR V m wn G co mw mc) (hB : PB wn G co mw mc) (ha : a < wn) (hl : ∀ j, j < wn → V 140 j = lt j) : Ex L (d + 2) 198 [.inr (.inr 120), .inl (m : Int), .inl (a : Int), .inr (.inl s)] V b (Ans (some (.inr (.inl (rnV G co lt wn s a)))) V b) := by
  have h8 := hB.2.1
  have e0 : (8 * (m : Int) + (a : Int)).toNat = 8 * m + a := by omega
  have hco := hP.2.2.1 a (by omega)
  have hcb := hB.2.2.2.1 a (by omega)
  refine Ev.blk 14 (B198_0 _ _ _ _ _ _ (by omega) (by rw [e0, hco]; exact ⟨by omega, by omega⟩)) rfl ?_
  have h := dfR_lp (L := L) (d := d) (b := b) (s := s) (lt := lt) (Q := Ans (some (.inr (.inl (rnV G co lt wn s a)))) V b) hm hP hB ha hl ⟨rfl, rfl, rfl⟩ (wn - a) 0 (by omega)
  rw [dyV_0, Nat.add_zero] at h
  rw [e0, hco]
  exact h
theorem lpI_lp {L d : Nat} {V : Mv} {b : Bool} {Q : Option AV → Mv → Bool → Prop} {wr dd p a : Nat} {f s u mo : Int} {m wn : Nat} {G : Nat → Nat → Int} {co mw mc : Nat → Int} {lt rn : Nat → Int} (hm : m < 3) (hP : PR V m wn G co mw mc) (hB : PB wn G co mw mc) (ha : a < wn) (hwr : wr < wn) (hl : ∀ j, j < wn → V 140 j = lt j) (hu : u = s * 10) (hrn : ∀ j, j < wn → rnV G co lt wn u j = 10 * rn j) (hrb : ∀ j, j < wn → 0 ≤ rn j ∧ rn j ≤ 3000000000000000) (hs : 0 ≤ s ∧ s ≤ 100000000) (hp : 1 ≤ p ∧ p ≤ 8) (hmo : 0 ≤ mo ∧ mo ≤ 7) (hmf : Int.tmod mo (p : Int) = 0) (hf : 0 ≤ mo * f ∧ mo * f ≤ 100) (hQ : ∀ W, ((∀ x, x ≠ 120 → x ≠ 141 → W x = V x) ∧ (∀ j, j ≠ 31 → W 120 j = V 120 j) ∧ (∀ j, j ≠ a → W 141 j = V 141 j) ∧ W 141 a = 10 * (chV mw mc rn (mo * f) s a 4).1 ∧ W 120 31 = (if a = wr then (chV mw mc rn (mo * f) s a 4).2 else V 120 31)) → Ev L (d + 3) 197 253 [some (.inr (.inr 120)), some (.inl (m : Int)), some (.inl (wr : Int)), some (.inl (dd : Int)), some (.inl (p : Int)), some (.inl f), some (.inr (.inl u)), none, some (.inl mo), some (.inl (a : Int)), some (.inl (4 : Int)), none, none, none] [] W b Q) : ∀ (n k : Nat) (W : Mv), k + n = 4 → ((∀ x, x ≠ 120 → x ≠ 141 → W x = V x) ∧ (∀ j, j ≠ 31 → W 120 j = V 120 j) ∧ (∀ j, j ≠ a → W 141 j = V 141 j) ∧ W 141 a = 10 * (chV mw mc rn (mo * f) s a k).1 ∧ W 120 31 = (if a = wr then (chV mw mc rn (mo * f) s a k).2 else V 120 31)) → Ev L (d + 3) 197 96 [some (.inr (.inr 120)), some (.inl (m : Int)), some (.inl (wr : Int)), some (.inl (dd : Int)), some (.inl (p : Int)), some (.inl f), some (.inr (.inl u)), none, some (.inl mo), some (.inl (a : Int)), some (.inl (k : Int)), none, none, none] [] W b Q
  | 0, k, W, h, hr => by
    obtain rfl : k = 4 := by omega
    refine Ev.blk 3 (B197_96 _ _ _ _ _ _ _ _ _ _ _ _ (by decide)) rfl ?_
    refine Ev.ite (fun _ => ?_) (fun h => absurd h (by decide))
    exact hQ W hr
  | n + 1, k, W, h, hr => by
    have ih := lpI_lp (L := L) (d := d) (dd := dd) hm hP hB ha hwr hl hu hrn hrb hs hp hmo hmf hf hQ n (k + 1)
    have h8 := hB.2.1
    have e0 : (4 * (m : Int) + (k : Int)).toNat = 4 * m + k := by omega
    have hP2 : PR W m wn G co mw mc := hP.frame (fun x h1 h2 => hr.1 x (by omega) (by omega))
    have e6 := hP2.2.2.2.1 k (by omega)
    have e5 := hP2.2.2.2.2 k (by omega)
    have h6 := hB.2.2.2.2.1 k (by omega)
    have hcd := hB.2.2.2.2.2 k (by omega)
    have hpb := prc_bd hcd hf.1
    have hps := mulb hpb hs
    have hv := chV_bd (mw := mw) (fun j hj => (hrb j hj).1) (hrb a ha).2 ha (fun j hj => by have := hB.2.2.2.2.1 j hj; omega) hB.2.2.2.2.2 hf.1 hs.1 k (by omega)
    refine Ev.blk 3 (B197_96 _ _ _ _ _ _ _ _ _ _ _ _ ⟨by omega, by omega⟩) rfl ?_
    refine Ev.ite (fun q => absurd (of_decide_eq_true q) (by omega)) (fun _ => ?_)
    refine Ev.blk 4 (B197_102 _ _ _ _ _ _ _ _ _ _ _ _ ⟨by omega, by omega⟩ ⟨by omega, by omega⟩ (by omega) (by rw [hmf]; decide)) rfl ?_
    refine Ev.ite (fun q => absurd hmf (nd_t q)) (fun _ => ?_)
    refine Ev.blk 10 (B197_110 _ _ _ _ _ _ _ _ _ _ _ _ (by omega) (by rw [e0, e6]; exact ⟨by omega, by omega⟩)) rfl ?_
    rw [e0, e6]
    refine Ev.ite (fun q => ?_) (fun q => ?_)
    · have q2 := of_decide_eq_true q
      rw [chV_f (fun z => z.1 q2)] at ih
      refine Ev.blk 2 (B197_247 _ _ _ _ _ _ _ _ _ _ _ _) rfl ?_
      exact ih _ (by omega) hr
    · have q := of_decide_eq_false q
      have h9 := hrb (mw k).toNat (by omega)
      obtain ⟨X, hX⟩ : ∃ X, X = prc (mc k) (mo * f) * s + rn (mw k).toNat := ⟨_, rfl⟩
      have hXb : 0 ≤ X ∧ X ≤ 4000000000000000 := by omega
      have fin246 : ∀ (x11 z : Int) (Y : Mv), (∀ x, x ≠ 120 → Y x = W x) → (∀ j, j ≠ 31 → Y 120 j = W 120 j) → Y 120 31 = (if a = wr then (chV mw mc rn (mo * f) s a (k + 1)).2 else V 120 31) → z = 10 * (chV mw mc rn (mo * f) s a (k + 1)).1 → Ev L (d + 3) 197 246 [some (.inr (.inr 120)), some (.inl (m : Int)), some (.inl (wr : Int)), some (.inl (dd : Int)), some (.inl (p : Int)), some (.inl f), some (.inr (.inl u)), none, some (.inl mo), some (.inl (a : Int)), some (.inl (k : Int)), some (.inl x11), some (.inr (.inl (10 * X))), none] [.inr (.inl z), .inl (a : Int), .inr (.inr 141)] Y b Q := by
        intro x11 z Y y1 y2 y3 hz
        refine Ev.blk 1 (J197_246 _ _ _ _ _ _ _ _ _ _ _ _ _ _ _ _ _ _ (show TT L 141 = (2, 8) from rfl) ⟨by omega, by omega⟩ (by decide)) rfl ?_
        refine Ev.kill [false, false, false, false, false, false, false, false, false, false, false, true, true] ?_
        dsimp only [mkl]
        refine Ev.blk 2 (B197_247 _ _ _ _ _ _ _ _ _ _ _ _) rfl ?_
        refine ih _ (by omega) ⟨fun x n1 n2 => ?_, fun j hj => ?_, fun j hj => ?_, ?_, ?_⟩
        · rw [uV_ne n2, y1 x n1, hr.1 x n1 n2]
        · rw [uV_ne (by omega), y2 j hj, hr.2.1 j hj]
        · rw [uV_at, Int.toNat_natCast, if_neg hj, y1 141 (by omega), hr.2.2.1 j hj]
        · rw [uV_at, Int.toNat_natCast, if_pos rfl, hz]
        · rw [uV_ne (by omega), y3]
      have at212 : ∀ (x11 s1 : Int), s1 = (if a = wr then (chV mw mc rn (mo * f) s a (k + 1)).2 else V 120 31) → Ev L (d + 3) 197 212 [some (.inr (.inr 120)), some (.inl (m : Int)), some (.inl (wr : Int)), some (.inl (dd : Int)), some (.inl (p : Int)), some (.inl f), some (.inr (.inl u)), none, some (.inl mo), some (.inl (a : Int)), some (.inl (k : Int)), some (.inl x11), some (.inr (.inl (10 * X))), none] [.inl s1, .inr (.inr 120)] W b Q := by
        intro x11 s1 hs1
        have u141 : (uV W 120 31 s1) 141 (a : Int).toNat = 10 * (chV mw mc rn (mo * f) s a k).1 := by rw [uV_ne (by omega), Int.toNat_natCast, hr.2.2.2.1]
        have y1 : ∀ x, x ≠ 120 → uV W 120 31 s1 x = W x := fun x hx => uV_ne hx
        have y2 : ∀ j, j ≠ 31 → uV W 120 31 s1 120 j = W 120 j := fun j hj => by rw [uV_at, if_neg hj]
        have y3 : uV W 120 31 s1 120 31 = (if a = wr then (chV mw mc rn (mo * f) s a (k + 1)).2 else V 120 31) := by rw [uV_at, if_pos rfl, hs1]
        refine Ev.blk 11 (B197_212 _ _ _ _ _ _ _ _ _ _ _ _ _ _ _ (by omega) ⟨by omega, by omega⟩ (by rw [u141]; exact ⟨by omega, by omega⟩) (cmpI_in _ _)) rfl ?_
        rw [u141]
        refine Ev.ite (fun z => ?_) (fun z => ?_)
        · replace z := (cmpI_ge _ _).mp (of_decide_eq_true z)
          refine Ev.blk 4 (J197_239 _ _ _ _ _ _ _ _ _ _ _ _ _ _ _ _ _ (show TT L 141 = (2, 8) from rfl) (by omega)) rfl ?_
          rw [u141]
          exact fin246 x11 _ _ y1 y2 y3 (by rw [chV_f (fun z2 => absurd z2.2 (by omega))])
        · have z : ¬ (10 * (chV mw mc rn (mo * f) s a k).1 ≤ 10 * X) := fun z2 => of_decide_eq_false z ((cmpI_ge _ _).mpr z2)
          refine Ev.blk 2 (J197_234 _ _ _ _ _ _ _ _ _ _ _ _ _ _ _ _ _ (show TT L 141 = (2, 8) from rfl)) rfl ?_
          exact fin246 x11 _ _ y1 y2 y3 (by rw [chV_t q (by omega), hX])
      have at156 : ∀ (x11 z : Int), z = prc (mc k) (mo * f) → Ev L (d + 3) 197 156 [some (.inr (.inr 120)), some (.inl (m : Int)), some (.inl (wr : Int)), some (.inl (dd : Int)), some (.inl (p : Int)), some (.inl f), some (.inr (.inl u)), none, some (.inl mo), some (.inl (a : Int)), some (.inl (k : Int)), some (.inl x11), none, none] [.inl z] W b Q := by
        intro x11 z hz
        refine Ev.blk 14 (B197_156 _ _ _ _ _ _ _ _ _ _ _ _ _ _ (by rw [hz]; exact ⟨by omega, by omega⟩) (by omega)) rfl ?_
        rw [e0, e6]
        have hcall := x_dayFrom (L := L) (d := d) (b := b) (a := (mw k).toNat) (s := u) (lt := lt) hm hP2 hB (by omega) (fun j hj => by rw [hr.1 140 (by omega) (by omega)]; exact hl j hj)
        rw [show (((mw k).toNat : Nat) : Int) = mw k by omega, hrn _ (by omega)] at hcall
        refine Ev.call rfl rfl rfl hcall (by omega) ?_
        rintro v V' b' ⟨rfl, h_, g_⟩
        subst V' b'
        have e12 : z * u + 10 * rn (mw k).toNat = 10 * X := by
          rw [hX, hz, hu, ← Int.mul_assoc]
          omega
        refine Ev.blk 6 (B197_178 _ _ _ _ _ _ _ _ _ _ _ _ _ _ _ ⟨by omega, by omega⟩ ⟨by omega, by omega⟩) rfl ?_
        rw [e12]
        refine Ev.ite (fun w => ?_) (fun w => ?_)
        · replace w := nd_t w
          have w2 : ¬ a = wr := by omega
          refine Ev.blk 2 (B197_208 _ _ _ _ _ _ _ _ _ _ _ _ _ _) rfl ?_
          exact at212 x11 _ (by rw [if_neg w2, hr.2.2.2.2, if_neg w2])
        · replace w := nd_f w
          have w2 : a = wr := by omega
          refine Ev.blk 7 (B197_188 _ _ _ _ _ _ _ _ _ _ _ _ _ _ (by omega) ⟨by omega, by omega⟩ (by rw [Int.toNat_natCast, hr.2.2.2.1]; exact ⟨by omega, by omega⟩) (cmpI_in _ _)) rfl ?_
          rw [Int.toNat_natCast, hr.2.2.2.1]
          refine Ev.ite (fun y => ?_) (fun y => ?_)
          · replace y := (cmpI_ge _ _).mp (of_decide_eq_true y)
            refine Ev.blk 2 (B197_208 _ _ _ _ _ _ _ _ _ _ _ _ _ _) rfl ?_
            exact at212 x11 _ (by rw [if_pos w2, hr.2.2.2.2, if_pos w2, chV_f (fun z2 => absurd z2.2 (by omega))])
          · have y : ¬ (10 * (chV mw mc rn (mo * f) s a k).1 ≤ 10 * X) := fun z2 => of_decide_eq_false y ((cmpI_ge _ _).mpr z2)
            refine Ev.blk 4 (B197_201 _ _ _ _ _ _ _ _ _ _ _ _ _ _) rfl ?_
            exact at212 x11 _ (by rw [if_pos w2, chV_t q (by omega)])
      refine Ev.blk 15 (B197_126 _ _ _ _ _ _ _ _ _ _ _ _ (by omega) (by rw [e0, e5]; exact ⟨by omega, by omega⟩)) rfl ?_
      rw [e0, e5]
      refine Ev.ite (fun z => ?_) (fun z => ?_)
      · replace z := of_decide_eq_true z
        refine Ev.blk 1 (B197_154 _ _ _ _ _ _ _ _ _ _ _ _ _) rfl ?_
        exact at156 _ _ (prc_ge z)
      · replace z := of_decide_eq_false z
        refine Ev.blk 2 (B197_150 _ _ _ _ _ _ _ _ _ _ _ _ _) rfl ?_
        exact at156 _ _ (prc_lt z)
