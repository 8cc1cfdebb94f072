/-! the 38 calls: day, hear, mend, look (specs16.py) -/
theorem Inv.tht {N : Nat} {V V' : Mv} (h : Inv N V) (hA : ∀ a, dI a → a ≠ 22 → a ≠ 37 → a ≠ 52 → a ≠ 130 → V' a = V a) (h1 : V' 120 10 = V 120 10) (h2 : V' 120 37 = V 120 37) (n_th : ∀ i a : Nat, i < 3 → a < 8 → V' (22 + 15 * i) a = V' 130 (8 * i + a)) (n_tv : ∀ i : Nat, i < 3 → Wt (fun a => V' 130 (8 * i + a)) (V' 121 i)) : Inv N V' := by
  unfold dI at hA
  apply Inv.mk
  · intro i hi
    exact (h.kd i hi).frame (fun j hj => hA _ (by omega) (by omega) (by omega) (by omega) (by omega)) (fun a _ _ => hA a (by omega) (by omega) (by omega) (by omega) (by omega))
  · exact n_th
  · exact n_tv
  · intro r a hr ha
    rw [hA (64 + r) (by omega) (by omega) (by omega) (by omega) (by omega), hA 135 (by omega) (by omega) (by omega) (by omega) (by omega)]
    exact h.ru r a hr ha
  · rw [hA 2 (by omega) (by omega) (by omega) (by omega) (by omega), h1]
    exact h.tl
  · rw [hA 3 (by omega) (by omega) (by omega) (by omega) (by omega), hA 128 (by omega) (by omega) (by omega) (by omega) (by omega)]
    exact h.tb
  · rw [hA 69 (by omega) (by omega) (by omega) (by omega) (by omega), h2]
    exact h.ll
  · rw [hA 70 (by omega) (by omega) (by omega) (by omega) (by omega), hA 145 (by omega) (by omega) (by omega) (by omega) (by omega)]
    exact h.lr
  · rw [hA 62 (by omega) (by omega) (by omega) (by omega) (by omega), hA 129 (by omega) (by omega) (by omega) (by omega) (by omega)]
    exact h.md
  · intro s hs
    rw [hA (72 + 14 * s) (by omega) (by omega) (by omega) (by omega) (by omega), hA 146 (by omega) (by omega) (by omega) (by omega) (by omega)]
    exact h.us s hs
  · intro s hs
    rw [hA 146 (by omega) (by omega) (by omega) (by omega) (by omega)]
    exact fun q => (h.sl s hs q).frame hs (fun a ha => hA a (by omega) (by omega) (by omega) (by omega) (by omega))
  · intro i hi
    exact (h.br i hi).row (hA (24 + 15 * i) (by omega) (by omega) (by omega) (by omega) (by omega)) (hA (25 + 15 * i) (by omega) (by omega) (by omega) (by omega) (by omega)) (fun a _ _ => hA a (by omega) (by omega) (by omega) (by omega) (by omega))
theorem Wt.congr {f g : Nat → Int} {n : Int} (e : ∀ j, j < 8 → f j = g j) (h : Wt g n) : Wt f n := by
  refine Wt.mk (fun a ha => by rw [e a ha]; exact h.b a ha) (fun a ha hn => by rw [e a ha]; exact h.z a ha hn) ?_
  obtain ⟨a, ha, hs⟩ := h.s
  exact ⟨a, ha, by rw [e a ha]; exact hs⟩
theorem Inv.think {N : Nat} {V V' : Mv} {i : Nat} {g : Nat → Int} (h : Inv N V) (hi3 : i < 3) (hA : ∀ a, dI a → a ≠ 22 + 15 * i → a ≠ 130 → V' a = V a) (h1 : V' 120 10 = V 120 10) (h2 : V' 120 37 = V 120 37) (hc : ∀ j, j < 8 → V' (22 + 15 * i) j = g j) (hr : ∀ j, j < 8 → V' 130 (8 * i + j) = g j) (ho : ∀ k, ¬ (8 * i ≤ k ∧ k < 8 * i + 8) → V' 130 k = V 130 k) (hg : Wt g (V 121 i)) : Inv N V' := by
  have e121 : V' 121 = V 121 := hA 121 (by unfold dI; omega) (by omega) (by omega)
  refine h.tht (fun a ha n1 n2 n3 n4 => hA a ha (by omega) n4) h1 h2 (fun i' a hi' ha => ?_) (fun i' hi' => ?_)
  · by_cases e : i' = i
    · rw [e, hc a ha, hr a ha]
    · rw [hA (22 + 15 * i') (by unfold dI; omega) (by omega) (by omega), ho _ (by omega)]
      exact h.th i' a hi' ha
  · rw [e121]
    by_cases e : i' = i
    · rw [e]
      exact hg.congr hr
    · exact (h.tv i' hi').congr (fun j hj => ho _ (by omega))
theorem one1_wt {w : Nat} {n : Int} (h : (w : Int) < n) (h8 : w < 8) : Wt (one1 (w : Int)) n := by
  unfold one1
  refine Wt.mk (fun a _ => by split <;> omega) (fun a _ hn => by rw [if_neg (by omega)]) ⟨w, h8, ?_⟩
  show ¬ (if (w : Int) = (w : Int) then (1 : Int) else 0) = 0
  rw [if_pos rfl]
  decide
theorem dF_congr {G H : Nat → Nat → Int} {f g : Nat → Int} (hG : ∀ a c, a < 8 → c < 8 → G a c = H a c) (h : ∀ j, j < 8 → f j = g j) : ∀ j, j < 8 → dF G f j = dF H g j := by
  intro j hj
  unfold dF
  exact sumN_congr (j + 1) (fun i hi => by rw [hG i j (by omega) hj, h i (by omega)])
theorem sumN_0 {f : Nat → Int} : ∀ n, (∀ i, i < n → f i = 0) → sumN f n = 0
  | 0, _ => rfl
  | n + 1, h => by
    show sumN f n + f n = 0
    rw [sumN_0 n (fun i hi => h i (by omega)), h n (by omega)]
    rfl
theorem dF_z {V : Mv} {K m : Nat} {f : Nat → Int} (hk : Kd V K m) (hz : ∀ a : Nat, a < 8 → V 121 m ≤ (a : Int) → f a = 0) : ∀ j : Nat, j < 8 → V 121 m ≤ (j : Int) → dF (fun a c => rGo V (m : Int) (a : Int) (c : Int)) f j = 0 := by
  intro j hj hn
  unfold dF
  refine sumN_0 (j + 1) (fun i hi => ?_)
  by_cases q : V 121 m ≤ (i : Int)
  · rw [hz i (by omega) q, Int.zero_mul]
  · have e : rGo V (m : Int) (i : Int) (j : Int) = 0 := by
      unfold rGo
      rw [if_neg (by omega), show (64 * (m : Int) + 8 * (i : Int) + (j : Int)).toNat = 64 * m + 8 * i + j by omega]
      exact hk.tn0 i j (by omega) hj (by omega)
    show f i * rGo V (m : Int) (i : Int) (j : Int) = 0
    rw [e, Int.mul_zero]
theorem kF_z {q f : Nat → Int} {u n : Int} (hz : ∀ a : Nat, a < 8 → n ≤ (a : Int) → f a = 0) : ∀ a : Nat, a < 8 → n ≤ (a : Int) → kF q u f a = 0 := by
  intro a ha hn
  unfold kF
  rw [hz a ha hn, Int.zero_mul]
theorem kF_congr {q r f g : Nat → Int} {u : Int} (hq : ∀ j, j < 8 → q j = r j) (h : ∀ j, j < 8 → f j = g j) : ∀ j, j < 8 → kF q u f j = kF r u g j := by
  intro j hj
  unfold kF
  rw [hq j hj, h j hj]
theorem op_day (a0 : Int) (h0 : in32 a0) : OpI 13 154 [.inl a0] := by
  intro L N V b hL hN hI
  have hi := hI.1
  refine Ev.blk 1 (B13_0 _ _ _ _) rfl ?_
  refine Ev.call rfl rfl rfl (x_isMachineC (d := 28) h0) (by omega) ?_
  rintro v V' b' ⟨rfl, rfl, rfl⟩
  refine Ev.blk 1 (B13_4 _ _ _ _ _ (b01_in _)) rfl ?_
  refine Ev.ite (fun q => ?_) (fun q => ?_)
  · replace q := b01_1 (nd_t q)
    obtain ⟨i, rfl⟩ : ∃ k : Nat, a0 = (k : Int) := ⟨a0.toNat, by omega⟩
    have hi3 : i < 3 := by omega
    have hk := hi.kd i hi3
    have hT : isT (21 + 15 * i) := k_12 (i := (i : Int)) q
    have hK : isK (14 + 15 * i) := k_11 (i := (i : Int)) q
    have hv := hi.tv i hi3
    obtain ⟨w, hw⟩ : ∃ w : Nat, V' 121 i = (w : Int) := ⟨(V' 121 i).toNat, by have := hk.w2; omega⟩
    have hw8 := hk.w8
    obtain ⟨D, hD⟩ : ∃ D, D = dF (fun a c => rGo V' (i : Int) (a : Int) (c : Int)) (fun j => V' 130 (8 * i + j)) := ⟨_, rfl⟩
    have t1 : ∀ j, j < 8 → V' (21 + 15 * i + 1) j = V' 130 (8 * i + j) := fun j hj => by
      rw [show 21 + 15 * i + 1 = 22 + 15 * i by omega]
      exact hi.th i j hi3 hj
    have hG : ∀ a c : Nat, a < 8 → c < 8 → 0 ≤ rGo V' (i : Int) (a : Int) (c : Int) ∧ rGo V' (i : Int) (a : Int) (c : Int) ≤ 10 := fun a c ha hc => rGo_bd hk ha hc
    have d1 : ∀ j, j < 8 → dF (fun a c => rGo V' (i : Int) (a : Int) (c : Int)) (V' (21 + 15 * i + 1)) j = D j := by
      rw [hD]
      exact dF_congr (fun _ _ _ _ => rfl) t1
    refine Ev.blk 8 (B13_9 _ _ _ _ q) rfl ?_
    rw [Int.toNat_natCast]
    refine Ev.call rfl rfl (vg rfl rfl (isT_0 hT) (congrArg Prod.fst (isT_T hT)) rfl) (x_passDay (d := 26) (G := fun a c => rGo V' (i : Int) (a : Int) (c : Int)) hT hK (fun a c ha hc => hk.go a c ha hc) hG (fun j hj => by rw [t1 j hj]; exact hv.b j hj)) (by omega) ?_
    rintro v V1 b1 ⟨rfl, rfl, f1, f2, f5⟩
    rw [sA_congr d1] at f2 f5 ⊢
    have hs := sA_c D
    refine Ev.ret rfl rfl rfl rfl ⟨_, rfl, ⟨by omega, by omega⟩, f1 0 (by omega) (by omega), ?_⟩
    refine Ev.blk 1 (B154_0 _ _ _ _) rfl ?_
    refine Ev.call rfl rfl rfl (x_isMachineR (d := 27) h0) (by omega) ?_
    rintro v V2 b2 ⟨rfl, rfl, rfl⟩
    refine Ev.blk 1 (B154_4 _ _ _ _ _ (b01_in _)) rfl ?_
    refine Ev.ite (fun _ => ?_) (fun z => absurd (show 0 ≤ (i : Int) ∧ (i : Int) ≤ 2 by omega) (b01_0 (nd_f z)))
    refine Ev.blk 2 (B154_9 _ _ _ _) rfl ?_
    refine Ev.call rfl rfl rfl (x_take (d := 28) (m := i) hi3) (by omega) ?_
    rintro v V3 b3 ⟨rfl, rfl, rfl⟩
    obtain ⟨W, hW⟩ : ∃ W, W = fil V2 131 0 (fun j => V2 130 (8 * i + j)) 8 := ⟨_, rfl⟩
    rw [← hW]
    have w1 : ∀ x, x ≠ 131 → x ≠ 22 + 15 * i → x ≠ 23 + 15 * i → W x = V' x := fun x n1 n2 n3 => by
      rw [hW, fil_ne n1, f1 x (by omega) (by omega)]
    have w2 : ∀ j, j < 8 → W 131 j = V' 130 (8 * i + j) := fun j hj => by
      rw [hW, fil_z hj, f1 130 (by omega) (by omega)]
    have w3 : ∀ a c : Int, rGo W (i : Int) a c = rGo V' (i : Int) a c := fun a c => rGo_congr (w1 123 (by omega) (by omega) (by omega)) _ _ _
    have d2 : ∀ j, j < 8 → dF (fun a c => rGo W (i : Int) (a : Int) (c : Int)) (W 131) j = D j := by
      rw [hD]
      exact dF_congr (fun a c _ _ => w3 _ _) w2
    have hz : ∀ j : Nat, j < 8 → V' 121 i ≤ (j : Int) → D j = 0 := by
      rw [hD]
      exact dF_z hk hv.z
    refine Ev.blk 2 (B154_14 _ _ _ _) rfl ?_
    refine Ev.call rfl rfl rfl (x_tryDay (d := 25) (m := i) (w := w) hi3 (by rw [w1 121 (by omega) (by omega) (by omega)]; exact hw) (by omega) (fun a c ha hc => by rw [w3]; exact hG a c ha hc) (fun j hj => by rw [w2 j hj]; exact hv.b j hj) (fun j hj hwj => by rw [d2 j hj]; exact hz j hj (by omega))) (by omega) ?_
    rintro v V4 b4 ⟨rfl, rfl, g1, g2⟩
    rw [sA_congr d2] at g2 ⊢
    refine Ev.blk 4 (B154_19 _ _ _ _ _ ⟨by omega, by omega⟩) rfl ?_
    refine Ev.ite (fun z => ?_) (fun z => ?_)
    · replace z := nd_t z
      refine Ev.blk 1 (B154_30 _ _ _ _ _) rfl ?_
      refine Ev.ret rfl rfl rfl rfl ⟨rfl, ?_, fun k => ?_⟩
      · refine (hi.more (Nat.le_succ N)).frame (fun a ha => ?_) ?_ ?_
        · unfold dI at ha
          by_cases e : a = 22 + 15 * i
          · rw [e, g1 _ (by omega) (by omega), hW, fil_ne (by omega), show 22 + 15 * i = 21 + 15 * i + 1 by omega, f5 z]
          · rw [g1 a (by omega) (by omega), w1 a (by omega) e (by omega)]
        · rw [g1 120 (by omega) (by omega), w1 120 (by omega) (by omega) (by omega)]
        · rw [g1 120 (by omega) (by omega), w1 120 (by omega) (by omega) (by omega)]
      · rw [g1 0 (by omega) (by omega), w1 0 (by omega) (by omega) (by omega)]
        exact hI.2 k
    · replace z := nd_f z
      refine Ev.blk 2 (B154_25 _ _ _ _ _) rfl ?_
      refine Ev.call rfl rfl rfl (x_putT (d := 28) (m := i) hi3) (by omega) ?_
      rintro v V5 b5 ⟨rfl, rfl, rfl⟩
      refine Ev.blk 1 (B154_30 _ _ _ _ _) rfl ?_
      have p1 : ∀ x, x ≠ 130 → x ≠ 131 → x ≠ 132 → x ≠ 22 + 15 * i → x ≠ 23 + 15 * i → fil V4 130 (8 * i) (V4 131) 8 x = V' x := fun x n0 n1 n2 n3 n4 => by
        rw [fil_ne n0, g1 x n1 n2, w1 x n1 n3 n4]
      refine Ev.ret rfl rfl rfl rfl ⟨rfl, ?_, fun k => ?_⟩
      · refine (hi.more (Nat.le_succ N)).think (i := i) (g := nrm D) hi3 (fun a ha n1 n2 => ?_) ?_ ?_ (fun j hj => ?_) (fun j hj => ?_) (fun k hk => ?_) (nrm_wt z (fun j hj => ?_) hz)
        · unfold dI at ha
          exact p1 a n2 (by omega) (by omega) n1 (by omega)
        · rw [p1 120 (by omega) (by omega) (by omega) (by omega) (by omega)]
        · rw [p1 120 (by omega) (by omega) (by omega) (by omega) (by omega)]
        · rw [fil_ne (by omega), g1 _ (by omega) (by omega), hW, fil_ne (by omega), show 22 + 15 * i = 21 + 15 * i + 1 by omega, f2 z j hj]
          exact nrm_congr d1 j hj
        · rw [fil_at hj, g2 z j hj]
          exact nrm_congr d2 j hj
        · rw [fil_out hk, g1 130 (by omega) (by omega), w1 130 (by omega) (by omega) (by omega)]
        · rw [hD]
          exact (dF_bd hv.b (fun a ha => hG a j ha hj) hj).1
      · rw [p1 0 (by omega) (by omega) (by omega) (by omega) (by omega)]
        exact hI.2 k
  · replace q := b01_0 (nd_f q)
    refine Ev.blk 1 (B13_7 _ _ _ _) rfl ?_
    refine Ev.ret rfl rfl rfl rfl ⟨_, rfl, by decide, rfl, ?_⟩
    refine Ev.blk 1 (B154_0 _ _ _ _) rfl ?_
    refine Ev.call rfl rfl rfl (x_isMachineR (d := 27) h0) (by omega) ?_
    rintro v V4 b4 ⟨rfl, rfl, rfl⟩
    refine Ev.blk 1 (B154_4 _ _ _ _ _ (b01_in _)) rfl ?_
    refine Ev.ite (fun z => ?_) (fun _ => ?_)
    · have z := b01_1 (nd_t z)
      omega
    · refine Ev.blk 1 (B154_7 _ _ _ _) rfl ?_
      exact Ev.ret rfl rfl rfl rfl ⟨rfl, hi.more (Nat.le_succ N), hI.2⟩
