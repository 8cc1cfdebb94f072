/-! what a rule costs, in the reference (specs66.py) -/
def lcF (V W : Mv) : Prop := ∀ y k, ¬ (136 ≤ y ∧ y ≤ 139) → ¬ (y = 120 ∧ 23 ≤ k ∧ k ≤ 25) → W y k = V y k
theorem lcF.row {V W : Mv} (h : lcF V W) {y : Nat} (h1 : ¬ (136 ≤ y ∧ y ≤ 139)) (h2 : y ≠ 120) : W y = V y := funext (fun k => h y k h1 (by omega))
theorem mvs_skp {K w x : Nat} (hw : w < K) (hx : x < K - 1) : mvs w (K - 1 - w) x = skp w x := by
  rw [mvs_eq]
  unfold skp
  by_cases q : x < w
  · rw [if_pos q, if_pos q]
  · rw [if_neg q, if_neg q, if_pos (by omega)]
theorem lc_lp {L d : Nat} {V : Mv} {b : Bool} {Q : Option AV → Mv → Bool → Prop} {m n r : Nat} {G : Nat → Nat → Int} {co mw mc act : Nat → Int} (hm3 : m < 3) (hr : r < 5) (hP : PR V m n G co mw mc) (hR : RB n G co mw mc act) (hA : ∀ a, a < 8 → V 135 (8 * r + a) = act a) (hm : hasM act mw n) (hQ : ∀ W, lcF V W → W 120 24 = upC (qA G act mw) n (prA co mc act mw) → W 120 25 = dnC (qA G act mw) n → Ev L (d + 4) 175 156 [some (.inr (.inr 120)), some (.inl (m : Int)), some (.inl (r : Int)), some (.inl (kC (qA G act mw) n : Int)), none, none, none, none, none] [] W b Q) : ∀ (g k : Nat) (W : Mv), k + g = kC (qA G act mw) n → lcF V W → W 120 23 = (kC (qA G act mw) n : Int) → (∀ i, i < kC (qA G act mw) n → W 138 i = (nth (comB (qA G act mw) n) n i : Int)) → W 120 24 = sumN (fun i => xC (qA G act mw) n i * prA co mc act mw (nth (comB (qA G act mw) n) n i)) k → W 120 25 = sumN (xC (qA G act mw) n) k → Ev L (d + 4) 175 32 [some (.inr (.inr 120)), some (.inl (m : Int)), some (.inl (r : Int)), some (.inl (k : Int)), none, none, none, none, none] [] W b Q
  | 0, k, W, h, w1, w2, w3, w4, w5 => by
    obtain rfl : k = kC (qA G act mw) n := by omega
    have h8 := hR.1.2.1
    have hkn : kC (qA G act mw) n ≤ n := cn_n _ _
    refine Ev.blk 4 (B175_32 _ _ _ _ _ _ ⟨by omega, by omega⟩ (by rw [w2]; exact ⟨by omega, by omega⟩)) rfl ?_
    rw [w2]
    refine Ev.ite (fun _ => ?_) (fun z => absurd (of_decide_eq_false z) (by omega))
    exact hQ W w1 w4 w5
  | g + 1, k, W, h, w1, w2, w3, w4, w5 => by
    have h8 := hR.1.2.1
    have hkn : kC (qA G act mw) n ≤ n := cn_n _ _
    have go := hR.go hm
    have hI := lamC go
    have ak := (nth_mem (comB (qA G act mw) n) n).at_ k (show k < kC (qA G act mw) n by omega)
    obtain ⟨mem, hmem⟩ : ∃ mem, mem = nth (comB (qA G act mw) n) n := ⟨_, rfl⟩
    have mlt : ∀ i, i < kC (qA G act mw) n → mem i < n := fun i hi => by rw [hmem]; exact ((nth_mem (comB (qA G act mw) n) n).at_ i hi).1
    have hsk := hR.st hm (mlt k (by omega))
    have hac := hR.2.2.2 (mem k) (by have := mlt k (by omega); omega)
    have hpr := hR.pr hm (mlt k (by omega))
    have hcb := hR.1.2.2.2.1 (stA act mw (mem k)) (by omega)
    have hPW : PR W m n G co mw mc := hP.frame (fun x h1 h2 => w1.row (by omega) (by omega))
    have e135 : W 135 = V 135 := w1.row (by omega) (by omega)
    have eX : bd (msw (lam (qA G act mw) mem) k (kC (qA G act mw) n - 1 - k)) (kC (qA G act mw) n - 1) = xC (qA G act mw) n k := by
      rw [hmem]
      exact (share_eq hI k (by omega)).1.symm
    rw [← hmem] at hI
    refine Ev.blk 4 (B175_32 _ _ _ _ _ _ ⟨by omega, by omega⟩ (by rw [w2]; exact ⟨by omega, by omega⟩)) rfl ?_
    rw [w2]
    refine Ev.ite (fun z => absurd (of_decide_eq_true z) (by omega)) (fun _ => ?_)
    refine Ev.blk 4 (B175_40 _ _ _ _ _ _) rfl ?_
    refine Ev.call rfl rfl rfl (x_laySquare (d := d) hm3 hr hPW hR (fun a ha => by rw [e135]; exact hA a ha) hm (K := kC (qA G act mw) n) (w := k) (mem := mem) (by omega) (by omega) mlt (fun i hi => by rw [hmem]; exact w3 i hi) hI w2) (by omega) ?_
    rintro v W2 b2 ⟨rfl, rfl, s1, s2⟩
    refine Ev.blk 5 (B175_47 _ _ _ _ _ _) rfl ?_
    rw [s1 120 (by omega), w2, show ((kC (qA G act mw) n : Int)) - 1 = ((kC (qA G act mw) n - 1 : Nat) : Int) by omega]
    refine Ev.call rfl rfl rfl (x_worth (d := d) (A := msw (lam (qA G act mw) mem) k (kC (qA G act mw) n - 1 - k)) (N := kC (qA G act mw) n - 1) (by rw [show kC (qA G act mw) n - 1 + 1 = kC (qA G act mw) n by omega]; exact (msw_irr hI (i := k) (kC (qA G act mw) n - 1 - k) (by omega)).lj) (by omega) (fun x y hx hy => ?_)) (by omega) ?_
    · rw [s2 x y hx hy, msw_eq, mvs_skp (by omega) hx, mvs_skp (by omega) hy]
    rintro v W3 b3 ⟨rfl, rfl, t1⟩
    rw [eX]
    have r3 : ∀ y, y ≠ 139 → W3 y = W y := fun y hy => by rw [t1 y hy, s1 y hy]
    have f138 : W3 138 ((k : Int)).toNat = (mem k : Int) := by
      rw [Int.toNat_natCast, r3 138 (by omega), hmem]
      exact w3 k (by omega)
    have f135 : W3 135 (8 * (r : Int) + (mem k : Int)).toNat = act (mem k) := by
      rw [show (8 * (r : Int) + (mem k : Int)).toNat = 8 * r + mem k by omega, r3 135 (by omega), e135]
      exact hA _ (by have := mlt k (by omega); omega)
    have hP3 : PR W3 m n G co mw mc := hPW.frame (fun x h1 h2 => r3 x (by omega))
    have f124 : W3 124 (8 * (m : Int) + (stA act mw (mem k) : Int)).toNat = co (stA act mw (mem k)) := by
      rw [show (8 * (m : Int) + (stA act mw (mem k) : Int)).toNat = 8 * m + stA act mw (mem k) by omega]
      exact hP3.2.2.1 _ (by omega)
    have fin : ∀ s0 s1 : Int, s0 + s1 = prA co mc act mw (mem k) → Ev L (d + 4) 175 121 [some (.inr (.inr 120)), some (.inl (m : Int)), some (.inl (r : Int)), some (.inl (k : Int)), some (.inr (.inl (xC (qA G act mw) n k))), none, some (.inl (mem k : Int)), some (.inl (act (mem k))), none] [.inl s1, .inl s0] W3 b3 Q := fun s0 s1 hs => by
      refine Ev.blk 19 (B175_121 _ _ _ _ _ _ _ _ _ _ _ (by rw [hs]; exact ⟨by omega, by omega⟩)) rfl ?_
      rw [hs]
      refine Ev.kill [false, false, false, false, true, false, true, true, true] ?_
      dsimp only [mkl]
      refine lc_lp (L := L) (d := d) hm3 hr hP hR hA hm hQ g (k + 1) _ (by omega) (fun y j h1 h2 => ?_) ?_ (fun i hi => ?_) ?_ ?_
      · rw [uV_cell, if_neg (by omega), uV_cell, if_neg (by omega), r3 y (by omega)]
        exact w1 y j h1 h2
      · rw [uV_cell, if_neg (by omega), uV_cell, if_neg (by omega), r3 120 (by omega)]
        exact w2
      · rw [uV_ne (by omega), uV_ne (by omega), r3 138 (by omega)]
        exact w3 i hi
      · rw [uV_cell, if_neg (by omega), uV_cell, if_pos ⟨rfl, rfl⟩, r3 120 (by omega), w4, hmem]
        rfl
      · rw [uV_cell, if_pos ⟨rfl, rfl⟩, uV_cell, if_neg (by omega), r3 120 (by omega), w5]
        rfl
    refine Ev.blk 24 (B175_57 _ _ _ _ _ _ _ ⟨by omega, by omega⟩ (by rw [f138]; have := mlt k (by omega); exact ⟨by omega, by omega⟩)) rfl ?_
    rw [f138, f135]
    refine Ev.call rfl rfl rfl (x_runsAt (d := d) hm3 hr hP3 hR (fun a ha => by rw [r3 135 (by omega), e135]; exact hA a ha) (a := mem k) (mlt k (by omega)) (hm _ (mlt k (by omega)))) (by omega) ?_
    rintro v V' b' ⟨rfl, h_, g_⟩
    subst V' b'
    refine Ev.blk 4 (B175_97 _ _ _ _ _ _ _ _ _ _ _ _ _ rfl ⟨by omega, by omega⟩ ⟨by omega, by omega⟩) rfl ?_
    rw [f124]
    refine Ev.ite (fun z => ?_) (fun z => ?_)
    · replace z := nd_t z
      obtain ⟨j, hj⟩ : ∃ j : Nat, act (mem k) - 1 = (j : Int) := ⟨(act (mem k) - 1).toNat, by omega⟩
      have e : W3 127 (4 * (m : Int) + act (mem k) - 1).toNat = mc j := by
        rw [show (4 * (m : Int) + act (mem k) - 1).toNat = 4 * m + j by omega]
        exact hP3.2.2.2.2 j (by omega)
      refine Ev.blk 10 (B175_108 _ _ _ _ _ _ _ _ _ _ ⟨by omega, by omega⟩) rfl ?_
      rw [e]
      refine fin _ _ ?_
      unfold prA
      rw [if_neg z, hj, Int.toNat_natCast]
    · replace z := nd_f z
      refine Ev.blk 2 (B175_104 _ _ _ _ _ _ _ _ _ _) rfl ?_
      refine fin _ _ ?_
      unfold prA
      rw [if_pos z]
theorem x_layCost {L d : Nat} {V : Mv} {b : Bool} {m n r : Nat} {G : Nat → Nat → Int} {co mw mc act : Nat → Int} (hm3 : m < 3) (hr : r < 5) (hP : PR V m n G co mw mc) (hR : RB n G co mw mc act) (hA : ∀ a, a < 8 → V 135 (8 * r + a) = act a) : Ex L (d + 4) 175 [.inr (.inr 120), .inl (m : Int), .inl (r : Int)] V b (fun v W b' => b' = b ∧ lcF V W ∧ ((rOk n G mw act ∧ v = some (.inl 1) ∧ W 120 24 = (rN n G co mw mc act : Int) ∧ W 120 25 = (rE n G co mw mc act : Int)) ∨ (¬ rOk n G mw act ∧ v = some (.inl 0)))) := by
  refine Ev.blk 3 (B175_0 _ _ _ _ _) rfl ?_
  refine Ev.call rfl rfl rfl (x_hasMs (d := d) hm3 hr hP hR hA) (by omega) ?_
  rintro v V' b' ⟨rfl, h_, g_⟩
  subst V' b'
  cases hh : hmB act mw n with
  | false =>
    refine Ev.blk 1 (B175_6 _ _ _ _ _ _ (by decide)) rfl ?_
    refine Ev.ite (fun _ => ?_) (fun z => absurd z (by decide))
    refine Ev.blk 1 (B175_18 _ _ _ _ _) rfl ?_
    refine Ev.ret rfl rfl rfl rfl ⟨rfl, fun _ _ _ _ => rfl, Or.inr ⟨fun z => ?_, rfl⟩⟩
    rw [(hmB_t n).mpr z.1] at hh
    cases hh
  | true =>
    have hm := (hmB_t n).mp hh
    refine Ev.blk 1 (B175_6 _ _ _ _ _ _ (by decide)) rfl ?_
    refine Ev.ite (fun z => absurd z (by decide)) (fun _ => ?_)
    refine Ev.blk 3 (B175_9 _ _ _ _ _) rfl ?_
    refine Ev.call rfl rfl rfl (x_layAgain (d := d) hm3 hr hP hR hA hm) (by omega) ?_
    rintro v W b1 ⟨rfl, w1, w2⟩
    have f1 : lcF V W := fun y k h1 h2 => w1 y k (by omega) (by omega)
    rcases w2 with ⟨hk, rfl, w3, w4⟩ | ⟨hk, rfl⟩
    · refine Ev.blk 1 (B175_15 _ _ _ _ _ _ (by decide)) rfl ?_
      refine Ev.ite (fun _ => ?_) (fun z => absurd z (by decide))
      refine Ev.blk 8 (B175_20 _ _ _ _ _) rfl ?_
      have ud := hR.ud hm hk
      refine lc_lp (V := V) hm3 hr hP hR hA hm (fun W2 v1 v2 v3 => ?_) (kC (qA G act mw) n) 0 _ (by omega) (fun y k h1 h2 => by rw [uV_cell, if_neg (by omega), uV_cell, if_neg (by omega)]; exact f1 y k h1 h2) (by rw [uV_cell, if_neg (by omega), uV_cell, if_neg (by omega)]; exact w3) (fun i hi => by rw [uV_ne (by omega), uV_ne (by omega)]; exact w4 i hi) (by rw [uV_cell, if_neg (by omega), uV_cell, if_pos ⟨rfl, rfl⟩]; rfl) (by rw [uV_cell, if_pos ⟨rfl, rfl⟩]; rfl)
      rw [ud.1] at v2
      rw [ud.2.1] at v3
      have hg := gcd_p (x := rU n G co mw mc act) ud.2.2.2.1
      have hl := gcd_lt (x := rU n G co mw mc act) ud.2.2.2.1 (by omega)
      refine Ev.blk 4 (B175_156 _ _ _ _ _ _) rfl ?_
      rw [v2, v3]
      refine Ev.call rfl rfl rfl (x_gcdR (d := d) (x := rU n G co mw mc act) (y := rD n G mw act) (by omega) (by omega)) (by omega) ?_
      rintro v V' b' ⟨rfl, h_, g_⟩
      subst V' b'
      refine Ev.blk 14 (B175_167 _ _ _ _ _ _ _ (by rw [v2]; exact ⟨by omega, by omega⟩) ⟨by omega, by omega⟩ (by omega) (by rw [uV_cell, if_neg (by omega), v3]; exact ⟨by omega, by omega⟩) (by omega)) rfl ?_
      refine Ev.ret rfl rfl rfl rfl ⟨rfl, fun y k h1 h2 => ?_, Or.inl ⟨⟨hm, hk⟩, rfl, ?_, ?_⟩⟩
      · rw [uV_cell, if_neg (by omega), uV_cell, if_neg (by omega)]
        exact v1 y k h1 h2
      · rw [uV_cell, if_neg (by omega), uV_cell, if_pos ⟨rfl, rfl⟩, v2]
        rfl
      · rw [uV_cell, if_pos ⟨rfl, rfl⟩, uV_cell, if_neg (by omega), v3]
        rfl
    · refine Ev.blk 1 (B175_15 _ _ _ _ _ _ (by decide)) rfl ?_
      refine Ev.ite (fun z => absurd z (by decide)) (fun _ => ?_)
      refine Ev.blk 1 (B175_18 _ _ _ _ _) rfl ?_
      exact Ev.ret rfl rfl rfl rfl ⟨rfl, f1, Or.inr ⟨fun z => hk z.2, rfl⟩⟩
