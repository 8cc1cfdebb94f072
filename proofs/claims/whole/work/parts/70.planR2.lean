/-! some days ahead, the reference, 2; the 38 calls: plan, planAct (specs28.py) -/
theorem lpA_lp {L d : Nat} {V : Mv} {b : Bool} {Q : Option AV → Mv → Bool → Prop} {wr dd p : Nat} {f s u mo fall : Int} {m wn : Nat} {G : Nat → Nat → Int} {co mw mc : Nat → Int} {lt rn : Nat → Int} (hm : m < 3) (hP : PR V m wn G co mw mc) (hB : PB wn G co mw mc) (hwr : wr < wn) (hl : ∀ j, j < wn → V 140 j = lt j) (hu : u = s * 10) (hrn : ∀ j, j < wn → rnV G co lt wn u j = 10 * rn j) (hrb : ∀ j, j < wn → 0 ≤ rn j ∧ rn j ≤ 3000000000000000) (hs : 0 ≤ s ∧ s ≤ 100000000) (hp : 1 ≤ p ∧ p ≤ 8) (hmo : 0 ≤ mo ∧ mo ≤ 7) (hfa : (Int.tmod mo (p : Int) = 0 ∧ fall = mo * f ∧ 0 ≤ fall ∧ fall ≤ 100) ∨ (¬ Int.tmod mo (p : Int) = 0 ∧ fall = -9)) (hQ : ∀ W, ((∀ x, x ≠ 120 → x ≠ 141 → W x = V x) ∧ (∀ j, j ≠ 31 → W 120 j = V 120 j) ∧ (∀ j, j < wn → W 141 j = 10 * (chW mw mc rn fall s j).1) ∧ (wr < wn → W 120 31 = (chW mw mc rn fall s wr).2)) → Ev L (d + 3) 197 259 [some (.inr (.inr 120)), some (.inl (m : Int)), some (.inl (wr : Int)), some (.inl (dd : Int)), some (.inl (p : Int)), some (.inl f), some (.inr (.inl u)), none, some (.inl mo), some (.inl (wn : Int)), none, none, none, none] [] W b Q) : ∀ (n k : Nat) (W : Mv), k + n = wn → ((∀ x, x ≠ 120 → x ≠ 141 → W x = V x) ∧ (∀ j, j ≠ 31 → W 120 j = V 120 j) ∧ (∀ j, j < k → W 141 j = 10 * (chW mw mc rn fall s j).1) ∧ (wr < k → W 120 31 = (chW mw mc rn fall s wr).2)) → Ev L (d + 3) 197 48 [some (.inr (.inr 120)), some (.inl (m : Int)), some (.inl (wr : Int)), some (.inl (dd : Int)), some (.inl (p : Int)), some (.inl f), some (.inr (.inl u)), none, some (.inl mo), some (.inl (k : Int)), none, none, none, none] [] W b Q
  | 0, k, W, h, hr => by
    obtain rfl : k = wn := by omega
    have h8 := hB.2.1
    have hw : W 121 m = (k : Int) := by rw [hr.1 _ (by omega) (by omega)]; exact hP.1
    refine Ev.blk 6 (B197_48 _ _ _ _ _ _ _ _ _ _ _ (by omega) ⟨by omega, by omega⟩ (by rw [Int.toNat_natCast, hw]; exact ⟨by omega, by omega⟩)) rfl ?_
    rw [Int.toNat_natCast, hw]
    refine Ev.ite (fun _ => ?_) (fun z => absurd (of_decide_eq_false z) (by omega))
    exact hQ W hr
  | n + 1, k, W, h, hr => by
    have ih := lpA_lp (L := L) (d := d) (dd := dd) (f := f) hm hP hB hwr hl hu hrn hrb hs hp hmo hfa hQ n (k + 1)
    have h8 := hB.2.1
    have hP2 : PR W m wn G co mw mc := hP.frame (fun x h1 h2 => hr.1 x (by omega) (by omega))
    have hw := hP2.1
    have fin253 : ∀ (x10 : Int) (Z : Mv), (∀ x, x ≠ 120 → x ≠ 141 → Z x = W x) → (∀ j, j ≠ 31 → Z 120 j = W 120 j) → (∀ j, j ≠ k → Z 141 j = W 141 j) → Z 141 k = 10 * (chW mw mc rn fall s k).1 → Z 120 31 = (if k = wr then (chW mw mc rn fall s k).2 else W 120 31) → Ev L (d + 3) 197 253 [some (.inr (.inr 120)), some (.inl (m : Int)), some (.inl (wr : Int)), some (.inl (dd : Int)), some (.inl (p : Int)), some (.inl f), some (.inr (.inl u)), none, some (.inl mo), some (.inl (k : Int)), some (.inl x10), none, none, none] [] Z b Q := by
      intro x10 Z z1 z2 z3 z4 z5
      refine Ev.blk 2 (B197_253 _ _ _ _ _ _ _ _ _ _ _ _) rfl ?_
      refine Ev.kill [false, false, false, false, false, false, false, false, false, false, true] ?_
      dsimp only [mkl]
      refine ih _ (by omega) ⟨fun x n1 n2 => by rw [z1 x n1 n2, hr.1 x n1 n2], fun j hj => by rw [z2 j hj, hr.2.1 j hj], fun j hj => ?_, fun hj => ?_⟩
      · by_cases e : j = k
        · rw [e, z4]
        · rw [z3 j e, hr.2.2.1 j (by omega)]
      · by_cases e : k = wr
        · rw [z5, if_pos e, e]
        · rw [z5, if_neg e]
          exact hr.2.2.2 (by omega)
    have at90 : ∀ s1 : Int, s1 = (if k = wr then 0 else W 120 31) → Ev L (d + 3) 197 90 [some (.inr (.inr 120)), some (.inl (m : Int)), some (.inl (wr : Int)), some (.inl (dd : Int)), some (.inl (p : Int)), some (.inl f), some (.inr (.inl u)), none, some (.inl mo), some (.inl (k : Int)), none, none, none, none] [.inl s1, .inr (.inr 120)] (uV W 141 k (10 * rn k)) b Q := by
      intro s1 hs1
      refine Ev.blk 3 (B197_90 _ _ _ _ _ _ _ _ _ _ _ _) rfl ?_
      obtain ⟨Y, hY⟩ : ∃ Y, Y = uV (uV W 141 k (10 * rn k)) 120 31 s1 := ⟨_, rfl⟩
      rw [← hY]
      have y1 : ∀ x, x ≠ 120 → x ≠ 141 → Y x = W x := fun x n1 n2 => by rw [hY, uV_ne n1, uV_ne n2]
      have y2 : ∀ j, j ≠ 31 → Y 120 j = W 120 j := fun j hj => by rw [hY, uV_at, if_neg hj, uV_ne (by omega)]
      have y3 : ∀ j, j ≠ k → Y 141 j = W 141 j := fun j hj => by rw [hY, uV_ne (by omega), uV_at, if_neg hj]
      have y4 : Y 141 k = 10 * rn k := by rw [hY, uV_ne (by omega), uV_at, if_pos rfl]
      have y5 : Y 120 31 = s1 := by rw [hY, uV_at, if_pos rfl]
      have hP3 : PR Y m wn G co mw mc := hP2.frame (fun x h1 h2 => y1 x (by omega) (by omega))
      rcases hfa with ⟨ha1, ha2, ha3⟩ | ⟨ha1, ha2⟩
      · subst ha2
        refine lpI_lp (V := Y) (a := k) (lt := lt) (rn := rn) hm hP3 hB (by omega) hwr (fun j hj => by rw [y1 140 (by omega) (by omega), hr.1 140 (by omega) (by omega)]; exact hl j hj) hu hrn hrb hs hp hmo ha1 ha3 (fun Z hz => ?_) 4 0 Y rfl ⟨fun _ _ _ => rfl, fun _ _ => rfl, fun _ _ => rfl, y4, ?_⟩
        · have e : chW mw mc rn (mo * f) s k = chV mw mc rn (mo * f) s k 4 := if_neg (by omega)
          refine fin253 _ Z (fun x n1 n2 => by rw [hz.1 x n1 n2, y1 x n1 n2]) (fun j hj => by rw [hz.2.1 j hj, y2 j hj]) (fun j hj => by rw [hz.2.2.1 j hj, y3 j hj]) (by rw [hz.2.2.2.1, e]) ?_
          rw [hz.2.2.2.2, e]
          by_cases w : k = wr
          · rw [if_pos w, if_pos w]
          · rw [if_neg w, if_neg w, y5, hs1, if_neg w]
        · rw [y5, hs1]
          by_cases w : k = wr
          · rw [if_pos w, if_pos w]
            rfl
          · rw [if_neg w, if_neg w]
      · have e : chW mw mc rn fall s k = (rn k, 0) := if_pos ha2
        have hq := ha1
        refine Ev.blk 3 (B197_96 _ _ _ _ _ _ _ _ _ _ _ _ (by decide)) rfl ?_
        refine Ev.ite (fun h => absurd h (by decide)) (fun _ => ?_)
        refine Ev.blk 4 (B197_102 _ _ _ _ _ _ _ _ _ _ _ _ ⟨by omega, by omega⟩ ⟨by omega, by omega⟩ (by omega) (by rw [Int.tmod_eq_emod_of_nonneg (by omega)]; have h1 := Int.emod_nonneg mo (show (p : Int) ≠ 0 by omega); have h2 := Int.emod_lt_of_pos mo (show 0 < (p : Int) by omega); exact ⟨by omega, by omega⟩)) rfl ?_
        refine Ev.ite (fun _ => ?_) (fun z => absurd (nd_f z) hq)
        exact fin253 _ Y y1 y2 y3 (by rw [y4, e]) (by rw [y5, hs1, e])
    refine Ev.blk 6 (B197_48 _ _ _ _ _ _ _ _ _ _ _ (by omega) ⟨by omega, by omega⟩ (by rw [Int.toNat_natCast, hw]; exact ⟨by omega, by omega⟩)) rfl ?_
    rw [Int.toNat_natCast, hw]
    refine Ev.ite (fun z => absurd (of_decide_eq_true z) (by omega)) (fun _ => ?_)
    refine Ev.blk 7 (B197_59 _ _ _ _ _ _ _ _ _ _ _) rfl ?_
    have hcall := x_dayFrom (L := L) (d := d) (b := b) (a := k) (s := u) (lt := lt) hm hP2 hB (by omega) (fun j hj => by rw [hr.1 140 (by omega) (by omega)]; exact hl j hj)
    rw [hrn k (by omega)] at hcall
    refine Ev.call rfl rfl rfl hcall (by omega) ?_
    rintro v V' b' ⟨rfl, h_, g_⟩
    subst V' b'
    refine Ev.blk 5 (J197_74 _ _ _ _ _ _ _ _ _ _ _ _ _ _ _ (show TT L 141 = (2, 8) from rfl) ⟨by omega, by omega⟩ (by decide) ⟨by omega, by omega⟩ ⟨by omega, by omega⟩) rfl ?_
    rw [Int.toNat_natCast]
    refine Ev.ite (fun w => ?_) (fun w => ?_)
    · replace w := nd_t w
      refine Ev.blk 2 (B197_86 _ _ _ _ _ _ _ _ _ _ _) rfl ?_
      exact at90 _ (by rw [if_neg (by omega), uV_ne (by omega)])
    · replace w := nd_f w
      refine Ev.blk 2 (B197_82 _ _ _ _ _ _ _ _ _ _ _) rfl ?_
      exact at90 _ (by rw [if_pos (by omega)])
theorem lpC_lp {L d : Nat} {V : Mv} {b : Bool} {Q : Option AV → Mv → Bool → Prop} {m wr dd p : Nat} {f u mo : Int} (hQ : Ev L d 197 289 [some (.inr (.inr 120)), some (.inl (m : Int)), some (.inl (wr : Int)), some (.inl (dd : Int)), some (.inl (p : Int)), some (.inl f), some (.inr (.inl u)), none, some (.inl mo), some (.inl (8 : Int)), none, none, none, none] [] (fil V 140 0 (V 141) 8) b Q) : ∀ n k : Nat, k + n = 8 → Ev L (d) 197 262 [some (.inr (.inr 120)), some (.inl (m : Int)), some (.inl (wr : Int)), some (.inl (dd : Int)), some (.inl (p : Int)), some (.inl f), some (.inr (.inl u)), none, some (.inl mo), some (.inl (k : Int)), none, none, none, none] [] (fil V 140 0 (V 141) k) b Q
  | 0, k, h => by
    obtain rfl : k = 8 := by omega
    refine Ev.blk 3 (B197_262 _ _ _ _ _ _ _ _ _ _ _ (by first | assumption | omega | decide | exact cmpI_in _ _ | exact ⟨by omega, by omega⟩)) rfl ?_
    refine Ev.ite (fun q => ?_) (fun q => ?_)
    · replace q := of_decide_eq_true q
      exact hQ
    · replace q := of_decide_eq_false q
      exact absurd q (by omega)
  | n + 1, k, h => by
    have ih := lpC_lp (L := L) (d := d) (m := m) (wr := wr) (dd := dd) (p := p) (f := f) (u := u) (mo := mo) hQ n (k + 1) (by omega)
    refine Ev.blk 3 (B197_262 _ _ _ _ _ _ _ _ _ _ _ (by first | assumption | omega | decide | exact cmpI_in _ _ | exact ⟨by omega, by omega⟩)) rfl ?_
    refine Ev.ite (fun q => ?_) (fun q => ?_)
    · replace q := of_decide_eq_true q
      exact absurd q (by omega)
    · replace q := of_decide_eq_false q
      refine Ev.blk 10 (B197_269 _ _ _ _ _ _ _ _ _ _ _ (by first | assumption | omega | decide | exact cmpI_in _ _ | exact ⟨by omega, by omega⟩)) rfl ?_
      exact Ev.mem (fil_st (by omega) (by rw [fil_ne (by omega), Int.toNat_natCast])) ih

theorem lpZ_lp {L d : Nat} {V : Mv} {b : Bool} {Q : Option AV → Mv → Bool → Prop} {m wr dd p : Nat} {f : Int} (hQ : Ev L d 197 24 [some (.inr (.inr 120)), some (.inl (m : Int)), some (.inl (wr : Int)), some (.inl (dd : Int)), some (.inl (p : Int)), some (.inl f), some (.inl 8), none, none, none, none, none, none, none] [] (fil V 140 0 (fun _ => 0) 8) b Q) : ∀ n k : Nat, k + n = 8 → Ev L (d) 197 3 [some (.inr (.inr 120)), some (.inl (m : Int)), some (.inl (wr : Int)), some (.inl (dd : Int)), some (.inl (p : Int)), some (.inl f), some (.inl (k : Int)), none, none, none, none, none, none, none] [] (fil V 140 0 (fun _ => 0) k) b Q
  | 0, k, h => by
    obtain rfl : k = 8 := by omega
    refine Ev.blk 3 (B197_3 _ _ _ _ _ _ _ _ _ (by first | assumption | omega | decide | exact cmpI_in _ _ | exact ⟨by omega, by omega⟩)) rfl ?_
    refine Ev.ite (fun q => ?_) (fun q => ?_)
    · replace q := of_decide_eq_true q
      exact hQ
    · replace q := of_decide_eq_false q
      exact absurd q (by omega)
  | n + 1, k, h => by
    have ih := lpZ_lp (L := L) (d := d) (m := m) (wr := wr) (dd := dd) (p := p) (f := f) hQ n (k + 1) (by omega)
    refine Ev.blk 3 (B197_3 _ _ _ _ _ _ _ _ _ (by first | assumption | omega | decide | exact cmpI_in _ _ | exact ⟨by omega, by omega⟩)) rfl ?_
    refine Ev.ite (fun q => ?_) (fun q => ?_)
    · replace q := of_decide_eq_true q
      exact absurd q (by omega)
    · replace q := of_decide_eq_false q
      refine Ev.blk 7 (B197_10 _ _ _ _ _ _ _ _ _ (by first | assumption | omega | decide | exact cmpI_in _ _ | exact ⟨by omega, by omega⟩)) rfl ?_
      exact Ev.mem (fil_st (by omega) rfl) ih

theorem lpM_lp {L d : Nat} {V : Mv} {b : Bool} {Q : Option AV → Mv → Bool → Prop} {wr dd p : Nat} {f : Int} {m wn : Nat} {G : Nat → Nat → Int} {co mw mc : Nat → Int} (hm : m < 3) (hP : PR V m wn G co mw mc) (hB : PB wn G co mw mc) (hwr : wr < wn) (hd : 1 ≤ dd ∧ dd ≤ 8) (hp : 1 ≤ p ∧ p ≤ 8) (hf : 0 ≤ f ∧ f ≤ 9) (hQ : ∀ W, ((∀ x, x ≠ 120 → x ≠ 140 → x ≠ 141 → W x = V x) ∧ (∀ j, j ≠ 31 → W 120 j = V 120 j) ∧ (∀ j, j < wn → W 140 j = 10 * plA G co mw mc wn dd p f dd j) ∧ (0 < dd → W 120 31 = plC G co mw mc wn dd p f (dd - 1) wr)) → Q (some (.inr (.inl (10 * plA G co mw mc wn dd p f dd wr)))) W b) : ∀ (n k : Nat) (W : Mv), k + n = dd → ((∀ x, x ≠ 120 → x ≠ 140 → x ≠ 141 → W x = V x) ∧ (∀ j, j ≠ 31 → W 120 j = V 120 j) ∧ (∀ j, j < wn → W 140 j = 10 * plA G co mw mc wn dd p f k j) ∧ (0 < k → W 120 31 = plC G co mw mc wn dd p f (k - 1) wr)) → Ev L (d + 3) 197 32 [some (.inr (.inr 120)), some (.inl (m : Int)), some (.inl (wr : Int)), some (.inl (dd : Int)), some (.inl (p : Int)), some (.inl f), some (.inr (.inl (pw 10 k))), none, some (.inl ((dd : Int) - 1 - (k : Int))), none, none, none, none, none] [] W b Q
  | 0, k, W, h, hr => by
    obtain rfl : k = dd := by omega
    have h8 := hB.2.1
    refine Ev.blk 2 (B197_32 _ _ _ _ _ _ _ _ _ _ ⟨by omega, by omega⟩) rfl ?_
    refine Ev.ite (fun _ => ?_) (fun z => absurd (of_decide_eq_false z) (by omega))
    refine Ev.blk 4 (B197_295 _ _ _ _ _ _ _ _ _ _ (by omega)) rfl ?_
    rw [Int.toNat_natCast, hr.2.2.1 wr hwr]
    exact Ev.ret rfl rfl rfl rfl (hQ W hr)
  | n + 1, k, W, h, hr => by
    have ih := lpM_lp (L := L) (d := d) hm hP hB hwr hd hp hf hQ n (k + 1)
    have h8 := hB.2.1
    have hP2 : PR W m wn G co mw mc := hP.frame (fun x h1 h2 => hr.1 x (by omega) (by omega) (by omega))
    have hpw := pw10 (t := k) (by omega)
    have hlb := plA_bd (G := G) (co := co) (mw := mw) (mc := mc) (n := wn) (f := f) (d := dd) (p := p) hB.2.2.1 hB.2.2.2.1 (fun j hj => by have := hB.2.2.2.2.1 j hj; omega) hB.2.2.2.2.2 h8 hf.1 k (by omega)
    have hrb : ∀ j, j < wn → 0 ≤ rnV G co (plA G co mw mc wn dd p f k) wn (pw 10 k) j ∧ rnV G co (plA G co mw mc wn dd p f k) wn (pw 10 k) j ≤ 3000000000000000 := fun j hj => by
      have h1 := rnV_bd hB.2.2.1 hB.2.2.2.1 h8 hlb (by omega) hj
      have h2 := Bd8 (t := k + 1) (by omega)
      omega
    have hrn : ∀ j, j < wn → rnV G co (fun i => 10 * plA G co mw mc wn dd p f k i) wn (pw 10 k * 10) j = 10 * rnV G co (plA G co mw mc wn dd p f k) wn (pw 10 k) j := fun j hj => dyV_10 (wn - j) (fun i hi => rfl)
    have hfal := fal_in (t := k) hp hd.2 (by omega) hf
    refine Ev.blk 2 (B197_32 _ _ _ _ _ _ _ _ _ _ ⟨by omega, by omega⟩) rfl ?_
    refine Ev.ite (fun z => absurd (of_decide_eq_true z) (by omega)) (fun _ => ?_)
    refine Ev.blk 6 (B197_37 _ _ _ _ _ _ _ _ _ _) rfl ?_
    refine lpA_lp (d := d) (V := W) (s := pw 10 k) (fall := fal dd p f k) (lt := fun i => 10 * plA G co mw mc wn dd p f k i) (rn := rnV G co (plA G co mw mc wn dd p f k) wn (pw 10 k)) hm hP2 hB hwr hr.2.2.1 rfl hrn hrb ⟨by omega, hpw.2⟩ hp (by omega) hfal (fun Y hy => ?_) wn 0 W (by omega) ⟨fun _ _ _ => rfl, fun _ _ => rfl, fun j hj => absurd hj (by omega), fun hj => absurd hj (by omega)⟩
    refine Ev.blk 2 (B197_259 _ _ _ _ _ _ _ _ _ _ _) rfl ?_
    refine Ev.mem (fil_0 Y 140 0 (Y 141)).symm (lpC_lp ?_ 8 0 rfl)
    refine Ev.blk 2 (B197_289 _ _ _ _ _ _ _ _ _ _ _) rfl ?_
    refine Ev.kill [false, false, false, false, false, false, false, false, false, true] ?_
    dsimp only [mkl]
    refine Ev.val (ls' := [some (.inr (.inr 120)), some (.inl (m : Int)), some (.inl (wr : Int)), some (.inl (dd : Int)), some (.inl (p : Int)), some (.inl f), some (.inr (.inl (pw 10 (k + 1)))), none, some (.inl ((dd : Int) - 1 - ((k + 1 : Nat) : Int))), none, none, none, none, none]) ?_ rfl (ih _ (by omega) ⟨fun x n1 n2 n3 => ?_, fun j hj => ?_, fun j hj => ?_, fun _ => ?_⟩)
    · rw [show (dd : Int) - 1 - (k : Int) + -1 = (dd : Int) - 1 - ((k + 1 : Nat) : Int) by omega]
      rfl
    · rw [fil_ne n2, hy.1 x n1 n3, hr.1 x n1 n2 n3]
    · rw [fil_ne (by omega), hy.2.1 j hj, hr.2.1 j hj]
    · rw [fil_z (by omega), hy.2.2.1 j hj]
      rfl
    · rw [fil_ne (by omega), hy.2.2.2 hwr]
      rfl
theorem x_layPlan {L d : Nat} {V : Mv} {b : Bool} {wr dd p : Nat} {f : Int} {m wn : Nat} {G : Nat → Nat → Int} {co mw mc : Nat → Int} (hm : m < 3) (hP : PR V m wn G co mw mc) (hB : PB wn G co mw mc) (hwr : wr < wn) (hd : 1 ≤ dd ∧ dd ≤ 8) (hp : 1 ≤ p ∧ p ≤ 8) (hf : 0 ≤ f ∧ f ≤ 9) : Ex L (d + 3) 197 [.inr (.inr 120), .inl (m : Int), .inl (wr : Int), .inl (dd : Int), .inl (p : Int), .inl f] V b (fun v V' b' => v = some (.inr (.inl (10 * plA G co mw mc wn dd p f dd wr))) ∧ b' = b ∧ (∀ x, x ≠ 120 → x ≠ 140 → x ≠ 141 → V' x = V x) ∧ (∀ j, j ≠ 31 → V' 120 j = V 120 j) ∧ V' 120 31 = plC G co mw mc wn dd p f (dd - 1) wr) := by
  refine Ev.blk 2 (B197_0 _ _ _ _ _ _ _ _) rfl ?_
  refine Ev.mem (fil_0 V 140 0 (fun _ => 0)).symm (lpZ_lp ?_ 8 0 rfl)
  refine Ev.blk 6 (B197_24 _ _ _ _ _ _ _ _ _) rfl ?_
  have h := lpM_lp (L := L) (d := d) (V := fil V 140 0 (fun _ => 0) 8) (b := b) (Q := fun v V' b' => v = some (.inr (.inl (10 * plA G co mw mc wn dd p f dd wr))) ∧ b' = b ∧ (∀ x, x ≠ 120 → x ≠ 140 → x ≠ 141 → V' x = V x) ∧ (∀ j, j ≠ 31 → V' 120 j = V 120 j) ∧ V' 120 31 = plC G co mw mc wn dd p f (dd - 1) wr) hm (hP.frame (fun x h1 h2 => fil_ne (by omega))) hB hwr hd hp hf (fun W hr => ⟨rfl, rfl, fun x n1 n2 n3 => by rw [hr.1 x n1 n2 n3, fil_ne n2], fun j hj => by rw [hr.2.1 j hj, fil_ne (by omega)], hr.2.2.2 (by omega)⟩) dd 0 _ (by omega) ⟨fun _ _ _ _ => rfl, fun _ _ => rfl, fun j hj => by rw [fil_z (by have := hB.2.1; omega)]; rfl, fun h => absurd h (by omega)⟩
  rw [show (dd : Int) - 1 - ((0 : Nat) : Int) = (dd : Int) - 1 from Int.sub_zero _] at h
  exact h
