/-! the reference reads the parts of the text (specs51.py) -/
def BDC (y k : Nat) : Prop := (y = 120 ∧ (k = 7 ∨ k = 8 ∨ k = 11 ∨ k = 12)) ∨ (y = 121 ∧ k = 3) ∨ (y = 122 ∧ k = 3) ∨ (y = 123 ∧ 192 ≤ k) ∨ (y = 124 ∧ 24 ≤ k) ∨ (y = 125 ∧ 24 ≤ k) ∨ (y = 126 ∧ 12 ≤ k) ∨ (y = 127 ∧ 12 ≤ k)
def FRM (V W : Mv) : Prop := ∀ y k, ¬ BDC y k → W y k = V y k
theorem FRM.up {V W : Mv} (h : FRM V W) {a k : Nat} (z : Int) (hb : BDC a k) : FRM V (uV W a k z) := fun y i hy => by
  by_cases q : y = a
  · subst q
    rw [uV_at, if_neg (fun (e : i = k) => hy (by rw [e]; exact hb))]
    exact h y i hy
  · rw [uV_ne q]
    exact h y i hy
def RXX (W : Mv) (T : Nat → Int) (n j : Nat) : Prop := W 120 10 = (n : Int) ∧ (∀ i, i < 64 → W 128 i = T i) ∧ W 120 11 = (j : Int) ∧ W 120 12 = -9
theorem RXX.to {W : Mv} {T : Nat → Int} {n j : Nat} (h : RXX W T n j) (k : Nat) : RXX (uV W 120 11 (k : Int)) T n k := ⟨h.1, h.2.1, rfl, h.2.2.2⟩
def EQ7 (W P : Mv) : Prop := ∀ x, 121 ≤ x → x ≤ 127 → W x = P x
theorem EQ7.up {W P : Mv} (h : EQ7 W P) {a k : Nat} {z : Int} : EQ7 (uV W a k z) (uV P a k z) := fun x h1 h2 => by
  funext i
  unfold uV
  rw [h x h1 h2]
theorem EQ7.l {W P : Mv} (h : EQ7 W P) {k : Nat} {z : Int} : EQ7 (uV W 120 k z) P := fun x h1 h2 => by
  rw [uV_ne (by omega)]
  exact h x h1 h2
theorem EQ7.r {W P : Mv} (h : EQ7 W P) {k : Nat} {z : Int} : EQ7 W (uV P 120 k z) := fun x h1 h2 => by
  rw [uV_ne (by omega)]
  exact h x h1 h2
theorem EQ7.rl {W P : Mv} (h : EQ7 W P) (a : Int) : rLv W 3 a = rLv P 3 a := by
  unfold rLv
  rw [h 123 (by omega) (by omega)]
theorem EQ7.oF {W P : Mv} (h : EQ7 W P) : oFP W = oFP P := by
  funext a
  unfold oFP
  rw [h.rl, h 123 (by omega) (by omega), h 121 (by omega) (by omega)]
theorem EQ7.oW {W P : Mv} (h : EQ7 W P) : oWP W = oWP P := by
  unfold oWP
  rw [h.oF, h 121 (by omega) (by omega)]
theorem EQ7.oM {W P : Mv} (h : EQ7 W P) : oMP W = oMP P := by
  unfold oMP
  rw [h 126 (by omega) (by omega)]
theorem EQ7.kd {W P V0 : Mv} (h : EQ7 W P) (k : Kd (cmb V0 P) 4 3) : Kd (cmb V0 W) 4 3 := k.frame (fun j hj => by unfold cmb; rw [if_pos (by omega), if_pos (by omega)]) (fun a h1 h2 => by unfold cmb; rw [if_neg (by omega), if_neg (by omega)]; exact h a h1 h2)
def RP (W : Mv) (T : Nat → Int) (n : Nat) (P : Mv) (j : Nat) : Prop := RXX W T n j ∧ EQ7 W P ∧ W 120 7 = P 120 7 ∧ W 120 8 = P 120 8 ∧ KP P
def RQ (V : Mv) (b : Bool) (T : Nat → Int) (n : Nat) (P : Mv) (j : Nat) : Option AV → Mv → Bool → Prop := fun r V' b' => r = none ∧ b' = b ∧ FRM V V' ∧ RES (stp T n P j) (fun f => V' 120 12 = (f : Int)) (fun p => RP V' T n p.2 p.1)
theorem uV_self {W : Mv} {a k : Nat} {z : Int} (h : W a k = z) : uV W a k z = W := by
  funext y i
  by_cases q : y = a
  · subst q
    rw [uV_at]
    split
    · rename_i e
      rw [e, h]
    · rfl
  · rw [uV_ne q]
theorem x_fail {L d : Nat} {W : Mv} {b : Bool} (h : W 120 12 = -9) : Ex L d 138 [.inr (.inr 120)] W b (Ans none (uV W 120 12 (W 120 11)) b) := by
  refine Ev.blk 5 (B138_0 _ _ _ (by rw [h]; decide)) rfl ?_
  refine Ev.ite (fun z => absurd h (nd_t z)) (fun _ => ?_)
  refine Ev.blk 3 (B138_10 _ _ _) rfl ?_
  refine Ev.blk 1 (B138_21 _ _ _ _) rfl ?_
  exact Ev.ret rfl rfl rfl rfl ⟨rfl, rfl, rfl⟩
theorem x_failF {L d : Nat} {W : Mv} {b : Bool} (h : W 120 12 ≠ -9) (hi : in32 (W 120 12)) : Ex L d 138 [.inr (.inr 120)] W b (Ans none W b) := by
  refine Ev.blk 5 (B138_0 _ _ _ hi) rfl ?_
  refine Ev.ite (fun _ => ?_) (fun z => absurd (nd_f z) h)
  refine Ev.blk 2 (B138_17 _ _ _) rfl ?_
  refine Ev.blk 1 (B138_21 _ _ _ _) rfl ?_
  exact Ev.ret rfl rfl rfl rfl ⟨rfl, uV_self rfl, rfl⟩
theorem x_fig {L d : Nat} {W : Mv} {b : Bool} {T : Nat → Int} {n j : Nat} {mask : Int} (hB : TB T n) (hX : RXX W T n j) (hj : j ≤ 200) : Ex L (d + 1) 137 [.inr (.inr 120), .inl mask] W b (fun r V' b' => b' = b ∧ ((fOK T n j mask ∧ r = some (.inl (figN T j : Int)) ∧ V' = uV W 120 11 ((j + 1 : Nat) : Int)) ∨ (¬ fOK T n j mask ∧ r = some (.inl 0) ∧ V' = uV W 120 12 (j : Int)))) := by
  obtain ⟨e0, eT, e2, e3⟩ := hX
  have hn := hB.1
  have bad : ∀ x2 : Int, ¬ fOK T n j mask → Ev L (d + 1) 137 57 [some (.inr (.inr 120)), some (.inl mask), some (.inl x2)] [] W b (fun r V' b' => b' = b ∧ ((fOK T n j mask ∧ r = some (.inl (figN T j : Int)) ∧ V' = uV W 120 11 ((j + 1 : Nat) : Int)) ∨ (¬ fOK T n j mask ∧ r = some (.inl 0) ∧ V' = uV W 120 12 (j : Int)))) := by
    intro x2 hx
    refine Ev.blk 1 (B137_57 _ _ _ _ _) rfl ?_
    refine Ev.call rfl rfl rfl (x_fail (d := d) e3) (by omega) ?_
    rintro v V' b' ⟨rfl, h_, g_⟩
    subst V' b'
    rw [e2]
    refine Ev.blk 1 (B137_61 _ _ _ _ _) rfl ?_
    exact Ev.ret rfl rfl rfl rfl ⟨rfl, Or.inr ⟨hx, rfl, rfl⟩⟩
  refine Ev.blk 4 (B137_0 _ _ _ _ (by rw [e3]; decide)) rfl ?_
  refine Ev.ite (fun h => absurd e3 (nd_t h)) (fun _ => ?_)
  refine Ev.blk 5 (B137_9 _ _ _ _ (by rw [e2]; exact ⟨by omega, by omega⟩) (by rw [e0]; exact ⟨by omega, by omega⟩)) rfl ?_
  rw [e0, e2]
  refine Ev.ite (fun q => ?_) (fun q => ?_)
  · replace q := of_decide_eq_true q
    refine Ev.blk 1 (B137_35 _ _ _ _) rfl ?_
    refine Ev.blk 5 (B137_36 _ _ _ _ _ (by decide)) rfl ?_
    refine Ev.call rfl rfl rfl (x_in (d := d) (v := -1) (by decide) (by decide) (by decide)) (by omega) ?_
    rintro v V' b' ⟨rfl, h_, g_⟩
    subst V' b'
    refine Ev.blk 1 (B137_46 _ _ _ _ _ _ (b01_in _)) rfl ?_
    refine Ev.ite (fun _ => ?_) (fun h => absurd (b01_1 (of_decide_eq_false h)) (by omega))
    exact bad _ (fun h => by have := h.1; omega)
  · replace q := of_decide_eq_false q
    have ht := hB.2 j (by omega)
    refine Ev.blk 8 (B137_20 _ _ _ _ (by rw [e2]; omega)) rfl ?_
    rw [e2, Int.toNat_natCast, eT j (by omega)]
    refine Ev.blk 5 (B137_36 _ _ _ _ _ ⟨by omega, by omega⟩) rfl ?_
    refine Ev.call rfl rfl rfl (x_in (d := d) (v := T j - 48) ⟨by omega, by omega⟩ (by decide) (by decide)) (by omega) ?_
    rintro v V' b' ⟨rfl, h_, g_⟩
    subst V' b'
    refine Ev.blk 1 (B137_46 _ _ _ _ _ _ (b01_in _)) rfl ?_
    refine Ev.ite (fun z => ?_) (fun z => ?_)
    · replace z := b01_0 (of_decide_eq_true z)
      exact bad _ (fun h => z h.2.1)
    · replace z := b01_1 (of_decide_eq_false z)
      refine Ev.blk 6 (B137_49 _ _ _ _ _ (oAnd_in _ _)) rfl ?_
      refine Ev.ite (fun x => ?_) (fun x => ?_)
      · replace x := nd_t x
        refine Ev.blk 7 (B137_63 _ _ _ _ _) rfl ?_
        refine Ev.ret rfl rfl rfl rfl ⟨rfl, Or.inl ⟨⟨by omega, z, x⟩, ?_, ?_⟩⟩
        · rw [show T j - 48 = (figN T j : Int) by unfold figN; omega]
        · rw [e2]
          rfl
      · replace x := nd_f x
        exact bad _ (fun h => h.2.2 x)
theorem x_figF {L d : Nat} {W : Mv} {b : Bool} {mask : Int} (h3 : W 120 12 ≠ -9) (hi : in32 (W 120 12)) : Ex L (d + 1) 137 [.inr (.inr 120), .inl mask] W b (Ans (some (.inl 0)) W b) := by
  refine Ev.blk 4 (B137_0 _ _ _ _ hi) rfl ?_
  refine Ev.ite (fun _ => ?_) (fun h => absurd (nd_f h) h3)
  refine Ev.blk 1 (B137_35 _ _ _ _) rfl ?_
  refine Ev.blk 5 (B137_36 _ _ _ _ _ (by decide)) rfl ?_
  refine Ev.call rfl rfl rfl (x_in (d := d) (v := -1) (by decide) (by decide) (by decide)) (by omega) ?_
  rintro v V' b' ⟨rfl, h_, g_⟩
  subst V' b'
  refine Ev.blk 1 (B137_46 _ _ _ _ _ _ (b01_in _)) rfl ?_
  refine Ev.ite (fun _ => ?_) (fun h => absurd (b01_1 (of_decide_eq_false h)) (by omega))
  refine Ev.blk 1 (B137_57 _ _ _ _ _) rfl ?_
  refine Ev.call rfl rfl rfl (x_failF (d := d) h3 hi) (by omega) ?_
  rintro v V' b' ⟨rfl, h_, g_⟩
  subst V' b'
  refine Ev.blk 1 (B137_61 _ _ _ _ _) rfl ?_
  exact Ev.ret rfl rfl rfl rfl ⟨rfl, rfl, rfl⟩
theorem rS {L d : Nat} {V W P V0 : Mv} {b : Bool} {T : Nat → Int} {n j : Nat} (hB : TB T n) (hR : RP W T n P j) (hV : FRM V W) (hj : j < n) (hK : Kd (cmb V0 P) 4 3) {x1 x2 : Int} (hT : T j = 83) (h0 : ¬ oWP P = 0) : Ev L (d + 4) 139 24 [some (.inr (.inr 120)), some (.inl x1), some (.inl x2), none, none, none] [] W b (RQ V b T n P j) := by
  obtain ⟨hX, hE, e7, e8, hKP⟩ := hR
  have hn := hB.1
  have w2 : 2 ≤ P 121 3 := hK.w2
  have w8 : P 121 3 ≤ 8 := hK.w8
  have hS : stp T n P j = if fOK T n (j + 1) (oWP P) then (if fOK T n (j + 2) (oFP P (figN T (j + 1))) then (if fOK T n (j + 3) (oShl 1 (11 - rLv P 3 (figN T (j + 1) : Int)) - 2) then .inr (j + 4, uV P 123 (192 + 8 * figN T (j + 1) + figN T (j + 2)) (figN T (j + 3) : Int)) else .inl (j + 3)) else .inl (j + 2)) else .inl (j + 1) := if_pos ⟨hT, h0⟩
  have f71 : ∀ (Y : Mv) (f a to : Nat), a < 8 → to < 8 → Y 120 12 = (f : Int) → f ≤ 200 → FRM V Y → stp T n P j = .inl f → Ev L (d + 4) 139 71 [some (.inr (.inr 120)), some (.inl x1), some (.inl x2), some (.inl (a : Int)), some (.inl (to : Int)), none] [.inl 0] Y b (RQ V b T n P j) := by
    intro Y f a to ha hto h3 hf hY hs
    refine Ev.blk 16 (B139_71 _ _ _ _ _ _ _ _ ⟨by omega, by omega⟩ (by rw [h3]; exact ⟨by omega, by omega⟩)) rfl ?_
    refine Ev.ite (fun _ => ?_) (fun z => absurd (nd_f z) (by rw [h3]; omega))
    refine Ev.blk 1 (B139_104 _ _ _ _ _ _ _ _ _ _ _ _ (show TT L 123 = (1, 256) from rfl)) rfl ?_
    refine Ev.blk 3 (B139_105 _ _ _ _ _ _ _ _ _ _ _ _ _ (show TT L 123 = (1, 256) from rfl) ⟨by omega, by omega⟩ (by decide)) rfl ?_
    refine Ev.ret rfl rfl rfl rfl ⟨rfl, rfl, hY.up _ (by unfold BDC; omega), ?_⟩
    rw [hs]
    exact h3
  have f52 : ∀ (Y : Mv) (f a : Nat), a < 8 → Y 120 12 = (f : Int) → f ≤ 200 → FRM V Y → stp T n P j = .inl f → Ev L (d + 4) 139 52 [some (.inr (.inr 120)), some (.inl x1), some (.inl x2), some (.inl (a : Int)), none, none] [.inl 0] Y b (RQ V b T n P j) := by
    intro Y f a ha h3 hf hY hs
    refine Ev.blk 7 (B139_52 _ _ _ _ _ _ _) rfl ?_
    refine Ev.call rfl rfl rfl (x_leaves (d := d) (m := 3) (w := (a : Int)) (by decide) (by omega)) (by omega) ?_
    rintro v V' b' ⟨rfl, h_, g_⟩
    subst V' b'
    refine Ev.blk 4 (B139_64 _ _ _ _ _ _ _ _ _ _) rfl ?_
    refine Ev.call rfl rfl rfl (x_figF (d := d) (by rw [h3]; omega) (by rw [h3]; exact ⟨by omega, by omega⟩)) (by omega) ?_
    rintro v V' b' ⟨rfl, h_, g_⟩
    subst V' b'
    exact f71 Y f a 0 ha (by omega) h3 hf hY hs
  refine Ev.blk 8 (B139_24 _ _ _ _ _) rfl ?_
  rw [hX.2.2.1, show (j : Int) + 1 = ((j + 1 : Nat) : Int) by omega]
  have hE1 : EQ7 (uV W 120 11 ((j + 1 : Nat) : Int)) P := hE.l
  refine Ev.call rfl rfl rfl (x_oW (d := d + 1) (hE1.kd hK)) (by omega) ?_
  rintro v V' b' ⟨rfl, h_, g_⟩
  subst V' b'
  rw [hE1.oW]
  refine Ev.call rfl rfl rfl (x_fig (d := d) hB (hX.to (j + 1)) (by omega)) (by omega) ?_
  rintro v V1 b1 ⟨rfl, h⟩
  rcases h with ⟨h1, rfl, rfl⟩ | ⟨h1, rfl, rfl⟩
  · rw [if_pos h1] at hS
    rw [uV_uV]
    have a1 := h1.v.2
    have a2 := (oWk_bit (oFP P) (v := figN T (j + 1)) (by omega) ((P 121 3).toNat - 1) (by omega)).mp h1.b
    obtain ⟨a, ha⟩ : ∃ a, a = figN T (j + 1) := ⟨_, rfl⟩
    rw [← ha] at a1 a2 hS ⊢
    refine Ev.blk 4 (B139_42 _ _ _ _ _ _) rfl ?_
    have hE2 : EQ7 (uV W 120 11 ((j + 1 + 1 : Nat) : Int)) P := hE.l
    refine Ev.call rfl rfl rfl (x_oF (d := d) (a := a) (hE2.kd hK) (by omega)) (by omega) ?_
    rintro v V' b' ⟨rfl, h_, g_⟩
    subst V' b'
    rw [hE2.oF]
    refine Ev.call rfl rfl rfl (x_fig (d := d) (j := j + 2) hB (hX.to (j + 2)) (by omega)) (by omega) ?_
    rintro v V1 b1 ⟨rfl, h⟩
    rcases h with ⟨h2, rfl, rfl⟩ | ⟨h2, rfl, rfl⟩
    · rw [if_pos h2] at hS
      rw [uV_uV]
      have hl10 : rLv P 3 (a : Int) < 10 := Classical.byContradiction (fun z => a2.2 (if_neg z))
      have eF : oFP P a = oFk (fun c => P 123 (192 + 8 * a + c)) a ((P 121 3).toNat - (a + 1)) := if_pos hl10
      have b1' := h2.v.2
      have b2 := h2.b
      rw [eF] at b2
      have b3 := (oFk_bit (fun c => P 123 (192 + 8 * a + c)) a (v := figN T (j + 2)) (by omega) ((P 121 3).toNat - (a + 1)) (by omega)).mp b2
      obtain ⟨to, hto⟩ : ∃ to, to = figN T (j + 2) := ⟨_, rfl⟩
      rw [← hto] at b1' b3 hS ⊢
      have l0 : 0 ≤ rLv P 3 (a : Int) := by
        rw [rLv_n]
        exact sumN_nn 8 (fun i hi => (hK.tn a i (by omega) hi).1)
      obtain ⟨l, hl⟩ : ∃ l : Nat, rLv P 3 (a : Int) = (l : Int) := ⟨_, (Int.toNat_of_nonneg l0).symm⟩
      refine Ev.blk 7 (B139_52 _ _ _ _ _ _ _) rfl ?_
      have hE3 : EQ7 (uV W 120 11 ((j + 2 + 1 : Nat) : Int)) P := hE.l
      refine Ev.call rfl rfl rfl (x_leaves (d := d) (m := 3) (w := (a : Int)) (by decide) (by omega)) (by omega) ?_
      rintro v V' b' ⟨rfl, h_, g_⟩
      subst V' b'
      rw [hE3.rl, hl]
      refine Ev.blk 4 (B139_64 _ _ _ _ _ _ _ _ _ _) rfl ?_
      rw [hl] at hS
      refine Ev.call rfl rfl rfl (x_fig (d := d) (j := j + 3) hB (hX.to (j + 3)) (by omega)) (by omega) ?_
      rintro v V1 b1 ⟨rfl, h⟩
      rcases h with ⟨h3, rfl, rfl⟩ | ⟨h3, rfl, rfl⟩
      · rw [if_pos h3] at hS
        rw [uV_uV]
        have c1 := (chn l (by omega) (figN T (j + 3)) (by have := h3.v.2; omega)).2 h3.b
        have c2 := h3.v.2
        have e3 : uV W 120 11 ((j + 3 + 1 : Nat) : Int) 120 12 = -9 := hX.2.2.2
        have eI : (192 + 8 * (a : Int) + (to : Int)).toNat = 192 + 8 * a + to := by omega
        have e0 : uV W 120 11 ((j + 3 + 1 : Nat) : Int) 123 (192 + 8 * a + to) = 0 := by
          rw [uV_ne (by omega), hE 123 (by omega) (by omega)]
          exact b3.2.2
        refine Ev.blk 16 (B139_71 _ _ _ _ _ _ _ _ ⟨by omega, by omega⟩ (by rw [e3]; decide)) rfl ?_
        refine Ev.ite (fun z => absurd e3 (nd_t z)) (fun _ => ?_)
        rw [eI, e0]
        refine Ev.blk 2 (B139_99 _ _ _ _ _ _ _ _ _ _ _ _ (show TT L 123 = (1, 256) from rfl)) rfl ?_
        refine Ev.blk 3 (B139_105 _ _ _ _ _ _ _ _ _ _ _ _ _ (show TT L 123 = (1, 256) from rfl) ⟨by omega, by omega⟩ (by decide)) rfl ?_
        rw [eI, Int.zero_add]
        refine Ev.ret rfl rfl rfl rfl ⟨rfl, rfl, (hV.up _ (by unfold BDC; omega)).up _ (by unfold BDC; omega), ?_⟩
        rw [hS]
        exact ⟨⟨hX.1, hX.2.1, rfl, hX.2.2.2⟩, hE.l.up, e7, e8, ⟨_, kd_way hK b3.1 (by omega) b3.2.2 (by omega) (by omega)⟩, hKP.2⟩
      · rw [if_neg h3] at hS
        exact f71 _ (j + 3) a to (by omega) (by omega) rfl (by omega) ((hV.up _ (by unfold BDC; omega)).up _ (by unfold BDC; omega)) hS
    · rw [if_neg h2] at hS
      exact f52 _ (j + 2) a (by omega) rfl (by omega) ((hV.up _ (by unfold BDC; omega)).up _ (by unfold BDC; omega)) hS
  · rw [if_neg h1] at hS
    refine Ev.blk 4 (B139_42 _ _ _ _ _ _) rfl ?_
    have hE2 : EQ7 (uV (uV W 120 11 ((j + 1 : Nat) : Int)) 120 12 ((j + 1 : Nat) : Int)) P := hE.l.l
    refine Ev.call rfl rfl rfl (x_oF (d := d) (a := 0) (hE2.kd hK) (by omega)) (by omega) ?_
    rintro v V' b' ⟨rfl, h_, g_⟩
    subst V' b'
    refine Ev.call rfl rfl rfl (x_figF (d := d) (by show ((j + 1 : Nat) : Int) ≠ -9; omega) (by show in32 ((j + 1 : Nat) : Int); exact ⟨by omega, by omega⟩)) (by omega) ?_
    rintro v V' b' ⟨rfl, h_, g_⟩
    subst V' b'
    exact f52 _ (j + 1) 0 (by omega) rfl (by omega) ((hV.up _ (by unfold BDC; omega)).up _ (by unfold BDC; omega)) hS
