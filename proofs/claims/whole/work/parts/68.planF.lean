/-! a machine's rows on both sides; Plan.find (specs26.py) -/
/-- the rows of a Kind -/
def PK (V : Mv) (c wn : Nat) (G : Nat → Nat → Int) (co mw mc : Nat → Int) : Prop := V c 0 = (wn : Int) ∧ (∀ i j, i < 8 → j < 8 → V (c + 1) (8 * i + j) = G i j) ∧ (∀ j, j < 8 → V (c + 3) j = co j) ∧ (∀ j, j < 4 → V (c + 6) j = mw j) ∧ (∀ j, j < 4 → V (c + 5) j = mc j)
/-- and of a machine of the reference -/
def PR (V : Mv) (m wn : Nat) (G : Nat → Nat → Int) (co mw mc : Nat → Int) : Prop := V 121 m = (wn : Int) ∧ (∀ i j : Nat, i < 8 → j < 8 → rGo V (m : Int) (i : Int) (j : Int) = G i j) ∧ (∀ j, j < 8 → V 124 (8 * m + j) = co j) ∧ (∀ j, j < 4 → V 126 (4 * m + j) = mw j) ∧ (∀ j, j < 4 → V 127 (4 * m + j) = mc j)
/-- their bounds -/
def PB (wn : Nat) (G : Nat → Nat → Int) (co mw mc : Nat → Int) : Prop := 2 ≤ wn ∧ wn ≤ 8 ∧ (∀ i j, i < 8 → j < 8 → 0 ≤ G i j ∧ G i j ≤ 10) ∧ (∀ j, j < 8 → 0 ≤ co j ∧ co j ≤ 99) ∧ (∀ j, j < 4 → mw j = -9 ∨ 0 ≤ mw j ∧ mw j + 2 ≤ (wn : Int)) ∧ (∀ j, j < 4 → 0 ≤ mc j ∧ mc j ≤ 99)
theorem PK.frame {V W : Mv} {c wn : Nat} {G : Nat → Nat → Int} {co mw mc : Nat → Int} (h : PK V c wn G co mw mc) (e : ∀ x, c ≤ x → x ≤ c + 6 → W x = V x) : PK W c wn G co mw mc := by
  unfold PK at h ⊢
  rw [e c (by omega) (by omega), e (c + 1) (by omega) (by omega), e (c + 3) (by omega) (by omega), e (c + 6) (by omega) (by omega), e (c + 5) (by omega) (by omega)]
  exact h
theorem PR.frame {V W : Mv} {m wn : Nat} {G : Nat → Nat → Int} {co mw mc : Nat → Int} (h : PR V m wn G co mw mc) (e : ∀ x, 121 ≤ x → x ≤ 127 → W x = V x) : PR W m wn G co mw mc := by
  unfold PR at h ⊢
  rw [e 121 (by omega) (by omega), e 124 (by omega) (by omega), e 126 (by omega) (by omega), e 127 (by omega) (by omega)]
  refine ⟨h.1, fun i j hi hj => ?_, h.2.2⟩
  rw [rGo_congr (e 123 (by omega) (by omega))]
  exact h.2.1 i j hi hj
theorem Kd.rows {V : Mv} {K m : Nat} (h : Kd V K m) : ∃ wn : Nat, V 121 m = (wn : Int) ∧ PK V K wn (fun i j => rGo V (m : Int) (i : Int) (j : Int)) (fun j => V 124 (8 * m + j)) (fun j => V 126 (4 * m + j)) (fun j => V 127 (4 * m + j)) ∧ PR V m wn (fun i j => rGo V (m : Int) (i : Int) (j : Int)) (fun j => V 124 (8 * m + j)) (fun j => V 126 (4 * m + j)) (fun j => V 127 (4 * m + j)) ∧ PB wn (fun i j => rGo V (m : Int) (i : Int) (j : Int)) (fun j => V 124 (8 * m + j)) (fun j => V 126 (4 * m + j)) (fun j => V 127 (4 * m + j)) := by
  have h2 := h.w2
  have h8 := h.w8
  have hw : V 121 m = (((V 121 m).toNat : Nat) : Int) := by omega
  refine ⟨(V 121 m).toNat, hw, ⟨by rw [h.w]; exact hw, fun i j hi hj => h.go i j hi hj, fun j hj => (h.co j hj).1, fun j hj => (h.mw j hj).1, fun j hj => (h.mc j hj).1⟩, ⟨hw, fun _ _ _ _ => rfl, fun _ _ => rfl, fun _ _ => rfl, fun _ _ => rfl⟩, by omega, by omega, fun i j hi hj => rGo_bd h hi hj, fun j hj => (h.co j hj).2, fun j hj => ?_, fun j hj => (h.mc j hj).2⟩
  rw [← hw]
  exact (h.mw j hj).2
theorem pl0_lp {L d : Nat} {V : Mv} {b : Bool} {Q : Option AV → Mv → Bool → Prop} {c wr dd p : Nat} {f : Int} (hQ : Ev L d 115 24 [some (.inr (.inr 108)), some (.inr (.inr c)), some (.inl (wr : Int)), some (.inl (dd : Int)), some (.inl (p : Int)), some (.inl f), some (.inl 8), none, none, none, none] [] (fil V 109 0 (fun _ => 0) 8) b Q) : ∀ n k : Nat, k + n = 8 → Ev L (d) 115 3 [some (.inr (.inr 108)), some (.inr (.inr c)), some (.inl (wr : Int)), some (.inl (dd : Int)), some (.inl (p : Int)), some (.inl f), some (.inl (k : Int)), none, none, none, none] [] (fil V 109 0 (fun _ => 0) k) b Q
  | 0, k, h => by
    obtain rfl : k = 8 := by omega
    refine Ev.blk 3 (B115_3 _ _ _ _ _ _ _ _ _ (by first | assumption | omega | decide | exact cmpI_in _ _ | exact ⟨by omega, by omega⟩)) rfl ?_
    refine Ev.ite (fun q => ?_) (fun q => ?_)
    · replace q := of_decide_eq_true q
      exact hQ
    · replace q := of_decide_eq_false q
      exact absurd q (by omega)
  | n + 1, k, h => by
    have ih := pl0_lp (L := L) (d := d) (c := c) (wr := wr) (dd := dd) (p := p) (f := f) hQ n (k + 1) (by omega)
    refine Ev.blk 3 (B115_3 _ _ _ _ _ _ _ _ _ (by first | assumption | omega | decide | exact cmpI_in _ _ | exact ⟨by omega, by omega⟩)) rfl ?_
    refine Ev.ite (fun q => ?_) (fun q => ?_)
    · replace q := of_decide_eq_true q
      exact absurd q (by omega)
    · replace q := of_decide_eq_false q
      refine Ev.blk 7 (B115_10 _ _ _ _ _ _ _ _ _ (by first | assumption | omega | decide | exact cmpI_in _ _ | exact ⟨by omega, by omega⟩)) rfl ?_
      exact Ev.mem (fil_st (by omega) rfl) ih

theorem pl1_lp {L d : Nat} {V : Mv} {b : Bool} {Q : Option AV → Mv → Bool → Prop} {wr dd p : Nat} {f s mo : Int} {c wn : Nat} {G : Nat → Nat → Int} {co mw mc : Nat → Int} {lt : Nat → Int} (hc : isK c) (hP : PK V c wn G co mw mc) (hB : PB wn G co mw mc) (hl : ∀ j, j < wn → V 109 j = lt j) (hQ : Ev L (d + 1) 115 71 [some (.inr (.inr 108)), some (.inr (.inr c)), some (.inl (wr : Int)), some (.inl (dd : Int)), some (.inl (p : Int)), some (.inl f), some (.inr (.inl s)), none, some (.inl mo), some (.inl (wn : Int)), none] [] (fil V 110 0 (rnV G co lt wn s) wn) b Q) : ∀ n k : Nat, k + n = wn → Ev L (d + 1) 115 40 [some (.inr (.inr 108)), some (.inr (.inr c)), some (.inl (wr : Int)), some (.inl (dd : Int)), some (.inl (p : Int)), some (.inl f), some (.inr (.inl s)), none, some (.inl mo), some (.inl (k : Int)), none] [] (fil V 110 0 (rnV G co lt wn s) k) b Q
  | 0, k, h => by
    obtain rfl : k = wn := by omega
    have hcK : c = 4 ∨ c = 14 ∨ c = 29 ∨ c = 44 := hc
    have hw : fil V 110 0 (rnV G co lt k s) k c 0 = (k : Int) := by
      rw [fil_ne (by omega)]
      exact hP.1
    have h8 := hB.2.1
    refine Ev.blk 4 (B115_40 _ _ _ _ _ _ _ _ _ _ _ (by first | exact hc | omega | (rw [hw]; exact ⟨by omega, by omega⟩) | exact ⟨by omega, by omega⟩) (by first | exact hc | omega | (rw [hw]; exact ⟨by omega, by omega⟩) | exact ⟨by omega, by omega⟩) (by first | exact hc | omega | (rw [hw]; exact ⟨by omega, by omega⟩) | exact ⟨by omega, by omega⟩)) rfl ?_
    refine Ev.ite (fun q => ?_) (fun q => ?_)
    · replace q := of_decide_eq_true q
      rw [hw] at q
      exact hQ
    · replace q := of_decide_eq_false q
      rw [hw] at q
      exact absurd q (by omega)
  | n + 1, k, h => by
    have ih := pl1_lp (L := L) (d := d) (wr := wr) (dd := dd) (p := p) (f := f) (s := s) (mo := mo) hc hP hB hl hQ n (k + 1) (by omega)
    have hcK : c = 4 ∨ c = 14 ∨ c = 29 ∨ c = 44 := hc
    have hP2 : PK (fil V 110 0 (rnV G co lt wn s) k) c wn G co mw mc := hP.frame (fun x h1 h2 => fil_ne (by omega))
    have hw := hP2.1
    have h8 := hB.2.1
    refine Ev.blk 4 (B115_40 _ _ _ _ _ _ _ _ _ _ _ (by first | exact hc | omega | (rw [hw]; exact ⟨by omega, by omega⟩) | exact ⟨by omega, by omega⟩) (by first | exact hc | omega | (rw [hw]; exact ⟨by omega, by omega⟩) | exact ⟨by omega, by omega⟩) (by first | exact hc | omega | (rw [hw]; exact ⟨by omega, by omega⟩) | exact ⟨by omega, by omega⟩)) rfl ?_
    refine Ev.ite (fun q => ?_) (fun q => ?_)
    · replace q := of_decide_eq_true q
      rw [hw] at q
      exact absurd q (by omega)
    · replace q := of_decide_eq_false q
      rw [hw] at q
      refine Ev.blk 7 (B115_49 _ _ _ _ _ _ _ _ _ _ _) rfl ?_
      refine Ev.call rfl rfl (rfl) (x_goP (d := d) (a := k) (wn := wn) (G := G) (co := co) (lt := lt) hc (by omega) h8 hw (fun j hj => hP2.2.1 k j (by omega) hj) (fun j hj => hB.2.2.1 k j (by omega) hj) (fun j hj => by rw [fil_ne (by omega)]; exact hl j hj) (hP2.2.2.1 k (by omega)) (hB.2.2.2.1 k (by omega))) (by omega) ?_
      rintro v V' b' ⟨rfl, h_, rfl⟩
      subst V'
      refine Ev.blk 3 (J115_64 _ _ _ _ _ _ _ _ _ _ _ _ _ _ _ (by first | exact (rfl : TT L 110 = (2, 8)) | omega | exact ⟨by omega, by omega⟩) (by first | exact (rfl : TT L 110 = (2, 8)) | omega | exact ⟨by omega, by omega⟩) (by first | exact (rfl : TT L 110 = (2, 8)) | omega | exact ⟨by omega, by omega⟩)) rfl ?_
      exact Ev.mem (fil_st (by omega) rfl) ih

theorem pl2_lp {L d : Nat} {V : Mv} {b : Bool} {Q : Option AV → Mv → Bool → Prop} {wr dd p : Nat} {f s mo fl fall : Int} {c wn : Nat} {G : Nat → Nat → Int} {co mw mc : Nat → Int} {rn : Nat → Int} (hc : isK c) (hP : PK V c wn G co mw mc) (hB : PB wn G co mw mc) (hr : ∀ j, j < wn → V 110 j = rn j) (hrb : ∀ j, j < wn → 0 ≤ rn j ∧ rn j ≤ 3000000000000000) (hs : 0 ≤ s ∧ s ≤ 100000000) (hwr : wr < wn) (hfl : fl = 0 ∧ fall = -9 ∨ fl = 1 ∧ fall = mo * f ∧ 0 ≤ fall ∧ fall ≤ 100) (hQ : ∀ W, ((∀ x, x ≠ 108 → x ≠ 109 → W x = V x) ∧ (∀ j, j < wn → W 109 j = (chW mw mc rn fall s j).1) ∧ (wr < wn → W 108 0 = (chW mw mc rn fall s wr).1 ∧ W 108 1 = (chW mw mc rn fall s wr).2)) → Ev L (d + 2) 115 158 [some (.inr (.inr 108)), some (.inr (.inr c)), some (.inl (wr : Int)), some (.inl (dd : Int)), some (.inl (p : Int)), some (.inl f), some (.inr (.inl s)), none, some (.inl mo), some (.inl fl), some (.inl (wn : Int))] [] W b Q) : ∀ (n k : Nat) (W : Mv), k + n = wn → ((∀ x, x ≠ 108 → x ≠ 109 → W x = V x) ∧ (∀ j, j < k → W 109 j = (chW mw mc rn fall s j).1) ∧ (wr < k → W 108 0 = (chW mw mc rn fall s wr).1 ∧ W 108 1 = (chW mw mc rn fall s wr).2)) → Ev L (d + 2) 115 94 [some (.inr (.inr 108)), some (.inr (.inr c)), some (.inl (wr : Int)), some (.inl (dd : Int)), some (.inl (p : Int)), some (.inl f), some (.inr (.inl s)), none, some (.inl mo), some (.inl fl), some (.inl (k : Int))] [] W b Q
  | 0, k, W, h, hr1 => by
    obtain rfl : k = wn := by omega
    have hcK : c = 4 ∨ c = 14 ∨ c = 29 ∨ c = 44 := hc
    have hw : W c 0 = (k : Int) := by rw [hr1.1 _ (by omega) (by omega)]; exact hP.1
    have h8 := hB.2.1
    refine Ev.blk 4 (B115_94 _ _ _ _ _ _ _ _ _ _ _ _ hc ⟨by omega, by omega⟩ (by rw [hw]; exact ⟨by omega, by omega⟩)) rfl ?_
    rw [hw]
    refine Ev.ite (fun _ => ?_) (fun z => absurd (of_decide_eq_false z) (by omega))
    exact hQ W hr1
  | n + 1, k, W, h, hr1 => by
    have ih := pl2_lp (L := L) (d := d) (wr := wr) (dd := dd) (p := p) (f := f) (s := s) (mo := mo) (fl := fl) hc hP hB hr hrb hs hwr hfl hQ n (k + 1)
    have hcK : c = 4 ∨ c = 14 ∨ c = 29 ∨ c = 44 := hc
    have hP2 : PK W c wn G co mw mc := hP.frame (fun x h1 h2 => hr1.1 x (by omega) (by omega))
    have hw := hP2.1
    have h8 := hB.2.1
    have call : ∀ x9, Ev L (d + 2) 115 124 [some (.inr (.inr 108)), some (.inr (.inr c)), some (.inl (wr : Int)), some (.inl (dd : Int)), some (.inl (p : Int)), some (.inl f), some (.inr (.inl s)), none, some (.inl mo), some (.inl x9), some (.inl (k : Int))] [.inr (.inl s), .inl fall, .inl (k : Int), .inr (.inr c), .inr (.inr 108)] W b (fun v V' b' => Q v V' b') → Ev L (d + 2) 115 124 [some (.inr (.inr 108)), some (.inr (.inr c)), some (.inl (wr : Int)), some (.inl (dd : Int)), some (.inl (p : Int)), some (.inl f), some (.inr (.inl s)), none, some (.inl mo), some (.inl x9), some (.inl (k : Int))] [.inr (.inl s), .inl fall, .inl (k : Int), .inr (.inr c), .inr (.inr 108)] W b Q := fun _ h => h
    refine Ev.blk 4 (B115_94 _ _ _ _ _ _ _ _ _ _ _ _ hc ⟨by omega, by omega⟩ (by rw [hw]; exact ⟨by omega, by omega⟩)) rfl ?_
    rw [hw]
    refine Ev.ite (fun z => absurd (of_decide_eq_true z) (by omega)) (fun _ => ?_)
    have go : Ev L (d + 2) 115 124 [some (.inr (.inr 108)), some (.inr (.inr c)), some (.inl (wr : Int)), some (.inl (dd : Int)), some (.inl (p : Int)), some (.inl f), some (.inr (.inl s)), none, some (.inl mo), some (.inl fl), some (.inl (k : Int))] [.inr (.inl s), .inl fall, .inl (k : Int), .inr (.inr c), .inr (.inr 108)] W b Q := by
      refine Ev.call rfl rfl rfl (x_chP (d := d) (a := k) (wn := wn) (mw := mw) (mc := mc) (rn := rn) hc (by omega) h8 hP2.2.2.2.1 hP2.2.2.2.2 (fun j hj => by rw [hr1.1 110 (by omega) (by omega)]; exact hr j hj) (fun j hj => by have := hB.2.2.2.2.1 j hj; omega) hB.2.2.2.2.2 hrb (by omega) hs) (by omega) ?_
      rintro v V1 b1 ⟨rfl, rfl, g1, g2, g3, g4, g5⟩
      refine Ev.blk 3 (B115_127 _ _ _ _ _ _ _ _ _ _ _ _ ⟨by omega, by omega⟩ ⟨by omega, by omega⟩) rfl ?_
      refine Ev.ite (fun z => ?_) (fun z => ?_)
      · replace z := nd_t z
        refine Ev.blk 2 (B115_152 _ _ _ _ _ _ _ _ _ _ _ _) rfl ?_
        refine ih _ (by omega) ⟨fun x n1 n2 => by rw [g1 x n1 n2, hr1.1 x n1 n2], fun j hj => ?_, fun hk => ?_⟩
        · by_cases e : j = k
          · rw [e, g3]
          · rw [g2 j e, hr1.2.1 j (by omega)]
        · rw [g5 0 (by omega), g5 1 (by omega)]
          exact hr1.2.2 (by omega)
      · replace z := nd_f z
        have z2 : k = wr := by omega
        refine Ev.blk 10 (B115_133 _ _ _ _ _ _ _ _ _ _ _ _ (by omega)) rfl ?_
        refine Ev.blk 2 (B115_152 _ _ _ _ _ _ _ _ _ _ _ _) rfl ?_
        refine ih _ (by omega) ⟨fun x n1 n2 => ?_, fun j hj => ?_, fun hk => ⟨?_, ?_⟩⟩
        · rw [uV_ne n1, uV_ne n1, g1 x n1 n2, hr1.1 x n1 n2]
        · rw [uV_ne (by omega), uV_ne (by omega)]
          by_cases e : j = k
          · rw [e, g3]
          · rw [g2 j e, hr1.2.1 j (by omega)]
        · rw [uV_at, if_neg (by omega), uV_at, if_pos rfl, Int.toNat_natCast, g3, z2]
        · rw [uV_at, if_pos rfl, uV_at, if_neg (by omega), g4, z2]
    rcases hfl with ⟨hf1, hf2⟩ | ⟨hf1, hf2, _⟩
    · refine Ev.blk 5 (B115_103 _ _ _ _ _ _ _ _ _ _ _ _ (by rw [hf1]; decide)) rfl ?_
      refine Ev.ite (fun _ => ?_) (fun z => absurd hf1 (of_decide_eq_false z))
      refine Ev.blk 1 (B115_120 _ _ _ _ _ _ _ _ _ _ _ _ _ _) rfl ?_
      refine Ev.blk 1 (B115_122 _ _ _ _ _ _ _ _ _ _ _ _ _ _ _) rfl ?_
      rw [← hf2]
      exact go
    · refine Ev.blk 5 (B115_103 _ _ _ _ _ _ _ _ _ _ _ _ (by rw [hf1]; decide)) rfl ?_
      refine Ev.ite (fun z => absurd (of_decide_eq_true z) (by rw [hf1]; decide)) (fun _ => ?_)
      refine Ev.blk 4 (B115_112 _ _ _ _ _ _ _ _ _ _ _ _ _ _) rfl ?_
      refine Ev.blk 1 (B115_122 _ _ _ _ _ _ _ _ _ _ _ _ _ _ _) rfl ?_
      rw [← hf2]
      exact go
theorem fal_in {dd p t : Nat} {f : Int} (hp : 1 ≤ p ∧ p ≤ 8) (hd : dd ≤ 8) (ht : t < dd) (hf : 0 ≤ f ∧ f ≤ 9) : (Int.tmod ((dd : Int) - 1 - (t : Int)) (p : Int) = 0 ∧ fal dd p f t = ((dd : Int) - 1 - (t : Int)) * f ∧ 0 ≤ fal dd p f t ∧ fal dd p f t ≤ 100) ∨ (¬ Int.tmod ((dd : Int) - 1 - (t : Int)) (p : Int) = 0 ∧ fal dd p f t = -9) := by
  have e : (dd : Int) - 1 - (t : Int) = ((dd - 1 - t : Nat) : Int) := by omega
  rw [e, Int.tmod_eq_emod_of_nonneg (by omega)]
  unfold fal
  by_cases q : (dd - 1 - t) % p = 0
  · left
    rw [if_pos q]
    have h := mulb (x := ((dd - 1 - t : Nat) : Int)) (y := f) (A := 7) (B := 9) (by omega) hf
    exact ⟨by omega, rfl, h.1, by omega⟩
  · right
    rw [if_neg q]
    exact ⟨by omega, rfl⟩
theorem pl3_lp {L d : Nat} {V : Mv} {b : Bool} {Q : Option AV → Mv → Bool → Prop} {wr dd p : Nat} {f : Int} {c wn : Nat} {G : Nat → Nat → Int} {co mw mc : Nat → Int} (hc : isK c) (hP : PK V c wn G co mw mc) (hB : PB wn G co mw mc) (hwr : wr < wn) (hd : 1 ≤ dd ∧ dd ≤ 8) (hp : 1 ≤ p ∧ p ≤ 8) (hf : 0 ≤ f ∧ f ≤ 9) (hQ : ∀ W, ((∀ x, x ≠ 108 → x ≠ 109 → x ≠ 110 → W x = V x) ∧ (∀ j, j < wn → W 109 j = plA G co mw mc wn dd p f dd j) ∧ (0 < dd → W 108 0 = plA G co mw mc wn dd p f dd wr ∧ W 108 1 = plC G co mw mc wn dd p f (dd - 1) wr)) → Q none W b) : ∀ (n k : Nat) (W : Mv), k + n = dd → ((∀ x, x ≠ 108 → x ≠ 109 → x ≠ 110 → W x = V x) ∧ (∀ j, j < wn → W 109 j = plA G co mw mc wn dd p f k j) ∧ (0 < k → W 108 0 = plA G co mw mc wn dd p f k wr ∧ W 108 1 = plC G co mw mc wn dd p f (k - 1) wr)) → Ev L (d + 2) 115 32 [some (.inr (.inr 108)), some (.inr (.inr c)), some (.inl (wr : Int)), some (.inl (dd : Int)), some (.inl (p : Int)), some (.inl f), some (.inr (.inl (pw 10 k))), none, some (.inl ((dd : Int) - 1 - (k : Int))), none, none] [] W b Q
  | 0, k, W, h, hr => by
    obtain rfl : k = dd := by omega
    refine Ev.blk 2 (B115_32 _ _ _ _ _ _ _ _ _ _ ⟨by omega, by omega⟩) rfl ?_
    refine Ev.ite (fun _ => ?_) (fun z => absurd (of_decide_eq_false z) (by omega))
    exact Ev.ret rfl rfl rfl rfl (hQ W hr)
  | n + 1, k, W, h, hr => by
    have ih := pl3_lp (L := L) (d := d) (dd := dd) (p := p) (f := f) hc hP hB hwr hd hp hf hQ n (k + 1)
    have hcK : c = 4 ∨ c = 14 ∨ c = 29 ∨ c = 44 := hc
    have h8 := hB.2.1
    have hP2 : PK W c wn G co mw mc := hP.frame (fun x h1 h2 => hr.1 x (by omega) (by omega) (by omega))
    have hpw := pw10 (t := k) (by omega)
    have hlb := plA_bd (G := G) (co := co) (mw := mw) (mc := mc) (n := wn) (f := f) (d := dd) (p := p) hB.2.2.1 hB.2.2.2.1 (fun j hj => by have := hB.2.2.2.2.1 j hj; omega) hB.2.2.2.2.2 h8 hf.1 k (by omega)
    have hrb : ∀ j, j < wn → 0 ≤ rnV G co (plA G co mw mc wn dd p f k) wn (pw 10 k) j ∧ rnV G co (plA G co mw mc wn dd p f k) wn (pw 10 k) j ≤ 3000000000000000 := fun j hj => by
      have h1 := rnV_bd hB.2.2.1 hB.2.2.2.1 h8 hlb (by omega) hj
      have h2 := Bd8 (t := k + 1) (by omega)
      omega
    have hfal := fal_in (t := k) hp hd.2 (by omega) hf
    refine Ev.blk 2 (B115_32 _ _ _ _ _ _ _ _ _ _ ⟨by omega, by omega⟩) rfl ?_
    refine Ev.ite (fun z => absurd (of_decide_eq_true z) (by omega)) (fun _ => ?_)
    refine Ev.blk 2 (B115_37 _ _ _ _ _ _ _ _ _ _) rfl ?_
    refine Ev.mem (fil_0 W 110 0 (rnV G co (plA G co mw mc wn dd p f k) wn (pw 10 k))).symm (pl1_lp (d := d + 1) hc hP2 hB hr.2.1 ?_ wn 0 (by omega))
    have W2 : ∀ x, x ≠ 110 → fil W 110 0 (rnV G co (plA G co mw mc wn dd p f k) wn (pw 10 k)) wn x = W x := fun x hx => fil_ne hx
    have P3 : PK (fil W 110 0 (rnV G co (plA G co mw mc wn dd p f k) wn (pw 10 k)) wn) c wn G co mw mc := hP2.frame (fun x h1 h2 => W2 x (by omega))
    have next : ∀ fl : Int, (fl = 0 ∧ fal dd p f k = -9 ∨ fl = 1 ∧ fal dd p f k = ((dd : Int) - 1 - (k : Int)) * f ∧ 0 ≤ fal dd p f k ∧ fal dd p f k ≤ 100) → Ev L (d + 2) 115 94 [some (.inr (.inr 108)), some (.inr (.inr c)), some (.inl (wr : Int)), some (.inl (dd : Int)), some (.inl (p : Int)), some (.inl f), some (.inr (.inl (pw 10 k))), none, some (.inl ((dd : Int) - 1 - (k : Int))), some (.inl fl), some (.inl 0)] [] (fil W 110 0 (rnV G co (plA G co mw mc wn dd p f k) wn (pw 10 k)) wn) b Q := by
      intro fl hfl
      refine pl2_lp (d := d) (fall := fal dd p f k) (rn := rnV G co (plA G co mw mc wn dd p f k) wn (pw 10 k)) hc P3 hB (fun j hj => fil_z hj) hrb ⟨by omega, hpw.2⟩ hwr hfl (fun Y hy => ?_) wn 0 _ (by omega) ⟨fun _ _ _ => rfl, fun j hj => absurd hj (by omega), fun hj => absurd hj (by omega)⟩
      refine Ev.blk 6 (B115_158 _ _ _ _ _ _ _ _ _ _ _ _) rfl ?_
      refine Ev.kill [false, false, false, false, false, false, false, false, false, true, true] ?_
      dsimp only [mkl]
      refine Ev.val (ls' := [some (.inr (.inr 108)), some (.inr (.inr c)), some (.inl (wr : Int)), some (.inl (dd : Int)), some (.inl (p : Int)), some (.inl f), some (.inr (.inl (pw 10 (k + 1)))), none, some (.inl ((dd : Int) - 1 - ((k + 1 : Nat) : Int))), none, none]) ?_ rfl (ih Y (by omega) ⟨fun x n1 n2 n3 => ?_, fun j hj => hy.2.1 j hj, fun _ => hy.2.2 hwr⟩)
      · rw [show (dd : Int) - 1 - (k : Int) + -1 = (dd : Int) - 1 - ((k + 1 : Nat) : Int) by omega]
        rfl
      · rw [hy.1 x n1 n2, W2 x n3, hr.1 x n1 n2 n3]
    refine Ev.blk 2 (B115_71 _ _ _ _ _ _ _ _ _ _ _ ⟨by omega, by omega⟩) rfl ?_
    refine Ev.ite (fun q => absurd (of_decide_eq_true q) (by omega)) (fun _ => ?_)
    refine Ev.blk 4 (B115_76 _ _ _ _ _ _ _ _ _ _ _ ⟨by omega, by omega⟩ ⟨by omega, by omega⟩ (by omega) (by rw [Int.tmod_eq_emod_of_nonneg (by omega)]; have h1 := Int.emod_nonneg ((dd : Int) - 1 - (k : Int)) (show (p : Int) ≠ 0 by omega); have h2 := Int.emod_lt_of_pos ((dd : Int) - 1 - (k : Int)) (show 0 < (p : Int) by omega); exact ⟨by omega, by omega⟩)) rfl ?_
    refine Ev.ite (fun q => ?_) (fun q => ?_)
    · replace q := nd_t q
      refine Ev.blk 1 (B115_88 _ _ _ _ _ _ _ _ _ _ _) rfl ?_
      refine Ev.blk 3 (B115_89 _ _ _ _ _ _ _ _ _ _ _ _) rfl ?_
      exact next 0 (Or.inl ⟨rfl, (hfal.resolve_left (fun z => q z.1)).2⟩)
    · replace q := nd_f q
      refine Ev.blk 2 (B115_84 _ _ _ _ _ _ _ _ _ _ _) rfl ?_
      refine Ev.blk 3 (B115_89 _ _ _ _ _ _ _ _ _ _ _ _) rfl ?_
      exact next 1 (Or.inr ⟨rfl, (hfal.resolve_right (fun z => z.1 q)).2⟩)
theorem x_planF {L d : Nat} {V : Mv} {b : Bool} {wr dd p : Nat} {f : Int} {c wn : Nat} {G : Nat → Nat → Int} {co mw mc : Nat → Int} (hc : isK c) (hP : PK V c wn G co mw mc) (hB : PB wn G co mw mc) (hwr : wr < wn) (hd : 1 ≤ dd ∧ dd ≤ 8) (hp : 1 ≤ p ∧ p ≤ 8) (hf : 0 ≤ f ∧ f ≤ 9) : Ex L (d + 2) 115 [.inr (.inr 108), .inr (.inr c), .inl (wr : Int), .inl (dd : Int), .inl (p : Int), .inl f] V b (fun v V' b' => v = none ∧ b' = b ∧ (∀ x, x ≠ 108 → x ≠ 109 → x ≠ 110 → V' x = V x) ∧ V' 108 0 = plA G co mw mc wn dd p f dd wr ∧ V' 108 1 = plC G co mw mc wn dd p f (dd - 1) wr) := by
  have hcK : c = 4 ∨ c = 14 ∨ c = 29 ∨ c = 44 := hc
  refine Ev.blk 2 (B115_0 _ _ _ _ _ _ _ _) rfl ?_
  refine Ev.mem (fil_0 V 109 0 (fun _ => 0)).symm (pl0_lp ?_ 8 0 rfl)
  refine Ev.blk 6 (B115_24 _ _ _ _ _ _ _ _ _) rfl ?_
  have h := pl3_lp (L := L) (d := d) (V := fil V 109 0 (fun _ => 0) 8) (b := b) (Q := fun v V' b' => v = none ∧ b' = b ∧ (∀ x, x ≠ 108 → x ≠ 109 → x ≠ 110 → V' x = V x) ∧ V' 108 0 = plA G co mw mc wn dd p f dd wr ∧ V' 108 1 = plC G co mw mc wn dd p f (dd - 1) wr) hc (hP.frame (fun x h1 h2 => fil_ne (by omega))) hB hwr hd hp hf (fun W hr => ⟨rfl, rfl, fun x n1 n2 n3 => by rw [hr.1 x n1 n2 n3, fil_ne n2], hr.2.2 (by omega)⟩) dd 0 _ (by omega) ⟨fun _ _ _ _ => rfl, fun j hj => fil_z (by have := hB.2.1; omega), fun h => absurd h (by omega)⟩
  rw [show (dd : Int) - 1 - ((0 : Nat) : Int) = (dd : Int) - 1 from Int.sub_zero _] at h
  exact h
