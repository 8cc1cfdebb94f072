/-! two machines, the class, 2 (specs31.py) -/
theorem tz_lp {L d : Nat} {V : Mv} {b : Bool} {Q : Option AV → Mv → Bool → Prop} {c1 c2 dd : Nat} (hQ : Ev L d 126 24 [some (.inr (.inr 115)), some (.inr (.inr c1)), some (.inr (.inr c2)), some (.inl (dd : Int)), some (.inl 64), none, none, none, none, none] [] (fil V (nwA b) 0 (fun _ => 0) 64) b Q) : ∀ n k : Nat, k + n = 64 → Ev L (d) 126 3 [some (.inr (.inr 115)), some (.inr (.inr c1)), some (.inr (.inr c2)), some (.inl (dd : Int)), some (.inl (k : Int)), none, none, none, none, none] [] (fil V (nwA b) 0 (fun _ => 0) k) b Q
  | 0, k, h => by
    obtain rfl : k = 64 := by omega
    refine Ev.blk 3 (B126_3 _ _ _ _ _ _ _ (by first | assumption | omega | decide | exact cmpI_in _ _ | exact ⟨by omega, by omega⟩)) rfl ?_
    refine Ev.ite (fun q => ?_) (fun q => ?_)
    · replace q := of_decide_eq_true q
      exact hQ
    · replace q := of_decide_eq_false q
      exact absurd q (by omega)
  | n + 1, k, h => by
    have ih := tz_lp (L := L) (d := d) (c1 := c1) (c2 := c2) (dd := dd) hQ n (k + 1) (by omega)
    refine Ev.blk 3 (B126_3 _ _ _ _ _ _ _ (by first | assumption | omega | decide | exact cmpI_in _ _ | exact ⟨by omega, by omega⟩)) rfl ?_
    refine Ev.ite (fun q => ?_) (fun q => ?_)
    · replace q := of_decide_eq_true q
      exact absurd q (by omega)
    · replace q := of_decide_eq_false q
      refine Ev.blk 7 (T126_10 _ _ _ _ _ _ _ (by first | assumption | omega | decide | exact cmpI_in _ _ | exact ⟨by omega, by omega⟩)) rfl ?_
      exact Ev.mem (fil_st (by omega) rfl) ih

theorem twF_s {G H : Nat → Nat → Int} {co cp : Nat → Int} {n1 n2 t a e : Nat} (ha : a < n1) (he : e < n2) (h8 : n1 ≤ 8) (h82 : n2 ≤ 8) : twF G co n1 H cp n2 (t + 1) a e = (if rnV H cp (fun j => twF G co n1 H cp n2 t a j) n2 (pw 10 t) e < rnV G co (fun i => twF G co n1 H cp n2 t i e) n1 (pw 10 t) a then rnV H cp (fun j => twF G co n1 H cp n2 t a j) n2 (pw 10 t) e else rnV G co (fun i => twF G co n1 H cp n2 t i e) n1 (pw 10 t) a) ∧ twR G co n1 H cp n2 t a e = (if rnV H cp (fun j => twF G co n1 H cp n2 t a j) n2 (pw 10 t) e < rnV G co (fun i => twF G co n1 H cp n2 t i e) n1 (pw 10 t) a then 1 else 0) := by
  rw [← twS_rn ha h8, ← twS_rn he h82]
  exact ⟨rfl, rfl⟩
theorem tf1_lp {L d : Nat} {V : Mv} {b : Bool} {Q : Option AV → Mv → Bool → Prop} {c1 c2 n1 n2 : Nat} {G H : Nat → Nat → Int} {co mw mc cp mw2 mc2 : Nat → Int} {dd t a x7 : Nat} {x6 : Int} (h1 : isK c1) (h2 : isK c2) (hP : PK V c1 n1 G co mw mc) (hB : PB n1 G co mw mc) (hP2 : PK V c2 n2 H cp mw2 mc2) (hB2 : PB n2 H cp mw2 mc2) (ht : t < 8) (hx7 : TT L x7 = (2, 64)) (hl : ∀ i j, i < n1 → j < n2 → V (ltA b) (8 * i + j) = twF G co n1 H cp n2 t i j) (ha : a < n1) (hQ : ∀ W, ((∀ x, x ≠ nwA b → x ≠ 118 → W x = V x) ∧ (∀ i j, (i < a ∨ i = a ∧ j < n2) → j < n2 → W (nwA b) (8 * i + j) = twF G co n1 H cp n2 (t + 1) i j ∧ W 118 (8 * i + j) = twR G co n1 H cp n2 t i j)) → Ev L (d + 1) 126 98 [some (.inr (.inr 115)), some (.inr (.inr c1)), some (.inr (.inr c2)), some (.inl (dd : Int)), some (.inr (.inl (pw 10 t))), none, some (.inl x6), some (.inr (.inr x7)), some (.inl (a : Int)), some (.inl (n2 : Int))] [] W b Q) : ∀ (n k : Nat) (W : Mv), k + n = n2 → ((∀ x, x ≠ nwA b → x ≠ 118 → W x = V x) ∧ (∀ i j, (i < a ∨ i = a ∧ j < k) → j < n2 → W (nwA b) (8 * i + j) = twF G co n1 H cp n2 (t + 1) i j ∧ W 118 (8 * i + j) = twR G co n1 H cp n2 t i j)) → Ev L (d + 1) 126 71 [some (.inr (.inr 115)), some (.inr (.inr c1)), some (.inr (.inr c2)), some (.inl (dd : Int)), some (.inr (.inl (pw 10 t))), none, some (.inl x6), some (.inr (.inr x7)), some (.inl (a : Int)), some (.inl (k : Int))] [] W b Q
  | 0, k, W, h, hr => by
    obtain rfl : k = n2 := by omega
    have hcK : c2 = 4 ∨ c2 = 14 ∨ c2 = 29 ∨ c2 = 44 := h2
    have hn := nwA_c b
    have h82 := hB2.2.1
    have hw : W c2 0 = (k : Int) := by rw [hr.1 _ (by omega) (by omega)]; exact hP2.1
    refine Ev.blk 4 (J126_71 _ _ _ _ _ _ _ _ _ _ _ _ hx7 h2 ⟨by omega, by omega⟩ (by rw [hw]; exact ⟨by omega, by omega⟩)) rfl ?_
    rw [hw]
    refine Ev.ite (fun _ => ?_) (fun z => absurd (of_decide_eq_false z) (by omega))
    exact hQ W hr
  | n + 1, k, W, h, hr => by
    have ih := tf1_lp (L := L) (d := d) (dd := dd) (x6 := x6) h1 h2 hP hB hP2 hB2 ht hx7 hl ha hQ n (k + 1)
    have hcK : c2 = 4 ∨ c2 = 14 ∨ c2 = 29 ∨ c2 = 44 := h2
    have hcK1 : c1 = 4 ∨ c1 = 14 ∨ c1 = 29 ∨ c1 = 44 := h1
    have hn := nwA_c b
    have h8 := hB.2.1
    have h82 := hB2.2.1
    have hPw : PK W c1 n1 G co mw mc := hP.frame (fun x q1 q2 => hr.1 x (by omega) (by omega))
    have hP2w : PK W c2 n2 H cp mw2 mc2 := hP2.frame (fun x q1 q2 => hr.1 x (by omega) (by omega))
    have hw := hP2w.1
    have hbd := twF_bd (G := G) (co := co) (H := H) (cp := cp) (n := n1) (n2 := n2) hB.2.2.1 hB.2.2.2.1 hB2.2.2.1 hB2.2.2.2.1 t (by omega)
    have hb1 := twS_bd (G := G) (co := co) (n := n1) (t := t) (lt := fun i => twF G co n1 H cp n2 t i k) hB.2.2.1 hB.2.2.2.1 (fun j hj => hbd j k hj (by omega)) (by omega) (show a < 8 by omega)
    have hb2 := twS_bd (G := H) (co := cp) (n := n2) (t := t) (lt := fun j => twF G co n1 H cp n2 t a j) hB2.2.2.1 hB2.2.2.2.1 (fun j hj => hbd a j (by omega) hj) (by omega) (show k < 8 by omega)
    have hB8 := Bd8 (t := t + 1) (by omega)
    rw [twS_rn ha h8] at hb1
    rw [twS_rn (by omega) h82] at hb2
    refine Ev.blk 4 (J126_71 _ _ _ _ _ _ _ _ _ _ _ _ hx7 h2 ⟨by omega, by omega⟩ (by rw [hw]; exact ⟨by omega, by omega⟩)) rfl ?_
    rw [hw]
    refine Ev.ite (fun z => absurd (of_decide_eq_true z) (by omega)) (fun _ => ?_)
    refine Ev.blk 6 (J126_80 _ _ _ _ _ _ _ _ _ _ _ _ hx7) rfl ?_
    refine Ev.call rfl rfl rfl (x_chT (d := d) (a := a) (e := k) (s := pw 10 t) (lt := twF G co n1 H cp n2 t) h1 h2 hPw hB hP2w hB2 ha (by omega) (fun i j hi hj => by rw [hr.1 _ (by omega) (by omega)]; exact hl i j hi hj) ⟨by omega, by omega⟩ ⟨by omega, by omega⟩) (by omega) ?_
    rintro v V1 b1 ⟨rfl, rfl, g1, g2, g3, g4⟩
    have ht1 := twF_s (G := G) (H := H) (co := co) (cp := cp) (t := t) ha (show k < n2 by omega) h8 h82
    refine Ev.blk 2 (J126_92 _ _ _ _ _ _ _ _ _ _ _ _ hx7) rfl ?_
    refine ih _ (by omega) ⟨fun x q1 q2 => by rw [g1 x q1 q2, hr.1 x q1 q2], fun i j hij hj => ?_⟩
    by_cases e : i = a ∧ j = k
    · rw [e.1, e.2, g3, g4]
      exact ⟨ht1.1.symm, ht1.2.symm⟩
    · rw [(g2 _ (by omega)).1, (g2 _ (by omega)).2]
      exact hr.2 i j (by omega) hj
theorem tf2_lp {L d : Nat} {V : Mv} {b : Bool} {Q : Option AV → Mv → Bool → Prop} {c1 c2 n1 n2 : Nat} {G H : Nat → Nat → Int} {co mw mc cp mw2 mc2 : Nat → Int} {dd t x7 : Nat} {x6 : Int} (h1 : isK c1) (h2 : isK c2) (hP : PK V c1 n1 G co mw mc) (hB : PB n1 G co mw mc) (hP2 : PK V c2 n2 H cp mw2 mc2) (hB2 : PB n2 H cp mw2 mc2) (ht : t < 8) (hx7 : TT L x7 = (2, 64)) (hl : ∀ i j, i < n1 → j < n2 → V (ltA b) (8 * i + j) = twF G co n1 H cp n2 t i j) (hQ : ∀ W, ((∀ x, x ≠ nwA b → x ≠ 118 → W x = V x) ∧ (∀ i j, i < n1 → j < n2 → W (nwA b) (8 * i + j) = twF G co n1 H cp n2 (t + 1) i j ∧ W 118 (8 * i + j) = twR G co n1 H cp n2 t i j)) → Ev L (d + 1) 126 104 [some (.inr (.inr 115)), some (.inr (.inr c1)), some (.inr (.inr c2)), some (.inl (dd : Int)), some (.inr (.inl (pw 10 t))), none, some (.inl x6), some (.inr (.inr x7)), some (.inl (n1 : Int)), none] [] W b Q) : ∀ (n k : Nat) (W : Mv), k + n = n1 → ((∀ x, x ≠ nwA b → x ≠ 118 → W x = V x) ∧ (∀ i j, i < k → j < n2 → W (nwA b) (8 * i + j) = twF G co n1 H cp n2 (t + 1) i j ∧ W 118 (8 * i + j) = twR G co n1 H cp n2 t i j)) → Ev L (d + 1) 126 59 [some (.inr (.inr 115)), some (.inr (.inr c1)), some (.inr (.inr c2)), some (.inl (dd : Int)), some (.inr (.inl (pw 10 t))), none, some (.inl x6), some (.inr (.inr x7)), some (.inl (k : Int)), none] [] W b Q
  | 0, k, W, h, hr => by
    obtain rfl : k = n1 := by omega
    have hcK : c1 = 4 ∨ c1 = 14 ∨ c1 = 29 ∨ c1 = 44 := h1
    have hn := nwA_c b
    have h8 := hB.2.1
    have hw : W c1 0 = (k : Int) := by rw [hr.1 _ (by omega) (by omega)]; exact hP.1
    refine Ev.blk 4 (J126_59 _ _ _ _ _ _ _ _ _ _ _ hx7 h1 ⟨by omega, by omega⟩ (by rw [hw]; exact ⟨by omega, by omega⟩)) rfl ?_
    rw [hw]
    refine Ev.ite (fun _ => ?_) (fun z => absurd (of_decide_eq_false z) (by omega))
    exact hQ W hr
  | n + 1, k, W, h, hr => by
    have ih := tf2_lp (L := L) (d := d) (dd := dd) (x6 := x6) h1 h2 hP hB hP2 hB2 ht hx7 hl hQ n (k + 1)
    have hcK : c2 = 4 ∨ c2 = 14 ∨ c2 = 29 ∨ c2 = 44 := h2
    have hcK1 : c1 = 4 ∨ c1 = 14 ∨ c1 = 29 ∨ c1 = 44 := h1
    have hn := nwA_c b
    have h8 := hB.2.1
    have hPw : PK W c1 n1 G co mw mc := hP.frame (fun x q1 q2 => hr.1 x (by omega) (by omega))
    have hP2w : PK W c2 n2 H cp mw2 mc2 := hP2.frame (fun x q1 q2 => hr.1 x (by omega) (by omega))
    have hw := hPw.1
    refine Ev.blk 4 (J126_59 _ _ _ _ _ _ _ _ _ _ _ hx7 h1 ⟨by omega, by omega⟩ (by rw [hw]; exact ⟨by omega, by omega⟩)) rfl ?_
    rw [hw]
    refine Ev.ite (fun z => absurd (of_decide_eq_true z) (by omega)) (fun _ => ?_)
    refine Ev.blk 2 (J126_68 _ _ _ _ _ _ _ _ _ _ _ hx7) rfl ?_
    refine tf1_lp (V := V) (a := k) h1 h2 hP hB hP2 hB2 ht hx7 hl (by omega) (fun Y hy => ?_) n2 0 W (by omega) ⟨hr.1, fun i j hij hj => hr.2 i j (by omega) hj⟩
    refine Ev.blk 2 (J126_98 _ _ _ _ _ _ _ _ _ _ _ _ hx7) rfl ?_
    refine Ev.kill [false, false, false, false, false, false, false, false, false, true] ?_
    dsimp only [mkl]
    exact ih Y (by omega) ⟨hy.1, fun i j hi hj => hy.2 i j (by omega) hj⟩
theorem tf3_lp {L d : Nat} {V : Mv} {Q : Option AV → Mv → Bool → Prop} {c1 c2 n1 n2 : Nat} {G H : Nat → Nat → Int} {co mw mc cp mw2 mc2 : Nat → Int} {dd : Nat} (h1 : isK c1) (h2 : isK c2) (hP : PK V c1 n1 G co mw mc) (hB : PB n1 G co mw mc) (hP2 : PK V c2 n2 H cp mw2 mc2) (hB2 : PB n2 H cp mw2 mc2) (hd : dd ≤ 8) (hQ : ∀ W b, ((∀ x, x ≠ 116 → x ≠ 117 → x ≠ 118 → W x = V x) ∧ (∀ i j, i < n1 → j < n2 → W (nwA b) (8 * i + j) = twF G co n1 H cp n2 dd i j) ∧ (0 < dd → ∀ i j, i < n1 → j < n2 → W 118 (8 * i + j) = twR G co n1 H cp n2 (dd - 1) i j)) → Q none W b) : ∀ (n k : Nat) (W : Mv) (b : Bool), k + n = dd → ((∀ x, x ≠ 116 → x ≠ 117 → x ≠ 118 → W x = V x) ∧ (∀ i j, i < n1 → j < n2 → W (nwA b) (8 * i + j) = twF G co n1 H cp n2 k i j) ∧ (0 < k → ∀ i j, i < n1 → j < n2 → W 118 (8 * i + j) = twR G co n1 H cp n2 (k - 1) i j)) → Ev L (d + 1) 126 30 [some (.inr (.inr 115)), some (.inr (.inr c1)), some (.inr (.inr c2)), some (.inl (dd : Int)), some (.inr (.inl (pw 10 k))), none, some (.inl ((k : Int) + 1)), none, none, none] [] W b Q
  | 0, k, W, b, h, hr => by
    obtain rfl : k = dd := by omega
    refine Ev.blk 3 (B126_30 _ _ _ _ _ _ _ _ ⟨by omega, by omega⟩ ⟨by omega, by omega⟩) rfl ?_
    refine Ev.ite (fun _ => ?_) (fun z => absurd (of_decide_eq_false z) (by omega))
    exact Ev.ret rfl rfl rfl rfl (hQ W b hr)
  | n + 1, k, W, b, h, hr => by
    have ih := tf3_lp (L := L) (d := d) h1 h2 hP hB hP2 hB2 hd hQ n (k + 1)
    have hcK : c2 = 4 ∨ c2 = 14 ∨ c2 = 29 ∨ c2 = 44 := h2
    have hcK1 : c1 = 4 ∨ c1 = 14 ∨ c1 = 29 ∨ c1 = 44 := h1
    have hn := nwA_c b
    have hnn := nwA_n b
    have hPw : PK W c1 n1 G co mw mc := hP.frame (fun x q1 q2 => hr.1 x (by omega) (by omega) (by omega))
    have hP2w : PK W c2 n2 H cp mw2 mc2 := hP2.frame (fun x q1 q2 => hr.1 x (by omega) (by omega) (by omega))
    refine Ev.blk 3 (B126_30 _ _ _ _ _ _ _ _ ⟨by omega, by omega⟩ ⟨by omega, by omega⟩) rfl ?_
    refine Ev.ite (fun z => absurd (of_decide_eq_true z) (by omega)) (fun _ => ?_)
    refine Ev.blk 12 (T126_36 _ _ _ _ _ _ _ _) rfl ?_
    refine tf2_lp (V := W) (b := !b) (t := k) h1 h2 hPw hB hP2w hB2 (by omega) (ltA_T L b) (fun i j hi hj => by rw [hnn.2]; exact hr.2.1 i j hi hj) (fun Y hy => ?_) n1 0 W (by omega) ⟨fun _ _ _ => rfl, fun i j hi _ => absurd hi (by omega)⟩
    refine Ev.blk 6 (J126_104 _ _ _ _ _ _ _ _ _ _ _ (ltA_T L b)) rfl ?_
    refine Ev.kill [false, false, false, false, false, false, false, true, true] ?_
    dsimp only [mkl]
    refine Ev.val (ls' := [some (.inr (.inr 115)), some (.inr (.inr c1)), some (.inr (.inr c2)), some (.inl (dd : Int)), some (.inr (.inl (pw 10 (k + 1)))), none, some (.inl (((k + 1 : Nat) : Int) + 1)), none, none, none]) rfl rfl (ih Y (!b) (by omega) ⟨fun x q1 q2 q3 => ?_, fun i j hi hj => (hy.2 i j hi hj).1, fun _ i j hi hj => (hy.2 i j hi hj).2⟩)
    rw [hy.1 x (by rw [hnn.1]; omega) q3, hr.1 x q1 q2 q3]
theorem x_twoF {L d : Nat} {V : Mv} {b : Bool} {c1 c2 n1 n2 : Nat} {G H : Nat → Nat → Int} {co mw mc cp mw2 mc2 : Nat → Int} {dd : Nat} (h1 : isK c1) (h2 : isK c2) (hP : PK V c1 n1 G co mw mc) (hB : PB n1 G co mw mc) (hP2 : PK V c2 n2 H cp mw2 mc2) (hB2 : PB n2 H cp mw2 mc2) (hd : 1 ≤ dd ∧ dd ≤ 8) : Ex L (d + 1) 126 [.inr (.inr 115), .inr (.inr c1), .inr (.inr c2), .inl (dd : Int)] V b (fun v V' b' => v = none ∧ (∀ x, x ≠ 116 → x ≠ 117 → x ≠ 118 → V' x = V x) ∧ (∀ i j, i < n1 → j < n2 → V' (nwA b') (8 * i + j) = twF G co n1 H cp n2 dd i j) ∧ (∀ i j, i < n1 → j < n2 → V' 118 (8 * i + j) = twR G co n1 H cp n2 (dd - 1) i j)) := by
  have hn := nwA_c b
  have hcK : c2 = 4 ∨ c2 = 14 ∨ c2 = 29 ∨ c2 = 44 := h2
  have hcK1 : c1 = 4 ∨ c1 = 14 ∨ c1 = 29 ∨ c1 = 44 := h1
  have h8 := hB.2.1
  have h82 := hB2.2.1
  refine Ev.blk 2 (B126_0 _ _ _ _ _ _) rfl ?_
  refine Ev.mem (fil_0 V (nwA b) 0 (fun _ => 0)).symm (tz_lp ?_ 64 0 rfl)
  refine Ev.blk 4 (B126_24 _ _ _ _ _ _ _) rfl ?_
  refine tf3_lp (V := fil V (nwA b) 0 (fun _ => 0) 64) h1 h2 (hP.frame (fun x q1 q2 => fil_ne (by omega))) hB (hP2.frame (fun x q1 q2 => fil_ne (by omega))) hB2 hd.2 (fun W b' hr => ⟨rfl, fun x q1 q2 q3 => by rw [hr.1 x q1 q2 q3, fil_ne (by omega)], hr.2.1, hr.2.2 (by omega)⟩) dd 0 _ b (by omega) ⟨fun _ _ _ _ => rfl, fun i j hi hj => ?_, fun h => absurd h (by omega)⟩
  rw [fil_z (by omega)]
  rfl
