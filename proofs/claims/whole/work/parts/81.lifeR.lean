/-! how long till it breaks, the reference; the 38 calls: life (specs35.py) -/
theorem lS_iff {sc S S2 up down : Int} {bd bd2 : Prop} (hS : S = S2) (hb : bd ↔ bd2) (h : lS sc S bd up down) : lS sc S2 bd2 up down := by
  subst hS
  rcases h with ⟨h1, h2⟩ | ⟨h1, h2⟩
  · exact Or.inl ⟨hb.mp h1, h2⟩
  · exact Or.inr ⟨fun z => h1 (hb.mpr z), h2⟩
theorem tdivN {u g : Nat} : Int.tdiv (u : Int) (g : Int) = ((u / g : Nat) : Int) := by
  rw [Int.tdiv_eq_ediv_of_nonneg (by omega)]
  rfl
theorem lfK_all {n : Nat} {t : Nat → Nat → Int} {lv I : Nat → Int} (h : lfH n t lv) (hE : ∀ w, w < n → lfE n (Fp lv n) t lv I w) {x : Nat} (hx : x < n) : lfK n t lv I x := by
  have := lfK_of h (w0 := 0) (fun w _ hw => hE w hw) (n - 1 - x) (by omega) (by omega)
  rw [show n - 1 - (n - 1 - x) = x by omega] at this
  exact this
theorem lf1_lp {L d : Nat} {V : Mv} {b : Bool} {Q : Option AV → Mv → Bool → Prop} {m n1 w : Nat} {t : Nat → Nat → Int} {lv I : Nat → Int} {wr x3 : Int} {out : Int} (hm : m < 3) (hH : lfH n1 t lv) (hw0 : V 121 m = (n1 : Int)) (ht : ∀ i j, i < 8 → j < 8 → i ≠ j → V 123 (64 * m + 8 * i + j) = t i j) (hE : ∀ x, x < n1 → lfE n1 (Fp lv n1) t lv I x) (hw : w + 1 < n1) (hR : ∀ x, w < x → x < n1 → lR (Fp lv n1) (I x) (V 133 x) (V 134 x)) (hQ : ∀ up down, lS (Fp lv n1) (10 * Fp lv n1 + SM t I w (n1 - 1 - w)) (bad t I w (n1 - 1 - w)) up down → Ev L (d + 1) 171 204 [some (.inr (.inr 120)), some (.inl (m : Int)), some (.inl wr), some (.inl x3), some (.inl (w : Int)), some (.inl out), some (.inr (.inl up)), none, some (.inr (.inl down)), none, some (.inl ((w + 1 + (n1 - 1 - w) : Nat) : Int)), none, none, none] [] V b Q) : ∀ (n k : Nat) (up down : Int), k + n = n1 - 1 - w → lS (Fp lv n1) (10 * Fp lv n1 + SM t I w k) (bad t I w k) up down → Ev L (d + 1) 171 89 [some (.inr (.inr 120)), some (.inl (m : Int)), some (.inl wr), some (.inl x3), some (.inl (w : Int)), some (.inl out), some (.inr (.inl up)), none, some (.inr (.inl down)), none, some (.inl ((w + 1 + k : Nat) : Int)), none, none, none] [] V b Q
  | 0, k, up, down, h, hs => by
    obtain rfl : k = n1 - 1 - w := by omega
    have h8 := hH.2.1
    refine Ev.blk 6 (B171_89 _ _ _ _ _ _ _ _ _ _ _ (by omega) ⟨by omega, by omega⟩ (by rw [Int.toNat_natCast, hw0]; exact ⟨by omega, by omega⟩)) rfl ?_
    rw [Int.toNat_natCast, hw0]
    refine Ev.ite (fun _ => ?_) (fun z => absurd (of_decide_eq_false z) (by omega))
    exact hQ up down hs
  | n + 1, k, up, down, h, hs => by
    have ih := lf1_lp (L := L) (d := d) (out := out) hm hH hw0 ht hE hw hR hQ n (k + 1)
    have h8 := hH.2.1
    have hsc := Fp_n hH
    have e0 : (64 * (m : Int) + 8 * (w : Int) + ((w + 1 + k : Nat) : Int)).toNat = 64 * m + 8 * w + (w + 1 + k) := by omega
    have et := ht w (w + 1 + k) (by omega) (by omega) (by omega)
    have tb := hH.2.2.2.1 w (w + 1 + k) (by omega) (by omega) (by omega)
    have hK : ∀ x, w < x → x < n1 → lfK n1 t lv I x := fun x _ hx => lfK_all hH hE hx
    have Ib := lfK_bd hH (hK (w + 1 + k) (by omega) (by omega))
    have hRk := hR (w + 1 + k) (by omega) (by omega)
    have hSb : ¬ bad t I w k → 1 ≤ 10 * Fp lv n1 + SM t I w k ∧ 10 * Fp lv n1 + SM t I w k ≤ 60000000000 := fun hb => by
      have := SM_in hH hw hK (k := k) (by omega) hb
      omega
    have eS : 10 * Fp lv n1 + SM t I w (k + 1) = 10 * Fp lv n1 + SM t I w k + t w (w + 1 + k) * I (w + 1 + k) := (Int.add_assoc _ _ _).symm
    have at198 : ∀ (x11 up2 down2 : Int), lS (Fp lv n1) (10 * Fp lv n1 + SM t I w (k + 1)) (bad t I w (k + 1)) up2 down2 → Ev L (d + 1) 171 198 [some (.inr (.inr 120)), some (.inl (m : Int)), some (.inl wr), some (.inl x3), some (.inl (w : Int)), some (.inl out), some (.inr (.inl up2)), none, some (.inr (.inl down2)), none, some (.inl ((w + 1 + k : Nat) : Int)), some (.inl x11), none, none] [] V b Q := by
      intro x11 up2 down2 hs2
      refine Ev.blk 2 (B171_198 _ _ _ _ _ _ _ _ _ _ _ _) rfl ?_
      refine Ev.kill [false, false, false, false, false, false, false, false, false, false, false, true] ?_
      dsimp only [mkl]
      exact ih up2 down2 (by omega) hs2
    refine Ev.blk 6 (B171_89 _ _ _ _ _ _ _ _ _ _ _ (by omega) ⟨by omega, by omega⟩ (by rw [Int.toNat_natCast, hw0]; exact ⟨by omega, by omega⟩)) rfl ?_
    rw [Int.toNat_natCast, hw0]
    refine Ev.ite (fun z => absurd (of_decide_eq_true z) (by omega)) (fun _ => ?_)
    refine Ev.blk 15 (B171_100 _ _ _ _ _ _ _ _ _ _ _ (by omega) (by rw [e0, et]; exact ⟨by omega, by omega⟩)) rfl ?_
    rw [e0, et]
    refine Ev.ite (fun q => ?_) (fun q => ?_)
    · replace q := of_decide_eq_true q
      have z : t w (w + 1 + k) = 0 := by omega
      refine at198 _ _ _ (lS_iff ?_ ?_ hs)
      · rw [eS, z, Int.zero_mul, Int.add_zero]
      · constructor
        · exact fun y => bad_m y (by omega)
        · intro y
          exact Classical.byContradiction (fun y2 => bad_s y2 (fun y3 => by omega) y)
    · replace q := of_decide_eq_false q
      have st := lS_step (t := t w (w + 1 + k)) (i := I (w + 1 + k)) (lu := V 133 (w + 1 + k)) (ld := V 134 (w + 1 + k)) (bd2 := bad t I w (k + 1)) hsc hSb hs (by omega) (by omega) hRk (fun y => bad_m y (by omega)) (fun y => ⟨k, by omega, by omega, y⟩) (fun y1 y2 => bad_s y1 (fun y3 => y2 y3.2))
      rw [← eS] at st
      rcases st with ⟨s1, s2, s3⟩ | ⟨u2, d2, s1, s2, hd2, b1, b2, s3⟩
      · refine Ev.blk 28 (B171_125 _ _ _ _ _ _ _ _ _ _ _ _ (by omega) ⟨by omega, by omega⟩ (by rw [Int.toNat_natCast, s2]; decide) (cmpI_in _ _)) rfl ?_
        rw [Int.toNat_natCast, s1, s2]
        refine Ev.ite (fun y => absurd y (by decide)) (fun _ => ?_)
        refine Ev.blk 2 (B171_171 _ _ _ _ _ _ _ _ _ _ _ _) rfl ?_
        refine Ev.blk 9 (B171_182 _ _ _ _ _ _ _ _ _ _ _ _ _ (by decide) (by decide) (by decide) (by decide) (by decide)) rfl ?_
        refine Ev.kill [false, false, false, false, false, false, false, false, false, false, false, false, true] ?_
        dsimp only [mkl]
        exact at198 _ _ _ s3
      · have hg : 0 < Nat.gcd u2 d2 := Nat.gcd_pos_of_pos_right u2 hd2
        have hg2 : Nat.gcd u2 d2 ≤ d2 := Nat.le_of_dvd hd2 (Nat.gcd_dvd_right u2 d2)
        refine Ev.blk 28 (B171_125 _ _ _ _ _ _ _ _ _ _ _ _ (by omega) ⟨by omega, by omega⟩ (by rw [Int.toNat_natCast, s2]; exact ⟨by omega, by omega⟩) (cmpI_in _ _)) rfl ?_
        rw [Int.toNat_natCast, s1, s2]
        refine Ev.ite (fun _ => ?_) (fun y => absurd ((cmpI_eq _ _).mp (nd_f y)) (by omega))
        refine Ev.blk 2 (B171_175 _ _ _ _ _ _ _ _ _ _ _ _) rfl ?_
        refine Ev.call rfl rfl rfl (x_gcdR (d := d) (x := u2) (y := d2) (by omega) (by omega)) (by omega) ?_
        rintro v V' b' ⟨rfl, h_, g_⟩
        subst V' b'
        refine Ev.blk 9 (B171_182 _ _ _ _ _ _ _ _ _ _ _ _ _ ⟨by omega, by omega⟩ ⟨by omega, by omega⟩ (by omega) ⟨by omega, by omega⟩ (by omega)) rfl ?_
        refine Ev.kill [false, false, false, false, false, false, false, false, false, false, false, false, true] ?_
        dsimp only [mkl]
        rw [tdivN, tdivN]
        exact at198 _ _ _ s3
theorem lf2_lp {L d : Nat} {V : Mv} {b : Bool} {Q : Option AV → Mv → Bool → Prop} {m n1 : Nat} {t : Nat → Nat → Int} {lv I : Nat → Int} {wr x3 : Int} (hm : m < 3) (hH : lfH n1 t lv) (hw0 : V 121 m = (n1 : Int)) (ht : ∀ i j, i < 8 → j < 8 → i ≠ j → V 123 (64 * m + 8 * i + j) = t i j) (hE : ∀ x, x < n1 → lfE n1 (Fp lv n1) t lv I x) (hlv : ∀ x : Nat, x < 8 → rLv V (m : Int) (x : Int) = lv x) (hQ : ∀ W, ((∀ x, x ≠ 133 → x ≠ 134 → W x = V x) ∧ (∀ x, 0 ≤ x → x < n1 → lR (Fp lv n1) (I x) (W 133 x) (W 134 x))) → Ev L (d + 1) 171 273 [some (.inr (.inr 120)), some (.inl (m : Int)), some (.inl wr), some (.inl x3), some (.inl (((0 : Nat) : Int) - 1)), none, none, none, none, none, none, none, none, none] [] W b Q) : ∀ (n : Nat) (W : Mv), n ≤ n1 → ((∀ x, x ≠ 133 → x ≠ 134 → W x = V x) ∧ (∀ x, n ≤ x → x < n1 → lR (Fp lv n1) (I x) (W 133 x) (W 134 x))) → Ev L (d + 1) 171 23 [some (.inr (.inr 120)), some (.inl (m : Int)), some (.inl wr), some (.inl x3), some (.inl (((n : Nat) : Int) - 1)), none, none, none, none, none, none, none, none, none] [] W b Q
  | 0, W, h, hr => by
    refine Ev.blk 2 (B171_23 _ _ _ _ _ _ _ (by decide)) rfl ?_
    refine Ev.ite (fun _ => ?_) (fun h => absurd h (by decide))
    exact hQ W hr
  | w + 1, W, h, hr => by
    have ih := lf2_lp (L := L) (d := d) hm hH hw0 ht hE hlv hQ w
    rw [show (((w + 1 : Nat) : Int) - 1) = (w : Int) by omega]
    have h8 := hH.2.1
    have hsc := Fp_n hH
    have hlb := hH.2.2.1 w (by omega)
    have hw121 : W 121 m = (n1 : Int) := by rw [hr.1 121 (by omega) (by omega)]; exact hw0
    have u121 : uV W 133 w 0 121 m = (n1 : Int) := by rw [uV_ne (by omega)]; exact hw121
    have fin : ∀ (x5 : Int) (Y : Mv), (∀ x, x ≠ 133 → x ≠ 134 → Y x = W x) → (∀ x, x ≠ w → Y 133 x = W 133 x ∧ Y 134 x = W 134 x) → lR (Fp lv n1) (I w) (Y 133 w) (Y 134 w) → Ev L (d + 1) 171 267 [some (.inr (.inr 120)), some (.inl (m : Int)), some (.inl wr), some (.inl x3), some (.inl (w : Int)), some (.inl x5), none, none, none, none, none, none, none, none] [] Y b Q := by
      intro x5 Y y1 y2 y3
      refine Ev.blk 2 (B171_267 _ _ _ _ _ _ _ _) rfl ?_
      refine Ev.kill [false, false, false, false, false, true] ?_
      dsimp only [mkl]
      refine ih Y (by omega) ⟨fun x q1 q2 => by rw [y1 x q1 q2, hr.1 x q1 q2], fun x q1 q2 => ?_⟩
      by_cases e : x = w
      · rw [e]; exact y3
      · rw [(y2 x e).1, (y2 x e).2]
        exact hr.2 x (by omega) q2
    have at60 : ∀ z : Int, (w + 1 = n1 ∧ z = 1 ∨ w + 1 < n1 ∧ z = 0) → Ev L (d + 1) 171 60 [some (.inr (.inr 120)), some (.inl (m : Int)), some (.inl wr), some (.inl x3), some (.inl (w : Int)), none, none, none, none, none, none, none, none, none] [.inr (.inl z), .inl (w : Int), .inr (.inr 134)] (uV W 133 w 0) b Q := by
      intro z hz
      refine Ev.blk 4 (J171_60 _ _ _ _ _ _ _ _ _ _ _ (show TT L 134 = (2, 8) from rfl) ⟨by omega, by omega⟩ (by decide)) rfl ?_
      rw [Int.toNat_natCast]
      obtain ⟨Y, hY⟩ : ∃ Y, Y = uV (uV W 133 w 0) 134 w z := ⟨_, rfl⟩
      rw [← hY]
      have y1 : ∀ x, x ≠ 133 → x ≠ 134 → Y x = W x := fun x q1 q2 => by rw [hY, uV_ne q2, uV_ne q1]
      have y2 : ∀ x, x ≠ w → Y 133 x = W 133 x ∧ Y 134 x = W 134 x := fun x q => by
        rw [hY, uV_ne (by omega), uV_at, if_neg q, uV_at, if_neg q, uV_ne (by omega)]
        exact ⟨rfl, rfl⟩
      have y3 : Y 133 w = 0 ∧ Y 134 w = z := by
        rw [hY, uV_ne (by omega), uV_at, if_pos rfl, uV_at, if_pos rfl]
        exact ⟨rfl, rfl⟩
      have yl : rLv Y (m : Int) (w : Int) = lv w := by
        rw [rLv_congr (show Y 123 = V 123 by rw [y1 123 (by omega) (by omega), hr.1 123 (by omega) (by omega)])]
        exact hlv w (by omega)
      refine Ev.call rfl rfl rfl (x_leaves (d := d) (m := (m : Int)) (w := (w : Int)) (by omega) (by omega)) (by omega) ?_
      rintro v V' b' ⟨rfl, h_, g_⟩
      subst V' b'
      rw [yl]
      refine Ev.blk 3 (B171_68 _ _ _ _ _ _ _ _ ⟨by omega, by omega⟩) rfl ?_
      refine Ev.ite (fun q => ?_) (fun q => ?_)
      · replace q := of_decide_eq_true q
        refine fin _ Y y1 y2 ?_
        rw [y3.1, y3.2]
        rcases hz with ⟨z1, z2⟩ | ⟨z1, z2⟩
        · have hI := (hE w (by omega)).1 z1
          rw [hI, z2]
          refine Or.inr ⟨Int.le_refl 0, 0, 1, rfl, rfl, by omega, rfl, ?_⟩
          show (0 : Int) * _ = 0 * 1
          rw [Int.zero_mul, Int.zero_mul]
        · have hI := ((hE w (by omega)).2 z1).1 (Or.inl (by omega))
          rw [z2]
          exact Or.inl ⟨hI, rfl, rfl⟩
      · replace q := of_decide_eq_false q
        have z1 : w + 1 < n1 := by
          rcases hz with ⟨z1, _⟩ | ⟨z1, _⟩
          · have h0 : lv (n1 - 1) = 0 := hH.2.2.2.2.2
            rw [show n1 - 1 = w by omega] at h0
            omega
          · exact z1
        have hEw := (hE w (by omega)).2 z1
        refine Ev.blk 8 (B171_75 _ _ _ _ _ _ _ _) rfl ?_
        refine lf1_lp (V := Y) (w := w) hm hH (by rw [y1 121 (by omega) (by omega)]; exact hw121) (fun i j hi hj hij => by rw [y1 123 (by omega) (by omega), hr.1 123 (by omega) (by omega)]; exact ht i j hi hj hij) hE z1 (fun x q1 q2 => by rw [(y2 x (by omega)).1, (y2 x (by omega)).2]; exact hr.2 x (by omega) q2) (fun up down hs => ?_) (n1 - 1 - w) 0 10 1 (by omega) (Or.inr ⟨fun z => by obtain ⟨i, hi, _⟩ := z; omega, 10, 1, rfl, rfl, by omega, by decide, ?_⟩)
        · have hK : ∀ x, w < x → x < n1 → lfK n1 t lv I x := fun x _ hx => lfK_all hH hE hx
          have hSb : ¬ bad t I w (n1 - 1 - w) → 1 ≤ 10 * Fp lv n1 + SM t I w (n1 - 1 - w) ∧ 10 * Fp lv n1 + SM t I w (n1 - 1 - w) ≤ 60000000000 := fun hb => by
            have := SM_in hH z1 hK (k := n1 - 1 - w) (Nat.le_refl _) hb
            omega
          have st := lS_fin (o := lv w) (i := I w) hsc hSb hs (by omega) (fun hb => hEw.1 (Or.inr hb)) (fun hb => by
            have hKw := lfK_all hH hE (x := w) (by omega)
            rcases hKw with z | z
            · have := SM_in hH z1 hK (k := n1 - 1 - w) (Nat.le_refl _) hb
              have e9 := hEw.2 (fun y => y.elim (by omega) hb)
              rw [Int.tdiv_eq_ediv_of_nonneg (by omega)] at e9
              have := Int.ediv_nonneg (show 0 ≤ 10 * Fp lv n1 + SM t I w (n1 - 1 - w) by omega) hlb.1
              omega
            · exact ⟨z.1, z.2.2.2 z1⟩)
          have stor : ∀ (x6 x8 x10 p q : Int), Int.tdiv x8 x10 = q → in64 x8 → in64 x10 → ¬ x10 = 0 → lR (Fp lv n1) (I w) p q → Ev L (d + 1) 171 254 [some (.inr (.inr 120)), some (.inl (m : Int)), some (.inl wr), some (.inl x3), some (.inl (w : Int)), some (.inl (lv w)), some (.inr (.inl x6)), none, some (.inr (.inl x8)), none, some (.inr (.inl x10)), none, none, none] [.inr (.inl p), .inl (w : Int), .inr (.inr 133)] Y b Q := by
            intro x6 x8 x10 p q hq1 hx8 hx10 hne hlr
            refine Ev.blk 8 (J171_254 _ _ _ _ _ _ _ _ _ _ _ _ _ _ _ (show TT L 133 = (2, 8) from rfl) ⟨by omega, by omega⟩ (by decide) hx8 hx10 hne (by omega)) rfl ?_
            refine Ev.kill [false, false, false, false, false, false, true, false, true, false, true] ?_
            dsimp only [mkl]
            rw [Int.toNat_natCast, hq1]
            refine fin _ _ (fun x q1 q2 => ?_) (fun x q1 => ⟨?_, ?_⟩) ?_
            · rw [uV_ne q2, uV_ne q1, y1 x q1 q2]
            · rw [uV_ne (by omega), uV_at, if_neg q1, (y2 x q1).1]
            · rw [uV_at, if_neg q1, uV_ne (by omega), (y2 x q1).2]
            · rw [uV_ne (by omega), uV_at, if_pos rfl, uV_at, if_pos rfl]
              exact hlr
          rcases st with ⟨s1, s2, s3⟩ | ⟨u2, d2, s1, s2, hd2, b1, b2, s3⟩
          · rw [s1]
            refine Ev.blk 9 (B171_204 _ _ _ _ _ _ _ _ _ _ _ ⟨by omega, by omega⟩ (by rw [s2]; decide) (cmpI_in _ _)) rfl ?_
            rw [s2]
            refine Ev.ite (fun y => absurd y (by decide)) (fun _ => ?_)
            refine Ev.blk 2 (B171_219 _ _ _ _ _ _ _ _ _ _ _) rfl ?_
            refine Ev.blk 8 (B171_230 _ _ _ _ _ _ _ _ _ _ _ _ (by decide) (by decide)) rfl ?_
            refine Ev.ite (fun y => absurd y (by decide)) (fun _ => ?_)
            refine Ev.blk 2 (J171_245 _ _ _ _ _ _ _ _ _ _ _ _ _ _ (show TT L 133 = (2, 8) from rfl)) rfl ?_
            exact stor 0 0 1 0 0 rfl (by decide) (by decide) (by decide) s3
          · have hg : 0 < Nat.gcd u2 d2 := Nat.gcd_pos_of_pos_right u2 hd2
            have hg2 : Nat.gcd u2 d2 ≤ d2 := Nat.le_of_dvd hd2 (Nat.gcd_dvd_right u2 d2)
            rw [s1]
            refine Ev.blk 9 (B171_204 _ _ _ _ _ _ _ _ _ _ _ ⟨by omega, by omega⟩ (by rw [s2]; exact ⟨by omega, by omega⟩) (cmpI_in _ _)) rfl ?_
            rw [s2]
            refine Ev.ite (fun _ => ?_) (fun y => absurd ((cmpI_eq _ _).mp (nd_f y)) (by omega))
            refine Ev.blk 2 (B171_223 _ _ _ _ _ _ _ _ _ _ _) rfl ?_
            refine Ev.call rfl rfl rfl (x_gcdR (d := d) (x := u2) (y := d2) (by omega) (by omega)) (by omega) ?_
            rintro v V' b' ⟨rfl, h_, g_⟩
            subst V' b'
            refine Ev.blk 8 (B171_230 _ _ _ _ _ _ _ _ _ _ _ _ ⟨by omega, by omega⟩ (cmpI_in _ _)) rfl ?_
            refine Ev.ite (fun _ => ?_) (fun y => absurd ((cmpI_eq _ _).mp (nd_f y)) (by omega))
            refine Ev.blk 3 (J171_249 _ _ _ _ _ _ _ _ _ _ _ _ _ _ (show TT L 133 = (2, 8) from rfl) ⟨by omega, by omega⟩ ⟨by omega, by omega⟩ (by omega)) rfl ?_
            rw [tdivN]
            exact stor _ _ _ _ _ tdivN ⟨by omega, by omega⟩ ⟨by omega, by omega⟩ (by omega) s3
        · show (10 : Int) * Fp lv n1 = (10 * Fp lv n1 + 0) * 1
          omega
    refine Ev.blk 2 (B171_23 _ _ _ _ _ _ _ ⟨by omega, by omega⟩) rfl ?_
    refine Ev.ite (fun q => absurd (of_decide_eq_true q) (by omega)) (fun _ => ?_)
    refine Ev.blk 16 (B171_28 _ _ _ _ _ _ _ (by omega) (by omega) ⟨by omega, by omega⟩ (by rw [Int.toNat_natCast, Int.toNat_natCast, u121]; exact ⟨by omega, by omega⟩)) rfl ?_
    rw [Int.toNat_natCast, Int.toNat_natCast, u121]
    refine Ev.ite (fun q => ?_) (fun q => ?_)
    · replace q := nd_t q
      refine Ev.blk 1 (J171_59 _ _ _ _ _ _ _ _ _ _ (show TT L 134 = (2, 8) from rfl)) rfl ?_
      exact at60 0 (Or.inr ⟨by omega, rfl⟩)
    · replace q := nd_f q
      refine Ev.blk 2 (J171_55 _ _ _ _ _ _ _ _ _ _ (show TT L 134 = (2, 8) from rfl)) rfl ?_
      exact at60 1 (Or.inl ⟨by omega, rfl⟩)
