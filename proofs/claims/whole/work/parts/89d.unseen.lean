/-! the 38 calls: unseen, unseenAct (specs45.py) -/
def sU (V : Mv) (m : Int) : Int := sumN (fun j => V 130 (8 * m.toNat + j)) 8
theorem Inv.uS {N : Nat} {V : Mv} (hi : Inv N V) {m : Int} (h : 0 ≤ m ∧ m < 3) : sumN (V (21 + 15 * m.toNat + 1)) 8 = sU V m := by
  rw [show 21 + 15 * m.toNat + 1 = 22 + 15 * m.toNat by omega]
  exact sumN_congr 8 (fun j hj => hi.th m.toNat j (by omega) hj)
theorem Inv.uSb {N : Nat} {V : Mv} (hi : Inv N V) {m : Int} (h : 0 ≤ m ∧ m < 3) : 0 < sU V m ∧ sU V m ≤ 8000000000000000 := (hi.tv m.toNat (by omega)).sum
def rfU (V : Mv) (m dd : Int) : Int := if 0 ≤ m ∧ m < 3 then (if 1 ≤ dd ∧ dd ≤ 3 then (if 1000000000 < sU V m then -3 else 0) else -2) else -1
theorem rfU_c (V : Mv) (m dd : Int) : -3 ≤ rfU V m dd ∧ rfU V m dd ≤ 0 := by
  unfold rfU
  repeat (first | split | decide)
theorem rfU_0 {V : Mv} {m dd : Int} (h : rfU V m dd = 0) : (0 ≤ m ∧ m < 3) ∧ (1 ≤ dd ∧ dd ≤ 3) ∧ sU V m ≤ 1000000000 := by
  unfold rfU at h
  split at h
  · split at h
    · split at h
      · exact absurd h (by decide)
      · exact ⟨by assumption, by assumption, by omega⟩
    · exact absurd h (by decide)
  · exact absurd h (by decide)
theorem x_rfU {L d N : Nat} {V : Mv} {b : Bool} {m dd : Int} (hi : Inv N V) (h0 : in32 m) (h1 : in32 dd) : Ex L (d + 1) 38 [.inr (.inr 1), .inl m, .inl dd] V b (Ans (some (.inl (rfU V m dd))) V b) := by
  refine Ev.blk 1 (B38_0 _ _ _ _ _) rfl ?_
  refine Ev.call rfl rfl (rfl) (x_isMachineC (d := d) h0) (by omega) ?_
  rintro v V' b' ⟨rfl, h_, g_⟩
  subst V' b'
  refine Ev.blk 1 (B38_4 _ _ _ _ _ _ (by first | assumption | omega | decide | exact b01_in _ | exact cmpI_in _ _ | exact ⟨by omega, by omega⟩)) rfl ?_
  refine Ev.ite (fun q => ?_) (fun q => ?_)
  · replace q := nd_t q
    replace q := b01_1 q
    refine Ev.blk 3 (B38_9 _ _ _ _ _ (by first | assumption | omega | decide | exact b01_in _ | exact cmpI_in _ _ | exact ⟨by omega, by omega⟩)) rfl ?_
    refine Ev.ite (fun q => ?_) (fun q => ?_)
    · replace q := of_decide_eq_true q
      refine Ev.blk 1 (B38_19 _ _ _ _ _) rfl ?_
      refine Ev.ret rfl rfl rfl (by first | rfl | exact decide_eq_true (b01_or _)) ?_
      refine ⟨?_, rfl, rfl⟩
      congr 2
      unfold rfU
      repeat (first | rw [if_pos (by omega)] | rw [if_neg (by omega)])
    · replace q := of_decide_eq_false q
      refine Ev.blk 3 (B38_14 _ _ _ _ _ (by first | assumption | omega | decide | exact b01_in _ | exact cmpI_in _ _ | exact ⟨by omega, by omega⟩)) rfl ?_
      refine Ev.ite (fun q => ?_) (fun q => ?_)
      · replace q := of_decide_eq_true q
        refine Ev.blk 5 (B38_22 _ _ _ _ _ (by first | assumption | omega | decide | exact b01_in _ | exact cmpI_in _ _ | exact ⟨by omega, by omega⟩)) rfl ?_
        refine Ev.call rfl rfl (vg rfl rfl (isT_0 (k_12 (i := m) (by omega))) (congrArg Prod.fst (isT_T (k_12 (i := m) (by omega)))) rfl) (x_sumC (d := d) (a := 21 + 15 * m.toNat) (k_12 (i := m) (by omega))) (by omega) ?_
        rintro v V' b' ⟨rfl, h_, g_⟩
        subst V' b'
        have hs := hi.uSb (m := m) (by omega)
        rw [hi.uS (m := m) (by omega)]
        refine Ev.blk 3 (B38_32 _ _ _ _ _ _ (by first | assumption | omega | decide | exact b01_in _ | exact cmpI_in _ _ | exact ⟨by omega, by omega⟩) (by first | assumption | omega | decide | exact b01_in _ | exact cmpI_in _ _ | exact ⟨by omega, by omega⟩)) rfl ?_
        refine Ev.ite (fun q => ?_) (fun q => ?_)
        · replace q := of_decide_eq_true q
          simp only [cmpI_lt, cmpI_gt, cmpI_ge, cmpI_le, cmpI_eq] at q
          refine Ev.blk 1 (B38_44 _ _ _ _ _) rfl ?_
          refine Ev.ret rfl rfl rfl (by first | rfl | exact decide_eq_true (b01_or _)) ?_
          refine ⟨?_, rfl, rfl⟩
          congr 2
          unfold rfU
          repeat (first | rw [if_pos (by omega)] | rw [if_neg (by omega)])
        · replace q := of_decide_eq_false q
          simp only [cmpI_lt, cmpI_gt, cmpI_ge, cmpI_le, cmpI_eq] at q
          refine Ev.blk 2 (B38_39 _ _ _ _ _) rfl ?_
          refine Ev.ret rfl rfl rfl (by first | rfl | exact decide_eq_true (b01_or _)) ?_
          refine ⟨?_, rfl, rfl⟩
          congr 2
          unfold rfU
          repeat (first | rw [if_pos (by omega)] | rw [if_neg (by omega)])
      · replace q := of_decide_eq_false q
        refine Ev.blk 1 (B38_19 _ _ _ _ _) rfl ?_
        refine Ev.ret rfl rfl rfl (by first | rfl | exact decide_eq_true (b01_or _)) ?_
        refine ⟨?_, rfl, rfl⟩
        congr 2
        unfold rfU
        repeat (first | rw [if_pos (by omega)] | rw [if_neg (by omega)])
  · replace q := nd_f q
    replace q := b01_0 q
    refine Ev.blk 1 (B38_7 _ _ _ _ _) rfl ?_
    refine Ev.ret rfl rfl rfl (by first | rfl | exact decide_eq_true (b01_or _)) ?_
    refine ⟨?_, rfl, rfl⟩
    congr 2
    unfold rfU
    repeat (first | rw [if_pos (by omega)] | rw [if_neg (by omega)])

theorem sR2 {L d : Nat} {V : Mv} {b : Bool} {m : Int} (h : 0 ≤ m ∧ m < 3) : Ex L d 167 [.inr (.inr 120), .inl m] V b (Ans (some (.inr (.inl (sU V m)))) V b) := by
  obtain ⟨i, rfl⟩ : ∃ i : Nat, m = (i : Int) := ⟨m.toNat, by omega⟩
  exact x_sumR (by omega)
theorem x_mayU {L d N : Nat} {V : Mv} {b : Bool} {m dd : Int} (hb : ∀ i : Int, 0 ≤ i ∧ i < 3 → 0 < sU V i ∧ sU V i ≤ 8000000000000000) (h0 : in32 m) (h1 : in32 dd) : Ex L (d + 2) 202 [.inr (.inr 120), .inl m, .inl dd] V b (Ans (some (.inl (rfU V m dd))) V b) := by
  refine Ev.blk 1 (B202_0 _ _ _ _ _) rfl ?_
  refine Ev.call rfl rfl (rfl) (x_isMachineR (d := d) h0) (by omega) ?_
  rintro v V' b' ⟨rfl, h_, g_⟩
  subst V' b'
  refine Ev.blk 1 (B202_4 _ _ _ _ _ _ (by first | assumption | omega | decide | exact b01_in _ | exact cmpI_in _ _ | exact ⟨by omega, by omega⟩)) rfl ?_
  refine Ev.ite (fun q => ?_) (fun q => ?_)
  · replace q := nd_t q
    replace q := b01_1 q
    refine Ev.blk 4 (B202_9 _ _ _ _ _ (by first | assumption | omega | decide | exact b01_in _ | exact cmpI_in _ _ | exact ⟨by omega, by omega⟩)) rfl ?_
    refine Ev.call rfl rfl (rfl) (x_in (d := d) ⟨by omega, by omega⟩ (by decide) (by decide)) (by omega) ?_
    rintro v V' b' ⟨rfl, h_, g_⟩
    subst V' b'
    refine Ev.blk 1 (B202_18 _ _ _ _ _ _ (by first | assumption | omega | decide | exact b01_in _ | exact cmpI_in _ _ | exact ⟨by omega, by omega⟩)) rfl ?_
    refine Ev.ite (fun q => ?_) (fun q => ?_)
    · replace q := nd_t q
      replace q := b01_1 q
      refine Ev.blk 2 (B202_26 _ _ _ _ _) rfl ?_
      refine Ev.call rfl rfl (rfl) ((sR2 (d := d) (m := m) (by omega))) (by omega) ?_
      rintro v V' b' ⟨rfl, h_, g_⟩
      subst V' b'
      have hs := hb m (by omega)
      refine Ev.blk 3 (B202_31 _ _ _ _ _ _ (by first | assumption | omega | decide | exact b01_in _ | exact cmpI_in _ _ | exact ⟨by omega, by omega⟩) (by first | assumption | omega | decide | exact b01_in _ | exact cmpI_in _ _ | exact ⟨by omega, by omega⟩)) rfl ?_
      refine Ev.ite (fun q => ?_) (fun q => ?_)
      · replace q := of_decide_eq_true q
        simp only [cmpI_lt, cmpI_gt, cmpI_ge, cmpI_le, cmpI_eq] at q
        refine Ev.blk 1 (B202_43 _ _ _ _ _) rfl ?_
        refine Ev.ret rfl rfl rfl (by first | rfl | exact decide_eq_true (b01_or _)) ?_
        refine ⟨?_, rfl, rfl⟩
        congr 2
        unfold rfU
        repeat (first | rw [if_pos (by omega)] | rw [if_neg (by omega)])
      · replace q := of_decide_eq_false q
        simp only [cmpI_lt, cmpI_gt, cmpI_ge, cmpI_le, cmpI_eq] at q
        refine Ev.blk 2 (B202_38 _ _ _ _ _) rfl ?_
        refine Ev.ret rfl rfl rfl (by first | rfl | exact decide_eq_true (b01_or _)) ?_
        refine ⟨?_, rfl, rfl⟩
        congr 2
        unfold rfU
        repeat (first | rw [if_pos (by omega)] | rw [if_neg (by omega)])
    · replace q := nd_f q
      replace q := b01_0 q
      refine Ev.blk 2 (B202_21 _ _ _ _ _) rfl ?_
      refine Ev.ret rfl rfl rfl (by first | rfl | exact decide_eq_true (b01_or _)) ?_
      refine ⟨?_, rfl, rfl⟩
      congr 2
      unfold rfU
      repeat (first | rw [if_pos (by omega)] | rw [if_neg (by omega)])
  · replace q := nd_f q
    replace q := b01_0 q
    refine Ev.blk 1 (B202_7 _ _ _ _ _) rfl ?_
    refine Ev.ret rfl rfl rfl (by first | rfl | exact decide_eq_true (b01_or _)) ?_
    refine ⟨?_, rfl, rfl⟩
    congr 2
    unfold rfU
    repeat (first | rw [if_pos (by omega)] | rw [if_neg (by omega)])

theorem lu_lp {L d : Nat} {V : Mv} {b : Bool} {Q : Option AV → Mv → Bool → Prop} {m f : Nat} {dd : Int} {w : Nat → Int} (hm : m < 3) (hf : f ≤ 32) (hw : ∀ a, a < 8 → V 130 (8 * m + a) = w a) (hQ : Ev L d 203 59 [some (.inr (.inr 120)), some (.inl (m : Int)), some (.inl dd), some (.inl (f : Int)), some (.inl (8 : Int))] [] (fil V 142 f w 8) b Q) : ∀ n k : Nat, k + n = 8 → Ev L (d) 203 25 [some (.inr (.inr 120)), some (.inl (m : Int)), some (.inl dd), some (.inl (f : Int)), some (.inl (k : Int))] [] (fil V 142 f w k) b Q
  | 0, k, h => by
    obtain rfl : k = 8 := by omega
    refine Ev.blk 3 (B203_25 _ _ _ _ _ _ _ (by first | assumption | omega | decide | exact cmpI_in _ _ | exact ⟨by omega, by omega⟩)) rfl ?_
    refine Ev.ite (fun q => ?_) (fun q => ?_)
    · replace q := of_decide_eq_true q
      exact hQ
    · replace q := of_decide_eq_false q
      exact absurd q (by omega)
  | n + 1, k, h => by
    have ih := lu_lp (L := L) (d := d) (dd := dd) hm hf hw hQ n (k + 1) (by omega)
    have e0 : ((f : Int) + (k : Int)).toNat = f + k := by omega
    have e1 : (8 * (m : Int) + (k : Int)).toNat = 8 * m + k := by omega
    refine Ev.blk 3 (B203_25 _ _ _ _ _ _ _ (by first | assumption | omega | decide | exact cmpI_in _ _ | exact ⟨by omega, by omega⟩)) rfl ?_
    refine Ev.ite (fun q => ?_) (fun q => ?_)
    · replace q := of_decide_eq_true q
      exact absurd q (by omega)
    · replace q := of_decide_eq_false q
      refine Ev.blk 16 (B203_32 _ _ _ _ _ _ _ (by first | assumption | omega | decide | exact cmpI_in _ _ | exact ⟨by omega, by omega⟩) (by first | assumption | omega | decide | exact cmpI_in _ _ | exact ⟨by omega, by omega⟩)) rfl ?_
      exact Ev.mem (fil_st e0 (by rw [fil_ne (by omega), e1]; exact hw k (by omega))) ih

theorem x_layU {L : Nat} {V : Mv} {b : Bool} {m n1 : Nat} {G : Nat → Nat → Int} {kq co mc mw : Nat → Int} {lk : Int} {l : Nat} {w : Nat → Int} (hm : m < 3) (hU : UR V m n1 G kq co mc mw lk) (hB : UB n1 G kq co mc mw lk) (hl : l ≤ 2) (hw : ∀ a, a < 8 → V 130 (8 * m + a) = w a) (hz : Zb n1 w) (hW : Wn n1 w (wB 2)) : Ex L 11 203 [.inr (.inr 120), .inl (m : Int), .inl ((l + 1 : Nat) : Int)] V b (fun r V' b' => r = some (.inr (.inl (uC G kq co mc mw lk n1 l w).1)) ∧ b' = b ∧ (∀ y, y ≠ 120 → y ≠ 142 → V' y = V y) ∧ (∀ j, j ≠ 33 → V' 120 j = V 120 j) ∧ V' 120 33 = (uC G kq co mc mw lk n1 l w).2) := by
  have hX0 : XL L 216 m n1 G kq co mc mw lk 0 32 := xL_0 hm hB (xA_0 hm hB)
  have hX1 : XL L 213 m n1 G kq co mc mw lk 1 16 := xL_1 hm hB (xA_1 hm hB (xB_1 hm hB hX0))
  have hX2 : XL L 204 m n1 G kq co mc mw lk 2 0 := xL_2 hm hB (xA_2 hm hB (xB_2 hm hB hX1))
  have hU2 : ∀ f, UR (fil V 142 f w 8) m n1 G kq co mc mw lk := fun f => hU.frame (fun y q1 q2 => fil_ne (by omega))
  have : l = 0 ∨ l = 1 ∨ l = 2 := by omega
  rcases this with rfl | rfl | rfl
  · refine Ev.blk 3 (B203_0 _ _ _ _ _ (by decide)) rfl ?_
    refine Ev.ite (fun _ => ?_) (fun h => absurd h (by decide))
    refine Ev.blk 3 (B203_9 _ _ _ _ _ (by decide)) rfl ?_
    refine Ev.ite (fun _ => ?_) (fun h => absurd h (by decide))
    refine Ev.blk 1 (B203_19 _ _ _ _ _) rfl ?_
    refine Ev.blk 3 (B203_21 _ _ _ _ _ _) rfl ?_
    refine Ev.mem (fil_0 V 142 32 w).symm (lu_lp (f := 32) hm (by omega) hw ?_ 8 0 rfl)
    refine Ev.blk 3 (B203_59 _ _ _ _ _ _ _ (by decide)) rfl ?_
    refine Ev.ite (fun _ => ?_) (fun h => absurd h (by decide))
    refine Ev.blk 3 (B203_72 _ _ _ _ _ _ _ (by decide)) rfl ?_
    refine Ev.ite (fun _ => ?_) (fun h => absurd h (by decide))
    refine Ev.blk 2 (B203_85 _ _ _ _ _ _ _) rfl ?_
    refine Ev.call rfl rfl rfl (hX0 (fil V 142 32 w 8) b w (hU2 32) (fun a ha => fil_at ha) hz (hW.le (by decide))) (by omega) ?_
    rintro v V1 b1 ⟨rfl, rfl, g1, g2, g3, g4⟩
    exact Ev.ret rfl rfl rfl rfl ⟨rfl, rfl, fun y q1 q2 => by rw [g1 y q1 q2, fil_ne q2], fun j hj => by rw [g2 j hj, fil_ne (by omega)], g4⟩
  · refine Ev.blk 3 (B203_0 _ _ _ _ _ (by decide)) rfl ?_
    refine Ev.ite (fun _ => ?_) (fun h => absurd h (by decide))
    refine Ev.blk 3 (B203_9 _ _ _ _ _ (by decide)) rfl ?_
    refine Ev.ite (fun h => absurd h (by decide)) (fun _ => ?_)
    refine Ev.blk 2 (B203_14 _ _ _ _ _) rfl ?_
    refine Ev.blk 3 (B203_21 _ _ _ _ _ _) rfl ?_
    refine Ev.mem (fil_0 V 142 16 w).symm (lu_lp (f := 16) hm (by omega) hw ?_ 8 0 rfl)
    refine Ev.blk 3 (B203_59 _ _ _ _ _ _ _ (by decide)) rfl ?_
    refine Ev.ite (fun _ => ?_) (fun h => absurd h (by decide))
    refine Ev.blk 3 (B203_72 _ _ _ _ _ _ _ (by decide)) rfl ?_
    refine Ev.ite (fun h => absurd h (by decide)) (fun _ => ?_)
    refine Ev.blk 2 (B203_77 _ _ _ _ _ _ _) rfl ?_
    refine Ev.call rfl rfl rfl (hX1 (fil V 142 16 w 8) b w (hU2 16) (fun a ha => fil_at ha) hz (hW.le (by decide))) (by omega) ?_
    rintro v V1 b1 ⟨rfl, rfl, g1, g2, g3, g4⟩
    refine Ev.blk 1 (B203_82 _ _ _ _ _ _ _ _) rfl ?_
    exact Ev.ret rfl rfl rfl rfl ⟨rfl, rfl, fun y q1 q2 => by rw [g1 y q1 q2, fil_ne q2], fun j hj => by rw [g2 j hj, fil_ne (by omega)], g4⟩
  · refine Ev.blk 3 (B203_0 _ _ _ _ _ (by decide)) rfl ?_
    refine Ev.ite (fun h => absurd h (by decide)) (fun _ => ?_)
    refine Ev.blk 2 (B203_5 _ _ _ _ _) rfl ?_
    refine Ev.blk 3 (B203_21 _ _ _ _ _ _) rfl ?_
    refine Ev.mem (fil_0 V 142 0 w).symm (lu_lp (f := 0) hm (by omega) hw ?_ 8 0 rfl)
    refine Ev.blk 3 (B203_59 _ _ _ _ _ _ _ (by decide)) rfl ?_
    refine Ev.ite (fun h => absurd h (by decide)) (fun _ => ?_)
    refine Ev.blk 2 (B203_64 _ _ _ _ _ _ _) rfl ?_
    refine Ev.call rfl rfl rfl (hX2 (fil V 142 0 w 8) b w (hU2 0) (fun a ha => fil_at ha) hz hW) (by omega) ?_
    rintro v V1 b1 ⟨rfl, rfl, g1, g2, g3, g4⟩
    refine Ev.blk 1 (B203_69 _ _ _ _ _ _ _ _) rfl ?_
    exact Ev.ret rfl rfl rfl rfl ⟨rfl, rfl, fun y q1 q2 => by rw [g1 y q1 q2, fil_ne q2], fun j hj => by rw [g2 j hj, fil_ne (by omega)], g4⟩
theorem acV_act {mc mw : Nat → Int} {n l : Nat} {g : (Nat → Int) → Int} {w : Nat → Int} : ∀ i, i ≤ 4 → 0 ≤ (acV mc mw n l g w i).2 ∧ (acV mc mw n l g w i).2 ≤ 4
  | 0, _ => ⟨Int.le_refl 0, by show (0 : Int) ≤ 4; decide⟩
  | i + 1, h => by
    have ih := acV_act (mc := mc) (mw := mw) (n := n) (l := l) (g := g) (w := w) i (by omega)
    by_cases q : ¬ mw i = -9 ∧ sumN w n * meV mc mw l g i < (acV mc mw n l g w i).1
    · rw [acV_t q.1 q.2]
      show 0 ≤ (i : Int) + 1 ∧ (i : Int) + 1 ≤ 4
      omega
    · rw [acV_f q]
      exact ih
theorem uC_act {G : Nat → Nat → Int} {kq co mc mw : Nat → Int} {lk : Int} {n l : Nat} {w : Nat → Int} : 0 ≤ (uC G kq co mc mw lk n l w).2 ∧ (uC G kq co mc mw lk n l w).2 ≤ 5 := by
  unfold uC chU
  split
  · exact ⟨by show (0 : Int) ≤ 5; decide, by show (5 : Int) ≤ 5; decide⟩
  · have := acV_act (mc := mc) (mw := mw) (n := n) (l := l) (g := uG G kq co mc mw lk n l) (w := w) 4 (Nat.le_refl _)
    omega
theorem op_unseenAct (a0 a1 : Int) (h0 : in32 a0) (h1 : in32 a1) : OpI 39 218 [.inl a0, .inl a1] := by
  intro L N V b hL hN hI
  have hi := hI.1
  have hrc := rfU_c V a0 a1
  refine Ev.blk 3 (B39_0 _ _ _ _ _) rfl ?_
  refine Ev.call rfl rfl rfl (x_rfU (d := 27) hi h0 h1) (by omega) ?_
  rintro v V' b' ⟨rfl, h_, g_⟩
  subst V' b'
  refine Ev.blk 3 (B39_6 _ _ _ _ _ _ ⟨by omega, by omega⟩) rfl ?_
  refine Ev.ite (fun q => ?_) (fun q => ?_)
  · replace q := of_decide_eq_true q
    have hr := rfU_0 q
    obtain ⟨i0, rfl⟩ : ∃ k : Nat, a0 = (k : Int) := ⟨a0.toNat, by omega⟩
    obtain ⟨l, rfl⟩ : ∃ k : Nat, a1 = ((k + 1 : Nat) : Int) := ⟨a1.toNat - 1, by omega⟩
    have hi3 : i0 < 3 := by omega
    have hk := hi.kd i0 hi3
    have hK : isK (14 + 15 * i0) := k_11 (i := (i0 : Int)) (by omega)
    have hT : isT (21 + 15 * i0) := k_12 (i := (i0 : Int)) (by omega)
    obtain ⟨wn, hwn, hPK, hPR, hPB⟩ := hk.rows
    have hww := hk.w
    have hB : UB wn (fun i j => rGo V (i0 : Int) (i : Int) (j : Int)) (fun j => V 125 (8 * i0 + j)) (fun j => V 124 (8 * i0 + j)) (fun j => V 127 (4 * i0 + j)) (fun j => V 126 (4 * i0 + j)) (V 122 i0) := ⟨hPB, fun j hj => (hk.kn j hj).2, hk.lk9⟩
    have hUK : UK V (14 + 15 * i0) wn (fun i j => rGo V (i0 : Int) (i : Int) (j : Int)) (fun j => V 125 (8 * i0 + j)) (fun j => V 124 (8 * i0 + j)) (fun j => V 127 (4 * i0 + j)) (fun j => V 126 (4 * i0 + j)) (V 122 i0) := ⟨hPK, fun j hj => (hk.kn j hj).1, hk.lk⟩
    have hUR : UR V i0 wn (fun i j => rGo V (i0 : Int) (i : Int) (j : Int)) (fun j => V 125 (8 * i0 + j)) (fun j => V 124 (8 * i0 + j)) (fun j => V 127 (4 * i0 + j)) (fun j => V 126 (4 * i0 + j)) (V 122 i0) := ⟨hPR, fun j _ => rfl, rfl⟩
    have hv := hi.tv i0 hi3
    have hz : Zb wn (fun a => V 130 (8 * i0 + a)) := fun a h1 h2 => hv.z a h2 (by omega)
    have hs : sU V (i0 : Int) = sumN (fun a => V 130 (8 * i0 + a)) 8 := rfl
    have hs8 := sum8 hz hPB.2.1
    have hsb := hi.uSb (m := (i0 : Int)) (by omega)
    have hW : Wn wn (fun a => V 130 (8 * i0 + a)) (wB 2) := ⟨fun a ha => (hv.b a (by have := hPB.2.1; omega)).1, by show _ ≤ (1000000000 : Int); omega⟩
    have hWl : Wn wn (fun a => V 130 (8 * i0 + a)) (wB l) := hW.le (by have : l = 0 ∨ l = 1 ∨ l = 2 := by omega
                                                                       rcases this with rfl | rfl | rfl <;> decide)
    have hwc : ∀ a, a < wn → V (21 + 15 * i0 + 1) a = (fun a => V 130 (8 * i0 + a)) a := fun a ha => by
      rw [show 21 + 15 * i0 + 1 = 22 + 15 * i0 by omega]
      exact hi.th i0 a hi3 (by have := hPB.2.1; omega)
    refine Ev.blk 11 (B39_13 _ _ _ _ _ _ (by omega)) rfl ?_
    rw [Int.toNat_natCast]
    refine Ev.call rfl rfl rfl (x_unsF hK hUK hB hT (by omega) hwc hWl) (by omega) ?_
    rintro v V1 b1 ⟨rfl, rfl, f1, f2, f3⟩
    refine Ev.blk 3 (B39_33 _ _ _ _ _ _) rfl ?_
    rw [f3]
    have hact := uC_act (G := fun i j => rGo V (i0 : Int) (i : Int) (j : Int)) (kq := fun j => V 125 (8 * i0 + j)) (co := fun j => V 124 (8 * i0 + j)) (mc := fun j => V 127 (4 * i0 + j)) (mw := fun j => V 126 (4 * i0 + j)) (lk := V 122 i0) (n := wn) (l := l) (w := fun a => V 130 (8 * i0 + a))
    refine Ev.ret rfl rfl rfl rfl ⟨_, rfl, ⟨by omega, by omega⟩, f1 0 (by omega), ?_⟩
    have esU : ∀ i, sU V1 i = sU V i := fun i => by unfold sU; rw [f1 130 (by omega)]
    have erf : rfU V1 (i0 : Int) ((l + 1 : Nat) : Int) = 0 := by
      unfold rfU
      rw [if_pos (by omega), if_pos (by omega), if_neg (by rw [esU]; omega)]
    refine Ev.blk 3 (B218_0 _ _ _ _ _) rfl ?_
    refine Ev.call rfl rfl rfl (x_mayU (N := N) (d := 26) (fun i h => by rw [esU]; exact hi.uSb h) h0 h1) (by omega) ?_
    rintro v V' b' ⟨rfl, h_, g_⟩
    subst V' b'
    rw [erf]
    refine Ev.blk 3 (B218_6 _ _ _ _ _ _ (by decide)) rfl ?_
    refine Ev.ite (fun _ => ?_) (fun h => absurd h (by decide))
    refine Ev.blk 3 (B218_13 _ _ _ _ _ _) rfl ?_
    refine Ev.call rfl rfl rfl (x_layU hi3 (hUR.frame (fun x n1 n2 => f1 x (by omega))) hB (by omega) (w := fun a => V 130 (8 * i0 + a)) (fun a ha => by rw [f1 130 (by omega)]) hz hW) (by omega) ?_
    rintro v V4 b4 ⟨rfl, rfl, g1, g2, g3⟩
    refine Ev.blk 3 (B218_19 _ _ _ _ _ _ _) rfl ?_
    rw [g3]
    refine Ev.ret rfl rfl rfl rfl ⟨rfl, (hi.more (Nat.le_succ N)).frame (fun a ha => ?_) ?_ ?_, fun k => ?_⟩
    · unfold dI at ha
      rw [g1 a (by omega) (by omega), f1 a (by omega)]
    · rw [g2 10 (by omega), f1 120 (by omega)]
    · rw [g2 37 (by omega), f1 120 (by omega)]
    · rw [g1 0 (by omega) (by omega), f1 0 (by omega)]
      exact hI.2 k
  · replace q := of_decide_eq_false q
    refine Ev.blk 1 (B39_11 _ _ _ _ _ _) rfl ?_
    refine Ev.ret rfl rfl rfl rfl ⟨_, rfl, ⟨by omega, by omega⟩, rfl, ?_⟩
    refine Ev.blk 3 (B218_0 _ _ _ _ _) rfl ?_
    refine Ev.call rfl rfl rfl (x_mayU (N := N) (d := 26) (fun i h => hi.uSb h) h0 h1) (by omega) ?_
    rintro v V' b' ⟨rfl, h_, g_⟩
    subst V' b'
    refine Ev.blk 3 (B218_6 _ _ _ _ _ _ ⟨by omega, by omega⟩) rfl ?_
    refine Ev.ite (fun h => absurd (of_decide_eq_true h) (by omega)) (fun _ => ?_)
    refine Ev.blk 1 (B218_11 _ _ _ _ _ _) rfl ?_
    exact Ev.ret rfl rfl rfl rfl ⟨rfl, hi.more (Nat.le_succ N), hI.2⟩
theorem op_unseen (a0 a1 a2 : Int) (h0 : in32 a0) (h1 : in32 a1) (h2 : a2 = 0 ∨ a2 = 1) : OpJ 37 201 [.inl a0, .inl a1, .inl a2] := by
  intro L N V b hL hN hI
  have hi := hI.1
  have hrc := rfU_c V a0 a1
  refine Ev.blk 3 (B37_0 _ _ _ _ _ _) rfl ?_
  refine Ev.call rfl rfl rfl (x_rfU (d := 27) hi h0 h1) (by omega) ?_
  rintro v V' b' ⟨rfl, h_, g_⟩
  subst V' b'
  refine Ev.blk 3 (B37_6 _ _ _ _ _ _ _ ⟨by omega, by omega⟩) rfl ?_
  refine Ev.ite (fun q => ?_) (fun q => ?_)
  · replace q := of_decide_eq_true q
    have hr := rfU_0 q
    obtain ⟨i0, rfl⟩ : ∃ k : Nat, a0 = (k : Int) := ⟨a0.toNat, by omega⟩
    obtain ⟨l, rfl⟩ : ∃ k : Nat, a1 = ((k + 1 : Nat) : Int) := ⟨a1.toNat - 1, by omega⟩
    have hi3 : i0 < 3 := by omega
    have hk := hi.kd i0 hi3
    have hK : isK (14 + 15 * i0) := k_11 (i := (i0 : Int)) (by omega)
    have hT : isT (21 + 15 * i0) := k_12 (i := (i0 : Int)) (by omega)
    obtain ⟨wn, hwn, hPK, hPR, hPB⟩ := hk.rows
    have hww := hk.w
    have hB : UB wn (fun i j => rGo V (i0 : Int) (i : Int) (j : Int)) (fun j => V 125 (8 * i0 + j)) (fun j => V 124 (8 * i0 + j)) (fun j => V 127 (4 * i0 + j)) (fun j => V 126 (4 * i0 + j)) (V 122 i0) := ⟨hPB, fun j hj => (hk.kn j hj).2, hk.lk9⟩
    have hUK : UK V (14 + 15 * i0) wn (fun i j => rGo V (i0 : Int) (i : Int) (j : Int)) (fun j => V 125 (8 * i0 + j)) (fun j => V 124 (8 * i0 + j)) (fun j => V 127 (4 * i0 + j)) (fun j => V 126 (4 * i0 + j)) (V 122 i0) := ⟨hPK, fun j hj => (hk.kn j hj).1, hk.lk⟩
    have hUR : UR V i0 wn (fun i j => rGo V (i0 : Int) (i : Int) (j : Int)) (fun j => V 125 (8 * i0 + j)) (fun j => V 124 (8 * i0 + j)) (fun j => V 127 (4 * i0 + j)) (fun j => V 126 (4 * i0 + j)) (V 122 i0) := ⟨hPR, fun j _ => rfl, rfl⟩
    have hv := hi.tv i0 hi3
    have hz : Zb wn (fun a => V 130 (8 * i0 + a)) := fun a h1 h2 => hv.z a h2 (by omega)
    have hs : sU V (i0 : Int) = sumN (fun a => V 130 (8 * i0 + a)) 8 := rfl
    have hs8 := sum8 hz hPB.2.1
    have hsb := hi.uSb (m := (i0 : Int)) (by omega)
    have hW : Wn wn (fun a => V 130 (8 * i0 + a)) (wB 2) := ⟨fun a ha => (hv.b a (by have := hPB.2.1; omega)).1, by show _ ≤ (1000000000 : Int); omega⟩
    have hWl : Wn wn (fun a => V 130 (8 * i0 + a)) (wB l) := hW.le (by have : l = 0 ∨ l = 1 ∨ l = 2 := by omega
                                                                       rcases this with rfl | rfl | rfl <;> decide)
    have hwc : ∀ a, a < wn → V (21 + 15 * i0 + 1) a = (fun a => V 130 (8 * i0 + a)) a := fun a ha => by
      rw [show 21 + 15 * i0 + 1 = 22 + 15 * i0 by omega]
      exact hi.th i0 a hi3 (by have := hPB.2.1; omega)
    have hF : isF 107 := by unfold isF; decide
    have hcb := chU_bd (l := l) (mw := fun j => V 126 (4 * i0 + j)) (uG_bd hB l (by omega)) hB.1.2.2.2.2.2 hB.2.2 (by omega) hWl
    have hkw : KG l * wB l ≤ 1000000000000000000 := by rw [Int.mul_comm]; exact (wB_b (l := l) (by omega)).2.2.2.1
    obtain ⟨X, hX⟩ : ∃ X : Nat, (uC (fun i j => rGo V (i0 : Int) (i : Int) (j : Int)) (fun j => V 125 (8 * i0 + j)) (fun j => V 124 (8 * i0 + j)) (fun j => V 127 (4 * i0 + j)) (fun j => V 126 (4 * i0 + j)) (V 122 i0) wn l (fun a => V 130 (8 * i0 + a))).1 = (X : Int) := ⟨_, (Int.toNat_of_nonneg hcb.1).symm⟩
    have hXb : X ≤ 1000000000000000000 := by
      have h3 : (uC (fun i j => rGo V (i0 : Int) (i : Int) (j : Int)) (fun j => V 125 (8 * i0 + j)) (fun j => V 124 (8 * i0 + j)) (fun j => V 127 (4 * i0 + j)) (fun j => V 126 (4 * i0 + j)) (V 122 i0) wn l (fun a => V 130 (8 * i0 + a))).1 ≤ KG l * wB l := hcb.2
      omega
    have hp := pw100 (t := l) (by omega)
    obtain ⟨S, hS⟩ : ∃ S : Nat, sU V (i0 : Int) = (S : Int) := ⟨_, (Int.toNat_of_nonneg (by omega : 0 ≤ sU V (i0 : Int))).symm⟩
    obtain ⟨P, hP⟩ : ∃ P : Nat, pw 100 l = (P : Int) := ⟨_, (Int.toNat_of_nonneg (by omega : 0 ≤ pw 100 l)).symm⟩
    have hSP : S * P ≤ 1000000000 * 10000 := Nat.mul_le_mul (by omega) (by omega)
    have hSP0 : 0 < S * P := Nat.mul_pos (by omega) (by omega)
    obtain ⟨Y, hY⟩ : ∃ Y, Y = S * P := ⟨_, rfl⟩
    rw [← hY] at hSP hSP0
    refine Ev.blk 11 (B37_17 _ _ _ _ _ _ _ (by omega)) rfl ?_
    rw [Int.toNat_natCast]
    refine Ev.call rfl rfl rfl (x_unsF hK hUK hB hT (by omega) hwc hWl) (by omega) ?_
    rintro v V1 b1 ⟨rfl, rfl, f1, f2, f3⟩
    have esU : ∀ i, sU V1 i = sU V i := fun i => by unfold sU; rw [f1 130 (by omega)]
    refine Ev.blk 10 (B37_37 _ _ _ _ _ _ _ (by omega)) rfl ?_
    rw [Int.toNat_natCast, f2, hX]
    refine Ev.call rfl rfl (vg rfl rfl (isT_0 hT) (congrArg Prod.fst (isT_T hT)) rfl) (x_sumC (d := 28) hT) (by omega) ?_
    rintro v V' b' ⟨rfl, h_, g_⟩
    subst V' b'
    have eS : sumN (V1 (21 + 15 * i0 + 1)) 8 = (S : Int) := by
      rw [f1 _ (by omega)]
      have := hi.uS (m := (i0 : Int)) (by omega)
      rw [Int.toNat_natCast] at this
      rw [this, hS]
    rw [eS]
    refine Ev.blk 4 (B37_58 _ _ _ _ _ _ _ _ _ _) rfl ?_
    rw [show ((l + 1 : Nat) : Int) - 1 = (l : Int) by omega]
    refine Ev.call rfl rfl rfl (x_power (d := 28) (x := 100) (t := l) (by omega)) (by omega) ?_
    rintro v V' b' ⟨rfl, h_, g_⟩
    subst V' b'
    refine Ev.blk 1 (B37_67 _ _ _ _ _ _ _ _ _ _ _) rfl ?_
    have eY : (S : Int) * pw 100 l = (Y : Int) := by rw [hP, hY]; exact (Int.natCast_mul S P).symm
    rw [eY]
    refine Ev.call rfl rfl rfl (x_become (d := 27) (a := 107) (x := X) (y := Y) hF (by omega) (by omega) (by omega)) (by omega) ?_
    rintro v V2 b2 ⟨rfl, rfl, rfl⟩
    refine Ev.blk 3 (B37_71 _ _ _ _ _ _ _) rfl ?_
    refine Ev.call rfl rfl rfl (x_toldC (d := 28) hF h2) (by omega) ?_
    rintro v V3 b3 ⟨rfl, rfl, rfl⟩
    have d1 := Nat.div_le_self X (Nat.gcd X Y)
    have d2 := Nat.div_le_self Y (Nat.gcd X Y)
    have w1 : ∀ x, x ≠ 107 → ¬ (111 ≤ x ∧ x ≤ 114) → uV (uV V1 107 0 ((X / Nat.gcd X Y : Nat) : Int)) 107 1 ((Y / Nat.gcd X Y : Nat) : Int) x = V x := fun x n1 n2 => by
      rw [uV_ne n1, uV_ne n1, f1 x n2]
    refine Ev.ret rfl rfl rfl rfl ⟨(if a2 = 0 then ((Y / Nat.gcd X Y : Nat) : Int) else ((X / Nat.gcd X Y : Nat) : Int)), rfl, ?_, w1 0 (by omega) (by omega), ?_⟩
    · have nn : ∀ p : Nat, p ≤ 1000000000000000000 → in64 (p : Int) := fun p hp => ⟨by omega, by omega⟩
      split
      · exact nn _ (Nat.le_trans d2 (by omega))
      · exact nn _ (Nat.le_trans d1 (by omega))
    obtain ⟨U, hU⟩ : ∃ U, U = uV (uV V1 107 0 ((X / Nat.gcd X Y : Nat) : Int)) 107 1 ((Y / Nat.gcd X Y : Nat) : Int) := ⟨_, rfl⟩
    rw [← hU] at w1 ⊢
    have esV : ∀ i, sU U i = sU V i := fun i => by unfold sU; rw [w1 130 (by omega) (by omega)]
    have erf : rfU U (i0 : Int) ((l + 1 : Nat) : Int) = 0 := by
      unfold rfU
      rw [if_pos (by omega), if_pos (by omega), if_neg (by rw [esV]; omega)]
    refine Ev.blk 3 (B201_0 _ _ _ _ _ _) rfl ?_
    refine Ev.call rfl rfl rfl (x_mayU (N := N) (d := 26) (fun i h => by rw [esV]; exact hi.uSb h) h0 h1) (by omega) ?_
    rintro v V' b' ⟨rfl, h_, g_⟩
    subst V' b'
    rw [erf]
    refine Ev.blk 3 (B201_6 _ _ _ _ _ _ _ (by decide)) rfl ?_
    refine Ev.ite (fun _ => ?_) (fun h => absurd h (by decide))
    refine Ev.blk 3 (B201_17 _ _ _ _ _ _ _) rfl ?_
    refine Ev.call rfl rfl rfl (x_layU hi3 (hUR.frame (fun x n1 n2 => w1 x (by omega) (by omega))) hB (by omega) (w := fun a => V 130 (8 * i0 + a)) (fun a ha => by rw [w1 130 (by omega) (by omega)]) hz hW) (by omega) ?_
    rintro v V4 b4 ⟨rfl, rfl, g1, g2, g3⟩
    rw [hX]
    refine Ev.blk 4 (B201_23 _ _ _ _ _ _ _ _) rfl ?_
    refine Ev.call rfl rfl rfl (sR2 (d := 28) (m := (i0 : Int)) (by omega)) (by omega) ?_
    rintro v V' b' ⟨rfl, h_, g_⟩
    subst V' b'
    have e4 : sU V4 (i0 : Int) = (S : Int) := by
      have : sU V4 (i0 : Int) = sU U (i0 : Int) := by unfold sU; rw [g1 130 (by omega) (by omega)]
      rw [this, esV, hS]
    rw [e4]
    have fin : ∀ p : Int, (S : Int) * p = (Y : Int) → Ev L 29 201 55 [some (.inr (.inr 120)), some (.inl (i0 : Int)), some (.inl ((l + 1 : Nat) : Int)), some (.inl a2), some (.inl 0), some (.inr (.inl (X : Int))), none] [.inr (.inl p), .inr (.inl (S : Int)), .inr (.inl (X : Int))] V4 b4 (fun v2 V2 _ => v2 = some (.inr (.inl (if a2 = 0 then ((Y / Nat.gcd X Y : Nat) : Int) else ((X / Nat.gcd X Y : Nat) : Int)))) ∧ Iv (N + 1) V2) := by
      intro p hp
      refine Ev.blk 2 (B201_55 _ _ _ _ _ _ _ _ _ _ _) rfl ?_
      rw [hp]
      refine Ev.call rfl rfl rfl (x_toldR (d := 27) (x := X) (y := Y) (by omega) (by omega) (by omega) h2) (by omega) ?_
      rintro v V' b' ⟨rfl, h_, g_⟩
      subst V' b'
      refine Ev.ret rfl rfl rfl rfl ⟨rfl, (hi.more (Nat.le_succ N)).frame (fun a ha => ?_) ?_ ?_, fun k => ?_⟩
      · unfold dI at ha
        rw [g1 a (by omega) (by omega), w1 a (by omega) (by omega)]
      · rw [g2 10 (by omega), w1 120 (by omega) (by omega)]
      · rw [g2 37 (by omega), w1 120 (by omega) (by omega)]
      · rw [g1 0 (by omega) (by omega), w1 0 (by omega) (by omega)]
        exact hI.2 k
    have : l = 0 ∨ l = 1 ∨ l = 2 := by omega
    rcases this with rfl | rfl | rfl
    · refine Ev.blk 3 (B201_32 _ _ _ _ _ _ _ _ _ _ (by decide)) rfl ?_
      refine Ev.ite (fun _ => ?_) (fun h => absurd h (by decide))
      refine Ev.blk 3 (B201_43 _ _ _ _ _ _ _ _ _ _ (by decide)) rfl ?_
      refine Ev.ite (fun _ => ?_) (fun h => absurd h (by decide))
      refine Ev.blk 1 (B201_54 _ _ _ _ _ _ _ _ _ _) rfl ?_
      exact fin _ eY
    · refine Ev.blk 3 (B201_32 _ _ _ _ _ _ _ _ _ _ (by decide)) rfl ?_
      refine Ev.ite (fun _ => ?_) (fun h => absurd h (by decide))
      refine Ev.blk 3 (B201_43 _ _ _ _ _ _ _ _ _ _ (by decide)) rfl ?_
      refine Ev.ite (fun h => absurd h (by decide)) (fun _ => ?_)
      refine Ev.blk 2 (B201_48 _ _ _ _ _ _ _ _ _ _) rfl ?_
      exact fin _ eY
    · refine Ev.blk 3 (B201_32 _ _ _ _ _ _ _ _ _ _ (by decide)) rfl ?_
      refine Ev.ite (fun h => absurd h (by decide)) (fun _ => ?_)
      refine Ev.blk 2 (B201_37 _ _ _ _ _ _ _ _ _ _) rfl ?_
      exact fin _ eY
  · replace q := of_decide_eq_false q
    refine Ev.blk 2 (B37_13 _ _ _ _ _ _ _ ⟨by omega, by omega⟩) rfl ?_
    refine Ev.ret rfl rfl rfl rfl ⟨_, rfl, ⟨by omega, by omega⟩, rfl, ?_⟩
    refine Ev.blk 3 (B201_0 _ _ _ _ _ _) rfl ?_
    refine Ev.call rfl rfl rfl (x_mayU (N := N) (d := 26) (fun i h => hi.uSb h) h0 h1) (by omega) ?_
    rintro v V' b' ⟨rfl, h_, g_⟩
    subst V' b'
    refine Ev.blk 3 (B201_6 _ _ _ _ _ _ _ ⟨by omega, by omega⟩) rfl ?_
    refine Ev.ite (fun h => absurd (of_decide_eq_true h) (by omega)) (fun _ => ?_)
    refine Ev.blk 2 (B201_13 _ _ _ _ _ _ _ ⟨by omega, by omega⟩) rfl ?_
    exact Ev.ret rfl rfl rfl rfl ⟨rfl, hi.more (Nat.le_succ N), hI.2⟩
