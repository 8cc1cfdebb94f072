/-! what is still open (specs47.py) -/
theorem oT_lp {L d : Nat} {V P : Mv} {b : Bool} {Q : Option AV → Mv → Bool → Prop} {a : Nat} (hK : Kd (cmb V P) 4 3) (ha : a < 8) (hl : rLv P 3 (a : Int) < 10) (hQ : Q (some (.inl (oFk (fun c => P 123 (192 + 8 * a + c)) a ((P 121 3).toNat - (a + 1))))) V b) : ∀ n k : Nat, k + n = (P 121 3).toNat - (a + 1) → Ev L d 69 6 [some (.inr (.inr 4)), some (.inl (a : Int)), some (.inl (oFk (fun c => P 123 (192 + 8 * a + c)) a k)), some (.inl ((a + 1 + k : Nat) : Int))] [] V b Q
  | 0, k, h => by
    have e0 : V 4 0 = P 121 3 := hK.w
    have w2 : 2 ≤ P 121 3 := hK.w2
    have w8 : P 121 3 ≤ 8 := hK.w8
    obtain rfl : k = (P 121 3).toNat - (a + 1) := by omega
    refine Ev.blk 4 (B69_6 _ _ _ _ _ _ _ (Or.inl rfl) ⟨by omega, by omega⟩ (by rw [e0]; exact ⟨by omega, by omega⟩)) rfl ?_
    rw [e0]
    refine Ev.ite (fun _ => ?_) (fun z => absurd (of_decide_eq_false z) (by omega))
    refine Ev.blk 1 (B69_55 _ _ _ _ _ _ _) rfl ?_
    exact Ev.ret rfl rfl rfl rfl hQ
  | n + 1, k, h => by
    have ih := oT_lp (L := L) (d := d) hK ha hl hQ n (k + 1) (by omega)
    have e0 : V 4 0 = P 121 3 := hK.w
    have w2 : 2 ≤ P 121 3 := hK.w2
    have w8 : P 121 3 ≤ 8 := hK.w8
    have e1 : V (4 + 2) ((a : Int)).toNat = rLv P 3 (a : Int) := by
      rw [Int.toNat_natCast]
      exact hK.lv a ha
    have e2 : V (4 + 1) ((a : Int) * 8 + ((a + 1 + k : Nat) : Int)).toNat = P 123 (192 + 8 * a + (a + 1 + k)) := by
      rw [show ((a : Int) * 8 + ((a + 1 + k : Nat) : Int)).toNat = 8 * a + (a + 1 + k) by omega]
      have h1 : V (4 + 1) (8 * a + (a + 1 + k)) = rGo P 3 (a : Int) ((a + 1 + k : Nat) : Int) := hK.go a (a + 1 + k) ha (by omega)
      rw [h1]
      unfold rGo
      rw [if_neg (by omega), show (64 * 3 + 8 * (a : Int) + ((a + 1 + k : Nat) : Int)).toNat = 192 + 8 * a + (a + 1 + k) by omega]
    have t1 : 0 ≤ P 123 (192 + 8 * a + (a + 1 + k)) ∧ P 123 (192 + 8 * a + (a + 1 + k)) ≤ 9 := hK.tn a (a + 1 + k) ha (by omega)
    have l0 : 0 ≤ rLv P 3 (a : Int) := by
      rw [rLv_n]
      exact sumN_nn 8 (fun i hi => (hK.tn a i ha hi).1)
    refine Ev.blk 4 (B69_6 _ _ _ _ _ _ _ (Or.inl rfl) ⟨by omega, by omega⟩ (by rw [e0]; exact ⟨by omega, by omega⟩)) rfl ?_
    rw [e0]
    refine Ev.ite (fun z => absurd (of_decide_eq_true z) (by omega)) (fun _ => ?_)
    refine Ev.blk 6 (B69_14 _ _ _ _ _ _ _ (Or.inl rfl) ⟨by omega, by omega⟩ (by rw [e1]; exact ⟨by omega, by omega⟩)) rfl ?_
    rw [e1]
    refine Ev.ite (fun z => absurd (of_decide_eq_true z) (by omega)) (fun _ => ?_)
    refine Ev.blk 10 (B69_25 _ _ _ _ _ _ _ (Or.inl rfl) ⟨by omega, by omega⟩ (by rw [e2]; exact ⟨by omega, by omega⟩)) rfl ?_
    rw [e2]
    refine Ev.ite (fun z => ?_) (fun z => ?_)
    · replace z := nd_t z
      refine Ev.blk 1 (B69_46 _ _ _ _ _ _ _ _) rfl ?_
      refine Ev.blk 4 (B69_47 _ _ _ _ _ _ _ _ _) rfl ?_
      refine Ev.val ?_ rfl ih
      rw [show oFk (fun c => P 123 (192 + 8 * a + c)) a (k + 1) = oOr (oFk (fun c => P 123 (192 + 8 * a + c)) a k) (if P 123 (192 + 8 * a + (a + 1 + k)) = 0 then oShl 1 ((a + 1 + k : Nat) : Int) else 0) from rfl, if_neg z, show ((a + 1 + k : Nat) : Int) + 1 = ((a + 1 + (k + 1) : Nat) : Int) by omega]
    · replace z := nd_f z
      refine Ev.blk 4 (B69_40 _ _ _ _ _ _ _ _) rfl ?_
      refine Ev.blk 4 (B69_47 _ _ _ _ _ _ _ _ _) rfl ?_
      refine Ev.val ?_ rfl ih
      rw [show oFk (fun c => P 123 (192 + 8 * a + c)) a (k + 1) = oOr (oFk (fun c => P 123 (192 + 8 * a + c)) a k) (if P 123 (192 + 8 * a + (a + 1 + k)) = 0 then oShl 1 ((a + 1 + k : Nat) : Int) else 0) from rfl, if_pos z, show ((a + 1 + k : Nat) : Int) + 1 = ((a + 1 + (k + 1) : Nat) : Int) by omega]
theorem x_oT {L d : Nat} {V P : Mv} {b : Bool} {a : Nat} (hK : Kd (cmb V P) 4 3) (ha : a < 8) : Ex L d 69 [.inr (.inr 4), .inl (a : Int)] V b (Ans (some (.inl (oFP P a))) V b) := by
  have e0 : V 4 0 = P 121 3 := hK.w
  have w2 : 2 ≤ P 121 3 := hK.w2
  have w8 : P 121 3 ≤ 8 := hK.w8
  refine Ev.blk 6 (B69_0 _ _ _ _ _) rfl ?_
  by_cases hl : rLv P 3 (a : Int) < 10
  · have e : oFP P a = oFk (fun c => P 123 (192 + 8 * a + c)) a ((P 121 3).toNat - (a + 1)) := if_pos hl
    rw [e]
    exact oT_lp hK ha hl ⟨rfl, rfl, rfl⟩ ((P 121 3).toNat - (a + 1)) 0 (by omega)
  · have e : oFP P a = 0 := if_neg hl
    have e1 : V (4 + 2) ((a : Int)).toNat = rLv P 3 (a : Int) := by
      rw [Int.toNat_natCast]
      exact hK.lv a ha
    have l10 : rLv P 3 (a : Int) ≤ 10 := hK.lv10 a ha
    rw [e]
    refine Ev.blk 4 (B69_6 _ _ _ _ _ _ _ (Or.inl rfl) ⟨by omega, by omega⟩ (by rw [e0]; exact ⟨by omega, by omega⟩)) rfl ?_
    refine Ev.ite (fun _ => ?_) (fun _ => ?_)
    · refine Ev.blk 1 (B69_55 _ _ _ _ _ _ _) rfl ?_
      exact Ev.ret rfl rfl rfl rfl ⟨rfl, rfl, rfl⟩
    · refine Ev.blk 6 (B69_14 _ _ _ _ _ _ _ (Or.inl rfl) ⟨by omega, by omega⟩ (by rw [e1]; exact ⟨by omega, by omega⟩)) rfl ?_
      rw [e1]
      refine Ev.ite (fun _ => ?_) (fun z => absurd (of_decide_eq_false z) (by omega))
      refine Ev.blk 1 (B69_55 _ _ _ _ _ _ _) rfl ?_
      exact Ev.ret rfl rfl rfl rfl ⟨rfl, rfl, rfl⟩
theorem oS_lp {L d : Nat} {V P : Mv} {b : Bool} {Q : Option AV → Mv → Bool → Prop} (hK : Kd (cmb V P) 4 3) (hQ : Q (some (.inl (oWk (oFP P) (P 121 3).toNat))) V b) : ∀ n k : Nat, k + n = (P 121 3).toNat → Ev L (d + 1) 68 4 [some (.inr (.inr 4)), some (.inl (oWk (oFP P) k)), some (.inl (k : Int))] [] V b Q
  | 0, k, h => by
    have e0 : V 4 0 = P 121 3 := hK.w
    have w2 : 2 ≤ P 121 3 := hK.w2
    have w8 : P 121 3 ≤ 8 := hK.w8
    obtain rfl : k = (P 121 3).toNat := by omega
    refine Ev.blk 4 (B68_4 _ _ _ _ _ _ (Or.inl rfl) ⟨by omega, by omega⟩ (by rw [e0]; exact ⟨by omega, by omega⟩)) rfl ?_
    rw [e0]
    refine Ev.ite (fun _ => ?_) (fun z => absurd (of_decide_eq_false z) (by omega))
    refine Ev.blk 1 (B68_36 _ _ _ _ _ _) rfl ?_
    exact Ev.ret rfl rfl rfl rfl hQ
  | n + 1, k, h => by
    have ih := oS_lp (L := L) (d := d) hK hQ n (k + 1) (by omega)
    have e0 : V 4 0 = P 121 3 := hK.w
    have w2 : 2 ≤ P 121 3 := hK.w2
    have w8 : P 121 3 ≤ 8 := hK.w8
    refine Ev.blk 4 (B68_4 _ _ _ _ _ _ (Or.inl rfl) ⟨by omega, by omega⟩ (by rw [e0]; exact ⟨by omega, by omega⟩)) rfl ?_
    rw [e0]
    refine Ev.ite (fun z => absurd (of_decide_eq_true z) (by omega)) (fun _ => ?_)
    refine Ev.blk 3 (B68_12 _ _ _ _ _ _) rfl ?_
    refine Ev.call rfl rfl rfl (x_oT (d := d) (a := k) hK (by omega)) (by omega) ?_
    rintro v V' b' ⟨rfl, h_, g_⟩
    subst V' b'
    refine Ev.blk 1 (B68_18 _ _ _ _ _ _ _ _ (oFP_in _ _)) rfl ?_
    refine Ev.ite (fun z => ?_) (fun z => ?_)
    · replace z := of_decide_eq_true z
      refine Ev.blk 1 (B68_27 _ _ _ _ _ _ _) rfl ?_
      refine Ev.blk 4 (B68_28 _ _ _ _ _ _ _ _) rfl ?_
      refine Ev.val ?_ rfl ih
      rw [show oWk (oFP P) (k + 1) = oOr (oWk (oFP P) k) (if oFP P k = 0 then 0 else oShl 1 (k : Int)) from rfl, if_pos z]
      rfl
    · replace z := of_decide_eq_false z
      refine Ev.blk 4 (B68_21 _ _ _ _ _ _ _) rfl ?_
      refine Ev.blk 4 (B68_28 _ _ _ _ _ _ _ _) rfl ?_
      refine Ev.val ?_ rfl ih
      rw [show oWk (oFP P) (k + 1) = oOr (oWk (oFP P) k) (if oFP P k = 0 then 0 else oShl 1 (k : Int)) from rfl, if_neg z]
      rfl
theorem oW_last {P : Mv} (h : 2 ≤ P 121 3 ∧ P 121 3 ≤ 8) : oWk (oFP P) (P 121 3).toNat = oWP P := by
  obtain ⟨k, hk⟩ : ∃ k : Nat, (P 121 3).toNat = k + 1 := ⟨(P 121 3).toNat - 1, by omega⟩
  have e : oFP P k = 0 := by
    unfold oFP
    rw [hk, show k + 1 - (k + 1) = 0 by omega]
    split <;> rfl
  unfold oWP
  rw [hk, show oWk (oFP P) (k + 1) = oOr (oWk (oFP P) k) (if oFP P k = 0 then 0 else oShl 1 (k : Int)) from rfl, if_pos e, or_0 (oWk_in _ _)]
  rfl
theorem x_oS {L d : Nat} {V P : Mv} {b : Bool} (hK : Kd (cmb V P) 4 3) : Ex L (d + 1) 68 [.inr (.inr 4)] V b (Ans (some (.inl (oWP P))) V b) := by
  have w2 : 2 ≤ P 121 3 := hK.w2
  have w8 : P 121 3 ≤ 8 := hK.w8
  refine Ev.blk 4 (B68_0 _ _ _ _) rfl ?_
  exact oS_lp hK ⟨by rw [oW_last ⟨w2, w8⟩], rfl, rfl⟩ (P 121 3).toNat 0 (by omega)
def mbK (f : Nat → Int) : Nat → Int
  | 0 => 0
  | k + 1 => oOr (mbK f k) (if f k = -9 then 0 else oShl 1 (k : Int))
theorem mbK_bit (f : Nat → Int) {v : Nat} (hv : v < 32) : ∀ k, k ≤ 10 → (bit (mbK f k) v = true ↔ v < k ∧ ¬ f v = -9)
  | 0, _ => by
    rw [show mbK f 0 = 0 from rfl, bit_0]
    constructor
    · intro h; exact absurd h (by decide)
    · intro h; omega
  | k + 1, h => by
    have ih := mbK_bit f hv k (by omega)
    rw [show mbK f (k + 1) = oOr (mbK f k) (if f k = -9 then 0 else oShl 1 (k : Int)) from rfl, bit_or, Bool.or_eq_true, ih]
    by_cases q : f k = -9
    · rw [if_pos q, bit_0]
      constructor
      · rintro (h1 | h1)
        · exact ⟨by omega, h1.2⟩
        · exact absurd h1 (by decide)
      · rintro ⟨h1, h2⟩
        refine Or.inl ⟨?_, h2⟩
        by_cases z : v = k
        · rw [z] at h2
          exact absurd q h2
        · omega
    · rw [if_neg q, bit_shl _ (by omega) v hv]
      constructor
      · rintro (h1 | h1)
        · exact ⟨by omega, h1.2⟩
        · exact ⟨by omega, by rw [h1]; exact q⟩
      · rintro ⟨h1, h2⟩
        by_cases z : v = k
        · exact Or.inr z
        · exact Or.inl ⟨by omega, h2⟩
theorem mb_lp {L d : Nat} {V : Mv} {b : Bool} {Q : Option AV → Mv → Bool → Prop} {c : Nat} (hc : isK c) (hw : ∀ j : Int, 0 ≤ j ∧ j < 4 → in32 (V (c + 6) j.toNat)) (hQ : Q (some (.inl (mbK (V (c + 6)) 4))) V b) : ∀ n k : Nat, k + n = 4 → Ev L (d + 1) 71 4 [some (.inr (.inr c)), some (.inl (mbK (V (c + 6)) k)), some (.inl (k : Int))] [] V b Q
  | 0, k, h => by
    obtain rfl : k = 4 := by omega
    refine Ev.blk 3 (B71_4 _ _ _ _ _ _ (by decide)) rfl ?_
    refine Ev.ite (fun _ => ?_) (fun z => absurd z (by decide))
    refine Ev.blk 1 (B71_33 _ _ _ _ _ _) rfl ?_
    exact Ev.ret rfl rfl rfl rfl hQ
  | n + 1, k, h => by
    have ih := mb_lp (L := L) (d := d) hc hw hQ n (k + 1) (by omega)
    refine Ev.blk 3 (B71_4 _ _ _ _ _ _ ⟨by omega, by omega⟩) rfl ?_
    refine Ev.ite (fun z => absurd (of_decide_eq_true z) (by omega)) (fun _ => ?_)
    refine Ev.blk 3 (B71_9 _ _ _ _ _ _) rfl ?_
    refine Ev.call rfl rfl (vg rfl rfl (isK_0 hc) (congrArg Prod.fst (isK_T hc)) rfl) (x_hasMending (d := d) hc (j := (k : Int)) ⟨by omega, by omega⟩ hw) (by omega) ?_
    rintro v V' b' ⟨rfl, h_, g_⟩
    subst V' b'
    refine Ev.blk 1 (B71_15 _ _ _ _ _ _ _ _ (b01_in _)) rfl ?_
    refine Ev.ite (fun z => ?_) (fun z => ?_)
    · replace z := b01_0 (of_decide_eq_true z)
      rw [Int.toNat_natCast] at z
      have z : V (c + 6) k = -9 := Classical.byContradiction (fun y => z ⟨by omega, by omega, y⟩)
      refine Ev.blk 1 (B71_24 _ _ _ _ _ _ _) rfl ?_
      refine Ev.blk 4 (B71_25 _ _ _ _ _ _ _ _) rfl ?_
      refine Ev.val ?_ rfl ih
      rw [show mbK (V (c + 6)) (k + 1) = oOr (mbK (V (c + 6)) k) (if V (c + 6) k = -9 then 0 else oShl 1 (k : Int)) from rfl, if_pos z]
      rfl
    · replace z := b01_1 (of_decide_eq_false z)
      rw [Int.toNat_natCast] at z
      refine Ev.blk 4 (B71_18 _ _ _ _ _ _ _) rfl ?_
      refine Ev.blk 4 (B71_25 _ _ _ _ _ _ _ _) rfl ?_
      refine Ev.val ?_ rfl ih
      rw [show mbK (V (c + 6)) (k + 1) = oOr (mbK (V (c + 6)) k) (if V (c + 6) k = -9 then 0 else oShl 1 (k : Int)) from rfl, if_neg z.2.2]
      rfl
theorem x_mb {L d : Nat} {V : Mv} {b : Bool} {c : Nat} (hc : isK c) (hw : ∀ j : Int, 0 ≤ j ∧ j < 4 → in32 (V (c + 6) j.toNat)) : Ex L (d + 1) 71 [.inr (.inr c)] V b (Ans (some (.inl (mbK (V (c + 6)) 4))) V b) := by
  refine Ev.blk 4 (B71_0 _ _ _ _) rfl ?_
  exact mb_lp hc hw ⟨rfl, rfl, rfl⟩ 4 0 rfl
theorem oF_lp {L d : Nat} {V V0 : Mv} {b : Bool} {Q : Option AV → Mv → Bool → Prop} {a : Nat} (hK : Kd (cmb V0 V) 4 3) (ha : a < 8) (hl : rLv V 3 (a : Int) < 10) (hQ : Q (some (.inl (oFk (fun c => V 123 (192 + 8 * a + c)) a ((V 121 3).toNat - (a + 1))))) V b) : ∀ n k : Nat, k + n = (V 121 3).toNat - (a + 1) → Ev L (d + 1) 141 6 [some (.inr (.inr 120)), some (.inl (a : Int)), some (.inl (oFk (fun c => V 123 (192 + 8 * a + c)) a k)), some (.inl ((a + 1 + k : Nat) : Int))] [] V b Q
  | 0, k, h => by
    have w2 : 2 ≤ V 121 3 := hK.w2
    have w8 : V 121 3 ≤ 8 := hK.w8
    obtain rfl : k = (V 121 3).toNat - (a + 1) := by omega
    refine Ev.blk 6 (B141_6 _ _ _ _ _ _ ⟨by omega, by omega⟩ (by show in32 (V 121 3); exact ⟨by omega, by omega⟩)) rfl ?_
    refine Ev.ite (fun _ => ?_) (fun z => absurd (of_decide_eq_false z) (by show ¬ ¬ (V 121 3 ≤ _); omega))
    refine Ev.blk 1 (B141_61 _ _ _ _ _ _) rfl ?_
    exact Ev.ret rfl rfl rfl rfl hQ
  | n + 1, k, h => by
    have ih := oF_lp (L := L) (d := d) hK ha hl hQ n (k + 1) (by omega)
    have w2 : 2 ≤ V 121 3 := hK.w2
    have w8 : V 121 3 ≤ 8 := hK.w8
    have e2 : V 123 (192 + 8 * (a : Int) + ((a + 1 + k : Nat) : Int)).toNat = V 123 (192 + 8 * a + (a + 1 + k)) := by
      rw [show (192 + 8 * (a : Int) + ((a + 1 + k : Nat) : Int)).toNat = 192 + 8 * a + (a + 1 + k) by omega]
    have t1 : 0 ≤ V 123 (192 + 8 * a + (a + 1 + k)) ∧ V 123 (192 + 8 * a + (a + 1 + k)) ≤ 9 := hK.tn a (a + 1 + k) ha (by omega)
    have l0 : 0 ≤ rLv V 3 (a : Int) := by
      rw [rLv_n]
      exact sumN_nn 8 (fun i hi => (hK.tn a i ha hi).1)
    refine Ev.blk 6 (B141_6 _ _ _ _ _ _ ⟨by omega, by omega⟩ (by show in32 (V 121 3); exact ⟨by omega, by omega⟩)) rfl ?_
    refine Ev.ite (fun z => absurd (of_decide_eq_true z) (by show ¬ (V 121 3 ≤ _); omega)) (fun _ => ?_)
    refine Ev.blk 3 (B141_16 _ _ _ _ _ _) rfl ?_
    refine Ev.call rfl rfl rfl (x_leaves (d := d) (m := 3) (w := (a : Int)) (by decide) (by omega)) (by omega) ?_
    rintro v V' b' ⟨rfl, h_, g_⟩
    subst V' b'
    refine Ev.blk 2 (B141_22 _ _ _ _ _ _ _ ⟨by omega, by omega⟩) rfl ?_
    refine Ev.ite (fun z => absurd (of_decide_eq_true z) (by omega)) (fun _ => ?_)
    refine Ev.blk 12 (B141_27 _ _ _ _ _ _ ⟨by omega, by omega⟩ (by rw [e2]; exact ⟨by omega, by omega⟩)) rfl ?_
    rw [e2]
    refine Ev.ite (fun z => ?_) (fun z => ?_)
    · replace z := nd_t z
      refine Ev.blk 1 (B141_52 _ _ _ _ _ _ _) rfl ?_
      refine Ev.blk 4 (B141_53 _ _ _ _ _ _ _ _) rfl ?_
      refine Ev.val ?_ rfl ih
      rw [show oFk (fun c => V 123 (192 + 8 * a + c)) a (k + 1) = oOr (oFk (fun c => V 123 (192 + 8 * a + c)) a k) (if V 123 (192 + 8 * a + (a + 1 + k)) = 0 then oShl 1 ((a + 1 + k : Nat) : Int) else 0) from rfl, if_neg z, show ((a + 1 + k : Nat) : Int) + 1 = ((a + 1 + (k + 1) : Nat) : Int) by omega]
    · replace z := nd_f z
      refine Ev.blk 4 (B141_46 _ _ _ _ _ _ _) rfl ?_
      refine Ev.blk 4 (B141_53 _ _ _ _ _ _ _ _) rfl ?_
      refine Ev.val ?_ rfl ih
      rw [show oFk (fun c => V 123 (192 + 8 * a + c)) a (k + 1) = oOr (oFk (fun c => V 123 (192 + 8 * a + c)) a k) (if V 123 (192 + 8 * a + (a + 1 + k)) = 0 then oShl 1 ((a + 1 + k : Nat) : Int) else 0) from rfl, if_pos z, show ((a + 1 + k : Nat) : Int) + 1 = ((a + 1 + (k + 1) : Nat) : Int) by omega]
theorem x_oF {L d : Nat} {V V0 : Mv} {b : Bool} {a : Nat} (hK : Kd (cmb V0 V) 4 3) (ha : a < 8) : Ex L (d + 1) 141 [.inr (.inr 120), .inl (a : Int)] V b (Ans (some (.inl (oFP V a))) V b) := by
  have w2 : 2 ≤ V 121 3 := hK.w2
  have w8 : V 121 3 ≤ 8 := hK.w8
  refine Ev.blk 6 (B141_0 _ _ _ _) rfl ?_
  by_cases hl : rLv V 3 (a : Int) < 10
  · have e : oFP V a = oFk (fun c => V 123 (192 + 8 * a + c)) a ((V 121 3).toNat - (a + 1)) := if_pos hl
    rw [e]
    exact oF_lp hK ha hl ⟨rfl, rfl, rfl⟩ ((V 121 3).toNat - (a + 1)) 0 (by omega)
  · have e : oFP V a = 0 := if_neg hl
    have l10 : rLv V 3 (a : Int) ≤ 10 := hK.lv10 a ha
    rw [e]
    refine Ev.blk 6 (B141_6 _ _ _ _ _ _ ⟨by omega, by omega⟩ (by show in32 (V 121 3); exact ⟨by omega, by omega⟩)) rfl ?_
    refine Ev.ite (fun _ => ?_) (fun _ => ?_)
    · refine Ev.blk 1 (B141_61 _ _ _ _ _ _) rfl ?_
      exact Ev.ret rfl rfl rfl rfl ⟨rfl, rfl, rfl⟩
    · refine Ev.blk 3 (B141_16 _ _ _ _ _ _) rfl ?_
      refine Ev.call rfl rfl rfl (x_leaves (d := d) (m := 3) (w := (a : Int)) (by decide) (by omega)) (by omega) ?_
      rintro v V' b' ⟨rfl, h_, g_⟩
      subst V' b'
      refine Ev.blk 2 (B141_22 _ _ _ _ _ _ _ ⟨by omega, by omega⟩) rfl ?_
      refine Ev.ite (fun _ => ?_) (fun z => absurd (of_decide_eq_false z) (by omega))
      refine Ev.blk 1 (B141_61 _ _ _ _ _ _) rfl ?_
      exact Ev.ret rfl rfl rfl rfl ⟨rfl, rfl, rfl⟩
theorem oW_lp {L d : Nat} {V V0 : Mv} {b : Bool} {Q : Option AV → Mv → Bool → Prop} (hK : Kd (cmb V0 V) 4 3) (hQ : Q (some (.inl (oWP V))) V b) : ∀ n k : Nat, k + n = (V 121 3).toNat - 1 → Ev L (d + 2) 140 4 [some (.inr (.inr 120)), some (.inl (oWk (oFP V) k)), some (.inl (k : Int))] [] V b Q
  | 0, k, h => by
    have w2 : 2 ≤ V 121 3 := hK.w2
    have w8 : V 121 3 ≤ 8 := hK.w8
    obtain rfl : k = (V 121 3).toNat - 1 := by omega
    refine Ev.blk 8 (B140_4 _ _ _ _ _ ⟨by omega, by omega⟩ (by show in32 (V 121 3); exact ⟨by omega, by omega⟩)) rfl ?_
    refine Ev.ite (fun _ => ?_) (fun z => absurd (of_decide_eq_false z) (by show ¬ ¬ (V 121 3 ≤ _); omega))
    refine Ev.blk 1 (B140_40 _ _ _ _ _) rfl ?_
    exact Ev.ret rfl rfl rfl rfl hQ
  | n + 1, k, h => by
    have ih := oW_lp (L := L) (d := d) hK hQ n (k + 1) (by omega)
    have w2 : 2 ≤ V 121 3 := hK.w2
    have w8 : V 121 3 ≤ 8 := hK.w8
    refine Ev.blk 8 (B140_4 _ _ _ _ _ ⟨by omega, by omega⟩ (by show in32 (V 121 3); exact ⟨by omega, by omega⟩)) rfl ?_
    refine Ev.ite (fun z => absurd (of_decide_eq_true z) (by show ¬ (V 121 3 ≤ _); omega)) (fun _ => ?_)
    refine Ev.blk 3 (B140_16 _ _ _ _ _) rfl ?_
    refine Ev.call rfl rfl rfl (x_oF (d := d) (a := k) hK (by omega)) (by omega) ?_
    rintro v V' b' ⟨rfl, h_, g_⟩
    subst V' b'
    refine Ev.blk 1 (B140_22 _ _ _ _ _ _ _ (oFP_in _ _)) rfl ?_
    refine Ev.ite (fun z => ?_) (fun z => ?_)
    · replace z := of_decide_eq_true z
      refine Ev.blk 1 (B140_31 _ _ _ _ _ _) rfl ?_
      refine Ev.blk 4 (B140_32 _ _ _ _ _ _ _) rfl ?_
      refine Ev.val ?_ rfl ih
      rw [show oWk (oFP V) (k + 1) = oOr (oWk (oFP V) k) (if oFP V k = 0 then 0 else oShl 1 (k : Int)) from rfl, if_pos z]
      rfl
    · replace z := of_decide_eq_false z
      refine Ev.blk 4 (B140_25 _ _ _ _ _ _) rfl ?_
      refine Ev.blk 4 (B140_32 _ _ _ _ _ _ _) rfl ?_
      refine Ev.val ?_ rfl ih
      rw [show oWk (oFP V) (k + 1) = oOr (oWk (oFP V) k) (if oFP V k = 0 then 0 else oShl 1 (k : Int)) from rfl, if_neg z]
      rfl
theorem x_oW {L d : Nat} {V V0 : Mv} {b : Bool} (hK : Kd (cmb V0 V) 4 3) : Ex L (d + 2) 140 [.inr (.inr 120)] V b (Ans (some (.inl (oWP V))) V b) := by
  refine Ev.blk 4 (B140_0 _ _ _) rfl ?_
  exact oW_lp hK ⟨rfl, rfl, rfl⟩ ((V 121 3).toNat - 1) 0 (by omega)
theorem oM_lp {L d : Nat} {V V0 : Mv} {b : Bool} {Q : Option AV → Mv → Bool → Prop} (hK : Kd (cmb V0 V) 4 3) (hQ : Q (some (.inl (oMP V))) V b) : ∀ n k : Nat, k + n = 4 → Ev L d 143 4 [some (.inr (.inr 120)), some (.inl (oMk (fun j => V 126 (12 + j)) k)), some (.inl (k : Int))] [] V b Q
  | 0, k, h => by
    obtain rfl : k = 4 := by omega
    refine Ev.blk 3 (B143_4 _ _ _ _ _ (by decide)) rfl ?_
    refine Ev.ite (fun _ => ?_) (fun z => absurd z (by decide))
    refine Ev.blk 1 (B143_39 _ _ _ _ _) rfl ?_
    exact Ev.ret rfl rfl rfl rfl hQ
  | n + 1, k, h => by
    have ih := oM_lp (L := L) (d := d) hK hQ n (k + 1) (by omega)
    have e2 : V 126 (12 + (k : Int)).toNat = V 126 (12 + k) := by rw [show (12 + (k : Int)).toNat = 12 + k by omega]
    have w8 : V 121 3 ≤ 8 := hK.w8
    have t1 : V 126 (12 + k) = -9 ∨ 0 ≤ V 126 (12 + k) ∧ V 126 (12 + k) + 2 ≤ V 121 3 := (hK.mw k (by omega)).2
    refine Ev.blk 3 (B143_4 _ _ _ _ _ ⟨by omega, by omega⟩) rfl ?_
    refine Ev.ite (fun z => absurd (of_decide_eq_true z) (by omega)) (fun _ => ?_)
    refine Ev.blk 9 (B143_9 _ _ _ _ _ ⟨by omega, by omega⟩ (by rw [e2]; exact ⟨by omega, by omega⟩)) rfl ?_
    rw [e2]
    refine Ev.ite (fun z => ?_) (fun z => ?_)
    · replace z := nd_t z
      refine Ev.blk 1 (B143_30 _ _ _ _ _ _) rfl ?_
      refine Ev.blk 4 (B143_31 _ _ _ _ _ _ _) rfl ?_
      refine Ev.val ?_ rfl ih
      rw [show oMk (fun j => V 126 (12 + j)) (k + 1) = oOr (oMk (fun j => V 126 (12 + j)) k) (if V 126 (12 + k) = -9 then oShl 1 (k : Int) else 0) from rfl, if_neg z]
      rfl
    · replace z := nd_f z
      refine Ev.blk 4 (B143_24 _ _ _ _ _ _) rfl ?_
      refine Ev.blk 4 (B143_31 _ _ _ _ _ _ _) rfl ?_
      refine Ev.val ?_ rfl ih
      rw [show oMk (fun j => V 126 (12 + j)) (k + 1) = oOr (oMk (fun j => V 126 (12 + j)) k) (if V 126 (12 + k) = -9 then oShl 1 (k : Int) else 0) from rfl, if_pos z]
      rfl
theorem x_oM {L d : Nat} {V V0 : Mv} {b : Bool} (hK : Kd (cmb V0 V) 4 3) : Ex L d 143 [.inr (.inr 120)] V b (Ans (some (.inl (oMP V))) V b) := by
  refine Ev.blk 4 (B143_0 _ _ _) rfl ?_
  exact oM_lp hK ⟨rfl, rfl, rfl⟩ 4 0 rfl
