/-! the 38 calls: barCost, bar (specs70.py) -/
theorem Inv.men {N : Nat} {V : Mv} (h : Inv N V) (a0 a1 : Int) : ((0 ≤ a0 ∧ a0 < 3) ∧ 0 ≤ a1 ∧ a1 < 4 ∧ ¬ V (14 + 15 * a0.toNat + 6) a1.toNat = -9) ↔ ((0 ≤ a0 ∧ a0 ≤ 2) ∧ (0 ≤ a1 ∧ a1 ≤ 3) ∧ ¬ V 126 (4 * a0 + a1).toNat = -9) := by
  have key : 0 ≤ a0 → a0 < 3 → 0 ≤ a1 → a1 < 4 → V (14 + 15 * a0.toNat + 6) a1.toNat = V 126 (4 * a0 + a1).toNat := fun q1 q2 q3 q4 => by
    rw [show (4 * a0 + a1).toNat = 4 * a0.toNat + a1.toNat by omega]
    exact ((h.kd a0.toNat (by omega)).mw a1.toNat (by omega)).1
  constructor
  · rintro ⟨⟨q1, q2⟩, q3, q4, q5⟩
    rw [key q1 q2 q3 q4] at q5
    exact ⟨⟨q1, by omega⟩, ⟨q3, by omega⟩, q5⟩
  · rintro ⟨⟨q1, q2⟩, ⟨q3, q4⟩, q5⟩
    rw [← key q1 (by omega) q3 (by omega)] at q5
    exact ⟨⟨q1, by omega⟩, q3, by omega, q5⟩
theorem BdC.fr {V W : Mv} (h : BdC V) (f : (∀ y, ¬ (100 ≤ y ∧ y ≤ 107) → y ≠ 68 → W y = V y)) : BdC W := fun i hi => by
  rw [f (14 + 15 * i.toNat) (by omega) (by omega), f (14 + 15 * i.toNat + 6) (by omega) (by omega)]
  exact h i hi
theorem BdR.fr {V W : Mv} (h : BdR V) (f : ∀ y, 121 ≤ y → y ≤ 127 → W y = V y) : BdR W := fun i hi => by
  rw [f 121 (by omega) (by omega), f 126 (by omega) (by omega)]
  exact h i hi
theorem bkF.row {V W : Mv} (h : bkF V W) {y : Nat} (h1 : ¬ (136 ≤ y ∧ y ≤ 139)) (h2 : y ≠ 135) (h3 : y ≠ 120) : W y = V y := funext (fun k => h y k h1 (by omega) (by omega))
theorem op_barCost (a0 a1 a2 a3 : Int) (h0 : in32 a0) (h1 : in32 a1) (h2 : in32 a2) (h3 : a3 = 0 ∨ a3 = 1) : OpJ 31 192 [.inl a0, .inl a1, .inl a2, .inl a3] := by
  intro L N V b hL hN hI
  have hi := hI.1
  have me := hi.men a0 a1
  refine Ev.blk 3 (B31_0 _ _ _ _ _ _ _) rfl ?_
  refine Ev.call rfl rfl rfl (x_isMendingC (d := 27) hi.bdC h0 h1) (by omega) ?_
  rintro v V' b' ⟨rfl, h_, g_⟩
  subst V' b'
  refine Ev.blk 1 (B31_6 _ _ _ _ _ _ _ _ (b01_in _)) rfl ?_
  refine Ev.ite (fun q => ?_) (fun q => ?_)
  rotate_left
  · replace q := b01_0 (nd_f q)
    refine Ev.blk 1 (B31_9 _ _ _ _ _ _ _) rfl ?_
    refine Ev.ret rfl rfl rfl rfl ⟨_, rfl, by decide, rfl, ?_⟩
    refine Ev.blk 3 (B192_0 _ _ _ _ _ _ _) rfl ?_
    refine Ev.call rfl rfl rfl (x_isMendingR (d := 26) hi.bdR h0 h1) (by omega) ?_
    rintro v V' b' ⟨rfl, h_, g_⟩
    subst V' b'
    refine Ev.blk 1 (B192_6 _ _ _ _ _ _ _ _ (b01_in _)) rfl ?_
    refine Ev.ite (fun z => absurd (me.mpr (b01_1 (nd_t z))) q) (fun _ => ?_)
    refine Ev.blk 1 (B192_9 _ _ _ _ _ _ _) rfl ?_
    exact Ev.ret rfl rfl rfl rfl ⟨rfl, hi.more (Nat.le_succ N), hI.2⟩
  replace q := b01_1 (nd_t q)
  have qR := me.mp q
  obtain ⟨m, rfl⟩ : ∃ m : Nat, a0 = (m : Int) := ⟨a0.toNat, by omega⟩
  obtain ⟨i, rfl⟩ : ∃ i : Nat, a1 = (i : Int) := ⟨a1.toNat, by omega⟩
  have hm : m < 3 := by omega
  have hi4 : i < 4 := by omega
  obtain ⟨n, hn, hP, hPR, hB⟩ := (hi.kd m hm).rows
  have n2 := hB.1
  have n8 := hB.2.1
  have eC : V (14 + 15 * ((m : Int)).toNat) 0 = (n : Int) := by rw [Int.toNat_natCast]; exact hP.1
  have headR : ∀ (W : Mv) (b' : Bool) (Q : Option AV → Mv → Bool → Prop), (∀ y, 121 ≤ y → y ≤ 127 → W y = V y) → (¬ (1 ≤ a2 ∧ a2 < (n : Int)) → Q (some (.inr (.inl (-2)))) W b') → ((1 ≤ a2 ∧ a2 < (n : Int)) → Ev L 29 192 35 [some (.inr (.inr 120)), some (.inl (m : Int)), some (.inl (i : Int)), some (.inl a2), some (.inl a3)] [] W b' Q) → Ex L 29 192 (.inr (.inr 120) :: [.inl (m : Int), .inl (i : Int), .inl a2, .inl a3]) W b' Q := fun W b' Q fw k0 k1 => by
    have eR : W 121 ((m : Int)).toNat = (n : Int) := by rw [Int.toNat_natCast, fw 121 (by omega) (by omega)]; exact hn
    refine Ev.blk 3 (B192_0 _ _ _ _ _ _ _) rfl ?_
    refine Ev.call rfl rfl rfl (x_isMendingR (d := 26) (hi.bdR.fr fw) h0 h1) (by omega) ?_
    rintro v V' b'' ⟨rfl, h_, g_⟩
    subst V' b''
    refine Ev.blk 1 (B192_6 _ _ _ _ _ _ _ _ (b01_in _)) rfl ?_
    refine Ev.ite (fun _ => ?_) (fun z => absurd (by rw [fw 126 (by omega) (by omega)]; exact qR) (b01_0 (nd_f z)))
    refine Ev.blk 10 (B192_13 _ _ _ _ _ _ _ h2 ⟨by omega, by omega⟩ (by rw [eR]; exact ⟨by omega, by omega⟩)) rfl ?_
    rw [eR]
    refine Ev.call rfl rfl rfl (x_in (d := 28) (v := a2) (lo := 1) (hi := (n : Int) - 1) ⟨by have := h2.1; omega, by have := h2.2; omega⟩ (by decide) ⟨by omega, by omega⟩) (by omega) ?_
    rintro v V' b'' ⟨rfl, h_, g_⟩
    subst V' b''
    refine Ev.blk 1 (B192_28 _ _ _ _ _ _ _ _ (b01_in _)) rfl ?_
    refine Ev.ite (fun z => ?_) (fun z => ?_)
    · replace z := b01_1 (nd_t z)
      exact k1 (by omega)
    · replace z := b01_0 (nd_f z)
      refine Ev.blk 1 (B192_31 _ _ _ _ _ _ _) rfl ?_
      exact Ev.ret rfl rfl rfl rfl (k0 (by omega))
  have out : ¬ (1 ≤ a2 ∧ a2 < (n : Int)) → Ev L 29 31 31 [some (.inr (.inr 1)), some (.inl (m : Int)), some (.inl (i : Int)), some (.inl a2), some (.inl a3)] [] V b (fun v V1 b1 => ∃ z : Int, v = some (.inr (.inl z)) ∧ in64 z ∧ V1 0 = V 0 ∧ Ex L 29 192 (.inr (.inr 120) :: [.inl (m : Int), .inl (i : Int), .inl a2, .inl a3]) V1 b1 (fun v2 V2 _ => v2 = some (.inr (.inl z)) ∧ Iv (N + 1) V2)) := fun hn => by
    refine Ev.blk 1 (B31_31 _ _ _ _ _ _ _) rfl ?_
    refine Ev.ret rfl rfl rfl rfl ⟨_, rfl, by decide, rfl, ?_⟩
    exact headR V b _ (fun _ _ _ => rfl) (fun _ => ⟨rfl, hi.more (Nat.le_succ N), hI.2⟩) (fun z => absurd z hn)
  refine Ev.blk 3 (B31_13 _ _ _ _ _ _ _ h2) rfl ?_
  refine Ev.ite (fun z => ?_) (fun z => ?_)
  · replace z := of_decide_eq_true z
    exact out (by omega)
  replace z := of_decide_eq_false z
  refine Ev.blk 7 (B31_18 _ _ _ _ _ _ _ ⟨by omega, by omega⟩ h2 (by rw [eC]; exact ⟨by omega, by omega⟩)) rfl ?_
  rw [eC]
  refine Ev.ite (fun y => ?_) (fun y => ?_)
  rotate_left
  · replace y := of_decide_eq_false y
    exact out (by omega)
  replace y := of_decide_eq_true y
  obtain ⟨bb, rfl⟩ : ∃ bb : Nat, a2 = (bb : Int) := ⟨a2.toNat, by omega⟩
  have hRB : RB n (fun a c => rGo V (m : Int) (a : Int) (c : Int)) (fun j => V 124 (8 * m + j)) (fun j => V 126 (4 * m + j)) (fun j => V 127 (4 * m + j)) (brA i bb) := (hi.kd m hm).rb hn (fun a _ => brA_b hi4 a)
  refine Ev.blk 4 (B31_35 _ _ _ _ _ _ _) rfl ?_
  refine Ev.call rfl rfl rfl (x_findBar (d := 24) hm (by omega) hP hRB) (by omega) ?_
  rintro v W1 b1 ⟨rfl, f1, w2⟩
  have hPW : PR W1 m n (fun a c => rGo V (m : Int) (a : Int) (c : Int)) (fun j => V 124 (8 * m + j)) (fun j => V 126 (4 * m + j)) (fun j => V 127 (4 * m + j)) := hPR.frame (fun x h1 h2 => f1 x (by omega) (by omega))
  have tail : ∀ Q : Option AV → Mv → Bool → Prop, (∀ W3, bkF W1 W3 → ((rOk n (fun a c => rGo V (m : Int) (a : Int) (c : Int)) (fun j => V 126 (4 * m + j)) (brA i bb) → Q (some (.inr (.inl (if a3 = 0 then (rE n (fun a c => rGo V (m : Int) (a : Int) (c : Int)) (fun j => V 124 (8 * m + j)) (fun j => V 126 (4 * m + j)) (fun j => V 127 (4 * m + j)) (brA i bb) : Int) else (rN n (fun a c => rGo V (m : Int) (a : Int) (c : Int)) (fun j => V 124 (8 * m + j)) (fun j => V 126 (4 * m + j)) (fun j => V 127 (4 * m + j)) (brA i bb) : Int))))) W3 b1) ∧ (¬ rOk n (fun a c => rGo V (m : Int) (a : Int) (c : Int)) (fun j => V 126 (4 * m + j)) (brA i bb) → Q (some (.inr (.inl (-3)))) W3 b1))) → Ex L 29 192 (.inr (.inr 120) :: [.inl (m : Int), .inl (i : Int), .inl (bb : Int), .inl a3]) W1 b1 Q := fun Q hQ => by
    refine headR W1 b1 Q (fun y h1 h2 => f1 y (by omega) (by omega)) (fun z => absurd ⟨by omega, by omega⟩ z) (fun _ => ?_)
    refine Ev.blk 3 (B192_35 _ _ _ _ _ _ _) rfl ?_
    refine Ev.call rfl rfl rfl (x_tryBar (d := 28) (i := i) (bb := bb) (by omega)) (by omega) ?_
    rintro v W2 b2 ⟨rfl, rfl, v1, v2⟩
    refine Ev.blk 3 (B192_41 _ _ _ _ _ _ _) rfl ?_
    refine Ev.call rfl rfl rfl (x_layCost (d := 24) hm (r := 4) (by omega) (hPW.frame (fun x h1 h2 => funext (fun k => v1 x k (by omega)))) hRB (fun a ha => v2 a ha)) (by omega) ?_
    rintro v W3 b3 ⟨rfl, u1, u2⟩
    have bk : bkF W1 W3 := fun y k h1 h2 h3 => by rw [u1 y k h1 (by omega), v1 y k h2]
    have hq := hQ W3 bk
    rcases u2 with ⟨ok, rfl, g0, g1⟩ | ⟨nok, rfl⟩
    · refine Ev.blk 1 (B192_47 _ _ _ _ _ _ _ _ (by decide)) rfl ?_
      refine Ev.ite (fun z => absurd z (by decide)) (fun _ => ?_)
      have hq := hq.1 ok
      refine Ev.blk 2 (B192_50 _ _ _ _ _ _ _ ⟨by omega, by omega⟩) rfl ?_
      refine Ev.ite (fun z => ?_) (fun z => ?_)
      · replace z := of_decide_eq_true z
        rw [if_pos z] at hq
        refine Ev.blk 3 (B192_62 _ _ _ _ _ _ _) rfl ?_
        rw [g1]
        exact Ev.ret rfl rfl rfl rfl hq
      · replace z := of_decide_eq_false z
        rw [if_neg z] at hq
        refine Ev.blk 3 (B192_55 _ _ _ _ _ _ _) rfl ?_
        rw [g0]
        exact Ev.ret rfl rfl rfl rfl hq
    · refine Ev.blk 1 (B192_47 _ _ _ _ _ _ _ _ (by decide)) rfl ?_
      refine Ev.ite (fun _ => ?_) (fun z => absurd z (by decide))
      refine Ev.blk 1 (B192_69 _ _ _ _ _ _ _) rfl ?_
      exact Ev.ret rfl rfl rfl rfl (hq.2 nok)
  rcases w2 with ⟨ok, rfl, e0, e1⟩ | ⟨nok, rfl⟩
  · have bd := hRB.ne ok
    refine Ev.blk 1 (B31_42 _ _ _ _ _ _ _ _ (by decide)) rfl ?_
    refine Ev.ite (fun _ => ?_) (fun z => absurd z (by decide))
    refine Ev.blk 3 (B31_49 _ _ _ _ _ _ _) rfl ?_
    refine Ev.call rfl rfl rfl (x_toldC (d := 28) (a := 107) (Or.inr (Or.inr (Or.inr (Or.inr (Or.inr (Or.inr rfl)))))) h3) (by omega) ?_
    rintro v V' b' ⟨rfl, h_, g_⟩
    subst V' b'
    rw [e0, e1]
    refine Ev.ret rfl rfl rfl rfl ⟨_, rfl, ?_, f1 0 (by omega) (by omega), tail _ (fun W3 bk => ⟨fun _ => ⟨rfl, (hi.more (Nat.le_succ N)).bkf f1 bk, fun k => by rw [bkF.z f1 bk]; exact hI.2 k⟩, fun nok => absurd ok nok⟩)⟩
    split
    · exact ⟨by omega, by omega⟩
    · exact ⟨by omega, by omega⟩
  · refine Ev.blk 1 (B31_42 _ _ _ _ _ _ _ _ (by decide)) rfl ?_
    refine Ev.ite (fun z => absurd z (by decide)) (fun _ => ?_)
    refine Ev.blk 1 (B31_45 _ _ _ _ _ _ _) rfl ?_
    exact Ev.ret rfl rfl rfl rfl ⟨_, rfl, by decide, f1 0 (by omega) (by omega), tail _ (fun W3 bk => ⟨fun ok => absurd ok nok, fun _ => ⟨rfl, (hi.more (Nat.le_succ N)).bkf f1 bk, fun k => by rw [bkF.z f1 bk]; exact hI.2 k⟩⟩)⟩
/-- the bars one after the other -/
noncomputable def brI (n : Nat) (G : Nat → Nat → Int) (co mw mc : Nat → Int) (i : Nat) (s : Int × Nat × Nat) : Nat → Int × Nat × Nat
  | 0 => s
  | k + 1 => lst (brI n G co mw mc i s k) (10 * (i : Int) + ((k + 1 : Nat) : Int)) n G co mw mc (brA i (k + 1))
noncomputable def brJ (n : Nat) (G : Nat → Nat → Int) (co mw mc : Nat → Int) (i : Nat) (s : Int × Nat × Nat) (k : Nat) : Int × Nat × Nat := if mw i = -9 then s else brI n G co mw mc i s k
noncomputable def brO (n : Nat) (G : Nat → Nat → Int) (co mw mc : Nat → Int) : Nat → Int × Nat × Nat
  | 0 => (-9, 0, 0)
  | i + 1 => brJ n G co mw mc i (brO n G co mw mc i) (n - 1)
theorem brJ_i {n : Nat} {G : Nat → Nat → Int} {co mw mc : Nat → Int} {i : Nat} {s : Int × Nat × Nat} (hs : stI s) (h4 : i < 4) (hR : ∀ bb, RB n G co mw mc (brA i bb)) : ∀ k, k ≤ 8 → stI (brJ n G co mw mc i s k) := by
  intro k hk
  unfold brJ
  split
  · exact hs
  · induction k with
    | zero => exact hs
    | succ k ih => exact (ih (by omega)).s ⟨by omega, by omega⟩ (hR _)
theorem brO_i {n : Nat} {G : Nat → Nat → Int} {co mw mc : Nat → Int} (h8 : n ≤ 8) (hR : ∀ i bb, i < 4 → RB n G co mw mc (brA i bb)) : ∀ i, i ≤ 4 → stI (brO n G co mw mc i)
  | 0, _ => stI_0
  | i + 1, h => brJ_i (brO_i h8 hR i (by omega)) (by omega) (fun bb => hR i bb (by omega)) (n - 1) (by omega)
def lsC (s : Int × Nat × Nat) (x3 x5 : Int) : Prop := s.2.2 = 0 ∨ (x3 = (s.2.1 : Int) ∧ x5 = (s.2.2 : Int))
theorem b2_lp {L d : Nat} {V : Mv} {b : Bool} {Q : Option AV → Mv → Bool → Prop} {m n i : Nat} {G : Nat → Nat → Int} {co mw mc : Nat → Int} {s : Int × Nat × Nat} (hm : m < 3) (h4 : i < 4) (hBd : BdC V) (hP : PK V (14 + 15 * m) n G co mw mc) (hR : ∀ bb, RB n G co mw mc (brA i bb)) (hs : stI s) (hQ : ∀ W x3 x5, (∀ y, ¬ (100 ≤ y ∧ y ≤ 107) → y ≠ 68 → W y = V y) → lsC (brJ n G co mw mc i s (n - 1)) x3 x5 → Ev L (d + 5) 33 116 [some (.inr (.inr 1)), some (.inl (m : Int)), some (.inl (brJ n G co mw mc i s (n - 1)).1), some (.inr (.inl x3)), none, some (.inr (.inl x5)), none, some (.inl (i : Int)), some (.inl (n : Int))] [] W b Q) : ∀ (g k : Nat) (W : Mv) (x3 x5 : Int), k + g + 1 = n → (∀ y, ¬ (100 ≤ y ∧ y ≤ 107) → y ≠ 68 → W y = V y) → lsC (brJ n G co mw mc i s k) x3 x5 → Ev L (d + 5) 33 29 [some (.inr (.inr 1)), some (.inl (m : Int)), some (.inl (brJ n G co mw mc i s k).1), some (.inr (.inl x3)), none, some (.inr (.inl x5)), none, some (.inl (i : Int)), some (.inl ((k + 1 : Nat) : Int))] [] W b Q
  | 0, k, W, x3, x5, h, w1, w2 => by
    obtain rfl : k = n - 1 := by omega
    have h8 := (hR 0).1.2.1
    have h2 := (hR 0).1.1
    have eC : W (14 + 15 * ((m : Int)).toNat) 0 = (n : Int) := by rw [Int.toNat_natCast, w1 _ (by omega) (by omega)]; exact hP.1
    refine Ev.blk 7 (B33_29 _ _ _ _ _ _ _ _ _ ⟨by omega, by omega⟩ ⟨by omega, by omega⟩ (by rw [eC]; exact ⟨by omega, by omega⟩)) rfl ?_
    rw [eC]
    refine Ev.ite (fun _ => ?_) (fun z => absurd (of_decide_eq_false z) (by omega))
    rw [show n - 1 + 1 = n by omega]
    exact hQ W x3 x5 w1 w2
  | g + 1, k, W, x3, x5, h, w1, w2 => by
    have h8 := (hR 0).1.2.1
    have h2 := (hR 0).1.1
    have eC : W (14 + 15 * ((m : Int)).toNat) 0 = (n : Int) := by rw [Int.toNat_natCast, w1 _ (by omega) (by omega)]; exact hP.1
    have eM : W (14 + 15 * m + 6) i = mw i := by rw [w1 _ (by omega) (by omega)]; exact hP.2.2.2.1 i h4
    have sI := brJ_i hs h4 hR k (by omega)
    have nxt : ∀ (W2 : Mv) (y3 y5 : Int), (∀ y, ¬ (100 ≤ y ∧ y ≤ 107) → y ≠ 68 → W2 y = V y) → lsC (brJ n G co mw mc i s (k + 1)) y3 y5 → Ev L (d + 5) 33 110 [some (.inr (.inr 1)), some (.inl (m : Int)), some (.inl (brJ n G co mw mc i s (k + 1)).1), some (.inr (.inl y3)), none, some (.inr (.inl y5)), none, some (.inl (i : Int)), some (.inl ((k + 1 : Nat) : Int))] [] W2 b Q := fun W2 y3 y5 f l => by
      refine Ev.blk 2 (B33_110 _ _ _ _ _ _ _ _ _) rfl ?_
      exact b2_lp (L := L) (d := d) hm h4 hBd hP hR hs hQ g (k + 1) W2 y3 y5 (by omega) f l
    refine Ev.blk 7 (B33_29 _ _ _ _ _ _ _ _ _ ⟨by omega, by omega⟩ ⟨by omega, by omega⟩ (by rw [eC]; exact ⟨by omega, by omega⟩)) rfl ?_
    rw [eC]
    refine Ev.ite (fun z => absurd (of_decide_eq_true z) (by omega)) (fun _ => ?_)
    refine Ev.blk 3 (B33_43 _ _ _ _ _ _ _ _ _) rfl ?_
    refine Ev.call rfl rfl rfl (x_isMendingC (d := d) (m := (m : Int)) (j := (i : Int)) (hBd.fr w1) ⟨by omega, by omega⟩ ⟨by omega, by omega⟩) (by omega) ?_
    rintro v V' b' ⟨rfl, h_, g_⟩
    subst V' b'
    refine Ev.blk 1 (B33_50 _ _ _ _ _ _ _ _ _ _ (b01_in _)) rfl ?_
    rw [Int.toNat_natCast, Int.toNat_natCast, eM]
    refine Ev.ite (fun z => ?_) (fun z => ?_)
    · replace z := b01_0 (of_decide_eq_true z)
      have mi : mw i = -9 := Classical.byContradiction (fun y => z ⟨by omega, by omega, by omega, y⟩)
      have e : brJ n G co mw mc i s (k + 1) = brJ n G co mw mc i s k := by
        unfold brJ
        rw [if_pos mi, if_pos mi]
      rw [e] at nxt
      exact nxt W x3 x5 w1 w2
    replace z := b01_1 (of_decide_eq_false z)
    have e : brJ n G co mw mc i s (k + 1) = lst (brJ n G co mw mc i s k) (10 * (i : Int) + ((k + 1 : Nat) : Int)) n G co mw mc (brA i (k + 1)) := by
      unfold brJ
      rw [if_neg z.2.2.2, if_neg z.2.2.2]
      rfl
    refine Ev.blk 4 (B33_53 _ _ _ _ _ _ _ _ _) rfl ?_
    refine Ev.call rfl rfl rfl (x_findBar (d := d) (i := i) (bb := k + 1) hm (by omega) (hP.frame (fun x h1 h2 => w1 x (by omega) (by omega))) (hR (k + 1))) (by omega) ?_
    rintro v W2 b2 ⟨rfl, v1, v2⟩
    have f2 : ∀ y, ¬ (100 ≤ y ∧ y ≤ 107) → y ≠ 68 → W2 y = V y := fun y h1 h2 => by rw [v1 y h1 h2]; exact w1 y h1 h2
    rcases v2 with ⟨ok, rfl, e0, e1⟩ | ⟨nok, rfl⟩
    rotate_left
    · refine Ev.blk 1 (B33_62 _ _ _ _ _ _ _ _ _ _ (by decide)) rfl ?_
      refine Ev.ite (fun _ => ?_) (fun z => absurd z (by decide))
      rw [lst_f (fun c => nok c.1)] at e
      rw [e] at nxt
      exact nxt W2 x3 x5 f2 w2
    have bd := (hR (k + 1)).ne ok
    refine Ev.blk 1 (B33_62 _ _ _ _ _ _ _ _ _ _ (by decide)) rfl ?_
    refine Ev.ite (fun z => absurd z (by decide)) (fun _ => ?_)
    have take : stC (brJ n G co mw mc i s k) n G co mw mc (brA i (k + 1)) → Ev L (d + 5) 33 84 [some (.inr (.inr 1)), some (.inl (m : Int)), some (.inl (brJ n G co mw mc i s k).1), some (.inr (.inl x3)), none, some (.inr (.inl x5)), none, some (.inl (i : Int)), some (.inl ((k + 1 : Nat) : Int))] [] W2 b2 Q := fun c => by
      rw [lst_t c] at e
      rw [e] at nxt
      refine Ev.blk 14 (B33_84 _ _ _ _ _ _ _ _ _) rfl ?_
      exact nxt W2 _ _ f2 (Or.inr ⟨e0, e1⟩)
    refine Ev.blk 3 (B33_65 _ _ _ _ _ _ _ _ _ sI.2.2.2) rfl ?_
    refine Ev.ite (fun y => ?_) (fun y => ?_)
    · replace y := of_decide_eq_true y
      exact take ⟨ok, Or.inl (sI.1.mp y)⟩
    · replace y := of_decide_eq_false y
      have y0 : ¬ (brJ n G co mw mc i s k).2.2 = 0 := fun w => y (sI.1.mpr w)
      have w3 : x3 = ((brJ n G co mw mc i s k).2.1 : Int) ∧ x5 = ((brJ n G co mw mc i s k).2.2 : Int) := by
        rcases w2 with w | w
        · exact absurd w y0
        · exact w
      have p1 := prb bd.1 sI.2.2.1
      have p2 := prb sI.2.1 bd.2.2
      have eq : ((rN n G co mw mc (brA i (k + 1)) * (brJ n G co mw mc i s k).2.2 < (brJ n G co mw mc i s k).2.1 * rE n G co mw mc (brA i (k + 1))) ↔ ((rN n G co mw mc (brA i (k + 1)) : Int) * ((brJ n G co mw mc i s k).2.2 : Int) < ((brJ n G co mw mc i s k).2.1 : Int) * (rE n G co mw mc (brA i (k + 1)) : Int))) := by
        rw [← Int.natCast_mul, ← Int.natCast_mul, Int.ofNat_lt]
      obtain ⟨rfl, rfl⟩ := w3
      refine Ev.blk 4 (B33_71 _ _ _ _ _ _ _ _ _) rfl ?_
      refine Ev.call rfl rfl rfl (x_cmpW (d := d) (Or.inr (Or.inr (Or.inr (Or.inr (Or.inr (Or.inr rfl)))))) (by rw [e0]; exact p1) (by rw [e1]; exact p2)) (by omega) ?_
      rintro v V' b' ⟨rfl, h_, g_⟩
      subst V' b'
      rw [e0, e1]
      refine Ev.blk 1 (B33_81 _ _ _ _ _ _ _ _ _ _ (cmpI_in _ _)) rfl ?_
      refine Ev.ite (fun q => ?_) (fun q => ?_)
      · replace q := of_decide_eq_true q
        have nc : ¬ stC (brJ n G co mw mc i s k) n G co mw mc (brA i (k + 1)) := fun c => by
          rcases c.2 with r | r
          · exact y0 r
          · have := (cmpI_lt _ _).mpr (eq.mp r)
            omega
        rw [lst_f nc] at e
        rw [e] at nxt
        exact nxt W2 _ _ f2 (Or.inr ⟨rfl, rfl⟩)
      · replace q := of_decide_eq_false q
        exact take ⟨ok, Or.inr (eq.mpr ((cmpI_lt _ _).mp (by omega)))⟩
theorem b1_lp {L d : Nat} {V : Mv} {b : Bool} {Q : Option AV → Mv → Bool → Prop} {m n : Nat} {G : Nat → Nat → Int} {co mw mc : Nat → Int} (hm : m < 3) (hBd : BdC V) (hP : PK V (14 + 15 * m) n G co mw mc) (hR : ∀ i bb, i < 4 → RB n G co mw mc (brA i bb)) (hQ : ∀ W, (∀ y, ¬ (100 ≤ y ∧ y ≤ 107) → y ≠ 68 → W y = V y) → Q (some (.inl (brO n G co mw mc 4).1)) W b) : ∀ (g i : Nat) (W : Mv) (x3 x5 : Int), i + g = 4 → (∀ y, ¬ (100 ≤ y ∧ y ≤ 107) → y ≠ 68 → W y = V y) → lsC (brO n G co mw mc i) x3 x5 → Ev L (d + 5) 33 20 [some (.inr (.inr 1)), some (.inl (m : Int)), some (.inl (brO n G co mw mc i).1), some (.inr (.inl x3)), none, some (.inr (.inl x5)), none, some (.inl (i : Int)), none] [] W b Q
  | 0, i, W, x3, x5, h, w1, w2 => by
    obtain rfl : i = 4 := by omega
    refine Ev.blk 3 (B33_20 _ _ _ _ _ _ _ _ (by decide)) rfl ?_
    refine Ev.ite (fun _ => ?_) (fun z => absurd z (by decide))
    refine Ev.blk 1 (B33_122 _ _ _ _ _ _ _ _) rfl ?_
    exact Ev.ret rfl rfl rfl rfl (hQ W w1)
  | g + 1, i, W, x3, x5, h, w1, w2 => by
    have h8 := (hR 0 0 (by omega)).1.2.1
    have h2 := (hR 0 0 (by omega)).1.1
    refine Ev.blk 3 (B33_20 _ _ _ _ _ _ _ _ ⟨by omega, by omega⟩) rfl ?_
    refine Ev.ite (fun z => absurd (of_decide_eq_true z) (by omega)) (fun _ => ?_)
    refine Ev.blk 2 (B33_26 _ _ _ _ _ _ _ _) rfl ?_
    have e : brJ n G co mw mc i (brO n G co mw mc i) 0 = brO n G co mw mc i := by
      unfold brJ
      split <;> rfl
    have := b2_lp (L := L) (d := d) (V := V) (b := b) (Q := Q) (i := i) (s := brO n G co mw mc i) hm (by omega) hBd hP (fun bb => hR i bb (by omega)) (brO_i h8 hR i (by omega)) (fun W2 y3 y5 v1 v2 => by
      refine Ev.blk 2 (B33_116 _ _ _ _ _ _ _ _ _) rfl ?_
      refine Ev.kill [false, false, false, false, false, false, false, false, true] ?_
      dsimp only [mkl]
      exact b1_lp (L := L) (d := d) hm hBd hP hR hQ g (i + 1) W2 y3 y5 (by omega) v1 v2) (n - 1) 0 W x3 x5 (by omega) w1 (by rw [e]; exact w2)
    rw [e] at this
    exact this
theorem r2_lp {L d : Nat} {V : Mv} {b : Bool} {Q : Option AV → Mv → Bool → Prop} {m n i : Nat} {G : Nat → Nat → Int} {co mw mc : Nat → Int} {s : Int × Nat × Nat} (hm : m < 3) (h4 : i < 4) (hBd : BdR V) (hP : PR V m n G co mw mc) (hR : ∀ bb, RB n G co mw mc (brA i bb)) (hs : stI s) (hQ : ∀ W (x4 : Int), bkF V W → lsR W (brJ n G co mw mc i s (n - 1)) → Ev L (d + 6) 194 80 [some (.inr (.inr 120)), some (.inl (m : Int)), some (.inl (brJ n G co mw mc i s (n - 1)).1), some (.inl (i : Int)), some (.inl x4)] [] W b Q) : ∀ (g k : Nat) (W : Mv), k + g + 1 = n → bkF V W → lsR W (brJ n G co mw mc i s k) → Ev L (d + 6) 194 27 [some (.inr (.inr 120)), some (.inl (m : Int)), some (.inl (brJ n G co mw mc i s k).1), some (.inl (i : Int)), some (.inl ((k + 1 : Nat) : Int))] [] W b Q
  | 0, k, W, h, w1, w2 => by
    obtain rfl : k = n - 1 := by omega
    have h8 := (hR 0).1.2.1
    have h2 := (hR 0).1.1
    have eC : W 121 ((m : Int)).toNat = (n : Int) := by rw [Int.toNat_natCast, w1.row (by omega) (by omega) (by omega)]; exact hP.1
    refine Ev.blk 6 (B194_27 _ _ _ _ _ _ _ ⟨by omega, by omega⟩ ⟨by omega, by omega⟩ (by rw [eC]; exact ⟨by omega, by omega⟩)) rfl ?_
    rw [eC]
    refine Ev.ite (fun _ => ?_) (fun z => absurd (of_decide_eq_false z) (by omega))
    exact hQ W _ w1 w2
  | g + 1, k, W, h, w1, w2 => by
    have h8 := (hR 0).1.2.1
    have h2 := (hR 0).1.1
    have eC : W 121 ((m : Int)).toNat = (n : Int) := by rw [Int.toNat_natCast, w1.row (by omega) (by omega) (by omega)]; exact hP.1
    have eM : W 126 (4 * (m : Int) + (i : Int)).toNat = mw i := by
      rw [show (4 * (m : Int) + (i : Int)).toNat = 4 * m + i by omega, w1.row (by omega) (by omega) (by omega)]
      exact hP.2.2.2.1 i h4
    have sI := brJ_i hs h4 hR k (by omega)
    refine Ev.blk 6 (B194_27 _ _ _ _ _ _ _ ⟨by omega, by omega⟩ ⟨by omega, by omega⟩ (by rw [eC]; exact ⟨by omega, by omega⟩)) rfl ?_
    rw [eC]
    refine Ev.ite (fun z => absurd (of_decide_eq_true z) (by omega)) (fun _ => ?_)
    refine Ev.blk 3 (B194_38 _ _ _ _ _ _ _) rfl ?_
    refine Ev.call rfl rfl rfl (x_isMendingR (d := d) (m := (m : Int)) (j := (i : Int)) (hBd.fr (fun y h1 h2 => w1.row (by omega) (by omega) (by omega))) ⟨by omega, by omega⟩ ⟨by omega, by omega⟩) (by omega) ?_
    rintro v V' b' ⟨rfl, h_, g_⟩
    subst V' b'
    refine Ev.blk 1 (B194_44 _ _ _ _ _ _ _ _ (b01_in _)) rfl ?_
    rw [eM]
    refine Ev.ite (fun z => ?_) (fun z => ?_)
    · replace z := b01_0 (of_decide_eq_true z)
      have mi : mw i = -9 := Classical.byContradiction (fun y => z ⟨by omega, by omega, y⟩)
      have e : brJ n G co mw mc i s (n - 1) = brJ n G co mw mc i s k := by
        unfold brJ
        rw [if_pos mi, if_pos mi]
      rw [e] at hQ
      exact hQ W _ w1 w2
    replace z := b01_1 (of_decide_eq_false z)
    have e : brJ n G co mw mc i s (k + 1) = lst (brJ n G co mw mc i s k) (10 * (i : Int) + ((k + 1 : Nat) : Int)) n G co mw mc (brA i (k + 1)) := by
      unfold brJ
      rw [if_neg z.2.2, if_neg z.2.2]
      rfl
    refine Ev.blk 3 (B194_47 _ _ _ _ _ _ _) rfl ?_
    refine Ev.call rfl rfl rfl (x_tryBar (d := d) (i := i) (bb := k + 1) (by omega)) (by omega) ?_
    rintro v W2 b2 ⟨rfl, rfl, v1, v2⟩
    have b2_ : bkF V W2 := fun y k h1 h2 h3 => by rw [v1 y k h2]; exact w1 y k h1 h2 h3
    have l2 : lsR W2 (brJ n G co mw mc i s k) := by
      unfold lsR
      rw [v1 120 28 (by omega), v1 120 27 (by omega)]
      exact w2
    refine Ev.blk 2 (B194_54 _ _ _ _ _ _ _) rfl ?_
    refine Ev.call rfl rfl rfl (x_isLess (d := d) hm (hP.frame (fun x h1 h2 => b2_.row (by omega) (by omega) (by omega))) (hR (k + 1)) v2 sI l2 (10 * (i : Int) + ((k + 1 : Nat) : Int))) (by omega) ?_
    rintro v W3 b3 ⟨rfl, u1, u2, u3⟩
    have b3_ : bkF V W3 := fun y k h1 h2 h3 => by rw [u1 y k h1 h3]; exact b2_ y k h1 h2 h3
    rw [← e] at u2
    have nxt : ∀ z : Int, z = (brJ n G co mw mc i s (k + 1)).1 → Ev L (d + 6) 194 73 [some (.inr (.inr 120)), some (.inl (m : Int)), some (.inl (brJ n G co mw mc i s k).1), some (.inl (i : Int)), some (.inl ((k + 1 : Nat) : Int))] [.inl z] W3 b3 Q := fun z hz => by
      subst hz
      refine Ev.blk 3 (B194_73 _ _ _ _ _ _ _ _) rfl ?_
      exact r2_lp (L := L) (d := d) hm h4 hBd hP hR hs hQ g (k + 1) W3 (by omega) b3_ u2
    rcases u3 with ⟨c, rfl⟩ | ⟨c, rfl⟩
    · rw [lst_t c] at e
      refine Ev.blk 1 (B194_59 _ _ _ _ _ _ _ _ (by decide)) rfl ?_
      refine Ev.ite (fun z => absurd z (by decide)) (fun _ => ?_)
      refine Ev.blk 6 (B194_62 _ _ _ _ _ _ _) rfl ?_
      exact nxt _ (by rw [e])
    · rw [lst_f c] at e
      refine Ev.blk 1 (B194_59 _ _ _ _ _ _ _ _ (by decide)) rfl ?_
      refine Ev.ite (fun _ => ?_) (fun z => absurd z (by decide))
      refine Ev.blk 1 (B194_72 _ _ _ _ _ _ _) rfl ?_
      exact nxt _ (by rw [e])
theorem r1_lp {L d : Nat} {V : Mv} {b : Bool} {Q : Option AV → Mv → Bool → Prop} {m n : Nat} {G : Nat → Nat → Int} {co mw mc : Nat → Int} (hm : m < 3) (hBd : BdR V) (hP : PR V m n G co mw mc) (hR : ∀ i bb, i < 4 → RB n G co mw mc (brA i bb)) (hQ : ∀ W, bkF V W → Q (some (.inl (brO n G co mw mc 4).1)) W b) : ∀ (g i : Nat) (W : Mv), i + g = 4 → bkF V W → lsR W (brO n G co mw mc i) → Ev L (d + 6) 194 19 [some (.inr (.inr 120)), some (.inl (m : Int)), some (.inl (brO n G co mw mc i).1), some (.inl (i : Int)), none] [] W b Q
  | 0, i, W, h, w1, w2 => by
    obtain rfl : i = 4 := by omega
    refine Ev.blk 3 (B194_19 _ _ _ _ _ _ (by decide)) rfl ?_
    refine Ev.ite (fun _ => ?_) (fun z => absurd z (by decide))
    refine Ev.blk 1 (B194_86 _ _ _ _ _ _) rfl ?_
    exact Ev.ret rfl rfl rfl rfl (hQ W w1)
  | g + 1, i, W, h, w1, w2 => by
    have h8 := (hR 0 0 (by omega)).1.2.1
    have h2 := (hR 0 0 (by omega)).1.1
    refine Ev.blk 3 (B194_19 _ _ _ _ _ _ ⟨by omega, by omega⟩) rfl ?_
    refine Ev.ite (fun z => absurd (of_decide_eq_true z) (by omega)) (fun _ => ?_)
    refine Ev.blk 2 (B194_24 _ _ _ _ _ _) rfl ?_
    have e : brJ n G co mw mc i (brO n G co mw mc i) 0 = brO n G co mw mc i := by
      unfold brJ
      split <;> rfl
    have := r2_lp (L := L) (d := d) (V := V) (b := b) (Q := Q) (i := i) (s := brO n G co mw mc i) hm (by omega) hBd hP (fun bb => hR i bb (by omega)) (brO_i h8 hR i (by omega)) (fun W2 x4 v1 v2 => by
      refine Ev.blk 2 (B194_80 _ _ _ _ _ _ _) rfl ?_
      refine Ev.kill [false, false, false, false, true] ?_
      dsimp only [mkl]
      exact r1_lp (L := L) (d := d) hm hBd hP hR hQ g (i + 1) W2 (by omega) v1 v2) (n - 1) 0 W (by omega) w1 (by rw [e]; exact w2)
    rw [e] at this
    exact this
theorem op_bar (a0 : Int) (h0 : in32 a0) : OpI 33 194 [.inl a0] := by
  intro L N V b hL hN hI
  have hi := hI.1
  refine Ev.blk 1 (B33_0 _ _ _ _) rfl ?_
  refine Ev.call rfl rfl rfl (x_isMachineC (d := 27) h0) (by omega) ?_
  rintro v V' b' ⟨rfl, h_, g_⟩
  subst V' b'
  refine Ev.blk 1 (B33_4 _ _ _ _ _ (b01_in _)) rfl ?_
  refine Ev.ite (fun q => ?_) (fun q => ?_)
  rotate_left
  · replace q := b01_0 (nd_f q)
    refine Ev.blk 1 (B33_7 _ _ _ _) rfl ?_
    refine Ev.ret rfl rfl rfl rfl ⟨_, rfl, by decide, rfl, ?_⟩
    refine Ev.blk 1 (B194_0 _ _ _ _) rfl ?_
    refine Ev.call rfl rfl rfl (x_isMachineR (d := 26) h0) (by omega) ?_
    rintro v V' b' ⟨rfl, h_, g_⟩
    subst V' b'
    refine Ev.blk 1 (B194_4 _ _ _ _ _ (b01_in _)) rfl ?_
    refine Ev.ite (fun z => absurd (b01_1 (nd_t z)) (by omega)) (fun _ => ?_)
    refine Ev.blk 1 (B194_7 _ _ _ _) rfl ?_
    exact Ev.ret rfl rfl rfl rfl ⟨rfl, hi.more (Nat.le_succ N), hI.2⟩
  replace q := b01_1 (nd_t q)
  obtain ⟨m, rfl⟩ : ∃ m : Nat, a0 = (m : Int) := ⟨a0.toNat, by omega⟩
  have hm : m < 3 := by omega
  obtain ⟨n, hn, hP, hPR, hB⟩ := (hi.kd m hm).rows
  have hRB : ∀ i bb, i < 4 → RB n (fun a c => rGo V (m : Int) (a : Int) (c : Int)) (fun j => V 124 (8 * m + j)) (fun j => V 126 (4 * m + j)) (fun j => V 127 (4 * m + j)) (brA i bb) := fun i bb h4 => (hi.kd m hm).rb hn (fun a _ => brA_b h4 a)
  have sI := brO_i hB.2.1 hRB 4 (by omega)
  refine Ev.blk 8 (B33_9 _ _ _ _) rfl ?_
  refine b1_lp (d := 24) (V := V) hm hi.bdC hP hRB (fun W1 f1 => ⟨_, rfl, sI.2.2.2, f1 0 (by omega) (by omega), ?_⟩) 4 0 V 0 1 (by omega) (fun _ _ _ => rfl) (Or.inl rfl)
  refine Ev.blk 1 (B194_0 _ _ _ _) rfl ?_
  refine Ev.call rfl rfl rfl (x_isMachineR (d := 26) h0) (by omega) ?_
  rintro v V' b' ⟨rfl, h_, g_⟩
  subst V' b'
  refine Ev.blk 1 (B194_4 _ _ _ _ _ (b01_in _)) rfl ?_
  refine Ev.ite (fun _ => ?_) (fun z => absurd (show 0 ≤ (m : Int) ∧ (m : Int) ≤ 2 by omega) (b01_0 (nd_f z)))
  refine Ev.blk 7 (B194_9 _ _ _ _) rfl ?_
  have fw : ∀ y, 121 ≤ y → y ≤ 127 → W1 y = V y := fun y h1 h2 => f1 y (by omega) (by omega)
  refine r1_lp (d := 23) (V := W1) hm (hi.bdR.fr fw) (hPR.frame fw) hRB (fun W2 bk => ⟨rfl, (hi.more (Nat.le_succ N)).bkf f1 bk, fun k => by rw [bkF.z f1 bk]; exact hI.2 k⟩) 4 0 _ (by omega) (fun y k h1 h2 h3 => by rw [uV_cell, if_neg (by omega)]) ⟨by rw [uV_cell, if_pos ⟨rfl, rfl⟩]; rfl, Or.inl rfl⟩
