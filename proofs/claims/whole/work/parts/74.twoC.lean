/-! two machines, the class (specs30.py) -/
theorem ch1_lp {L d : Nat} {V : Mv} {b : Bool} {Q : Option AV → Mv → Bool → Prop} {c1 c2 n1 n2 : Nat} {G H : Nat → Nat → Int} {co mw mc cp mw2 mc2 : Nat → Int} {a e : Nat} {s : Int} {lt : Nat → Nat → Int} (h1 : isK c1) (h2 : isK c2) (hP : PK V c1 n1 G co mw mc) (hB : PB n1 G co mw mc) (hP2 : PK V c2 n2 H cp mw2 mc2) (hB2 : PB n2 H cp mw2 mc2) (ha : a < n1) (he : e < n2) (hl : ∀ i j, i < n1 → j < n2 → V (ltA b) (8 * i + j) = lt i j) (hQ : Ev L d 127 62 [some (.inr (.inr 115)), some (.inr (.inr c1)), some (.inl (a : Int)), some (.inr (.inr c2)), some (.inl (e : Int)), some (.inr (.inl s)), none, some (.inr (.inl (rnV G co (fun i => lt i e) n1 s a))), none, some (.inl ((a + (n1 - a) : Nat) : Int)), none, none] [] V b Q) : ∀ n k : Nat, k + n = n1 - a → Ev L (d) 127 15 [some (.inr (.inr 115)), some (.inr (.inr c1)), some (.inl (a : Int)), some (.inr (.inr c2)), some (.inl (e : Int)), some (.inr (.inl s)), none, some (.inr (.inl (dyV G co (fun i => lt i e) s a k))), none, some (.inl ((a + k : Nat) : Int)), none, none] [] V b Q
  | 0, k, h => by
    obtain rfl : k = n1 - a := by omega
    have h8 := hB.2.1
    have hw := hP.1
    refine Ev.blk 4 (B127_15 _ _ _ _ _ _ _ _ _ _ (by first | exact h1 | omega | exact ⟨by omega, by omega⟩) (by first | exact h1 | omega | exact ⟨by omega, by omega⟩) (by first | exact h1 | omega | exact ⟨by omega, by omega⟩)) rfl ?_
    refine Ev.ite (fun q => ?_) (fun q => ?_)
    · replace q := of_decide_eq_true q
      exact hQ
    · replace q := of_decide_eq_false q
      exact absurd q (by omega)
  | n + 1, k, h => by
    have ih := ch1_lp (L := L) (d := d) h1 h2 hP hB hP2 hB2 ha he hl hQ n (k + 1) (by omega)
    have h8 := hB.2.1
    have h82 := hB2.2.1
    have hw := hP.1
    have e0 : ((a : Int) * 8 + ((a + k : Nat) : Int)).toNat = 8 * a + (a + k) := by omega
    have e2 : (((a + k : Nat) : Int) * 8 + (e : Int)).toNat = 8 * (a + k) + e := by omega
    have h3 := hB.2.2.1 a (a + k) (by omega) (by omega)
    refine Ev.blk 4 (B127_15 _ _ _ _ _ _ _ _ _ _ (by first | exact h1 | omega | exact ⟨by omega, by omega⟩) (by first | exact h1 | omega | exact ⟨by omega, by omega⟩) (by first | exact h1 | omega | exact ⟨by omega, by omega⟩)) rfl ?_
    refine Ev.ite (fun q => ?_) (fun q => ?_)
    · replace q := of_decide_eq_true q
      exact absurd q (by omega)
    · replace q := of_decide_eq_false q
      refine Ev.blk 23 (T127_24 _ _ _ _ _ _ _ _ _ _ (by first | exact h1 | omega | (rw [e0, hP.2.1 a (a + k) (by omega) (by omega)]; exact ⟨by omega, by omega⟩) | exact ⟨by omega, by omega⟩) (by first | exact h1 | omega | (rw [e0, hP.2.1 a (a + k) (by omega) (by omega)]; exact ⟨by omega, by omega⟩) | exact ⟨by omega, by omega⟩) (by first | exact h1 | omega | (rw [e0, hP.2.1 a (a + k) (by omega) (by omega)]; exact ⟨by omega, by omega⟩) | exact ⟨by omega, by omega⟩) (by first | exact h1 | omega | (rw [e0, hP.2.1 a (a + k) (by omega) (by omega)]; exact ⟨by omega, by omega⟩) | exact ⟨by omega, by omega⟩)) rfl ?_
      refine Ev.val ?_ rfl ih
      rw [dyV_s, e0, hP.2.1 a (a + k) (by omega) (by omega), e2, hl (a + k) e (by omega) he]
      rfl

theorem ch2_lp {L d : Nat} {V : Mv} {b : Bool} {Q : Option AV → Mv → Bool → Prop} {c1 c2 n1 n2 : Nat} {G H : Nat → Nat → Int} {co mw mc cp mw2 mc2 : Nat → Int} {a e : Nat} {s x7 : Int} {lt : Nat → Nat → Int} (h1 : isK c1) (h2 : isK c2) (hP : PK V c1 n1 G co mw mc) (hB : PB n1 G co mw mc) (hP2 : PK V c2 n2 H cp mw2 mc2) (hB2 : PB n2 H cp mw2 mc2) (ha : a < n1) (he : e < n2) (hl : ∀ i j, i < n1 → j < n2 → V (ltA b) (8 * i + j) = lt i j) (hQ : Ev L d 127 126 [some (.inr (.inr 115)), some (.inr (.inr c1)), some (.inl (a : Int)), some (.inr (.inr c2)), some (.inl (e : Int)), some (.inr (.inl s)), none, some (.inr (.inl x7)), none, some (.inr (.inl (rnV H cp (fun j => lt a j) n2 s e))), none, some (.inl ((e + (n2 - e) : Nat) : Int))] [] V b Q) : ∀ n k : Nat, k + n = n2 - e → Ev L (d) 127 79 [some (.inr (.inr 115)), some (.inr (.inr c1)), some (.inl (a : Int)), some (.inr (.inr c2)), some (.inl (e : Int)), some (.inr (.inl s)), none, some (.inr (.inl x7)), none, some (.inr (.inl (dyV H cp (fun j => lt a j) s e k))), none, some (.inl ((e + k : Nat) : Int))] [] V b Q
  | 0, k, h => by
    obtain rfl : k = n2 - e := by omega
    have h82 := hB2.2.1
    have hw := hP2.1
    refine Ev.blk 4 (B127_79 _ _ _ _ _ _ _ _ _ _ _ (by first | exact h2 | omega | exact ⟨by omega, by omega⟩) (by first | exact h2 | omega | exact ⟨by omega, by omega⟩) (by first | exact h2 | omega | exact ⟨by omega, by omega⟩)) rfl ?_
    refine Ev.ite (fun q => ?_) (fun q => ?_)
    · replace q := of_decide_eq_true q
      exact hQ
    · replace q := of_decide_eq_false q
      exact absurd q (by omega)
  | n + 1, k, h => by
    have ih := ch2_lp (L := L) (d := d) (x7 := x7) h1 h2 hP hB hP2 hB2 ha he hl hQ n (k + 1) (by omega)
    have h8 := hB.2.1
    have h82 := hB2.2.1
    have hw := hP2.1
    have e0 : ((e : Int) * 8 + ((e + k : Nat) : Int)).toNat = 8 * e + (e + k) := by omega
    have e2 : ((a : Int) * 8 + ((e + k : Nat) : Int)).toNat = 8 * a + (e + k) := by omega
    have h3 := hB2.2.2.1 e (e + k) (by omega) (by omega)
    refine Ev.blk 4 (B127_79 _ _ _ _ _ _ _ _ _ _ _ (by first | exact h2 | omega | exact ⟨by omega, by omega⟩) (by first | exact h2 | omega | exact ⟨by omega, by omega⟩) (by first | exact h2 | omega | exact ⟨by omega, by omega⟩)) rfl ?_
    refine Ev.ite (fun q => ?_) (fun q => ?_)
    · replace q := of_decide_eq_true q
      exact absurd q (by omega)
    · replace q := of_decide_eq_false q
      refine Ev.blk 23 (T127_88 _ _ _ _ _ _ _ _ _ _ _ (by first | exact h2 | omega | (rw [e0, hP2.2.1 e (e + k) (by omega) (by omega)]; exact ⟨by omega, by omega⟩) | exact ⟨by omega, by omega⟩) (by first | exact h2 | omega | (rw [e0, hP2.2.1 e (e + k) (by omega) (by omega)]; exact ⟨by omega, by omega⟩) | exact ⟨by omega, by omega⟩) (by first | exact h2 | omega | (rw [e0, hP2.2.1 e (e + k) (by omega) (by omega)]; exact ⟨by omega, by omega⟩) | exact ⟨by omega, by omega⟩) (by first | exact h2 | omega | (rw [e0, hP2.2.1 e (e + k) (by omega) (by omega)]; exact ⟨by omega, by omega⟩) | exact ⟨by omega, by omega⟩)) rfl ?_
      refine Ev.val ?_ rfl ih
      rw [dyV_s, e0, hP2.2.1 e (e + k) (by omega) (by omega), e2, hl a (e + k) ha (by omega)]
      rfl

theorem x_chT {L d : Nat} {V : Mv} {b : Bool} {c1 c2 n1 n2 : Nat} {G H : Nat → Nat → Int} {co mw mc cp mw2 mc2 : Nat → Int} {a e : Nat} {s : Int} {lt : Nat → Nat → Int} (h1 : isK c1) (h2 : isK c2) (hP : PK V c1 n1 G co mw mc) (hB : PB n1 G co mw mc) (hP2 : PK V c2 n2 H cp mw2 mc2) (hB2 : PB n2 H cp mw2 mc2) (ha : a < n1) (he : e < n2) (hl : ∀ i j, i < n1 → j < n2 → V (ltA b) (8 * i + j) = lt i j) (b1 : in64 (rnV G co (fun i => lt i e) n1 s a)) (b2 : in64 (rnV H cp (fun j => lt a j) n2 s e)) : Ex L d 127 [.inr (.inr 115), .inr (.inr c1), .inl (a : Int), .inr (.inr c2), .inl (e : Int), .inr (.inl s)] V b (fun v V' b' => v = none ∧ b' = b ∧ (∀ x, x ≠ nwA b → x ≠ 118 → V' x = V x) ∧ (∀ j, j ≠ 8 * a + e → V' (nwA b) j = V (nwA b) j ∧ V' 118 j = V 118 j) ∧ V' (nwA b) (8 * a + e) = (if rnV H cp (fun j => lt a j) n2 s e < rnV G co (fun i => lt i e) n1 s a then rnV H cp (fun j => lt a j) n2 s e else rnV G co (fun i => lt i e) n1 s a) ∧ V' 118 (8 * a + e) = (if rnV H cp (fun j => lt a j) n2 s e < rnV G co (fun i => lt i e) n1 s a then 1 else 0)) := by
  have h8 := hB.2.1
  have h82 := hB2.2.1
  have hn := nwA_c b
  have c1b := hB.2.2.2.1 a (by omega)
  have c2b := hB2.2.2.2.1 e (by omega)
  refine Ev.blk 10 (B127_0 _ _ _ _ _ _ _ _ h1 (by omega) (by rw [Int.toNat_natCast, hP.2.2.1 a (by omega)]; exact ⟨by omega, by omega⟩)) rfl ?_
  rw [Int.toNat_natCast, hP.2.2.1 a (by omega)]
  refine Ev.val (ls' := [some (.inr (.inr 115)), some (.inr (.inr c1)), some (.inl (a : Int)), some (.inr (.inr c2)), some (.inl (e : Int)), some (.inr (.inl s)), none, some (.inr (.inl (dyV G co (fun i => lt i e) s a 0))), none, some (.inl ((a + 0 : Nat) : Int)), none, none]) (by rw [dyV_0]; rfl) rfl (ch1_lp h1 h2 hP hB hP2 hB2 ha he hl ?_ (n1 - a) 0 (by omega))
  refine Ev.blk 10 (B127_62 _ _ _ _ _ _ _ _ _ _ h2 (by omega) (by rw [Int.toNat_natCast, hP2.2.2.1 e (by omega)]; exact ⟨by omega, by omega⟩)) rfl ?_
  rw [Int.toNat_natCast, hP2.2.2.1 e (by omega)]
  refine Ev.val (ls' := [some (.inr (.inr 115)), some (.inr (.inr c1)), some (.inl (a : Int)), some (.inr (.inr c2)), some (.inl (e : Int)), some (.inr (.inl s)), none, some (.inr (.inl (rnV G co (fun i => lt i e) n1 s a))), none, some (.inr (.inl (dyV H cp (fun j => lt a j) s e 0))), none, some (.inl ((e + 0 : Nat) : Int))]) (by rw [dyV_0]; rfl) rfl (ch2_lp h1 h2 hP hB hP2 hB2 ha he hl ?_ (n2 - e) 0 (by omega))
  have e0 : ((a : Int) * 8 + (e : Int)).toNat = 8 * a + e := by omega
  refine Ev.blk 22 (T127_126 _ _ _ _ _ _ _ _ _ _ _ b1 b2 (by omega) (cmpI_in _ _)) rfl ?_
  rw [e0]
  have mem : ∀ z w : Int, w = (if rnV H cp (fun j => lt a j) n2 s e < rnV G co (fun i => lt i e) n1 s a then rnV H cp (fun j => lt a j) n2 s e else rnV G co (fun i => lt i e) n1 s a) → z = (if rnV H cp (fun j => lt a j) n2 s e < rnV G co (fun i => lt i e) n1 s a then 1 else 0) → Ev L d 127 169 [some (.inr (.inr 115)), some (.inr (.inr c1)), some (.inl (a : Int)), some (.inr (.inr c2)), some (.inl (e : Int)), some (.inr (.inl s)), none, some (.inr (.inl (rnV G co (fun i => lt i e) n1 s a))), none, some (.inr (.inl (rnV H cp (fun j => lt a j) n2 s e))), none, some (.inl ((e + (n2 - e) : Nat) : Int))] [.inl z, .inl ((a : Int) * 8 + (e : Int)), .inr (.inr 118)] (uV V (nwA b) (8 * a + e) w) b (fun v V' b' => v = none ∧ b' = b ∧ (∀ x, x ≠ nwA b → x ≠ 118 → V' x = V x) ∧ (∀ j, j ≠ 8 * a + e → V' (nwA b) j = V (nwA b) j ∧ V' 118 j = V 118 j) ∧ V' (nwA b) (8 * a + e) = (if rnV H cp (fun j => lt a j) n2 s e < rnV G co (fun i => lt i e) n1 s a then rnV H cp (fun j => lt a j) n2 s e else rnV G co (fun i => lt i e) n1 s a) ∧ V' 118 (8 * a + e) = (if rnV H cp (fun j => lt a j) n2 s e < rnV G co (fun i => lt i e) n1 s a then 1 else 0)) := by
    intro z w hw hz
    refine Ev.blk 1 (B127_169 _ _ _ _ _ _ _ _ _ _ _ _ _ _ _ (show TT L 118 = (1, 64) from rfl) ⟨by omega, by omega⟩ (by decide)) rfl ?_
    rw [e0]
    refine Ev.ret rfl rfl rfl rfl ⟨rfl, rfl, fun x n1 n2 => by rw [uV_ne n2, uV_ne n1], fun j hj => ⟨?_, ?_⟩, ?_, ?_⟩
    · rw [uV_ne (by omega), uV_at, if_neg hj]
    · rw [uV_at, if_neg hj, uV_ne (by omega)]
    · rw [uV_ne (by omega), uV_at, if_pos rfl, hw]
    · rw [uV_at, if_pos rfl, hz]
  refine Ev.ite (fun q => ?_) (fun q => ?_)
  · replace q := (cmpI_ge _ _).mp (of_decide_eq_true q)
    refine Ev.blk 1 (B127_168 _ _ _ _ _ _ _ _ _ _ _ _ _ _ (show TT L 118 = (1, 64) from rfl)) rfl ?_
    exact mem 0 _ (by rw [if_neg (by omega), decide_eq_false (by omega)]; rfl) (by rw [if_neg (by omega)])
  · have q : ¬ rnV G co (fun i => lt i e) n1 s a ≤ rnV H cp (fun j => lt a j) n2 s e := fun z => of_decide_eq_false q ((cmpI_ge _ _).mpr z)
    refine Ev.blk 2 (B127_164 _ _ _ _ _ _ _ _ _ _ _ _ _ _ (show TT L 118 = (1, 64) from rfl)) rfl ?_
    exact mem 1 _ (by rw [if_pos (by omega), decide_eq_true (by omega)]; rfl) (by rw [if_pos (by omega)])
