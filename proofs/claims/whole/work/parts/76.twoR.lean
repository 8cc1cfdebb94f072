/-! two machines, the reference (specs32.py) -/
theorem lt1_lp {L d : Nat} {V : Mv} {b : Bool} {Q : Option AV → Mv → Bool → Prop} {m o n1 n2 : Nat} {G H : Nat → Nat → Int} {co mw mc cp mw2 mc2 : Nat → Int} {wr its dd a e : Nat} {u x8 x9 : Int} {U : Nat → Nat → Int} (hm : m < 3) (ho : o < 3) (hP : PR V m n1 G co mw mc) (hB : PB n1 G co mw mc) (hP2 : PR V o n2 H cp mw2 mc2) (hB2 : PB n2 H cp mw2 mc2) (ha : a < 8) (he : e < 8) (hU : ∀ i j, i < 8 → j < 8 → V 143 (8 * i + j) = U i j) (hQ : Ev L (d + 2) 220 245 [some (.inr (.inr 120)), some (.inl (m : Int)), some (.inl (wr : Int)), some (.inl (o : Int)), some (.inl (its : Int)), some (.inl (dd : Int)), some (.inr (.inl u)), none, some (.inl x8), some (.inl x9), some (.inl (a : Int)), some (.inl (e : Int)), some (.inr (.inl (twS G co n1 u (fun i => U i e) a 8))), none, some (.inr (.inl (twS H cp n2 u (fun j => U a j) e 8))), none, some (.inl (8 : Int))] [] V b Q) : ∀ n k : Nat, k + n = 8 → Ev L (d + 2) 220 108 [some (.inr (.inr 120)), some (.inl (m : Int)), some (.inl (wr : Int)), some (.inl (o : Int)), some (.inl (its : Int)), some (.inl (dd : Int)), some (.inr (.inl u)), none, some (.inl x8), some (.inl x9), some (.inl (a : Int)), some (.inl (e : Int)), some (.inr (.inl (twS G co n1 u (fun i => U i e) a k))), none, some (.inr (.inl (twS H cp n2 u (fun j => U a j) e k))), none, some (.inl (k : Int))] [] V b Q
  | 0, k, h => by
    obtain rfl : k = 8 := by omega
    refine Ev.blk 3 (B220_108 _ _ _ _ _ _ _ _ _ _ _ _ _ _ _ _ (by first | omega | exact cmpI_in _ _ | (rw [Int.toNat_natCast, hw1]; exact ⟨by omega, by omega⟩) | (rw [Int.toNat_natCast, hw2]; exact ⟨by omega, by omega⟩) | (rw [g1]; exact ⟨by omega, by omega⟩) | (rw [g2]; exact ⟨by omega, by omega⟩) | exact ⟨by omega, by omega⟩)) rfl ?_
    refine Ev.ite (fun q => ?_) (fun q => ?_)
    · replace q := of_decide_eq_true q
      exact hQ
    · replace q := of_decide_eq_false q
      exact absurd q (by omega)
  | n + 1, k, h => by
    have ih := lt1_lp (L := L) (d := d) (wr := wr) (its := its) (dd := dd) (u := u) (x8 := x8) (x9 := x9) hm ho hP hB hP2 hB2 ha he hU hQ n (k + 1) (by omega)
    have h8 := hB.2.1
    have h82 := hB2.2.1
    have hw1 := hP.1
    have hw2 := hP2.1
    have g1 : rGo V (m : Int) (a : Int) (k : Int) = G a k := hP.2.1 a k ha (by omega)
    have g2 : rGo V (o : Int) (e : Int) (k : Int) = H e k := hP2.2.1 e k he (by omega)
    have b1 := hB.2.2.1 a k ha (by omega)
    have b2 := hB2.2.2.1 e k he (by omega)
    have e1 : (8 * (k : Int) + (e : Int)).toNat = 8 * k + e := by omega
    have e2 : (8 * (a : Int) + (k : Int)).toNat = 8 * a + k := by omega
    refine Ev.blk 3 (B220_108 _ _ _ _ _ _ _ _ _ _ _ _ _ _ _ _ (by first | omega | exact cmpI_in _ _ | (rw [Int.toNat_natCast, hw1]; exact ⟨by omega, by omega⟩) | (rw [Int.toNat_natCast, hw2]; exact ⟨by omega, by omega⟩) | (rw [g1]; exact ⟨by omega, by omega⟩) | (rw [g2]; exact ⟨by omega, by omega⟩) | exact ⟨by omega, by omega⟩)) rfl ?_
    refine Ev.ite (fun q => ?_) (fun q => ?_)
    · replace q := of_decide_eq_true q
      exact absurd q (by omega)
    · replace q := of_decide_eq_false q
      refine Ev.blk 7 (B220_115 _ _ _ _ _ _ _ _ _ _ _ _ _ _ _ _ (by first | omega | exact cmpI_in _ _ | (rw [Int.toNat_natCast, hw1]; exact ⟨by omega, by omega⟩) | (rw [Int.toNat_natCast, hw2]; exact ⟨by omega, by omega⟩) | (rw [g1]; exact ⟨by omega, by omega⟩) | (rw [g2]; exact ⟨by omega, by omega⟩) | exact ⟨by omega, by omega⟩) (by first | omega | exact cmpI_in _ _ | (rw [Int.toNat_natCast, hw1]; exact ⟨by omega, by omega⟩) | (rw [Int.toNat_natCast, hw2]; exact ⟨by omega, by omega⟩) | (rw [g1]; exact ⟨by omega, by omega⟩) | (rw [g2]; exact ⟨by omega, by omega⟩) | exact ⟨by omega, by omega⟩) (by first | omega | exact cmpI_in _ _ | (rw [Int.toNat_natCast, hw1]; exact ⟨by omega, by omega⟩) | (rw [Int.toNat_natCast, hw2]; exact ⟨by omega, by omega⟩) | (rw [g1]; exact ⟨by omega, by omega⟩) | (rw [g2]; exact ⟨by omega, by omega⟩) | exact ⟨by omega, by omega⟩)) rfl ?_
      refine Ev.ite (fun q => ?_) (fun q => ?_)
      · replace q := of_decide_eq_true q
        rw [Int.toNat_natCast, hw1] at q
        refine Ev.blk 1 (B220_173 _ _ _ _ _ _ _ _ _ _ _ _ _ _ _ _ _) rfl ?_
        refine Ev.blk 9 (B220_174 _ _ _ _ _ _ _ _ _ _ _ _ _ _ _ _ _ _ (by first | omega | exact cmpI_in _ _ | (rw [Int.toNat_natCast, hw1]; exact ⟨by omega, by omega⟩) | (rw [Int.toNat_natCast, hw2]; exact ⟨by omega, by omega⟩) | (rw [g1]; exact ⟨by omega, by omega⟩) | (rw [g2]; exact ⟨by omega, by omega⟩) | exact ⟨by omega, by omega⟩) (by first | omega | exact cmpI_in _ _ | (rw [Int.toNat_natCast, hw1]; exact ⟨by omega, by omega⟩) | (rw [Int.toNat_natCast, hw2]; exact ⟨by omega, by omega⟩) | (rw [g1]; exact ⟨by omega, by omega⟩) | (rw [g2]; exact ⟨by omega, by omega⟩) | exact ⟨by omega, by omega⟩) (by first | omega | exact cmpI_in _ _ | (rw [Int.toNat_natCast, hw1]; exact ⟨by omega, by omega⟩) | (rw [Int.toNat_natCast, hw2]; exact ⟨by omega, by omega⟩) | (rw [g1]; exact ⟨by omega, by omega⟩) | (rw [g2]; exact ⟨by omega, by omega⟩) | exact ⟨by omega, by omega⟩)) rfl ?_
        refine Ev.ite (fun q => ?_) (fun q => ?_)
        · replace q := of_decide_eq_true q
          rw [Int.toNat_natCast, hw2] at q
          refine Ev.blk 1 (B220_235 _ _ _ _ _ _ _ _ _ _ _ _ _ _ _ _ _) rfl ?_
          refine Ev.blk 4 (B220_236 _ _ _ _ _ _ _ _ _ _ _ _ _ _ _ _ _ _) rfl ?_
          refine Ev.val ?_ rfl ih
          first | rw [twS_t (G := G) (⟨by omega, by omega, by omega⟩ : a < n1 ∧ k < n1 ∧ a ≤ k)] | rw [twS_f (G := G) (by omega)]
          first | rw [twS_t (G := H) (⟨by omega, by omega, by omega⟩ : e < n2 ∧ k < n2 ∧ e ≤ k)] | rw [twS_f (G := H) (by omega)]
          try rw [g1]
          try rw [g2]
          try rw [e1, hU k e (by omega) he]
          try rw [e2, hU a k ha (by omega)]
          rfl
        · replace q := of_decide_eq_false q
          rw [Int.toNat_natCast, hw2] at q
          refine Ev.blk 6 (B220_190 _ _ _ _ _ _ _ _ _ _ _ _ _ _ _ _ _ (by first | omega | exact cmpI_in _ _ | (rw [Int.toNat_natCast, hw1]; exact ⟨by omega, by omega⟩) | (rw [Int.toNat_natCast, hw2]; exact ⟨by omega, by omega⟩) | (rw [g1]; exact ⟨by omega, by omega⟩) | (rw [g2]; exact ⟨by omega, by omega⟩) | exact ⟨by omega, by omega⟩) (by first | omega | exact cmpI_in _ _ | (rw [Int.toNat_natCast, hw1]; exact ⟨by omega, by omega⟩) | (rw [Int.toNat_natCast, hw2]; exact ⟨by omega, by omega⟩) | (rw [g1]; exact ⟨by omega, by omega⟩) | (rw [g2]; exact ⟨by omega, by omega⟩) | exact ⟨by omega, by omega⟩) (by first | omega | exact cmpI_in _ _ | (rw [Int.toNat_natCast, hw1]; exact ⟨by omega, by omega⟩) | (rw [Int.toNat_natCast, hw2]; exact ⟨by omega, by omega⟩) | (rw [g1]; exact ⟨by omega, by omega⟩) | (rw [g2]; exact ⟨by omega, by omega⟩) | exact ⟨by omega, by omega⟩)) rfl ?_
          refine Ev.ite (fun q => ?_) (fun q => ?_)
          · replace q := of_decide_eq_true q
            rw [Int.toNat_natCast, hw2] at q
            refine Ev.blk 1 (B220_235 _ _ _ _ _ _ _ _ _ _ _ _ _ _ _ _ _) rfl ?_
            refine Ev.blk 4 (B220_236 _ _ _ _ _ _ _ _ _ _ _ _ _ _ _ _ _ _) rfl ?_
            refine Ev.val ?_ rfl ih
            first | rw [twS_t (G := G) (⟨by omega, by omega, by omega⟩ : a < n1 ∧ k < n1 ∧ a ≤ k)] | rw [twS_f (G := G) (by omega)]
            first | rw [twS_t (G := H) (⟨by omega, by omega, by omega⟩ : e < n2 ∧ k < n2 ∧ e ≤ k)] | rw [twS_f (G := H) (by omega)]
            try rw [g1]
            try rw [g2]
            try rw [e1, hU k e (by omega) he]
            try rw [e2, hU a k ha (by omega)]
            rfl
          · replace q := of_decide_eq_false q
            rw [Int.toNat_natCast, hw2] at q
            refine Ev.blk 3 (B220_201 _ _ _ _ _ _ _ _ _ _ _ _ _ _ _ _ _ (by first | omega | exact cmpI_in _ _ | (rw [Int.toNat_natCast, hw1]; exact ⟨by omega, by omega⟩) | (rw [Int.toNat_natCast, hw2]; exact ⟨by omega, by omega⟩) | (rw [g1]; exact ⟨by omega, by omega⟩) | (rw [g2]; exact ⟨by omega, by omega⟩) | exact ⟨by omega, by omega⟩) (by first | omega | exact cmpI_in _ _ | (rw [Int.toNat_natCast, hw1]; exact ⟨by omega, by omega⟩) | (rw [Int.toNat_natCast, hw2]; exact ⟨by omega, by omega⟩) | (rw [g1]; exact ⟨by omega, by omega⟩) | (rw [g2]; exact ⟨by omega, by omega⟩) | exact ⟨by omega, by omega⟩)) rfl ?_
            refine Ev.ite (fun q => ?_) (fun q => ?_)
            · replace q := of_decide_eq_true q
              refine Ev.blk 1 (B220_235 _ _ _ _ _ _ _ _ _ _ _ _ _ _ _ _ _) rfl ?_
              refine Ev.blk 4 (B220_236 _ _ _ _ _ _ _ _ _ _ _ _ _ _ _ _ _ _) rfl ?_
              refine Ev.val ?_ rfl ih
              first | rw [twS_t (G := G) (⟨by omega, by omega, by omega⟩ : a < n1 ∧ k < n1 ∧ a ≤ k)] | rw [twS_f (G := G) (by omega)]
              first | rw [twS_t (G := H) (⟨by omega, by omega, by omega⟩ : e < n2 ∧ k < n2 ∧ e ≤ k)] | rw [twS_f (G := H) (by omega)]
              try rw [g1]
              try rw [g2]
              try rw [e1, hU k e (by omega) he]
              try rw [e2, hU a k ha (by omega)]
              rfl
            · replace q := of_decide_eq_false q
              refine Ev.blk 4 (B220_208 _ _ _ _ _ _ _ _ _ _ _ _ _ _ _ _ _) rfl ?_
              refine Ev.call rfl rfl (rfl) (x_goesOf (d := d) (m := (o : Int)) (a := (e : Int)) (c := (k : Int)) (by omega) (by omega) (by omega)) (by omega) ?_
              rintro v V' b' ⟨rfl, h_, g_⟩
              subst V' b'
              refine Ev.blk 11 (B220_217 _ _ _ _ _ _ _ _ _ _ _ _ _ _ _ _ _ _ (by first | omega | exact cmpI_in _ _ | (rw [Int.toNat_natCast, hw1]; exact ⟨by omega, by omega⟩) | (rw [Int.toNat_natCast, hw2]; exact ⟨by omega, by omega⟩) | (rw [g1]; exact ⟨by omega, by omega⟩) | (rw [g2]; exact ⟨by omega, by omega⟩) | exact ⟨by omega, by omega⟩) (by first | omega | exact cmpI_in _ _ | (rw [Int.toNat_natCast, hw1]; exact ⟨by omega, by omega⟩) | (rw [Int.toNat_natCast, hw2]; exact ⟨by omega, by omega⟩) | (rw [g1]; exact ⟨by omega, by omega⟩) | (rw [g2]; exact ⟨by omega, by omega⟩) | exact ⟨by omega, by omega⟩)) rfl ?_
              refine Ev.blk 4 (B220_236 _ _ _ _ _ _ _ _ _ _ _ _ _ _ _ _ _ _) rfl ?_
              refine Ev.val ?_ rfl ih
              first | rw [twS_t (G := G) (⟨by omega, by omega, by omega⟩ : a < n1 ∧ k < n1 ∧ a ≤ k)] | rw [twS_f (G := G) (by omega)]
              first | rw [twS_t (G := H) (⟨by omega, by omega, by omega⟩ : e < n2 ∧ k < n2 ∧ e ≤ k)] | rw [twS_f (G := H) (by omega)]
              try rw [g1]
              try rw [g2]
              try rw [e1, hU k e (by omega) he]
              try rw [e2, hU a k ha (by omega)]
              rfl
      · replace q := of_decide_eq_false q
        rw [Int.toNat_natCast, hw1] at q
        refine Ev.blk 6 (B220_128 _ _ _ _ _ _ _ _ _ _ _ _ _ _ _ _ _ (by first | omega | exact cmpI_in _ _ | (rw [Int.toNat_natCast, hw1]; exact ⟨by omega, by omega⟩) | (rw [Int.toNat_natCast, hw2]; exact ⟨by omega, by omega⟩) | (rw [g1]; exact ⟨by omega, by omega⟩) | (rw [g2]; exact ⟨by omega, by omega⟩) | exact ⟨by omega, by omega⟩) (by first | omega | exact cmpI_in _ _ | (rw [Int.toNat_natCast, hw1]; exact ⟨by omega, by omega⟩) | (rw [Int.toNat_natCast, hw2]; exact ⟨by omega, by omega⟩) | (rw [g1]; exact ⟨by omega, by omega⟩) | (rw [g2]; exact ⟨by omega, by omega⟩) | exact ⟨by omega, by omega⟩) (by first | omega | exact cmpI_in _ _ | (rw [Int.toNat_natCast, hw1]; exact ⟨by omega, by omega⟩) | (rw [Int.toNat_natCast, hw2]; exact ⟨by omega, by omega⟩) | (rw [g1]; exact ⟨by omega, by omega⟩) | (rw [g2]; exact ⟨by omega, by omega⟩) | exact ⟨by omega, by omega⟩)) rfl ?_
        refine Ev.ite (fun q => ?_) (fun q => ?_)
        · replace q := of_decide_eq_true q
          rw [Int.toNat_natCast, hw1] at q
          refine Ev.blk 1 (B220_173 _ _ _ _ _ _ _ _ _ _ _ _ _ _ _ _ _) rfl ?_
          refine Ev.blk 9 (B220_174 _ _ _ _ _ _ _ _ _ _ _ _ _ _ _ _ _ _ (by first | omega | exact cmpI_in _ _ | (rw [Int.toNat_natCast, hw1]; exact ⟨by omega, by omega⟩) | (rw [Int.toNat_natCast, hw2]; exact ⟨by omega, by omega⟩) | (rw [g1]; exact ⟨by omega, by omega⟩) | (rw [g2]; exact ⟨by omega, by omega⟩) | exact ⟨by omega, by omega⟩) (by first | omega | exact cmpI_in _ _ | (rw [Int.toNat_natCast, hw1]; exact ⟨by omega, by omega⟩) | (rw [Int.toNat_natCast, hw2]; exact ⟨by omega, by omega⟩) | (rw [g1]; exact ⟨by omega, by omega⟩) | (rw [g2]; exact ⟨by omega, by omega⟩) | exact ⟨by omega, by omega⟩) (by first | omega | exact cmpI_in _ _ | (rw [Int.toNat_natCast, hw1]; exact ⟨by omega, by omega⟩) | (rw [Int.toNat_natCast, hw2]; exact ⟨by omega, by omega⟩) | (rw [g1]; exact ⟨by omega, by omega⟩) | (rw [g2]; exact ⟨by omega, by omega⟩) | exact ⟨by omega, by omega⟩)) rfl ?_
          refine Ev.ite (fun q => ?_) (fun q => ?_)
          · replace q := of_decide_eq_true q
            rw [Int.toNat_natCast, hw2] at q
            refine Ev.blk 1 (B220_235 _ _ _ _ _ _ _ _ _ _ _ _ _ _ _ _ _) rfl ?_
            refine Ev.blk 4 (B220_236 _ _ _ _ _ _ _ _ _ _ _ _ _ _ _ _ _ _) rfl ?_
            refine Ev.val ?_ rfl ih
            first | rw [twS_t (G := G) (⟨by omega, by omega, by omega⟩ : a < n1 ∧ k < n1 ∧ a ≤ k)] | rw [twS_f (G := G) (by omega)]
            first | rw [twS_t (G := H) (⟨by omega, by omega, by omega⟩ : e < n2 ∧ k < n2 ∧ e ≤ k)] | rw [twS_f (G := H) (by omega)]
            try rw [g1]
            try rw [g2]
            try rw [e1, hU k e (by omega) he]
            try rw [e2, hU a k ha (by omega)]
            rfl
          · replace q := of_decide_eq_false q
            rw [Int.toNat_natCast, hw2] at q
            refine Ev.blk 6 (B220_190 _ _ _ _ _ _ _ _ _ _ _ _ _ _ _ _ _ (by first | omega | exact cmpI_in _ _ | (rw [Int.toNat_natCast, hw1]; exact ⟨by omega, by omega⟩) | (rw [Int.toNat_natCast, hw2]; exact ⟨by omega, by omega⟩) | (rw [g1]; exact ⟨by omega, by omega⟩) | (rw [g2]; exact ⟨by omega, by omega⟩) | exact ⟨by omega, by omega⟩) (by first | omega | exact cmpI_in _ _ | (rw [Int.toNat_natCast, hw1]; exact ⟨by omega, by omega⟩) | (rw [Int.toNat_natCast, hw2]; exact ⟨by omega, by omega⟩) | (rw [g1]; exact ⟨by omega, by omega⟩) | (rw [g2]; exact ⟨by omega, by omega⟩) | exact ⟨by omega, by omega⟩) (by first | omega | exact cmpI_in _ _ | (rw [Int.toNat_natCast, hw1]; exact ⟨by omega, by omega⟩) | (rw [Int.toNat_natCast, hw2]; exact ⟨by omega, by omega⟩) | (rw [g1]; exact ⟨by omega, by omega⟩) | (rw [g2]; exact ⟨by omega, by omega⟩) | exact ⟨by omega, by omega⟩)) rfl ?_
            refine Ev.ite (fun q => ?_) (fun q => ?_)
            · replace q := of_decide_eq_true q
              rw [Int.toNat_natCast, hw2] at q
              refine Ev.blk 1 (B220_235 _ _ _ _ _ _ _ _ _ _ _ _ _ _ _ _ _) rfl ?_
              refine Ev.blk 4 (B220_236 _ _ _ _ _ _ _ _ _ _ _ _ _ _ _ _ _ _) rfl ?_
              refine Ev.val ?_ rfl ih
              first | rw [twS_t (G := G) (⟨by omega, by omega, by omega⟩ : a < n1 ∧ k < n1 ∧ a ≤ k)] | rw [twS_f (G := G) (by omega)]
              first | rw [twS_t (G := H) (⟨by omega, by omega, by omega⟩ : e < n2 ∧ k < n2 ∧ e ≤ k)] | rw [twS_f (G := H) (by omega)]
              try rw [g1]
              try rw [g2]
              try rw [e1, hU k e (by omega) he]
              try rw [e2, hU a k ha (by omega)]
              rfl
            · replace q := of_decide_eq_false q
              rw [Int.toNat_natCast, hw2] at q
              refine Ev.blk 3 (B220_201 _ _ _ _ _ _ _ _ _ _ _ _ _ _ _ _ _ (by first | omega | exact cmpI_in _ _ | (rw [Int.toNat_natCast, hw1]; exact ⟨by omega, by omega⟩) | (rw [Int.toNat_natCast, hw2]; exact ⟨by omega, by omega⟩) | (rw [g1]; exact ⟨by omega, by omega⟩) | (rw [g2]; exact ⟨by omega, by omega⟩) | exact ⟨by omega, by omega⟩) (by first | omega | exact cmpI_in _ _ | (rw [Int.toNat_natCast, hw1]; exact ⟨by omega, by omega⟩) | (rw [Int.toNat_natCast, hw2]; exact ⟨by omega, by omega⟩) | (rw [g1]; exact ⟨by omega, by omega⟩) | (rw [g2]; exact ⟨by omega, by omega⟩) | exact ⟨by omega, by omega⟩)) rfl ?_
              refine Ev.ite (fun q => ?_) (fun q => ?_)
              · replace q := of_decide_eq_true q
                refine Ev.blk 1 (B220_235 _ _ _ _ _ _ _ _ _ _ _ _ _ _ _ _ _) rfl ?_
                refine Ev.blk 4 (B220_236 _ _ _ _ _ _ _ _ _ _ _ _ _ _ _ _ _ _) rfl ?_
                refine Ev.val ?_ rfl ih
                first | rw [twS_t (G := G) (⟨by omega, by omega, by omega⟩ : a < n1 ∧ k < n1 ∧ a ≤ k)] | rw [twS_f (G := G) (by omega)]
                first | rw [twS_t (G := H) (⟨by omega, by omega, by omega⟩ : e < n2 ∧ k < n2 ∧ e ≤ k)] | rw [twS_f (G := H) (by omega)]
                try rw [g1]
                try rw [g2]
                try rw [e1, hU k e (by omega) he]
                try rw [e2, hU a k ha (by omega)]
                rfl
              · replace q := of_decide_eq_false q
                refine Ev.blk 4 (B220_208 _ _ _ _ _ _ _ _ _ _ _ _ _ _ _ _ _) rfl ?_
                refine Ev.call rfl rfl (rfl) (x_goesOf (d := d) (m := (o : Int)) (a := (e : Int)) (c := (k : Int)) (by omega) (by omega) (by omega)) (by omega) ?_
                rintro v V' b' ⟨rfl, h_, g_⟩
                subst V' b'
                refine Ev.blk 11 (B220_217 _ _ _ _ _ _ _ _ _ _ _ _ _ _ _ _ _ _ (by first | omega | exact cmpI_in _ _ | (rw [Int.toNat_natCast, hw1]; exact ⟨by omega, by omega⟩) | (rw [Int.toNat_natCast, hw2]; exact ⟨by omega, by omega⟩) | (rw [g1]; exact ⟨by omega, by omega⟩) | (rw [g2]; exact ⟨by omega, by omega⟩) | exact ⟨by omega, by omega⟩) (by first | omega | exact cmpI_in _ _ | (rw [Int.toNat_natCast, hw1]; exact ⟨by omega, by omega⟩) | (rw [Int.toNat_natCast, hw2]; exact ⟨by omega, by omega⟩) | (rw [g1]; exact ⟨by omega, by omega⟩) | (rw [g2]; exact ⟨by omega, by omega⟩) | exact ⟨by omega, by omega⟩)) rfl ?_
                refine Ev.blk 4 (B220_236 _ _ _ _ _ _ _ _ _ _ _ _ _ _ _ _ _ _) rfl ?_
                refine Ev.val ?_ rfl ih
                first | rw [twS_t (G := G) (⟨by omega, by omega, by omega⟩ : a < n1 ∧ k < n1 ∧ a ≤ k)] | rw [twS_f (G := G) (by omega)]
                first | rw [twS_t (G := H) (⟨by omega, by omega, by omega⟩ : e < n2 ∧ k < n2 ∧ e ≤ k)] | rw [twS_f (G := H) (by omega)]
                try rw [g1]
                try rw [g2]
                try rw [e1, hU k e (by omega) he]
                try rw [e2, hU a k ha (by omega)]
                rfl
        · replace q := of_decide_eq_false q
          rw [Int.toNat_natCast, hw1] at q
          refine Ev.blk 3 (B220_139 _ _ _ _ _ _ _ _ _ _ _ _ _ _ _ _ _ (by first | omega | exact cmpI_in _ _ | (rw [Int.toNat_natCast, hw1]; exact ⟨by omega, by omega⟩) | (rw [Int.toNat_natCast, hw2]; exact ⟨by omega, by omega⟩) | (rw [g1]; exact ⟨by omega, by omega⟩) | (rw [g2]; exact ⟨by omega, by omega⟩) | exact ⟨by omega, by omega⟩) (by first | omega | exact cmpI_in _ _ | (rw [Int.toNat_natCast, hw1]; exact ⟨by omega, by omega⟩) | (rw [Int.toNat_natCast, hw2]; exact ⟨by omega, by omega⟩) | (rw [g1]; exact ⟨by omega, by omega⟩) | (rw [g2]; exact ⟨by omega, by omega⟩) | exact ⟨by omega, by omega⟩)) rfl ?_
          refine Ev.ite (fun q => ?_) (fun q => ?_)
          · replace q := of_decide_eq_true q
            refine Ev.blk 1 (B220_173 _ _ _ _ _ _ _ _ _ _ _ _ _ _ _ _ _) rfl ?_
            refine Ev.blk 9 (B220_174 _ _ _ _ _ _ _ _ _ _ _ _ _ _ _ _ _ _ (by first | omega | exact cmpI_in _ _ | (rw [Int.toNat_natCast, hw1]; exact ⟨by omega, by omega⟩) | (rw [Int.toNat_natCast, hw2]; exact ⟨by omega, by omega⟩) | (rw [g1]; exact ⟨by omega, by omega⟩) | (rw [g2]; exact ⟨by omega, by omega⟩) | exact ⟨by omega, by omega⟩) (by first | omega | exact cmpI_in _ _ | (rw [Int.toNat_natCast, hw1]; exact ⟨by omega, by omega⟩) | (rw [Int.toNat_natCast, hw2]; exact ⟨by omega, by omega⟩) | (rw [g1]; exact ⟨by omega, by omega⟩) | (rw [g2]; exact ⟨by omega, by omega⟩) | exact ⟨by omega, by omega⟩) (by first | omega | exact cmpI_in _ _ | (rw [Int.toNat_natCast, hw1]; exact ⟨by omega, by omega⟩) | (rw [Int.toNat_natCast, hw2]; exact ⟨by omega, by omega⟩) | (rw [g1]; exact ⟨by omega, by omega⟩) | (rw [g2]; exact ⟨by omega, by omega⟩) | exact ⟨by omega, by omega⟩)) rfl ?_
            refine Ev.ite (fun q => ?_) (fun q => ?_)
            · replace q := of_decide_eq_true q
              rw [Int.toNat_natCast, hw2] at q
              refine Ev.blk 1 (B220_235 _ _ _ _ _ _ _ _ _ _ _ _ _ _ _ _ _) rfl ?_
              refine Ev.blk 4 (B220_236 _ _ _ _ _ _ _ _ _ _ _ _ _ _ _ _ _ _) rfl ?_
              refine Ev.val ?_ rfl ih
              first | rw [twS_t (G := G) (⟨by omega, by omega, by omega⟩ : a < n1 ∧ k < n1 ∧ a ≤ k)] | rw [twS_f (G := G) (by omega)]
              first | rw [twS_t (G := H) (⟨by omega, by omega, by omega⟩ : e < n2 ∧ k < n2 ∧ e ≤ k)] | rw [twS_f (G := H) (by omega)]
              try rw [g1]
              try rw [g2]
              try rw [e1, hU k e (by omega) he]
              try rw [e2, hU a k ha (by omega)]
              rfl
            · replace q := of_decide_eq_false q
              rw [Int.toNat_natCast, hw2] at q
              refine Ev.blk 6 (B220_190 _ _ _ _ _ _ _ _ _ _ _ _ _ _ _ _ _ (by first | omega | exact cmpI_in _ _ | (rw [Int.toNat_natCast, hw1]; exact ⟨by omega, by omega⟩) | (rw [Int.toNat_natCast, hw2]; exact ⟨by omega, by omega⟩) | (rw [g1]; exact ⟨by omega, by omega⟩) | (rw [g2]; exact ⟨by omega, by omega⟩) | exact ⟨by omega, by omega⟩) (by first | omega | exact cmpI_in _ _ | (rw [Int.toNat_natCast, hw1]; exact ⟨by omega, by omega⟩) | (rw [Int.toNat_natCast, hw2]; exact ⟨by omega, by omega⟩) | (rw [g1]; exact ⟨by omega, by omega⟩) | (rw [g2]; exact ⟨by omega, by omega⟩) | exact ⟨by omega, by omega⟩) (by first | omega | exact cmpI_in _ _ | (rw [Int.toNat_natCast, hw1]; exact ⟨by omega, by omega⟩) | (rw [Int.toNat_natCast, hw2]; exact ⟨by omega, by omega⟩) | (rw [g1]; exact ⟨by omega, by omega⟩) | (rw [g2]; exact ⟨by omega, by omega⟩) | exact ⟨by omega, by omega⟩)) rfl ?_
              refine Ev.ite (fun q => ?_) (fun q => ?_)
              · replace q := of_decide_eq_true q
                rw [Int.toNat_natCast, hw2] at q
                refine Ev.blk 1 (B220_235 _ _ _ _ _ _ _ _ _ _ _ _ _ _ _ _ _) rfl ?_
                refine Ev.blk 4 (B220_236 _ _ _ _ _ _ _ _ _ _ _ _ _ _ _ _ _ _) rfl ?_
                refine Ev.val ?_ rfl ih
                first | rw [twS_t (G := G) (⟨by omega, by omega, by omega⟩ : a < n1 ∧ k < n1 ∧ a ≤ k)] | rw [twS_f (G := G) (by omega)]
                first | rw [twS_t (G := H) (⟨by omega, by omega, by omega⟩ : e < n2 ∧ k < n2 ∧ e ≤ k)] | rw [twS_f (G := H) (by omega)]
                try rw [g1]
                try rw [g2]
                try rw [e1, hU k e (by omega) he]
                try rw [e2, hU a k ha (by omega)]
                rfl
              · replace q := of_decide_eq_false q
                rw [Int.toNat_natCast, hw2] at q
                refine Ev.blk 3 (B220_201 _ _ _ _ _ _ _ _ _ _ _ _ _ _ _ _ _ (by first | omega | exact cmpI_in _ _ | (rw [Int.toNat_natCast, hw1]; exact ⟨by omega, by omega⟩) | (rw [Int.toNat_natCast, hw2]; exact ⟨by omega, by omega⟩) | (rw [g1]; exact ⟨by omega, by omega⟩) | (rw [g2]; exact ⟨by omega, by omega⟩) | exact ⟨by omega, by omega⟩) (by first | omega | exact cmpI_in _ _ | (rw [Int.toNat_natCast, hw1]; exact ⟨by omega, by omega⟩) | (rw [Int.toNat_natCast, hw2]; exact ⟨by omega, by omega⟩) | (rw [g1]; exact ⟨by omega, by omega⟩) | (rw [g2]; exact ⟨by omega, by omega⟩) | exact ⟨by omega, by omega⟩)) rfl ?_
                refine Ev.ite (fun q => ?_) (fun q => ?_)
                · replace q := of_decide_eq_true q
                  refine Ev.blk 1 (B220_235 _ _ _ _ _ _ _ _ _ _ _ _ _ _ _ _ _) rfl ?_
                  refine Ev.blk 4 (B220_236 _ _ _ _ _ _ _ _ _ _ _ _ _ _ _ _ _ _) rfl ?_
                  refine Ev.val ?_ rfl ih
                  first | rw [twS_t (G := G) (⟨by omega, by omega, by omega⟩ : a < n1 ∧ k < n1 ∧ a ≤ k)] | rw [twS_f (G := G) (by omega)]
                  first | rw [twS_t (G := H) (⟨by omega, by omega, by omega⟩ : e < n2 ∧ k < n2 ∧ e ≤ k)] | rw [twS_f (G := H) (by omega)]
                  try rw [g1]
                  try rw [g2]
                  try rw [e1, hU k e (by omega) he]
                  try rw [e2, hU a k ha (by omega)]
                  rfl
                · replace q := of_decide_eq_false q
                  refine Ev.blk 4 (B220_208 _ _ _ _ _ _ _ _ _ _ _ _ _ _ _ _ _) rfl ?_
                  refine Ev.call rfl rfl (rfl) (x_goesOf (d := d) (m := (o : Int)) (a := (e : Int)) (c := (k : Int)) (by omega) (by omega) (by omega)) (by omega) ?_
                  rintro v V' b' ⟨rfl, h_, g_⟩
                  subst V' b'
                  refine Ev.blk 11 (B220_217 _ _ _ _ _ _ _ _ _ _ _ _ _ _ _ _ _ _ (by first | omega | exact cmpI_in _ _ | (rw [Int.toNat_natCast, hw1]; exact ⟨by omega, by omega⟩) | (rw [Int.toNat_natCast, hw2]; exact ⟨by omega, by omega⟩) | (rw [g1]; exact ⟨by omega, by omega⟩) | (rw [g2]; exact ⟨by omega, by omega⟩) | exact ⟨by omega, by omega⟩) (by first | omega | exact cmpI_in _ _ | (rw [Int.toNat_natCast, hw1]; exact ⟨by omega, by omega⟩) | (rw [Int.toNat_natCast, hw2]; exact ⟨by omega, by omega⟩) | (rw [g1]; exact ⟨by omega, by omega⟩) | (rw [g2]; exact ⟨by omega, by omega⟩) | exact ⟨by omega, by omega⟩)) rfl ?_
                  refine Ev.blk 4 (B220_236 _ _ _ _ _ _ _ _ _ _ _ _ _ _ _ _ _ _) rfl ?_
                  refine Ev.val ?_ rfl ih
                  first | rw [twS_t (G := G) (⟨by omega, by omega, by omega⟩ : a < n1 ∧ k < n1 ∧ a ≤ k)] | rw [twS_f (G := G) (by omega)]
                  first | rw [twS_t (G := H) (⟨by omega, by omega, by omega⟩ : e < n2 ∧ k < n2 ∧ e ≤ k)] | rw [twS_f (G := H) (by omega)]
                  try rw [g1]
                  try rw [g2]
                  try rw [e1, hU k e (by omega) he]
                  try rw [e2, hU a k ha (by omega)]
                  rfl
          · replace q := of_decide_eq_false q
            refine Ev.blk 4 (B220_146 _ _ _ _ _ _ _ _ _ _ _ _ _ _ _ _ _) rfl ?_
            refine Ev.call rfl rfl (rfl) (x_goesOf (d := d) (m := (m : Int)) (a := (a : Int)) (c := (k : Int)) (by omega) (by omega) (by omega)) (by omega) ?_
            rintro v V' b' ⟨rfl, h_, g_⟩
            subst V' b'
            refine Ev.blk 11 (B220_155 _ _ _ _ _ _ _ _ _ _ _ _ _ _ _ _ _ _ (by first | omega | exact cmpI_in _ _ | (rw [Int.toNat_natCast, hw1]; exact ⟨by omega, by omega⟩) | (rw [Int.toNat_natCast, hw2]; exact ⟨by omega, by omega⟩) | (rw [g1]; exact ⟨by omega, by omega⟩) | (rw [g2]; exact ⟨by omega, by omega⟩) | exact ⟨by omega, by omega⟩) (by first | omega | exact cmpI_in _ _ | (rw [Int.toNat_natCast, hw1]; exact ⟨by omega, by omega⟩) | (rw [Int.toNat_natCast, hw2]; exact ⟨by omega, by omega⟩) | (rw [g1]; exact ⟨by omega, by omega⟩) | (rw [g2]; exact ⟨by omega, by omega⟩) | exact ⟨by omega, by omega⟩)) rfl ?_
            refine Ev.blk 9 (B220_174 _ _ _ _ _ _ _ _ _ _ _ _ _ _ _ _ _ _ (by first | omega | exact cmpI_in _ _ | (rw [Int.toNat_natCast, hw1]; exact ⟨by omega, by omega⟩) | (rw [Int.toNat_natCast, hw2]; exact ⟨by omega, by omega⟩) | (rw [g1]; exact ⟨by omega, by omega⟩) | (rw [g2]; exact ⟨by omega, by omega⟩) | exact ⟨by omega, by omega⟩) (by first | omega | exact cmpI_in _ _ | (rw [Int.toNat_natCast, hw1]; exact ⟨by omega, by omega⟩) | (rw [Int.toNat_natCast, hw2]; exact ⟨by omega, by omega⟩) | (rw [g1]; exact ⟨by omega, by omega⟩) | (rw [g2]; exact ⟨by omega, by omega⟩) | exact ⟨by omega, by omega⟩) (by first | omega | exact cmpI_in _ _ | (rw [Int.toNat_natCast, hw1]; exact ⟨by omega, by omega⟩) | (rw [Int.toNat_natCast, hw2]; exact ⟨by omega, by omega⟩) | (rw [g1]; exact ⟨by omega, by omega⟩) | (rw [g2]; exact ⟨by omega, by omega⟩) | exact ⟨by omega, by omega⟩)) rfl ?_
            refine Ev.ite (fun q => ?_) (fun q => ?_)
            · replace q := of_decide_eq_true q
              rw [Int.toNat_natCast, hw2] at q
              refine Ev.blk 1 (B220_235 _ _ _ _ _ _ _ _ _ _ _ _ _ _ _ _ _) rfl ?_
              refine Ev.blk 4 (B220_236 _ _ _ _ _ _ _ _ _ _ _ _ _ _ _ _ _ _) rfl ?_
              refine Ev.val ?_ rfl ih
              first | rw [twS_t (G := G) (⟨by omega, by omega, by omega⟩ : a < n1 ∧ k < n1 ∧ a ≤ k)] | rw [twS_f (G := G) (by omega)]
              first | rw [twS_t (G := H) (⟨by omega, by omega, by omega⟩ : e < n2 ∧ k < n2 ∧ e ≤ k)] | rw [twS_f (G := H) (by omega)]
              try rw [g1]
              try rw [g2]
              try rw [e1, hU k e (by omega) he]
              try rw [e2, hU a k ha (by omega)]
              rfl
            · replace q := of_decide_eq_false q
              rw [Int.toNat_natCast, hw2] at q
              refine Ev.blk 6 (B220_190 _ _ _ _ _ _ _ _ _ _ _ _ _ _ _ _ _ (by first | omega | exact cmpI_in _ _ | (rw [Int.toNat_natCast, hw1]; exact ⟨by omega, by omega⟩) | (rw [Int.toNat_natCast, hw2]; exact ⟨by omega, by omega⟩) | (rw [g1]; exact ⟨by omega, by omega⟩) | (rw [g2]; exact ⟨by omega, by omega⟩) | exact ⟨by omega, by omega⟩) (by first | omega | exact cmpI_in _ _ | (rw [Int.toNat_natCast, hw1]; exact ⟨by omega, by omega⟩) | (rw [Int.toNat_natCast, hw2]; exact ⟨by omega, by omega⟩) | (rw [g1]; exact ⟨by omega, by omega⟩) | (rw [g2]; exact ⟨by omega, by omega⟩) | exact ⟨by omega, by omega⟩) (by first | omega | exact cmpI_in _ _ | (rw [Int.toNat_natCast, hw1]; exact ⟨by omega, by omega⟩) | (rw [Int.toNat_natCast, hw2]; exact ⟨by omega, by omega⟩) | (rw [g1]; exact ⟨by omega, by omega⟩) | (rw [g2]; exact ⟨by omega, by omega⟩) | exact ⟨by omega, by omega⟩)) rfl ?_
              refine Ev.ite (fun q => ?_) (fun q => ?_)
              · replace q := of_decide_eq_true q
                rw [Int.toNat_natCast, hw2] at q
                refine Ev.blk 1 (B220_235 _ _ _ _ _ _ _ _ _ _ _ _ _ _ _ _ _) rfl ?_
                refine Ev.blk 4 (B220_236 _ _ _ _ _ _ _ _ _ _ _ _ _ _ _ _ _ _) rfl ?_
                refine Ev.val ?_ rfl ih
                first | rw [twS_t (G := G) (⟨by omega, by omega, by omega⟩ : a < n1 ∧ k < n1 ∧ a ≤ k)] | rw [twS_f (G := G) (by omega)]
                first | rw [twS_t (G := H) (⟨by omega, by omega, by omega⟩ : e < n2 ∧ k < n2 ∧ e ≤ k)] | rw [twS_f (G := H) (by omega)]
                try rw [g1]
                try rw [g2]
                try rw [e1, hU k e (by omega) he]
                try rw [e2, hU a k ha (by omega)]
                rfl
              · replace q := of_decide_eq_false q
                rw [Int.toNat_natCast, hw2] at q
                refine Ev.blk 3 (B220_201 _ _ _ _ _ _ _ _ _ _ _ _ _ _ _ _ _ (by first | omega | exact cmpI_in _ _ | (rw [Int.toNat_natCast, hw1]; exact ⟨by omega, by omega⟩) | (rw [Int.toNat_natCast, hw2]; exact ⟨by omega, by omega⟩) | (rw [g1]; exact ⟨by omega, by omega⟩) | (rw [g2]; exact ⟨by omega, by omega⟩) | exact ⟨by omega, by omega⟩) (by first | omega | exact cmpI_in _ _ | (rw [Int.toNat_natCast, hw1]; exact ⟨by omega, by omega⟩) | (rw [Int.toNat_natCast, hw2]; exact ⟨by omega, by omega⟩) | (rw [g1]; exact ⟨by omega, by omega⟩) | (rw [g2]; exact ⟨by omega, by omega⟩) | exact ⟨by omega, by omega⟩)) rfl ?_
                refine Ev.ite (fun q => ?_) (fun q => ?_)
                · replace q := of_decide_eq_true q
                  refine Ev.blk 1 (B220_235 _ _ _ _ _ _ _ _ _ _ _ _ _ _ _ _ _) rfl ?_
                  refine Ev.blk 4 (B220_236 _ _ _ _ _ _ _ _ _ _ _ _ _ _ _ _ _ _) rfl ?_
                  refine Ev.val ?_ rfl ih
                  first | rw [twS_t (G := G) (⟨by omega, by omega, by omega⟩ : a < n1 ∧ k < n1 ∧ a ≤ k)] | rw [twS_f (G := G) (by omega)]
                  first | rw [twS_t (G := H) (⟨by omega, by omega, by omega⟩ : e < n2 ∧ k < n2 ∧ e ≤ k)] | rw [twS_f (G := H) (by omega)]
                  try rw [g1]
                  try rw [g2]
                  try rw [e1, hU k e (by omega) he]
                  try rw [e2, hU a k ha (by omega)]
                  rfl
                · replace q := of_decide_eq_false q
                  refine Ev.blk 4 (B220_208 _ _ _ _ _ _ _ _ _ _ _ _ _ _ _ _ _) rfl ?_
                  refine Ev.call rfl rfl (rfl) (x_goesOf (d := d) (m := (o : Int)) (a := (e : Int)) (c := (k : Int)) (by omega) (by omega) (by omega)) (by omega) ?_
                  rintro v V' b' ⟨rfl, h_, g_⟩
                  subst V' b'
                  refine Ev.blk 11 (B220_217 _ _ _ _ _ _ _ _ _ _ _ _ _ _ _ _ _ _ (by first | omega | exact cmpI_in _ _ | (rw [Int.toNat_natCast, hw1]; exact ⟨by omega, by omega⟩) | (rw [Int.toNat_natCast, hw2]; exact ⟨by omega, by omega⟩) | (rw [g1]; exact ⟨by omega, by omega⟩) | (rw [g2]; exact ⟨by omega, by omega⟩) | exact ⟨by omega, by omega⟩) (by first | omega | exact cmpI_in _ _ | (rw [Int.toNat_natCast, hw1]; exact ⟨by omega, by omega⟩) | (rw [Int.toNat_natCast, hw2]; exact ⟨by omega, by omega⟩) | (rw [g1]; exact ⟨by omega, by omega⟩) | (rw [g2]; exact ⟨by omega, by omega⟩) | exact ⟨by omega, by omega⟩)) rfl ?_
                  refine Ev.blk 4 (B220_236 _ _ _ _ _ _ _ _ _ _ _ _ _ _ _ _ _ _) rfl ?_
                  refine Ev.val ?_ rfl ih
                  first | rw [twS_t (G := G) (⟨by omega, by omega, by omega⟩ : a < n1 ∧ k < n1 ∧ a ≤ k)] | rw [twS_f (G := G) (by omega)]
                  first | rw [twS_t (G := H) (⟨by omega, by omega, by omega⟩ : e < n2 ∧ k < n2 ∧ e ≤ k)] | rw [twS_f (G := H) (by omega)]
                  try rw [g1]
                  try rw [g2]
                  try rw [e1, hU k e (by omega) he]
                  try rw [e2, hU a k ha (by omega)]
                  rfl

theorem lt2_lp {L d : Nat} {V : Mv} {b : Bool} {Q : Option AV → Mv → Bool → Prop} {m o n1 n2 : Nat} {G H : Nat → Nat → Int} {co mw mc cp mw2 mc2 : Nat → Int} {wr its dd : Nat} {u x8 : Int} {U : Nat → Nat → Int} (hm : m < 3) (ho : o < 3) (hP : PR V m n1 G co mw mc) (hB : PB n1 G co mw mc) (hP2 : PR V o n2 H cp mw2 mc2) (hB2 : PB n2 H cp mw2 mc2) (hwr : wr < 8) (hit : its < 8) (hU : ∀ i j, i < 8 → j < 8 → V 143 (8 * i + j) = U i j) (hb1 : ∀ a e, a < 8 → e < 8 → in64 (twS G co n1 u (fun i => U i e) a 8) ∧ in64 (twS H cp n2 u (fun j => U a j) e 8)) (hQ : ∀ W, ((∀ x, x ≠ 120 → x ≠ 144 → W x = V x) ∧ (∀ j, j ≠ 36 → W 120 j = V 120 j) ∧ (∀ j, j < 64 → W 144 j = (if twS H cp n2 u (fun y => U (j / 8) y) (j % 8) 8 < twS G co n1 u (fun y => U y (j % 8)) (j / 8) 8 then twS H cp n2 u (fun y => U (j / 8) y) (j % 8) 8 else twS G co n1 u (fun y => U y (j % 8)) (j / 8) 8)) ∧ (8 * wr + its < 64 → W 120 36 = (if twS H cp n2 u (fun y => U ((8 * wr + its) / 8) y) ((8 * wr + its) % 8) 8 < twS G co n1 u (fun y => U y ((8 * wr + its) % 8)) ((8 * wr + its) / 8) 8 then 1 else 0))) → Ev L (d + 2) 220 310 [some (.inr (.inr 120)), some (.inl (m : Int)), some (.inl (wr : Int)), some (.inl (o : Int)), some (.inl (its : Int)), some (.inl (dd : Int)), some (.inr (.inl u)), none, some (.inl x8), some (.inl (64 : Int)), none, none, none, none, none, none, none] [] W b Q) : ∀ (n k : Nat) (W : Mv), k + n = 64 → ((∀ x, x ≠ 120 → x ≠ 144 → W x = V x) ∧ (∀ j, j ≠ 36 → W 120 j = V 120 j) ∧ (∀ j, j < k → W 144 j = (if twS H cp n2 u (fun y => U (j / 8) y) (j % 8) 8 < twS G co n1 u (fun y => U y (j % 8)) (j / 8) 8 then twS H cp n2 u (fun y => U (j / 8) y) (j % 8) 8 else twS G co n1 u (fun y => U y (j % 8)) (j / 8) 8)) ∧ (8 * wr + its < k → W 120 36 = (if twS H cp n2 u (fun y => U ((8 * wr + its) / 8) y) ((8 * wr + its) % 8) 8 < twS G co n1 u (fun y => U y ((8 * wr + its) % 8)) ((8 * wr + its) / 8) 8 then 1 else 0))) → Ev L (d + 2) 220 48 [some (.inr (.inr 120)), some (.inl (m : Int)), some (.inl (wr : Int)), some (.inl (o : Int)), some (.inl (its : Int)), some (.inl (dd : Int)), some (.inr (.inl u)), none, some (.inl x8), some (.inl (k : Int)), none, none, none, none, none, none, none] [] W b Q
  | 0, k, W, h, hr => by
    obtain rfl : k = 64 := by omega
    refine Ev.blk 3 (B220_48 _ _ _ _ _ _ _ _ _ _ _ (by decide)) rfl ?_
    refine Ev.ite (fun _ => ?_) (fun h => absurd h (by decide))
    exact hQ W hr
  | n + 1, k, W, h, hr => by
    have ih := lt2_lp (L := L) (d := d) (dd := dd) (x8 := x8) hm ho hP hB hP2 hB2 hwr hit hU hb1 hQ n (k + 1)
    have hPw : PR W m n1 G co mw mc := hP.frame (fun x q1 q2 => hr.1 x (by omega) (by omega))
    have hP2w : PR W o n2 H cp mw2 mc2 := hP2.frame (fun x q1 q2 => hr.1 x (by omega) (by omega))
    have hbk := hb1 (k / 8) (k % 8) (by omega) (by omega)
    have d1 : Int.tdiv (k : Int) 8 = ((k / 8 : Nat) : Int) := by rw [Int.tdiv_eq_ediv_of_nonneg (by omega)]; omega
    have d2 : Int.tmod (k : Int) 8 = ((k % 8 : Nat) : Int) := by rw [Int.tmod_eq_emod_of_nonneg (by omega)]; omega
    have e1 : (8 * (m : Int) + ((k / 8 : Nat) : Int)).toNat = 8 * m + k / 8 := by omega
    have e2 : (8 * (o : Int) + ((k % 8 : Nat) : Int)).toNat = 8 * o + k % 8 := by omega
    have c1 := hPw.2.2.1 (k / 8) (by omega)
    have c2 := hP2w.2.2.1 (k % 8) (by omega)
    have cb1 := hB.2.2.2.1 (k / 8) (by omega)
    have cb2 := hB2.2.2.2.1 (k % 8) (by omega)
    have at301 : ∀ (s1 z : Int), z = (if twS H cp n2 u (fun y => U (k / 8) y) (k % 8) 8 < twS G co n1 u (fun y => U y (k % 8)) (k / 8) 8 then twS H cp n2 u (fun y => U (k / 8) y) (k % 8) 8 else twS G co n1 u (fun y => U y (k % 8)) (k / 8) 8) → s1 = (if k = 8 * wr + its then (if twS H cp n2 u (fun y => U (k / 8) y) (k % 8) 8 < twS G co n1 u (fun y => U y (k % 8)) (k / 8) 8 then 1 else 0) else W 120 36) → Ev L (d + 2) 220 301 [some (.inr (.inr 120)), some (.inl (m : Int)), some (.inl (wr : Int)), some (.inl (o : Int)), some (.inl (its : Int)), some (.inl (dd : Int)), some (.inr (.inl u)), none, some (.inl x8), some (.inl (k : Int)), some (.inl ((k / 8 : Nat) : Int)), some (.inl ((k % 8 : Nat) : Int)), some (.inr (.inl (twS G co n1 u (fun y => U y (k % 8)) (k / 8) 8))), none, some (.inr (.inl (twS H cp n2 u (fun y => U (k / 8) y) (k % 8) 8))), none, some (.inl 8)] [.inl s1, .inr (.inr 120)] (uV W 144 k z) b Q := by
      intro s1 z hz hs1
      refine Ev.blk 3 (B220_301 _ _ _ _ _ _ _ _ _ _ _ _ _ _ _ _ _) rfl ?_
      refine Ev.kill [false, false, false, false, false, false, false, false, false, false, true, true, true, false, true, false, true] ?_
      dsimp only [mkl]
      refine ih _ (by omega) ⟨fun x q1 q2 => ?_, fun j hj => ?_, fun j hj => ?_, fun hj => ?_⟩
      · rw [uV_ne q1, uV_ne q2]
        exact hr.1 x q1 q2
      · rw [uV_at, if_neg hj, uV_ne (by omega)]
        exact hr.2.1 j hj
      · rw [uV_ne (by omega), uV_at]
        by_cases e : j = k
        · rw [if_pos e, hz, e]
        · rw [if_neg e]
          exact hr.2.2.1 j (by omega)
      · rw [uV_at, if_pos rfl, hs1]
        by_cases e : k = 8 * wr + its
        · rw [if_pos e, e]
        · rw [if_neg e]
          exact hr.2.2.2 (by omega)
    have at266 : ∀ z : Int, z = (if twS H cp n2 u (fun y => U (k / 8) y) (k % 8) 8 < twS G co n1 u (fun y => U y (k % 8)) (k / 8) 8 then twS H cp n2 u (fun y => U (k / 8) y) (k % 8) 8 else twS G co n1 u (fun y => U y (k % 8)) (k / 8) 8) → Ev L (d + 2) 220 266 [some (.inr (.inr 120)), some (.inl (m : Int)), some (.inl (wr : Int)), some (.inl (o : Int)), some (.inl (its : Int)), some (.inl (dd : Int)), some (.inr (.inl u)), none, some (.inl x8), some (.inl (k : Int)), some (.inl ((k / 8 : Nat) : Int)), some (.inl ((k % 8 : Nat) : Int)), some (.inr (.inl (twS G co n1 u (fun y => U y (k % 8)) (k / 8) 8))), none, some (.inr (.inl (twS H cp n2 u (fun y => U (k / 8) y) (k % 8) 8))), none, some (.inl 8)] [.inr (.inl z), .inl (k : Int), .inr (.inr 144)] W b Q := by
      intro z hz
      have u36 : uV W 144 k z 120 36 = W 120 36 := by rw [uV_ne (by omega)]
      refine Ev.blk 5 (J220_266 _ _ _ _ _ _ _ _ _ _ _ _ _ _ _ _ _ _ _ _ (show TT L 144 = (2, 64) from rfl) ⟨by omega, by omega⟩ (by decide) ⟨by omega, by omega⟩ ⟨by omega, by omega⟩) rfl ?_
      rw [Int.toNat_natCast]
      refine Ev.ite (fun q => ?_) (fun q => ?_)
      · replace q := nd_t q
        refine Ev.blk 2 (B220_297 _ _ _ _ _ _ _ _ _ _ _ _ _ _ _ _) rfl ?_
        exact at301 _ z hz (by rw [if_neg (by omega), u36])
      · replace q := nd_f q
        refine Ev.blk 3 (B220_274 _ _ _ _ _ _ _ _ _ _ _ _ _ _ _ _ ⟨by omega, by omega⟩ ⟨by omega, by omega⟩) rfl ?_
        refine Ev.ite (fun q2 => ?_) (fun q2 => ?_)
        · replace q2 := nd_t q2
          refine Ev.blk 2 (B220_297 _ _ _ _ _ _ _ _ _ _ _ _ _ _ _ _) rfl ?_
          exact at301 _ z hz (by rw [if_neg (by omega), u36])
        · replace q2 := nd_f q2
          refine Ev.blk 4 (B220_281 _ _ _ _ _ _ _ _ _ _ _ _ _ _ _ _ hbk.2 hbk.1 (cmpI_in _ _)) rfl ?_
          refine Ev.ite (fun q3 => ?_) (fun q3 => ?_)
          · replace q3 := (cmpI_ge _ _).mp (of_decide_eq_true q3)
            refine Ev.blk 2 (B220_293 _ _ _ _ _ _ _ _ _ _ _ _ _ _ _ _) rfl ?_
            exact at301 _ z hz (by rw [if_pos (by omega), if_neg (by omega)])
          · have q3 : ¬ twS G co n1 u (fun y => U y (k % 8)) (k / 8) 8 ≤ twS H cp n2 u (fun y => U (k / 8) y) (k % 8) 8 := fun z2 => of_decide_eq_false q3 ((cmpI_ge _ _).mpr z2)
            refine Ev.blk 2 (B220_289 _ _ _ _ _ _ _ _ _ _ _ _ _ _ _ _) rfl ?_
            exact at301 _ z hz (by rw [if_pos (by omega), if_pos (by omega)])
    refine Ev.blk 3 (B220_48 _ _ _ _ _ _ _ _ _ _ _ ⟨by omega, by omega⟩) rfl ?_
    refine Ev.ite (fun q => absurd (of_decide_eq_true q) (by omega)) (fun _ => ?_)
    refine Ev.blk 34 (B220_55 _ _ _ _ _ _ _ _ _ _ _ ⟨by omega, by omega⟩ (by rw [d1]; omega) (by rw [d1, e1, c1]; exact ⟨by omega, by omega⟩) (by rw [d2]; omega) (by rw [d2, e2, c2]; exact ⟨by omega, by omega⟩)) rfl ?_
    rw [d1, d2, e1, e2, c1, c2]
    refine Ev.val (ls' := [some (.inr (.inr 120)), some (.inl (m : Int)), some (.inl (wr : Int)), some (.inl (o : Int)), some (.inl (its : Int)), some (.inl (dd : Int)), some (.inr (.inl u)), none, some (.inl x8), some (.inl (k : Int)), some (.inl ((k / 8 : Nat) : Int)), some (.inl ((k % 8 : Nat) : Int)), some (.inr (.inl (twS G co n1 u (fun i => U i (k % 8)) (k / 8) 0))), none, some (.inr (.inl (twS H cp n2 u (fun j => U (k / 8) j) (k % 8) 0))), none, some (.inl (0 : Int))]) ?_ rfl (lt1_lp (V := W) (a := k / 8) (e := k % 8) hm ho hPw hB hP2w hB2 (by omega) (by omega) (fun i j hi hj => by rw [hr.1 143 (by omega) (by omega)]; exact hU i j hi hj) ?_ 8 0 rfl)
    · rw [show twS G co n1 u (fun i => U i (k % 8)) (k / 8) 0 = co (k / 8) * u from Int.add_zero _, show twS H cp n2 u (fun j => U (k / 8) j) (k % 8) 0 = cp (k % 8) * u from Int.add_zero _]
    · refine Ev.blk 7 (B220_245 _ _ _ _ _ _ _ _ _ _ _ _ _ _ _ _ hbk.2 hbk.1 (cmpI_in _ _)) rfl ?_
      refine Ev.ite (fun q => ?_) (fun q => ?_)
      · replace q := (cmpI_ge _ _).mp (of_decide_eq_true q)
        refine Ev.blk 1 (J220_264 _ _ _ _ _ _ _ _ _ _ _ _ _ _ _ _ _ _ _ (show TT L 144 = (2, 64) from rfl)) rfl ?_
        exact at266 _ (by rw [if_neg (by omega)])
      · have q : ¬ twS G co n1 u (fun y => U y (k % 8)) (k / 8) 8 ≤ twS H cp n2 u (fun y => U (k / 8) y) (k % 8) 8 := fun z2 => of_decide_eq_false q ((cmpI_ge _ _).mpr z2)
        refine Ev.blk 2 (J220_259 _ _ _ _ _ _ _ _ _ _ _ _ _ _ _ _ _ _ _ (show TT L 144 = (2, 64) from rfl)) rfl ?_
        exact at266 _ (by rw [if_pos (by omega)])
theorem ltz_lp {L d : Nat} {V : Mv} {b : Bool} {Q : Option AV → Mv → Bool → Prop} {m wr o its dd : Nat} (hQ : Ev L d 220 24 [some (.inr (.inr 120)), some (.inl (m : Int)), some (.inl (wr : Int)), some (.inl (o : Int)), some (.inl (its : Int)), some (.inl (dd : Int)), some (.inl (64 : Int)), none, none, none, none, none, none, none, none, none, none] [] (fil V 143 0 (fun _ => 0) 64) b Q) : ∀ n k : Nat, k + n = 64 → Ev L (d) 220 3 [some (.inr (.inr 120)), some (.inl (m : Int)), some (.inl (wr : Int)), some (.inl (o : Int)), some (.inl (its : Int)), some (.inl (dd : Int)), some (.inl (k : Int)), none, none, none, none, none, none, none, none, none, none] [] (fil V 143 0 (fun _ => 0) k) b Q
  | 0, k, h => by
    obtain rfl : k = 64 := by omega
    refine Ev.blk 3 (B220_3 _ _ _ _ _ _ _ _ _ (by first | assumption | omega | decide | exact cmpI_in _ _ | exact ⟨by omega, by omega⟩)) rfl ?_
    refine Ev.ite (fun q => ?_) (fun q => ?_)
    · replace q := of_decide_eq_true q
      exact hQ
    · replace q := of_decide_eq_false q
      exact absurd q (by omega)
  | n + 1, k, h => by
    have ih := ltz_lp (L := L) (d := d) (m := m) (wr := wr) (o := o) (its := its) (dd := dd) hQ n (k + 1) (by omega)
    refine Ev.blk 3 (B220_3 _ _ _ _ _ _ _ _ _ (by first | assumption | omega | decide | exact cmpI_in _ _ | exact ⟨by omega, by omega⟩)) rfl ?_
    refine Ev.ite (fun q => ?_) (fun q => ?_)
    · replace q := of_decide_eq_true q
      exact absurd q (by omega)
    · replace q := of_decide_eq_false q
      refine Ev.blk 7 (B220_10 _ _ _ _ _ _ _ _ _ (by first | assumption | omega | decide | exact cmpI_in _ _ | exact ⟨by omega, by omega⟩)) rfl ?_
      exact Ev.mem (fil_st (by omega) rfl) ih

theorem ltc_lp {L d : Nat} {V : Mv} {b : Bool} {Q : Option AV → Mv → Bool → Prop} {m wr o its dd : Nat} {u x8 : Int} (hQ : Ev L d 220 340 [some (.inr (.inr 120)), some (.inl (m : Int)), some (.inl (wr : Int)), some (.inl (o : Int)), some (.inl (its : Int)), some (.inl (dd : Int)), some (.inr (.inl u)), none, some (.inl x8), some (.inl (64 : Int)), none, none, none, none, none, none, none] [] (fil V 143 0 (V 144) 64) b Q) : ∀ n k : Nat, k + n = 64 → Ev L (d) 220 313 [some (.inr (.inr 120)), some (.inl (m : Int)), some (.inl (wr : Int)), some (.inl (o : Int)), some (.inl (its : Int)), some (.inl (dd : Int)), some (.inr (.inl u)), none, some (.inl x8), some (.inl (k : Int)), none, none, none, none, none, none, none] [] (fil V 143 0 (V 144) k) b Q
  | 0, k, h => by
    obtain rfl : k = 64 := by omega
    refine Ev.blk 3 (B220_313 _ _ _ _ _ _ _ _ _ _ _ (by first | assumption | omega | decide | exact cmpI_in _ _ | exact ⟨by omega, by omega⟩)) rfl ?_
    refine Ev.ite (fun q => ?_) (fun q => ?_)
    · replace q := of_decide_eq_true q
      exact hQ
    · replace q := of_decide_eq_false q
      exact absurd q (by omega)
  | n + 1, k, h => by
    have ih := ltc_lp (L := L) (d := d) (m := m) (wr := wr) (o := o) (its := its) (dd := dd) (u := u) (x8 := x8) hQ n (k + 1) (by omega)
    refine Ev.blk 3 (B220_313 _ _ _ _ _ _ _ _ _ _ _ (by first | assumption | omega | decide | exact cmpI_in _ _ | exact ⟨by omega, by omega⟩)) rfl ?_
    refine Ev.ite (fun q => ?_) (fun q => ?_)
    · replace q := of_decide_eq_true q
      exact absurd q (by omega)
    · replace q := of_decide_eq_false q
      refine Ev.blk 10 (B220_320 _ _ _ _ _ _ _ _ _ _ _ (by first | assumption | omega | decide | exact cmpI_in _ _ | exact ⟨by omega, by omega⟩)) rfl ?_
      exact Ev.mem (fil_st (by omega) (by rw [fil_ne (by omega), Int.toNat_natCast])) ih

theorem tw_10 {G H : Nat → Nat → Int} {co cp : Nat → Int} {n1 n2 t a e : Nat} : twS G co n1 (pw 10 t * 10) (fun i => 10 * twF G co n1 H cp n2 t i e) a 8 = 10 * tw1 G co n1 (pw 10 t) (twF G co n1 H cp n2 t) a e ∧ twS H cp n2 (pw 10 t * 10) (fun j => 10 * twF G co n1 H cp n2 t a j) e 8 = 10 * tw2 H cp n2 (pw 10 t) (twF G co n1 H cp n2 t) a e := ⟨twS_10 8 (fun i hi => rfl), twS_10 8 (fun i hi => rfl)⟩
theorem lt3_lp {L d : Nat} {V : Mv} {b : Bool} {Q : Option AV → Mv → Bool → Prop} {m o n1 n2 : Nat} {G H : Nat → Nat → Int} {co mw mc cp mw2 mc2 : Nat → Int} {wr its dd : Nat} (hm : m < 3) (ho : o < 3) (hP : PR V m n1 G co mw mc) (hB : PB n1 G co mw mc) (hP2 : PR V o n2 H cp mw2 mc2) (hB2 : PB n2 H cp mw2 mc2) (hwr : wr < 8) (hit : its < 8) (hd : dd ≤ 7) (hQ : ∀ W, ((∀ x, x ≠ 120 → x ≠ 143 → x ≠ 144 → W x = V x) ∧ (∀ j, j ≠ 36 → W 120 j = V 120 j) ∧ (∀ i j, i < 8 → j < 8 → W 143 (8 * i + j) = 10 * twF G co n1 H cp n2 dd i j) ∧ (0 < dd → W 120 36 = twR G co n1 H cp n2 (dd - 1) wr its)) → Q (some (.inr (.inl (10 * twF G co n1 H cp n2 dd wr its)))) W b) : ∀ (n k : Nat) (W : Mv), k + n = dd → ((∀ x, x ≠ 120 → x ≠ 143 → x ≠ 144 → W x = V x) ∧ (∀ j, j ≠ 36 → W 120 j = V 120 j) ∧ (∀ i j, i < 8 → j < 8 → W 143 (8 * i + j) = 10 * twF G co n1 H cp n2 k i j) ∧ (0 < k → W 120 36 = twR G co n1 H cp n2 (k - 1) wr its)) → Ev L (d + 2) 220 30 [some (.inr (.inr 120)), some (.inl (m : Int)), some (.inl (wr : Int)), some (.inl (o : Int)), some (.inl (its : Int)), some (.inl (dd : Int)), some (.inr (.inl (pw 10 k))), none, some (.inl (k : Int)), none, none, none, none, none, none, none, none] [] W b Q
  | 0, k, W, h, hr => by
    obtain rfl : k = dd := by omega
    refine Ev.blk 3 (B220_30 _ _ _ _ _ _ _ _ _ _ ⟨by omega, by omega⟩ ⟨by omega, by omega⟩) rfl ?_
    refine Ev.ite (fun _ => ?_) (fun z => absurd (of_decide_eq_false z) (by omega))
    refine Ev.blk 8 (B220_346 _ _ _ _ _ _ _ _ _ _ (by omega)) rfl ?_
    rw [show (8 * (wr : Int) + (its : Int)).toNat = 8 * wr + its by omega, hr.2.2.1 wr its hwr hit]
    exact Ev.ret rfl rfl rfl rfl (hQ W hr)
  | n + 1, k, W, h, hr => by
    have ih := lt3_lp (L := L) (d := d) hm ho hP hB hP2 hB2 hwr hit hd hQ n (k + 1)
    have hPw : PR W m n1 G co mw mc := hP.frame (fun x q1 q2 => hr.1 x (by omega) (by omega) (by omega))
    have hP2w : PR W o n2 H cp mw2 mc2 := hP2.frame (fun x q1 q2 => hr.1 x (by omega) (by omega) (by omega))
    have hbd := twF_bd (G := G) (co := co) (H := H) (cp := cp) (n := n1) (n2 := n2) hB.2.2.1 hB.2.2.2.1 hB2.2.2.1 hB2.2.2.2.1 k (by omega)
    have hB8 := Bd8 (t := k + 1) (by omega)
    refine Ev.blk 3 (B220_30 _ _ _ _ _ _ _ _ _ _ ⟨by omega, by omega⟩ ⟨by omega, by omega⟩) rfl ?_
    refine Ev.ite (fun z => absurd (of_decide_eq_true z) (by omega)) (fun _ => ?_)
    refine Ev.blk 6 (B220_37 _ _ _ _ _ _ _ _ _ _) rfl ?_
    refine lt2_lp (V := W) (u := pw 10 k * 10) (U := fun i j => 10 * twF G co n1 H cp n2 k i j) hm ho hPw hB hP2w hB2 hwr hit hr.2.2.1 (fun a e ha he => ?_) (fun Y hy => ?_) 64 0 W rfl ⟨fun _ _ _ => rfl, fun _ _ => rfl, fun j hj => absurd hj (by omega), fun hj => absurd hj (by omega)⟩
    · have h1 := twS_bd (G := G) (co := co) (n := n1) (t := k) (lt := fun i => twF G co n1 H cp n2 k i e) hB.2.2.1 hB.2.2.2.1 (fun j hj => hbd j e hj he) (by omega) ha
      have h2 := twS_bd (G := H) (co := cp) (n := n2) (t := k) (lt := fun j => twF G co n1 H cp n2 k a j) hB2.2.2.1 hB2.2.2.2.1 (fun j hj => hbd a j ha hj) (by omega) he
      rw [tw_10.1, tw_10.2]
      unfold tw1 tw2
      exact ⟨⟨by omega, by omega⟩, by omega, by omega⟩
    · refine Ev.blk 2 (B220_310 _ _ _ _ _ _ _ _ _ _ _) rfl ?_
      refine Ev.mem (fil_0 Y 143 0 (Y 144)).symm (ltc_lp ?_ 64 0 rfl)
      refine Ev.blk 2 (B220_340 _ _ _ _ _ _ _ _ _ _ _) rfl ?_
      refine Ev.kill [false, false, false, false, false, false, false, false, false, true] ?_
      dsimp only [mkl]
      refine ih _ (by omega) ⟨fun x q1 q2 q3 => ?_, fun j hj => ?_, fun i j hi hj => ?_, fun _ => ?_⟩
      · rw [fil_ne q2, hy.1 x q1 q3, hr.1 x q1 q2 q3]
      · rw [fil_ne (by omega), hy.2.1 j hj, hr.2.1 j hj]
      · rw [fil_z (by omega), hy.2.2.1 _ (by omega), show (8 * i + j) % 8 = j by omega, show (8 * i + j) / 8 = i by omega, tw_10.1, tw_10.2]
        show _ = 10 * (if tw2 H cp n2 (pw 10 k) (twF G co n1 H cp n2 k) i j < tw1 G co n1 (pw 10 k) (twF G co n1 H cp n2 k) i j then tw2 H cp n2 (pw 10 k) (twF G co n1 H cp n2 k) i j else tw1 G co n1 (pw 10 k) (twF G co n1 H cp n2 k) i j)
        by_cases q : tw2 H cp n2 (pw 10 k) (twF G co n1 H cp n2 k) i j < tw1 G co n1 (pw 10 k) (twF G co n1 H cp n2 k) i j
        · rw [if_pos q, if_pos (by omega)]
        · rw [if_neg q, if_neg (by omega)]
      · rw [fil_ne (by omega), hy.2.2.2 (by omega), show (8 * wr + its) % 8 = its by omega, show (8 * wr + its) / 8 = wr by omega, tw_10.1, tw_10.2]
        show _ = (if tw2 H cp n2 (pw 10 k) (twF G co n1 H cp n2 k) wr its < tw1 G co n1 (pw 10 k) (twF G co n1 H cp n2 k) wr its then (1 : Int) else 0)
        by_cases q : tw2 H cp n2 (pw 10 k) (twF G co n1 H cp n2 k) wr its < tw1 G co n1 (pw 10 k) (twF G co n1 H cp n2 k) wr its
        · rw [if_pos q, if_pos (by omega)]
        · rw [if_neg q, if_neg (by omega)]
theorem x_layTwo {L d : Nat} {V : Mv} {b : Bool} {m o n1 n2 : Nat} {G H : Nat → Nat → Int} {co mw mc cp mw2 mc2 : Nat → Int} {wr its dd : Nat} (hm : m < 3) (ho : o < 3) (hP : PR V m n1 G co mw mc) (hB : PB n1 G co mw mc) (hP2 : PR V o n2 H cp mw2 mc2) (hB2 : PB n2 H cp mw2 mc2) (hwr : wr < 8) (hit : its < 8) (hd : 1 ≤ dd ∧ dd ≤ 7) : Ex L (d + 2) 220 [.inr (.inr 120), .inl (m : Int), .inl (wr : Int), .inl (o : Int), .inl (its : Int), .inl (dd : Int)] V b (fun v V' b' => v = some (.inr (.inl (10 * twF G co n1 H cp n2 dd wr its))) ∧ b' = b ∧ (∀ x, x ≠ 120 → x ≠ 143 → x ≠ 144 → V' x = V x) ∧ (∀ j, j ≠ 36 → V' 120 j = V 120 j) ∧ V' 120 36 = twR G co n1 H cp n2 (dd - 1) wr its) := by
  refine Ev.blk 2 (B220_0 _ _ _ _ _ _ _ _) rfl ?_
  refine Ev.mem (fil_0 V 143 0 (fun _ => 0)).symm (ltz_lp ?_ 64 0 rfl)
  refine Ev.blk 4 (B220_24 _ _ _ _ _ _ _ _ _) rfl ?_
  refine lt3_lp (V := fil V 143 0 (fun _ => 0) 64) hm ho (hP.frame (fun x q1 q2 => fil_ne (by omega))) hB (hP2.frame (fun x q1 q2 => fil_ne (by omega))) hB2 hwr hit hd.2 (fun W hr => ⟨rfl, rfl, fun x q1 q2 q3 => by rw [hr.1 x q1 q2 q3, fil_ne q2], fun j hj => by rw [hr.2.1 j hj, fil_ne (by omega)], hr.2.2.2 (by omega)⟩) dd 0 _ (by omega) ⟨fun _ _ _ _ => rfl, fun _ _ => rfl, fun i j hi hj => ?_, fun h => absurd h (by omega)⟩
  rw [fil_z (by omega)]
  rfl
