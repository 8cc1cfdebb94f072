/-! how long till it breaks: fractions against scaled numbers (pure) -/
/-- what the reference holds of a wear: in least terms, or nothing -/
def lR (sc : Int) (i up down : Int) : Prop := (i = -9 ∧ up = 0 ∧ down = 0) ∨ (0 ≤ i ∧ ∃ u d : Nat, up = (u : Int) ∧ down = (d : Int) ∧ 0 < d ∧ Nat.gcd u d = 1 ∧ (u : Int) * sc = i * (d : Int))
/-- and on the way to it -/
def lS (sc S : Int) (bd : Prop) (up down : Int) : Prop := (bd ∧ up = 0 ∧ down = 0) ∨ (¬ bd ∧ ∃ u d : Nat, up = (u : Int) ∧ down = (d : Int) ∧ 0 < d ∧ Nat.gcd u d = 1 ∧ (u : Int) * sc = S * (d : Int))
theorem frac_bd {u d : Nat} {sc S : Int} (hs : 1 ≤ sc ∧ sc ≤ 10000000) (hd : 0 < d) (hg : Nat.gcd u d = 1) (h : (u : Int) * sc = S * (d : Int)) (hS : 0 ≤ S) : (d : Int) ≤ sc ∧ (u : Int) ≤ S := by
  obtain ⟨s, rfl⟩ : ∃ k : Nat, sc = (k : Int) := ⟨sc.toNat, by omega⟩
  obtain ⟨q, rfl⟩ : ∃ k : Nat, S = (k : Int) := ⟨S.toNat, by omega⟩
  have h1 : u * s = q * d := by
    have := h
    rw [← Int.natCast_mul, ← Int.natCast_mul] at this
    exact Int.ofNat_inj.mp this
  have h2 := (least_eq hg h1 (by omega) hd).2.2
  have h3 := Nat.le_of_dvd (by omega) h2
  have h4 : u * s ≤ q * s := by
    rw [h1]
    exact Nat.mul_le_mul_left q h3
  have h5 := Nat.le_of_mul_le_mul_right h4 (by omega)
  omega
theorem red {u d : Nat} {sc S : Int} (hd : 0 < d) (h : (u : Int) * sc = S * (d : Int)) : 0 < d / Nat.gcd u d ∧ Nat.gcd (u / Nat.gcd u d) (d / Nat.gcd u d) = 1 ∧ ((u / Nat.gcd u d : Nat) : Int) * sc = S * ((d / Nat.gcd u d : Nat) : Int) := by
  have hg : 0 < Nat.gcd u d := Nat.gcd_pos_of_pos_right u hd
  obtain ⟨a, ha⟩ := Nat.gcd_dvd_left u d
  obtain ⟨b, hb⟩ := Nat.gcd_dvd_right u d
  have e1 : u / Nat.gcd u d = a := by
    conv => lhs; lhs; rw [ha]
    exact Nat.mul_div_cancel_left _ hg
  have e2 : d / Nat.gcd u d = b := by
    conv => lhs; lhs; rw [hb]
    exact Nat.mul_div_cancel_left _ hg
  refine ⟨?_, Nat.gcd_div_gcd_div_gcd_of_pos_right hd, ?_⟩
  · rw [e2]
    rcases Nat.eq_zero_or_pos b with z | z
    · rw [z, Nat.mul_zero] at hb
      omega
    · exact z
  · rw [e1, e2]
    have e3 : (u : Int) = (Nat.gcd u d : Int) * (a : Int) := by rw [← Int.natCast_mul, ← ha]
    have e4 : (d : Int) = (Nat.gcd u d : Int) * (b : Int) := by rw [← Int.natCast_mul, ← hb]
    rw [e3, e4, Int.mul_left_comm S, Int.mul_assoc] at h
    exact Int.eq_of_mul_eq_mul_left (by omega) h
theorem lS_step {sc S up down t i lu ld : Int} {bd bd2 : Prop} (hs : 1 ≤ sc ∧ sc ≤ 10000000) (hS : ¬ bd → 1 ≤ S ∧ S ≤ 60000000000) (h : lS sc S bd up down) (ht : 1 ≤ t ∧ t ≤ 9) (hi : i ≤ 700000000) (hR : lR sc i lu ld) (hb1 : bd → bd2) (hb2 : i < 0 → bd2) (hb3 : ¬ bd → ¬ i < 0 → ¬ bd2) : (up * ld + t * lu * down = 0 ∧ down * ld = 0 ∧ lS sc (S + t * i) bd2 0 0) ∨ (∃ u2 d2 : Nat, up * ld + t * lu * down = (u2 : Int) ∧ down * ld = (d2 : Int) ∧ 0 < d2 ∧ u2 < 4000000000000000000 ∧ d2 < 4000000000000000000 ∧ lS sc (S + t * i) bd2 ((u2 / Nat.gcd u2 d2 : Nat) : Int) ((d2 / Nat.gcd u2 d2 : Nat) : Int)) := by
  rcases h with ⟨b1, rfl, rfl⟩ | ⟨b1, u, d, rfl, rfl, hd, hg, he⟩
  · left
    rw [Int.zero_mul, Int.mul_zero]
    exact ⟨rfl, rfl, Or.inl ⟨hb1 b1, rfl, rfl⟩⟩
  · rcases hR with ⟨h1, rfl, rfl⟩ | ⟨h1, x, y, rfl, rfl, hy, hg2, he2⟩
    · left
      rw [Int.mul_zero, Int.mul_zero, Int.zero_mul, Int.mul_zero]
      exact ⟨rfl, rfl, Or.inl ⟨hb2 (by omega), rfl, rfl⟩⟩
    · right
      obtain ⟨t, rfl⟩ : ∃ k : Nat, t = (k : Int) := ⟨t.toNat, by omega⟩
      have hS2 := hS b1
      have f1 := frac_bd hs hd hg he (by omega)
      have f2 := frac_bd hs hy hg2 he2 h1
      have m1 := mulb (x := (u : Int)) (y := (y : Int)) (A := 60000000000) (B := 10000000) (by omega) (by omega)
      have m2 := mulb (x := (t : Int)) (y := (x : Int)) (A := 9) (B := 700000000) (by omega) (by omega)
      have m3 := mulb (x := (t : Int) * (x : Int)) (y := (d : Int)) (A := 6300000000) (B := 10000000) (by omega) (by omega)
      have m4 := mulb (x := (d : Int)) (y := (y : Int)) (A := 10000000) (B := 10000000) (by omega) (by omega)
      have e1 : (u : Int) * (y : Int) + (t : Int) * (x : Int) * (d : Int) = ((u * y + t * x * d : Nat) : Int) := by
        rw [Int.natCast_add, Int.natCast_mul, Int.natCast_mul, Int.natCast_mul]
      have e2 : (d : Int) * (y : Int) = ((d * y : Nat) : Int) := by rw [Int.natCast_mul]
      have hp : 0 < d * y := Nat.mul_pos hd hy
      have key : ((u * y + t * x * d : Nat) : Int) * sc = (S + (t : Int) * i) * ((d * y : Nat) : Int) := by
        rw [← e1, ← e2, Int.add_mul, Int.add_mul]
        have k1 : (u : Int) * (y : Int) * sc = S * ((d : Int) * (y : Int)) := by
          rw [Int.mul_right_comm, he, Int.mul_assoc]
        have k2 : (t : Int) * (x : Int) * (d : Int) * sc = (t : Int) * i * ((d : Int) * (y : Int)) := by
          rw [Int.mul_right_comm, Int.mul_assoc (t : Int) (x : Int) sc, he2, ← Int.mul_assoc, Int.mul_assoc ((t : Int) * i), Int.mul_comm (y : Int)]
        rw [k1, k2]
      have r := red (sc := sc) (S := S + (t : Int) * i) hp key
      refine ⟨u * y + t * x * d, d * y, e1, e2, hp, ?_, ?_, Or.inr ⟨hb3 b1 (by omega), _, _, rfl, rfl, r.1, r.2.1, r.2.2⟩⟩
      · have k3 : ((u * y + t * x * d : Nat) : Int) ≤ 1000000000000000000 := by
          rw [← e1]
          omega
        omega
      · have k3 : ((d * y : Nat) : Int) ≤ 1000000000000000000 := by
          rw [← e2]
          omega
        omega
theorem lS_fin {sc S up down o i : Int} {bd : Prop} (hs : 1 ≤ sc ∧ sc ≤ 10000000) (hS : ¬ bd → 1 ≤ S ∧ S ≤ 60000000000) (h : lS sc S bd up down) (ho : 1 ≤ o ∧ o ≤ 10) (h1 : bd → i = -9) (h2 : ¬ bd → 0 ≤ i ∧ i * o = S) : (up = 0 ∧ down * o = 0 ∧ lR sc i 0 0) ∨ (∃ u2 d2 : Nat, up = (u2 : Int) ∧ down * o = (d2 : Int) ∧ 0 < d2 ∧ u2 < 4000000000000000000 ∧ d2 < 4000000000000000000 ∧ lR sc i ((u2 / Nat.gcd u2 d2 : Nat) : Int) ((d2 / Nat.gcd u2 d2 : Nat) : Int)) := by
  rcases h with ⟨b1, rfl, rfl⟩ | ⟨b1, u, d, rfl, rfl, hd, hg, he⟩
  · left
    rw [Int.zero_mul]
    exact ⟨rfl, rfl, Or.inl ⟨h1 b1, rfl, rfl⟩⟩
  · right
    obtain ⟨o, rfl⟩ : ∃ k : Nat, o = (k : Int) := ⟨o.toNat, by omega⟩
    have hS2 := hS b1
    have hi := h2 b1
    have f1 := frac_bd hs hd hg he (by omega)
    have m4 := mulb (x := (d : Int)) (y := (o : Int)) (A := 10000000) (B := 10) (by omega) (by omega)
    have e2 : (d : Int) * (o : Int) = ((d * o : Nat) : Int) := by rw [Int.natCast_mul]
    have hp : 0 < d * o := Nat.mul_pos hd (by omega)
    have key : (u : Int) * sc = i * ((d * o : Nat) : Int) := by
      rw [he, ← hi.2, ← e2, Int.mul_assoc, Int.mul_comm (o : Int)]
    have r := red (sc := sc) (S := i) hp key
    refine ⟨u, d * o, rfl, e2, hp, by omega, ?_, Or.inr ⟨hi.1, _, _, rfl, rfl, r.1, r.2.1, r.2.2⟩⟩
    rw [e2] at m4
    omega
