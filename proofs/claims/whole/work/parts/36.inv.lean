/-! THE INVARIANT between the class and the reference -/
/-- a Kind (class, address K) and a machine (reference, number m) are the same -/
def Kd (V : Mv) (K m : Nat) : Prop := (V K 0 = V 121 m) ∧ (2 ≤ V 121 m) ∧ (V 121 m ≤ 8) ∧ (V K 1 = V 122 m) ∧ (V 122 m = -9 ∨ 0 ≤ V 122 m ∧ V 122 m ≤ 9) ∧ (∀ a c : Nat, a < 8 → c < 8 → 0 ≤ V 123 (64 * m + 8 * a + c) ∧ V 123 (64 * m + 8 * a + c) ≤ 9) ∧ (∀ a c : Nat, a < 8 → c < 8 → ¬ (a < c ∧ (c : Int) < V 121 m) → V 123 (64 * m + 8 * a + c) = 0) ∧ (∀ a : Nat, a < 8 → V (K + 2) a = rLv V m a) ∧ (∀ a : Nat, a < 8 → rLv V m a ≤ 10) ∧ (∀ a c : Nat, a < 8 → c < 8 → V (K + 1) (8 * a + c) = rGo V m a c) ∧ (∀ a : Nat, a < 8 → V (K + 3) a = V 124 (8 * m + a) ∧ 0 ≤ V 124 (8 * m + a) ∧ V 124 (8 * m + a) ≤ 99) ∧ (∀ a : Nat, a < 8 → V (K + 4) a = V 125 (8 * m + a) ∧ 0 ≤ V 125 (8 * m + a) ∧ V 125 (8 * m + a) ≤ 9) ∧ (∀ j : Nat, j < 4 → V (K + 5) j = V 127 (4 * m + j) ∧ 0 ≤ V 127 (4 * m + j) ∧ V 127 (4 * m + j) ≤ 99) ∧ (∀ j : Nat, j < 4 → V (K + 6) j = V 126 (4 * m + j) ∧ (V 126 (4 * m + j) = -9 ∨ 0 ≤ V 126 (4 * m + j) ∧ V 126 (4 * m + j) + 2 ≤ V 121 m))
theorem Kd.mk {V : Mv} {K m : Nat} (h_w : V K 0 = V 121 m) (h_w2 : 2 ≤ V 121 m) (h_w8 : V 121 m ≤ 8) (h_lk : V K 1 = V 122 m) (h_lk9 : V 122 m = -9 ∨ 0 ≤ V 122 m ∧ V 122 m ≤ 9) (h_tn : ∀ a c : Nat, a < 8 → c < 8 → 0 ≤ V 123 (64 * m + 8 * a + c) ∧ V 123 (64 * m + 8 * a + c) ≤ 9) (h_tn0 : ∀ a c : Nat, a < 8 → c < 8 → ¬ (a < c ∧ (c : Int) < V 121 m) → V 123 (64 * m + 8 * a + c) = 0) (h_lv : ∀ a : Nat, a < 8 → V (K + 2) a = rLv V m a) (h_lv10 : ∀ a : Nat, a < 8 → rLv V m a ≤ 10) (h_go : ∀ a c : Nat, a < 8 → c < 8 → V (K + 1) (8 * a + c) = rGo V m a c) (h_co : ∀ a : Nat, a < 8 → V (K + 3) a = V 124 (8 * m + a) ∧ 0 ≤ V 124 (8 * m + a) ∧ V 124 (8 * m + a) ≤ 99) (h_kn : ∀ a : Nat, a < 8 → V (K + 4) a = V 125 (8 * m + a) ∧ 0 ≤ V 125 (8 * m + a) ∧ V 125 (8 * m + a) ≤ 9) (h_mc : ∀ j : Nat, j < 4 → V (K + 5) j = V 127 (4 * m + j) ∧ 0 ≤ V 127 (4 * m + j) ∧ V 127 (4 * m + j) ≤ 99) (h_mw : ∀ j : Nat, j < 4 → V (K + 6) j = V 126 (4 * m + j) ∧ (V 126 (4 * m + j) = -9 ∨ 0 ≤ V 126 (4 * m + j) ∧ V 126 (4 * m + j) + 2 ≤ V 121 m)) : Kd V K m := by
  unfold Kd
  exact ⟨h_w, h_w2, h_w8, h_lk, h_lk9, h_tn, h_tn0, h_lv, h_lv10, h_go, h_co, h_kn, h_mc, h_mw⟩
theorem Kd.w {V : Mv} {K m : Nat} (h : Kd V K m) : V K 0 = V 121 m := by
  unfold Kd at h
  exact h.1
theorem Kd.w2 {V : Mv} {K m : Nat} (h : Kd V K m) : 2 ≤ V 121 m := by
  unfold Kd at h
  exact h.2.1
theorem Kd.w8 {V : Mv} {K m : Nat} (h : Kd V K m) : V 121 m ≤ 8 := by
  unfold Kd at h
  exact h.2.2.1
theorem Kd.lk {V : Mv} {K m : Nat} (h : Kd V K m) : V K 1 = V 122 m := by
  unfold Kd at h
  exact h.2.2.2.1
theorem Kd.lk9 {V : Mv} {K m : Nat} (h : Kd V K m) : V 122 m = -9 ∨ 0 ≤ V 122 m ∧ V 122 m ≤ 9 := by
  unfold Kd at h
  exact h.2.2.2.2.1
theorem Kd.tn {V : Mv} {K m : Nat} (h : Kd V K m) : ∀ a c : Nat, a < 8 → c < 8 → 0 ≤ V 123 (64 * m + 8 * a + c) ∧ V 123 (64 * m + 8 * a + c) ≤ 9 := by
  unfold Kd at h
  exact h.2.2.2.2.2.1
theorem Kd.tn0 {V : Mv} {K m : Nat} (h : Kd V K m) : ∀ a c : Nat, a < 8 → c < 8 → ¬ (a < c ∧ (c : Int) < V 121 m) → V 123 (64 * m + 8 * a + c) = 0 := by
  unfold Kd at h
  exact h.2.2.2.2.2.2.1
theorem Kd.lv {V : Mv} {K m : Nat} (h : Kd V K m) : ∀ a : Nat, a < 8 → V (K + 2) a = rLv V m a := by
  unfold Kd at h
  exact h.2.2.2.2.2.2.2.1
theorem Kd.lv10 {V : Mv} {K m : Nat} (h : Kd V K m) : ∀ a : Nat, a < 8 → rLv V m a ≤ 10 := by
  unfold Kd at h
  exact h.2.2.2.2.2.2.2.2.1
theorem Kd.go {V : Mv} {K m : Nat} (h : Kd V K m) : ∀ a c : Nat, a < 8 → c < 8 → V (K + 1) (8 * a + c) = rGo V m a c := by
  unfold Kd at h
  exact h.2.2.2.2.2.2.2.2.2.1
theorem Kd.co {V : Mv} {K m : Nat} (h : Kd V K m) : ∀ a : Nat, a < 8 → V (K + 3) a = V 124 (8 * m + a) ∧ 0 ≤ V 124 (8 * m + a) ∧ V 124 (8 * m + a) ≤ 99 := by
  unfold Kd at h
  exact h.2.2.2.2.2.2.2.2.2.2.1
theorem Kd.kn {V : Mv} {K m : Nat} (h : Kd V K m) : ∀ a : Nat, a < 8 → V (K + 4) a = V 125 (8 * m + a) ∧ 0 ≤ V 125 (8 * m + a) ∧ V 125 (8 * m + a) ≤ 9 := by
  unfold Kd at h
  exact h.2.2.2.2.2.2.2.2.2.2.2.1
theorem Kd.mc {V : Mv} {K m : Nat} (h : Kd V K m) : ∀ j : Nat, j < 4 → V (K + 5) j = V 127 (4 * m + j) ∧ 0 ≤ V 127 (4 * m + j) ∧ V 127 (4 * m + j) ≤ 99 := by
  unfold Kd at h
  exact h.2.2.2.2.2.2.2.2.2.2.2.2.1
theorem Kd.mw {V : Mv} {K m : Nat} (h : Kd V K m) : ∀ j : Nat, j < 4 → V (K + 6) j = V 126 (4 * m + j) ∧ (V 126 (4 * m + j) = -9 ∨ 0 ≤ V 126 (4 * m + j) ∧ V 126 (4 * m + j) + 2 ≤ V 121 m) := by
  unfold Kd at h
  exact h.2.2.2.2.2.2.2.2.2.2.2.2.2
theorem rLv_congr {V V' : Mv} (h : V' 123 = V 123) (m w : Int) : rLv V' m w = rLv V m w := by
  unfold rLv
  rw [h]
theorem rGo_congr {V V' : Mv} (h : V' 123 = V 123) (m a c : Int) : rGo V' m a c = rGo V m a c := by
  unfold rGo
  rw [h, rLv_congr h]
theorem Kd.frame {V V' : Mv} {K m : Nat} (h : Kd V K m) (hK : ∀ j, j ≤ 6 → V' (K + j) = V (K + j)) (hR : ∀ a, 121 ≤ a → a ≤ 127 → V' a = V a) : Kd V' K m := by
  have e0 := hK 0 (by omega)
  simp only [Nat.add_zero] at e0
  have e1 := hK 1 (by omega)
  have e2 := hK 2 (by omega)
  have e3 := hK 3 (by omega)
  have e4 := hK 4 (by omega)
  have e5 := hK 5 (by omega)
  have e6 := hK 6 (by omega)
  have f1 := hR 121 (by omega) (by omega)
  have f2 := hR 122 (by omega) (by omega)
  have f3 := hR 123 (by omega) (by omega)
  have f4 := hR 124 (by omega) (by omega)
  have f5 := hR 125 (by omega) (by omega)
  have f6 := hR 126 (by omega) (by omega)
  have f7 := hR 127 (by omega) (by omega)
  apply Kd.mk
  · rw [e0, f1]; exact h.w
  · rw [f1]; exact h.w2
  · rw [f1]; exact h.w8
  · rw [e0, f2]; exact h.lk
  · rw [f2]; exact h.lk9
  · rw [f3]; exact h.tn
  · rw [f3, f1]; exact h.tn0
  · rw [e2]; intro a ha; rw [rLv_congr f3]; exact h.lv a ha
  · intro a ha; rw [rLv_congr f3]; exact h.lv10 a ha
  · rw [e1]; intro a c ha hc; rw [rGo_congr f3]; exact h.go a c ha hc
  · rw [e3, f4]; exact h.co
  · rw [e4, f5]; exact h.kn
  · rw [e5, f7]; exact h.mc
  · rw [e6, f6, f1]; exact h.mw
/-- weights: a row of eight that may be thought of a machine with n wears -/
def Wt (f : Nat → Int) (n : Int) : Prop := (∀ a, a < 8 → 0 ≤ f a ∧ f a ≤ 1000000000000000) ∧ (∀ a : Nat, a < 8 → n ≤ (a : Int) → f a = 0) ∧ (∃ a, a < 8 ∧ f a ≠ 0)
theorem Wt.mk {f : Nat → Int} {n : Int} (h_b : ∀ a, a < 8 → 0 ≤ f a ∧ f a ≤ 1000000000000000) (h_z : ∀ a : Nat, a < 8 → n ≤ (a : Int) → f a = 0) (h_s : ∃ a, a < 8 ∧ f a ≠ 0) : Wt f n := by
  unfold Wt
  exact ⟨h_b, h_z, h_s⟩
theorem Wt.b {f : Nat → Int} {n : Int} (h : Wt f n) : ∀ a, a < 8 → 0 ≤ f a ∧ f a ≤ 1000000000000000 := by
  unfold Wt at h
  exact h.1
theorem Wt.z {f : Nat → Int} {n : Int} (h : Wt f n) : ∀ a : Nat, a < 8 → n ≤ (a : Int) → f a = 0 := by
  unfold Wt at h
  exact h.2.1
theorem Wt.s {f : Nat → Int} {n : Int} (h : Wt f n) : ∃ a, a < 8 ∧ f a ≠ 0 := by
  unfold Wt at h
  exact h.2.2
/-- a Slot (class) and a slot (reference) -/
def Sl (V : Mv) (s : Nat) : Prop := (∀ i a : Nat, i < 3 → a < 8 → V (78 + 14 * s + 3 * i) a = V 147 (24 * s + 8 * i + a)) ∧ (∀ i : Nat, i < 3 → V (74 + 14 * s) i = V 150 (3 * s + i) ∧ 0 ≤ V 150 (3 * s + i) ∧ V 150 (3 * s + i) ≤ V 129 i) ∧ (∀ i : Nat, i < 3 → V 150 (3 * s + i) = V 129 i → Wt (fun a => V 147 (24 * s + 8 * i + a)) (V 121 i)) ∧ (V (75 + 14 * s) 0 = V 148 s ∧ 0 ≤ V 148 s ∧ V 148 s ≤ 16) ∧ (∀ j : Nat, j < 16 → V (76 + 14 * s) j = V 149 (16 * s + j) ∧ 0 ≤ V 149 (16 * s + j) ∧ V 149 (16 * s + j) ≤ 5)
theorem Sl.mk {V : Mv} {s : Nat} (h_th : ∀ i a : Nat, i < 3 → a < 8 → V (78 + 14 * s + 3 * i) a = V 147 (24 * s + 8 * i + a)) (h_md : ∀ i : Nat, i < 3 → V (74 + 14 * s) i = V 150 (3 * s + i) ∧ 0 ≤ V 150 (3 * s + i) ∧ V 150 (3 * s + i) ≤ V 129 i) (h_ok : ∀ i : Nat, i < 3 → V 150 (3 * s + i) = V 129 i → Wt (fun a => V 147 (24 * s + 8 * i + a)) (V 121 i)) (h_ll : V (75 + 14 * s) 0 = V 148 s ∧ 0 ≤ V 148 s ∧ V 148 s ≤ 16) (h_lr : ∀ j : Nat, j < 16 → V (76 + 14 * s) j = V 149 (16 * s + j) ∧ 0 ≤ V 149 (16 * s + j) ∧ V 149 (16 * s + j) ≤ 5) : Sl V s := by
  unfold Sl
  exact ⟨h_th, h_md, h_ok, h_ll, h_lr⟩
theorem Sl.th {V : Mv} {s : Nat} (h : Sl V s) : ∀ i a : Nat, i < 3 → a < 8 → V (78 + 14 * s + 3 * i) a = V 147 (24 * s + 8 * i + a) := by
  unfold Sl at h
  exact h.1
theorem Sl.md {V : Mv} {s : Nat} (h : Sl V s) : ∀ i : Nat, i < 3 → V (74 + 14 * s) i = V 150 (3 * s + i) ∧ 0 ≤ V 150 (3 * s + i) ∧ V 150 (3 * s + i) ≤ V 129 i := by
  unfold Sl at h
  exact h.2.1
theorem Sl.ok {V : Mv} {s : Nat} (h : Sl V s) : ∀ i : Nat, i < 3 → V 150 (3 * s + i) = V 129 i → Wt (fun a => V 147 (24 * s + 8 * i + a)) (V 121 i) := by
  unfold Sl at h
  exact h.2.2.1
theorem Sl.ll {V : Mv} {s : Nat} (h : Sl V s) : V (75 + 14 * s) 0 = V 148 s ∧ 0 ≤ V 148 s ∧ V 148 s ≤ 16 := by
  unfold Sl at h
  exact h.2.2.2.1
theorem Sl.lr {V : Mv} {s : Nat} (h : Sl V s) : ∀ j : Nat, j < 16 → V (76 + 14 * s) j = V 149 (16 * s + j) ∧ 0 ≤ V 149 (16 * s + j) ∧ V 149 (16 * s + j) ≤ 5 := by
  unfold Sl at h
  exact h.2.2.2.2
/-- the same machine in two memories of the reference -/
def bkS (V W : Mv) (i : Nat) : Prop := W 121 i = V 121 i ∧ (∀ k, k < 64 → W 123 (64 * i + k) = V 123 (64 * i + k)) ∧ (∀ k, k < 8 → W 124 (8 * i + k) = V 124 (8 * i + k)) ∧ (∀ k, k < 4 → W 126 (4 * i + k) = V 126 (4 * i + k) ∧ W 127 (4 * i + k) = V 127 (4 * i + k))
theorem bkS.trans {V V' W : Mv} {i : Nat} (h1 : bkS V V' i) (h2 : bkS V' W i) : bkS V W i := ⟨h2.1.trans h1.1, fun k hk => (h2.2.1 k hk).trans (h1.2.1 k hk), fun k hk => (h2.2.2.1 k hk).trans (h1.2.2.1 k hk), fun k hk => ⟨(h2.2.2.2 k hk).1.trans (h1.2.2.2 k hk).1, (h2.2.2.2 k hk).2.trans (h1.2.2.2 k hk).2⟩⟩
/-- what finding a cost may change in the reference -/
def bkF (V W : Mv) : Prop := ∀ y k, ¬ (136 ≤ y ∧ y ≤ 139) → ¬ (y = 135 ∧ 32 ≤ k) → ¬ (y = 120 ∧ 23 ≤ k ∧ k ≤ 28) → W y k = V y k
/-- what the class keeps of the best rule is what the reference would find -/
def BKn (V : Mv) (i : Nat) : Prop := V (24 + 15 * i) 6 = 0 ∨ (V (24 + 15 * i) 6 = 1 ∧ in32 (V (24 + 15 * i) 0) ∧ (V (24 + 15 * i) 0 = -9 ∨ (in64 (V (25 + 15 * i) 0) ∧ in64 (V (25 + 15 * i) 1))) ∧ ∀ (L : Nat) (W : Mv) (b : Bool), bkS V W i → Ex L 20 186 [.inr (.inr 120), .inl (i : Int)] W b (fun v W' b' => v = some (.inl (V (24 + 15 * i) 0)) ∧ b' = b ∧ bkF W W' ∧ (V (24 + 15 * i) 0 = -9 ∨ (W' 120 27 = V (25 + 15 * i) 0 ∧ W' 120 28 = V (25 + 15 * i) 1))))
theorem BKn.frame {V V' : Mv} {i : Nat} (h : BKn V i) (h6 : V' (24 + 15 * i) 6 = V (24 + 15 * i) 6) (h0 : V' (24 + 15 * i) 0 = V (24 + 15 * i) 0) (g0 : V' (25 + 15 * i) 0 = V (25 + 15 * i) 0) (g1 : V' (25 + 15 * i) 1 = V (25 + 15 * i) 1) (hs : bkS V V' i) : BKn V' i := by
  unfold BKn at h ⊢
  rw [h6, h0, g0, g1]
  rcases h with h | h
  · exact Or.inl h
  · exact Or.inr ⟨h.1, h.2.1, h.2.2.1, fun L W b hw => h.2.2.2 L W b (hs.trans hw)⟩
theorem BKn.row {V V' : Mv} {i : Nat} (h : BKn V i) (h0 : V' (24 + 15 * i) = V (24 + 15 * i)) (g0 : V' (25 + 15 * i) = V (25 + 15 * i)) (hR : ∀ a, 121 ≤ a → a ≤ 127 → V' a = V a) : BKn V' i := h.frame (by rw [h0]) (by rw [h0]) (by rw [g0]) (by rw [g0]) ⟨by rw [hR 121 (by omega) (by omega)], fun k _ => by rw [hR 123 (by omega) (by omega)], fun k _ => by rw [hR 124 (by omega) (by omega)], fun k _ => ⟨by rw [hR 126 (by omega) (by omega)], by rw [hR 127 (by omega) (by omega)]⟩⟩
/-- the invariant: N calls have been -/
def Inv (N : Nat) (V : Mv) : Prop := (∀ i, i < 3 → Kd V (14 + 15 * i) i) ∧ (∀ i a : Nat, i < 3 → a < 8 → V (22 + 15 * i) a = V 130 (8 * i + a)) ∧ (∀ i : Nat, i < 3 → Wt (fun a => V 130 (8 * i + a)) (V 121 i)) ∧ (∀ r a : Nat, r < 4 → a < 8 → V (64 + r) a = V 135 (8 * r + a) ∧ 0 ≤ V 135 (8 * r + a) ∧ V 135 (8 * r + a) ≤ 4) ∧ (V 2 0 = V 120 10 ∧ 0 ≤ V 120 10 ∧ V 120 10 ≤ 64) ∧ (∀ j : Nat, j < 64 → V 3 j = V 128 j ∧ 0 ≤ V 128 j ∧ V 128 j ≤ 255) ∧ (V 69 0 = V 120 37 ∧ 0 ≤ V 120 37 ∧ V 120 37 ≤ 16) ∧ (∀ j : Nat, j < 16 → V 70 j = V 145 j ∧ 0 ≤ V 145 j ∧ V 145 j ≤ 5) ∧ (∀ i : Nat, i < 3 → V 62 i = V 129 i ∧ 0 ≤ V 129 i ∧ V 129 i ≤ (N : Int)) ∧ (∀ s : Nat, s < 2 → V (72 + 14 * s) 0 = V 146 s ∧ (V 146 s = 0 ∨ V 146 s = 1)) ∧ (∀ s : Nat, s < 2 → V 146 s = 1 → Sl V s) ∧ (∀ i : Nat, i < 3 → BKn V i)
theorem Inv.mk {N : Nat} {V : Mv} (h_kd : ∀ i, i < 3 → Kd V (14 + 15 * i) i) (h_th : ∀ i a : Nat, i < 3 → a < 8 → V (22 + 15 * i) a = V 130 (8 * i + a)) (h_tv : ∀ i : Nat, i < 3 → Wt (fun a => V 130 (8 * i + a)) (V 121 i)) (h_ru : ∀ r a : Nat, r < 4 → a < 8 → V (64 + r) a = V 135 (8 * r + a) ∧ 0 ≤ V 135 (8 * r + a) ∧ V 135 (8 * r + a) ≤ 4) (h_tl : V 2 0 = V 120 10 ∧ 0 ≤ V 120 10 ∧ V 120 10 ≤ 64) (h_tb : ∀ j : Nat, j < 64 → V 3 j = V 128 j ∧ 0 ≤ V 128 j ∧ V 128 j ≤ 255) (h_ll : V 69 0 = V 120 37 ∧ 0 ≤ V 120 37 ∧ V 120 37 ≤ 16) (h_lr : ∀ j : Nat, j < 16 → V 70 j = V 145 j ∧ 0 ≤ V 145 j ∧ V 145 j ≤ 5) (h_md : ∀ i : Nat, i < 3 → V 62 i = V 129 i ∧ 0 ≤ V 129 i ∧ V 129 i ≤ (N : Int)) (h_us : ∀ s : Nat, s < 2 → V (72 + 14 * s) 0 = V 146 s ∧ (V 146 s = 0 ∨ V 146 s = 1)) (h_sl : ∀ s : Nat, s < 2 → V 146 s = 1 → Sl V s) (h_br : ∀ i : Nat, i < 3 → BKn V i) : Inv N V := by
  unfold Inv
  exact ⟨h_kd, h_th, h_tv, h_ru, h_tl, h_tb, h_ll, h_lr, h_md, h_us, h_sl, h_br⟩
theorem Inv.kd {N : Nat} {V : Mv} (h : Inv N V) : ∀ i, i < 3 → Kd V (14 + 15 * i) i := by
  unfold Inv at h
  exact h.1
theorem Inv.th {N : Nat} {V : Mv} (h : Inv N V) : ∀ i a : Nat, i < 3 → a < 8 → V (22 + 15 * i) a = V 130 (8 * i + a) := by
  unfold Inv at h
  exact h.2.1
theorem Inv.tv {N : Nat} {V : Mv} (h : Inv N V) : ∀ i : Nat, i < 3 → Wt (fun a => V 130 (8 * i + a)) (V 121 i) := by
  unfold Inv at h
  exact h.2.2.1
theorem Inv.ru {N : Nat} {V : Mv} (h : Inv N V) : ∀ r a : Nat, r < 4 → a < 8 → V (64 + r) a = V 135 (8 * r + a) ∧ 0 ≤ V 135 (8 * r + a) ∧ V 135 (8 * r + a) ≤ 4 := by
  unfold Inv at h
  exact h.2.2.2.1
theorem Inv.tl {N : Nat} {V : Mv} (h : Inv N V) : V 2 0 = V 120 10 ∧ 0 ≤ V 120 10 ∧ V 120 10 ≤ 64 := by
  unfold Inv at h
  exact h.2.2.2.2.1
theorem Inv.tb {N : Nat} {V : Mv} (h : Inv N V) : ∀ j : Nat, j < 64 → V 3 j = V 128 j ∧ 0 ≤ V 128 j ∧ V 128 j ≤ 255 := by
  unfold Inv at h
  exact h.2.2.2.2.2.1
theorem Inv.ll {N : Nat} {V : Mv} (h : Inv N V) : V 69 0 = V 120 37 ∧ 0 ≤ V 120 37 ∧ V 120 37 ≤ 16 := by
  unfold Inv at h
  exact h.2.2.2.2.2.2.1
theorem Inv.lr {N : Nat} {V : Mv} (h : Inv N V) : ∀ j : Nat, j < 16 → V 70 j = V 145 j ∧ 0 ≤ V 145 j ∧ V 145 j ≤ 5 := by
  unfold Inv at h
  exact h.2.2.2.2.2.2.2.1
theorem Inv.md {N : Nat} {V : Mv} (h : Inv N V) : ∀ i : Nat, i < 3 → V 62 i = V 129 i ∧ 0 ≤ V 129 i ∧ V 129 i ≤ (N : Int) := by
  unfold Inv at h
  exact h.2.2.2.2.2.2.2.2.1
theorem Inv.us {N : Nat} {V : Mv} (h : Inv N V) : ∀ s : Nat, s < 2 → V (72 + 14 * s) 0 = V 146 s ∧ (V 146 s = 0 ∨ V 146 s = 1) := by
  unfold Inv at h
  exact h.2.2.2.2.2.2.2.2.2.1
theorem Inv.sl {N : Nat} {V : Mv} (h : Inv N V) : ∀ s : Nat, s < 2 → V 146 s = 1 → Sl V s := by
  unfold Inv at h
  exact h.2.2.2.2.2.2.2.2.2.2.1
theorem Inv.br {N : Nat} {V : Mv} (h : Inv N V) : ∀ i : Nat, i < 3 → BKn V i := by
  unfold Inv at h
  exact h.2.2.2.2.2.2.2.2.2.2.2
/-- addresses that the invariant speaks of (120: fields 10 and 37 alone) -/
def dI (a : Nat) : Prop := a = 2 ∨ a = 3 ∨ (14 ≤ a ∧ a ≤ 20) ∨ a = 22 ∨ a = 24 ∨ a = 25 ∨ a = 39 ∨ a = 40 ∨ a = 54 ∨ a = 55 ∨ (29 ≤ a ∧ a ≤ 35) ∨ a = 37 ∨ (44 ≤ a ∧ a ≤ 50) ∨ a = 52 ∨ a = 62 ∨ (64 ≤ a ∧ a ≤ 67) ∨ a = 69 ∨ a = 70 ∨ (72 ≤ a ∧ a ≤ 99) ∨ (121 ≤ a ∧ a ≤ 130) ∨ a = 135 ∨ (145 ≤ a ∧ a ≤ 150)
theorem Sl.frame {V V' : Mv} {s : Nat} (h : Sl V s) (hs : s < 2) (hA : ∀ a, 72 ≤ a ∧ a ≤ 99 ∨ a = 121 ∨ a = 129 ∨ 147 ≤ a ∧ a ≤ 150 → V' a = V a) : Sl V' s := by
  apply Sl.mk
  · intro i a hi ha
    rw [hA (78 + 14 * s + 3 * i) (by omega), hA 147 (by omega)]
    exact h.th i a hi ha
  · intro i hi
    rw [hA (74 + 14 * s) (by omega), hA 150 (by omega), hA 129 (by omega)]
    exact h.md i hi
  · intro i hi
    rw [hA 150 (by omega), hA 129 (by omega), hA 147 (by omega), hA 121 (by omega)]
    exact h.ok i hi
  · rw [hA (75 + 14 * s) (by omega), hA 148 (by omega)]
    exact h.ll
  · intro j hj
    rw [hA (76 + 14 * s) (by omega), hA 149 (by omega)]
    exact h.lr j hj
theorem Inv.frame {N : Nat} {V V' : Mv} (h : Inv N V) (hA : ∀ a, dI a → V' a = V a) (h1 : V' 120 10 = V 120 10) (h2 : V' 120 37 = V 120 37) : Inv N V' := by
  unfold dI at hA
  apply Inv.mk
  · intro i hi
    exact (h.kd i hi).frame (fun j hj => hA _ (by omega)) (fun a _ _ => hA a (by omega))
  · intro i a hi ha
    rw [hA (22 + 15 * i) (by omega), hA 130 (by omega)]
    exact h.th i a hi ha
  · rw [hA 130 (by omega), hA 121 (by omega)]
    exact h.tv
  · intro r a hr ha
    rw [hA (64 + r) (by omega), hA 135 (by omega)]
    exact h.ru r a hr ha
  · rw [hA 2 (by omega), h1]
    exact h.tl
  · rw [hA 3 (by omega), hA 128 (by omega)]
    exact h.tb
  · rw [hA 69 (by omega), h2]
    exact h.ll
  · rw [hA 70 (by omega), hA 145 (by omega)]
    exact h.lr
  · rw [hA 62 (by omega), hA 129 (by omega)]
    exact h.md
  · intro s hs
    rw [hA (72 + 14 * s) (by omega), hA 146 (by omega)]
    exact h.us s hs
  · intro s hs
    rw [hA 146 (by omega)]
    exact fun q => (h.sl s hs q).frame hs (fun a ha => hA a (by omega))
  · intro i hi
    exact (h.br i hi).row (hA (24 + 15 * i) (by omega)) (hA (25 + 15 * i) (by omega)) (fun a _ _ => hA a (by omega))
theorem Inv.more {N N' : Nat} {V : Mv} (h : Inv N V) (hN : N ≤ N') : Inv N' V := by
  have hm := h.md
  exact Inv.mk h.kd h.th h.tv h.ru h.tl h.tb h.ll h.lr (fun i hi => ⟨(hm i hi).1, (hm i hi).2.1, by have := (hm i hi).2.2; omega⟩) h.us h.sl h.br
