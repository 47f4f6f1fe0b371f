/-! whole numbers of 64 and 32 bits -/
theorem L_add {x y : Int64} (h1 : -9223372036854775808 ≤ x.toInt + y.toInt) (h2 : x.toInt + y.toInt < 9223372036854775808) : (x + y).toInt = x.toInt + y.toInt := by
  rw [Int64.toInt_add]
  exact Int.bmod_eq_of_le (by omega) (by omega)
theorem L_sub {x y : Int64} (h1 : -9223372036854775808 ≤ x.toInt - y.toInt) (h2 : x.toInt - y.toInt < 9223372036854775808) : (x - y).toInt = x.toInt - y.toInt := by
  rw [Int64.toInt_sub]
  exact Int.bmod_eq_of_le (by omega) (by omega)
theorem L_mul {x y : Int64} (h1 : -9223372036854775808 ≤ x.toInt * y.toInt) (h2 : x.toInt * y.toInt < 9223372036854775808) : (x * y).toInt = x.toInt * y.toInt := by
  rw [Int64.toInt_mul]
  exact Int.bmod_eq_of_le (by omega) (by omega)
theorem L_neg {x : Int64} (h1 : -9223372036854775808 < x.toInt) : (-x).toInt = -x.toInt := by
  have := x.toInt_lt
  rw [Int64.toInt_neg]
  exact Int.bmod_eq_of_le (by omega) (by omega)
theorem L_div {x y : Int64} (hx : 0 ≤ x.toInt) (hy : 0 < y.toInt) : (x / y).toInt = x.toInt / y.toInt := by
  have h1 := Int.ediv_nonneg hx (Int.le_of_lt hy)
  have h2 := Int.ediv_le_self y.toInt hx
  have h3 := x.toInt_lt
  rw [Int64.toInt_div, Int.tdiv_eq_ediv_of_nonneg hx]
  exact Int.bmod_eq_of_le (by omega) (by omega)
theorem I_add {x y : Int32} (h1 : -2147483648 ≤ x.toInt + y.toInt) (h2 : x.toInt + y.toInt < 2147483648) : (x + y).toInt = x.toInt + y.toInt := by
  rw [Int32.toInt_add]
  exact Int.bmod_eq_of_le (by omega) (by omega)
theorem I_sub {x y : Int32} (h1 : -2147483648 ≤ x.toInt - y.toInt) (h2 : x.toInt - y.toInt < 2147483648) : (x - y).toInt = x.toInt - y.toInt := by
  rw [Int32.toInt_sub]
  exact Int.bmod_eq_of_le (by omega) (by omega)
theorem I_mul {x y : Int32} (h1 : -2147483648 ≤ x.toInt * y.toInt) (h2 : x.toInt * y.toInt < 2147483648) : (x * y).toInt = x.toInt * y.toInt := by
  rw [Int32.toInt_mul]
  exact Int.bmod_eq_of_le (by omega) (by omega)
theorem L_ext {x y : Int64} (h : x.toInt = y.toInt) : x = y := Int64.toInt_inj.mp h
theorem I_ext {x y : Int32} (h : x.toInt = y.toInt) : x = y := Int32.toInt_inj.mp h
theorem L_le {x y : Int64} : x ≤ y ↔ x.toInt ≤ y.toInt := Int64.le_iff_toInt_le
theorem L_lt {x y : Int64} : x < y ↔ x.toInt < y.toInt := Int64.lt_iff_toInt_lt
theorem I_le {x y : Int32} : x ≤ y ↔ x.toInt ≤ y.toInt := Int32.le_iff_toInt_le
theorem I_lt {x y : Int32} : x < y ↔ x.toInt < y.toInt := Int32.lt_iff_toInt_lt
theorem W_l (x : Int32) : (Int32.toInt64 x).toInt = x.toInt := Int32.toInt_toInt64 x
theorem l0 : (0 : Int64).toInt = 0 := by decide
theorem l1 : (1 : Int64).toInt = 1 := by decide
theorem l2 : (2 : Int64).toInt = 2 := by decide
theorem l5 : (5 : Int64).toInt = 5 := by decide
theorem l16 : (16 : Int64).toInt = 16 := by decide
theorem l18 : (18 : Int64).toInt = 18 := by decide
theorem i0 : (0 : Int32).toInt = 0 := by decide
theorem i1 : (1 : Int32).toInt = 1 := by decide
theorem i5 : (5 : Int32).toInt = 5 := by decide
theorem im1 : (-1 : Int32).toInt = -1 := by decide
theorem mul_bd {a b A B : Int} (ha : 0 ≤ a) (hb : 0 ≤ b) (hA : a ≤ A) (hB : b ≤ B) : 0 ≤ a * b ∧ a * b ≤ A * B :=
  ⟨Int.mul_nonneg ha hb, Int.mul_le_mul hA hB hb (Int.le_trans ha hA)⟩
/-! what class and model have in common -/
def RJ (J Y : J2) : Prop := (∀ i, Y 5 i = J 1 i) ∧ (∀ i, Y 6 i = J 2 i) ∧ (∀ i, Y 18 i = J 10 i) ∧ (∀ i, Y 19 i = J 11 i) ∧ (∀ i, Y 20 i = J 12 i) ∧ (∀ i, Y 37 i = J 50 i) ∧ Y 43 0 = J 99 0 ∧ Y 44 0 = J 99 1 ∧ Y 45 0 = J 99 2 ∧ Y 46 0 = J 99 3
def DZ (n : Nat → Nat) (J : J2) : Prop := (∀ r, n 0 ≤ r → J 1 r = 0 ∧ J 2 r = 0) ∧ (∀ o, n 1 ≤ o → J 10 o = 0 ∧ J 11 o = 0 ∧ J 12 o = 0) ∧ (∀ p, n 5 ≤ p → J 50 p = 0 ∧ J 51 p = 0)
def RD (n : Nat → Nat) (J0 Y0 J Y : J2) : Prop := RJ J Y ∧ DZ n J ∧ (∀ a i, a ≠ 1 → a ≠ 2 → a ≠ 10 → a ≠ 11 → a ≠ 12 → a ≠ 99 → J a i = J0 a i) ∧ (∀ i, Y 34 i = Y0 34 i)
section RDS
variable {n : Nat → Nat} {J0 Y0 J Y : J2}
theorem RD.room (h : RD n J0 Y0 J Y) {r : Nat} (hr : r < n 0) (s t : Int64) : RD n J0 Y0 (sRo J r s t) (up2 (up2 Y 5 r s) 6 r t) := by
  obtain ⟨⟨h1, h2, h3, h4, h5, h6, h7, h8, h9, h10⟩, ⟨d1, d2, d3⟩, hf, hy⟩ := h
  refine ⟨⟨fun i => ?_, fun i => ?_, fun i => ?_, fun i => ?_, fun i => ?_, fun i => ?_, ?_, ?_, ?_, ?_⟩, ⟨fun q hq => ?_, fun q hq => ?_, fun q hq => ?_⟩, fun a i e1 e2 e3 e4 e5 e6 => ?_, fun i => ?_⟩
  · simp [sRo, up2, h1]
  · simp [sRo, up2, h2]
  · simp [sRo, up2, h3]
  · simp [sRo, up2, h4]
  · simp [sRo, up2, h5]
  · simp [sRo, up2, h6]
  · simp [sRo, up2, h7]
  · simp [sRo, up2, h8]
  · simp [sRo, up2, h9]
  · simp [sRo, up2, h10]
  · have hne : ¬ q = r := (by omega); simp [sRo, up2, hne, d1 q hq]
  · simp [sRo, up2, d2 q hq]
  · simp [sRo, up2, d3 q hq]
  · simp [sRo, up2, e1, e2, e3, e4, e5, e6, hf a i e1 e2 e3 e4 e5 e6]
  · simp [sRo, up2, hy]
theorem RD.acc (h : RD n J0 Y0 J Y) {k : Nat} (hk : k < 4) (v : Int64) : RD n J0 Y0 (up2 J 99 k v) (up2 Y (43 + k) 0 v) := by
  obtain ⟨⟨h1, h2, h3, h4, h5, h6, h7, h8, h9, h10⟩, ⟨d1, d2, d3⟩, hf, hy⟩ := h
  have hk4 : k = 0 ∨ k = 1 ∨ k = 2 ∨ k = 3 := by omega
  rcases hk4 with rfl | rfl | rfl | rfl
  · refine ⟨⟨fun i => ?_, fun i => ?_, fun i => ?_, fun i => ?_, fun i => ?_, fun i => ?_, ?_, ?_, ?_, ?_⟩, ⟨fun q hq => ?_, fun q hq => ?_, fun q hq => ?_⟩, fun a i e1 e2 e3 e4 e5 e6 => ?_, fun i => ?_⟩
    · simp [sRo, up2, h1]
    · simp [sRo, up2, h2]
    · simp [sRo, up2, h3]
    · simp [sRo, up2, h4]
    · simp [sRo, up2, h5]
    · simp [sRo, up2, h6]
    · simp [sRo, up2, h7]
    · simp [sRo, up2, h8]
    · simp [sRo, up2, h9]
    · simp [sRo, up2, h10]
    · simp [sRo, up2, d1 q hq]
    · simp [sRo, up2, d2 q hq]
    · simp [sRo, up2, d3 q hq]
    · simp [sRo, up2, e1, e2, e3, e4, e5, e6, hf a i e1 e2 e3 e4 e5 e6]
    · simp [sRo, up2, hy]
  · refine ⟨⟨fun i => ?_, fun i => ?_, fun i => ?_, fun i => ?_, fun i => ?_, fun i => ?_, ?_, ?_, ?_, ?_⟩, ⟨fun q hq => ?_, fun q hq => ?_, fun q hq => ?_⟩, fun a i e1 e2 e3 e4 e5 e6 => ?_, fun i => ?_⟩
    · simp [sRo, up2, h1]
    · simp [sRo, up2, h2]
    · simp [sRo, up2, h3]
    · simp [sRo, up2, h4]
    · simp [sRo, up2, h5]
    · simp [sRo, up2, h6]
    · simp [sRo, up2, h7]
    · simp [sRo, up2, h8]
    · simp [sRo, up2, h9]
    · simp [sRo, up2, h10]
    · simp [sRo, up2, d1 q hq]
    · simp [sRo, up2, d2 q hq]
    · simp [sRo, up2, d3 q hq]
    · simp [sRo, up2, e1, e2, e3, e4, e5, e6, hf a i e1 e2 e3 e4 e5 e6]
    · simp [sRo, up2, hy]
  · refine ⟨⟨fun i => ?_, fun i => ?_, fun i => ?_, fun i => ?_, fun i => ?_, fun i => ?_, ?_, ?_, ?_, ?_⟩, ⟨fun q hq => ?_, fun q hq => ?_, fun q hq => ?_⟩, fun a i e1 e2 e3 e4 e5 e6 => ?_, fun i => ?_⟩
    · simp [sRo, up2, h1]
    · simp [sRo, up2, h2]
    · simp [sRo, up2, h3]
    · simp [sRo, up2, h4]
    · simp [sRo, up2, h5]
    · simp [sRo, up2, h6]
    · simp [sRo, up2, h7]
    · simp [sRo, up2, h8]
    · simp [sRo, up2, h9]
    · simp [sRo, up2, h10]
    · simp [sRo, up2, d1 q hq]
    · simp [sRo, up2, d2 q hq]
    · simp [sRo, up2, d3 q hq]
    · simp [sRo, up2, e1, e2, e3, e4, e5, e6, hf a i e1 e2 e3 e4 e5 e6]
    · simp [sRo, up2, hy]
  · refine ⟨⟨fun i => ?_, fun i => ?_, fun i => ?_, fun i => ?_, fun i => ?_, fun i => ?_, ?_, ?_, ?_, ?_⟩, ⟨fun q hq => ?_, fun q hq => ?_, fun q hq => ?_⟩, fun a i e1 e2 e3 e4 e5 e6 => ?_, fun i => ?_⟩
    · simp [sRo, up2, h1]
    · simp [sRo, up2, h2]
    · simp [sRo, up2, h3]
    · simp [sRo, up2, h4]
    · simp [sRo, up2, h5]
    · simp [sRo, up2, h6]
    · simp [sRo, up2, h7]
    · simp [sRo, up2, h8]
    · simp [sRo, up2, h9]
    · simp [sRo, up2, h10]
    · simp [sRo, up2, d1 q hq]
    · simp [sRo, up2, d2 q hq]
    · simp [sRo, up2, d3 q hq]
    · simp [sRo, up2, e1, e2, e3, e4, e5, e6, hf a i e1 e2 e3 e4 e5 e6]
    · simp [sRo, up2, hy]
theorem RD.flow (h : RD n J0 Y0 J Y) {o : Nat} (ho : o < n 1) (s t : Int64) : RD n J0 Y0 (up2 (up2 J 10 o s) 11 o t) (up2 (up2 Y 18 o s) 19 o t) := by
  obtain ⟨⟨h1, h2, h3, h4, h5, h6, h7, h8, h9, h10⟩, ⟨d1, d2, d3⟩, hf, hy⟩ := h
  refine ⟨⟨fun i => ?_, fun i => ?_, fun i => ?_, fun i => ?_, fun i => ?_, fun i => ?_, ?_, ?_, ?_, ?_⟩, ⟨fun q hq => ?_, fun q hq => ?_, fun q hq => ?_⟩, fun a i e1 e2 e3 e4 e5 e6 => ?_, fun i => ?_⟩
  · simp [sRo, up2, h1]
  · simp [sRo, up2, h2]
  · simp [sRo, up2, h3]
  · simp [sRo, up2, h4]
  · simp [sRo, up2, h5]
  · simp [sRo, up2, h6]
  · simp [sRo, up2, h7]
  · simp [sRo, up2, h8]
  · simp [sRo, up2, h9]
  · simp [sRo, up2, h10]
  · simp [sRo, up2, d1 q hq]
  · have hne : ¬ q = o := (by omega); simp [sRo, up2, hne, d2 q hq]
  · simp [sRo, up2, d3 q hq]
  · simp [sRo, up2, e1, e2, e3, e4, e5, e6, hf a i e1 e2 e3 e4 e5 e6]
  · simp [sRo, up2, hy]
theorem RD.sum (h : RD n J0 Y0 J Y) {o : Nat} (ho : o < n 1) (s : Int64) : RD n J0 Y0 (up2 J 12 o s) (up2 Y 20 o s) := by
  obtain ⟨⟨h1, h2, h3, h4, h5, h6, h7, h8, h9, h10⟩, ⟨d1, d2, d3⟩, hf, hy⟩ := h
  refine ⟨⟨fun i => ?_, fun i => ?_, fun i => ?_, fun i => ?_, fun i => ?_, fun i => ?_, ?_, ?_, ?_, ?_⟩, ⟨fun q hq => ?_, fun q hq => ?_, fun q hq => ?_⟩, fun a i e1 e2 e3 e4 e5 e6 => ?_, fun i => ?_⟩
  · simp [sRo, up2, h1]
  · simp [sRo, up2, h2]
  · simp [sRo, up2, h3]
  · simp [sRo, up2, h4]
  · simp [sRo, up2, h5]
  · simp [sRo, up2, h6]
  · simp [sRo, up2, h7]
  · simp [sRo, up2, h8]
  · simp [sRo, up2, h9]
  · simp [sRo, up2, h10]
  · simp [sRo, up2, d1 q hq]
  · have hne : ¬ q = o := (by omega); simp [sRo, up2, hne, d2 q hq]
  · simp [sRo, up2, d3 q hq]
  · simp [sRo, up2, e1, e2, e3, e4, e5, e6, hf a i e1 e2 e3 e4 e5 e6]
  · simp [sRo, up2, hy]
end RDS
/-- the smoke and the heat of the rooms keep within bounds -/
def NB (M B : Int) (n : Nat → Nat) (J : J2) : Prop := ∀ r, r < n 0 → 0 ≤ (J 1 r).toInt ∧ (J 1 r).toInt ≤ M ∧ 0 ≤ (J 2 r).toInt ∧ (J 2 r).toInt ≤ B * (J 1 r).toInt
theorem NB.room {M M' B : Int} {n : Nat → Nat} {J : J2} (h : NB M B n J) (hM : M ≤ M') {r : Nat} {s t : Int64} (hr : 0 ≤ s.toInt ∧ s.toInt ≤ M' ∧ 0 ≤ t.toInt ∧ t.toInt ≤ B * s.toInt) : NB M' B n (sRo J r s t) := by
  intro q hq
  obtain ⟨a, b, c, d⟩ := h q hq
  by_cases e : q = r
  · subst e
    simp only [sRo, up2]
    simpa using hr
  · simp only [sRo, up2]
    simp [e]
    exact ⟨a, by omega, c, d⟩
theorem NB.acc {M B : Int} {n : Nat → Nat} {J : J2} (h : NB M B n J) {k i : Nat} {v : Int64} (h1 : k ≠ 1) (h2 : k ≠ 2) : NB M B n (up2 J k i v) := by
  intro q hq
  have := h q hq
  simp only [up2]
  simpa [h1.symm, h2.symm] using this
def farN (k : Nat) : Int32 := match k with
  | 0 => -1
  | g + 1 => nI g
def gl0 (v : Int32) : Int32 := if v = (-1) then 0 else v
/-- what is set once -/
def SB (n : Nat → Nat) (I : I2) (P : P2) : Prop :=
  (∀ r, r < n 0 → 1 ≤ (I 0 r).toInt ∧ (I 0 r).toInt ≤ 10000 ∧ 1 ≤ (I 1 r).toInt ∧ (I 1 r).toInt ≤ 100) ∧
  (∀ o, o < n 1 → 1 ≤ (I 12 o).toInt ∧ (I 12 o).toInt ≤ 50 ∧ 0 ≤ (I 13 o).toInt ∧ (I 13 o).toInt < (I 14 o).toInt ∧ (I 14 o).toInt ≤ (I 1 (P 1 o)).toInt ∧ ∀ g, P 2 o = g + 1 → (I 14 o).toInt ≤ (I 1 g).toInt) ∧
  (∀ f, f < n 2 → 0 ≤ (I 21 f).toInt ∧ (I 21 f).toInt ≤ 100000 ∧ 1 ≤ (I 22 f).toInt ∧ (I 22 f).toInt ≤ 1000 ∧ 1 ≤ (I 23 f).toInt ∧ (I 23 f).toInt ≤ 100000 ∧ 0 ≤ (I 24 f).toInt ∧ (I 24 f).toInt ≤ 1000) ∧
  (∀ f, f < n 3 → 1 ≤ (I 32 f).toInt ∧ (I 32 f).toInt ≤ 100000) ∧ (∀ m, m < n 4 → 1 ≤ (I 41 m).toInt ∧ (I 41 m).toInt ≤ 1000)
def XR (n : Nat → Nat) (I : I2) (P : P2) (X : I2) : Prop :=
  ((∀ i, X 3 i = I 0 i) ∧ (∀ i, X 4 i = I 1 i) ∧ (∀ i, X 7 i = gl0 (I 2 i)) ∧ (∀ i, X 8 i = I 3 i) ∧ (∀ i, X 9 i = I 4 i)) ∧
  ((∀ i, X 11 i = nI (P 1 i)) ∧ (∀ i, i < n 1 → X 12 i = farN (P 2 i)) ∧ (∀ i, X 13 i = I 12 i) ∧ (∀ i, X 14 i = I 13 i) ∧ (∀ i, X 15 i = I 14 i) ∧ (∀ i, X 16 i = gl0 (I 15 i)) ∧ (∀ i, X 17 i = m_open (I 15 i) (I 16 i))) ∧
  ((∀ i, X 22 i = nI (P 3 i)) ∧ (∀ i, X 23 i = I 21 i) ∧ (∀ i, X 24 i = I 22 i) ∧ (∀ i, X 25 i = I 23 i) ∧ (∀ i, X 26 i = I 24 i)) ∧
  ((∀ i, X 28 i = nI (P 4 i)) ∧ (∀ i, X 29 i = I 31 i) ∧ (∀ i, X 30 i = I 32 i)) ∧
  ((∀ i, X 32 i = nI (P 5 i)) ∧ (∀ i, X 33 i = I 41 i)) ∧
  ((∀ i, X 36 i = I 50 i) ∧ (∀ i, X 39 i = nI (P 6 i)) ∧ (∀ i, X 40 i = nI (P 7 i)) ∧ (∀ p q, p < n 5 → q < P 6 p → X 41 (20 * p + q) = I (100 + p) q ∧ X 42 (20 * p + q) = I (200 + p) q)) ∧
  (X 1 0 = I 99 0 ∧ X 2 0 = nI (n 0) ∧ X 10 0 = nI (n 1) ∧ X 21 0 = nI (n 2) ∧ X 27 0 = nI (n 3) ∧ X 31 0 = nI (n 4) ∧ X 35 0 = nI (n 5))
