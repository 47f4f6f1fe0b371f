theorem NB.mono {M M' B B' : Int} {n : Nat → Nat} {J : J2} (h : NB M B n J) (hM : M ≤ M') (hB : B ≤ B') : NB M' B' n J := fun r hr => by
  obtain ⟨a, b, c, d⟩ := h r hr
  have : B * (J 1 r).toInt ≤ B' * (J 1 r).toInt := Int.mul_le_mul_of_nonneg_right hB a
  exact ⟨a, by omega, c, by omega⟩
theorem nL_oth {J : J2} : ∀ (k i : Nat) (I : I2) (a b : Nat), a ≠ 4 → nL J k i I a b = I a b := by
  intro k
  induction k with
  | zero => intro i I a b h; rfl
  | succ k ih =>
    intro i I a b h
    exact (ih (i + 1) (nS J i I) a b h).trans (up2_ne _ _ _ _ (by omega))
theorem nL_row {J J' : J2} (hJ : ∀ b, J' 1 b = J 1 b) : ∀ (k i : Nat) (I I' : I2), (∀ b, I' 0 b = I 0 b) → (∀ b, I' 1 b = I 1 b) → (∀ b, I' 4 b = I 4 b) → I' 99 0 = I 99 0 → ∀ b, nL J' k i I' 4 b = nL J k i I 4 b := by
  intro k
  induction k with
  | zero => intro i I I' h0 h1 h4 h9 b; exact h4 b
  | succ k ih =>
    intro i I I' h0 h1 h4 h9
    refine ih (i + 1) (nS J i I) (nS J' i I') (fun b => ?_) (fun b => ?_) (fun b => ?_) ?_
    · simp [nS, up2, h0]
    · simp [nS, up2, h1]
    · simp only [nS, up2]
      rw [h0, h1, h4, h9, hJ, h4]
    · simp [nS, up2, h9]
/-- the whole relation between class and model -/
def DI (n : Nat → Nat) (I : I2) (P : P2) (X : I2) (T : Nat) : Prop :=
  (∀ r, r < n 0 → (I 2 r = (-1) ∨ 1 ≤ (I 2 r).toInt) ∧ (I 3 r = 0 ∨ I 3 r = 1)) ∧ (∀ o, o < n 1 → ((I 15 o = (-1) ∧ I 16 o = 0) ∨ 1 ≤ (I 15 o).toInt) ∧ (I 16 o = 0 ∨ I 16 o = 1)) ∧ (∀ m, 0 ≤ (I 42 m).toInt) ∧ (∀ p, 0 ≤ (X 38 p).toInt ∧ (X 38 p).toInt ≤ T) ∧
  (∀ p, p < n 5 → PV n (I 50 p) ∧ (∀ q, q < P 6 p → PV n (I (200 + p) q)) ∧ (P 6 p = 0 → I 52 p = (-1)) ∧ (∀ k, P 6 p = k + 1 → I 52 p = I (100 + p) k))
def DF (n : Nat → Nat) (I : I2) (P : P2) : Prop :=
  (∀ r, n 0 ≤ r → I 2 r = 0 ∧ I 3 r = 0) ∧ (∀ o, n 1 ≤ o → I 15 o = 0 ∧ I 16 o = 0) ∧ (∀ m, n 4 ≤ m → I 42 m = 0) ∧ (∀ p, n 5 ≤ p → P 6 p = 0 ∧ P 7 p = 0)
def SIMt (n : Nat → Nat) (I : I2) (J : J2) (P : P2) (X : I2) (Y : J2) (T : Nat) : Prop :=
  (T ≤ 100000 ∧ I 99 0 = nI T) ∧ XR n I P X ∧ SB n I P ∧ CInv n P ∧ RJ J Y ∧ DZ n J ∧ HO n I J ∧ NB 1000000 (1000 + 24 * (T : Int)) n J ∧ (∀ r, r < n 0 → (J 1 r).toInt ≤ (J 0 r).toInt) ∧ (∀ m, Y 34 m = Int32.toInt64 (I 42 m)) ∧ (∀ p, Int32.toInt64 (X 38 p) = J 51 p) ∧ DI n I P X T ∧ DF n I P
section SEC
variable {n : Nat → Nat} {I X : I2} {P : P2} {J Y : J2} {T : Nat}
theorem SIMt.mi (h : SIMt n I J P X Y T) : MI n X := by
  obtain ⟨⟨hT, hnow⟩, hX, hS, hC, hRJ, hDZ, hHO, hNB, hle, h34, h38, hDI, hDF⟩ := h
  obtain ⟨⟨x3, x4, x7, x8, x9⟩, ⟨x11, x12, x13, x14, x15, x16, x17⟩, ⟨x22, x23, x24, x25, x26⟩, ⟨x28, x29, x30⟩, ⟨x32, x33⟩, ⟨x36, x39, x40, x41⟩, x1, x2, x10, x21, x27, x31, x35⟩ := hX
  have h10 : n 0 ≤ 10 := hC.1 0 (by decide)
  refine ⟨⟨x2, x10, x21, x27, x31, x35⟩, hC.1, fun r hr q => ?_, fun j hj => ⟨⟨P 1 j, (hC.2.1 j hj).1, x11 j⟩, ?_, fun q => ?_⟩, fun j hj => ⟨P 3 j, hC.2.2.1 j hj, x22 j⟩, fun j hj => ⟨P 4 j, hC.2.2.2.1 j hj, x28 j⟩, fun j hj => ⟨⟨P 5 j, hC.2.2.2.2.1 j hj, x32 j⟩, fun q => ?_⟩, fun j hj => ⟨?_, P 6 j, P 7 j, (hC.2.2.2.2.2 j hj).1, (hC.2.2.2.2.2 j hj).2, x39 j, x40 j, fun q hq => ?_⟩⟩
  · have := congrArg Int64.toInt q
    rw [W_l, l0, x3] at this
    have := (hS.1 r hr).1
    omega
  · rw [x12 j hj]
    obtain ⟨p1, p2, p3⟩ := hC.2.1 j hj
    cases hg : P 2 j with
    | zero => exact Or.inl rfl
    | succ g => exact Or.inr ⟨g, by omega, rfl⟩
  · rw [x12 j hj, x11 j] at q
    obtain ⟨p1, p2, p3⟩ := hC.2.1 j hj
    cases hg : P 2 j with
    | zero =>
      rw [hg] at q
      exact nI_m1 (by omega) q
    | succ g =>
      rw [hg] at q
      have q : nI (P 1 j) = nI g := q
      have := (nI_eq (by omega) (by omega)).mp q
      omega
  · have := congrArg Int64.toInt q
    rw [W_l, l0, x33] at this
    have := (hS.2.2.2.2 j hj).1
    omega
  · rw [x36 j]
    exact (hDI.2.2.2.2 j hj).1
  · rw [(x41 j q hj hq).2]
    exact (hDI.2.2.2.2 j hj).2.1 q hq
theorem MI.fr {X' : I2} (h : MI n X) (e : ∀ a b, a ≠ 8 → a ≠ 9 → a ≠ 17 → X' a b = X a b) : MI n X' := by
  have k : ∀ a, a ≠ 8 → a ≠ 9 → a ≠ 17 → X' a = X a := fun a h1 h2 h3 => funext fun b => e a b h1 h2 h3
  unfold MI at h ⊢
  rw [k 2 (by decide) (by decide) (by decide), k 10 (by decide) (by decide) (by decide), k 21 (by decide) (by decide) (by decide), k 27 (by decide) (by decide) (by decide), k 31 (by decide) (by decide) (by decide), k 35 (by decide) (by decide) (by decide), k 3 (by decide) (by decide) (by decide), k 11 (by decide) (by decide) (by decide), k 12 (by decide) (by decide) (by decide), k 22 (by decide) (by decide) (by decide), k 28 (by decide) (by decide) (by decide), k 32 (by decide) (by decide) (by decide), k 33 (by decide) (by decide) (by decide), k 36 (by decide) (by decide) (by decide), k 39 (by decide) (by decide) (by decide), k 40 (by decide) (by decide) (by decide), k 42 (by decide) (by decide) (by decide)]
  exact h
/-- the first four steps of a second -/
theorem sec_a (h : SIMt n I J P X Y T) (hT9 : T < 100000) : (mq1 n (X, Y)).1 = X ∧ FQ n (mq1 n (X, Y)) ∧ (mq2 n (X, Y)).1 = X ∧ (mq3 n (X, Y)).1 = X ∧ (mq4 n (X, Y)).1 = X ∧ RD n J Y (sJ4 n (I, J, P)) (mq4 n (X, Y)).2 ∧ NB 1000000 (1000 + 24 * ((T + 1 : Nat) : Int)) n (sJ4 n (I, J, P)) ∧ (∀ r, r < n 0 → (sJ4 n (I, J, P) 1 r).toInt ≤ (J 0 r).toInt) := by
  obtain ⟨⟨hT, hnow⟩, hX, hS, hC, hRJ, hDZ, hHO, hNB, hle, h34, h38, hDI, hDF⟩ := h
  have h10 : n 0 ≤ 10 := hC.1 0 (by decide)
  have h9 : n 3 ≤ 9 := hC.1 3 (by decide)
  have hR0 : RD n J Y J Y := ⟨hRJ, hDZ, fun _ _ _ _ _ _ _ _ => rfl, fun _ => rfl⟩
  obtain ⟨r1, e1, n1⟩ := burn_sim (J0 := J) (Y0 := Y) (B := 1000 + 24 * (T : Int)) hX hS hC hnow hT (by omega) (n 2) 0 J Y (by omega) hR0 (hNB.mono (by omega) (by omega))
  have e1' : mq1 n (X, Y) = (X, (lBurn (n 2) 0 (X, Y)).2) := Prod.ext e1 rfl
  generalize hY1 : (lBurn (n 2) 0 (X, Y)).2 = Y1 at *
  generalize hJ1 : bL I P (n 2) 0 J = J1 at *
  obtain ⟨r2, e2, m2, k2⟩ := meas_sim (J0 := J) (Y0 := Y) (B := 1000 + 24 * (T : Int)) (s0 := fun r => (J1 1 r).toInt) (h0 := fun r => (J1 2 r).toInt) hX hS hC (by omega) (n 1) 0 J1 Y1 (by omega) r1 n1 (fun r => ⟨rfl, rfl⟩) (fun o ho => absurd ho (by omega))
  have e2' : lFlow1 (n 1) 0 (X, Y1) = (X, (lFlow1 (n 1) 0 (X, Y1)).2) := Prod.ext e2 rfl
  have hFQ : FQ n (mq1 n (X, Y)) := by
    rw [e1']
    have cv : ∀ o, o < n 1 → ∀ r, r < n 0 → mo_cv X Y1 o r = cvR I J1 o r ∧ 0 ≤ (cvR I J1 o r).toInt ∧ (cvR I J1 o r).toInt ≤ 100 ∧ ((I 14 o).toInt ≤ (I 1 r).toInt → 1 ≤ (cvR I J1 o r).toInt → 1 ≤ (J1 1 r).toInt) := fun o ho r hr => cov_eq hX hS hC ho hr (r1.1.1 r) (n1 r hr).1 (by have := (n1 r hr).2.1; omega)
    have x11 : ∀ o, o < n 1 → (X 11 o).toNatClampNeg = P 1 o := fun o ho => by
      rw [hX.2.1.1 o]
      have := (hC.2.1 o ho).1
      exact nI_clamp (by omega)
    have far : ∀ o, o < n 1 → ¬ X 12 o = (-1) → ∃ g, P 2 o = g + 1 ∧ g < n 0 ∧ (X 12 o).toNatClampNeg = g := fun o ho hne => by
      obtain ⟨p1, p2, p3⟩ := hC.2.1 o ho
      have x12 := hX.2.1.2.1 o ho
      cases hg : P 2 o with
      | zero => rw [hg] at x12; exact absurd x12 hne
      | succ g =>
        rw [hg] at x12
        have x12 : X 12 o = nI g := x12
        exact ⟨g, rfl, by omega, by rw [x12]; exact nI_clamp (by omega)⟩
    refine ⟨fun o ho _ hgt hz => ?_, fun o ho hne hgt hz => ?_, fun o ho hne hle' hnz hz => ?_, fun o ho _ hle' => ?_, fun o ho hm1 => ?_⟩
    · simp only [] at hgt hz
      rw [x11 o ho] at hgt hz
      obtain ⟨c1, c2, c3, c4⟩ := cv o ho (P 1 o) (hC.2.1 o ho).1
      rw [Int64.sub_zero, c1, L_le, l0] at hgt
      have := c4 (hS.2.1 o ho).2.2.2.2.1 (by omega)
      rw [r1.1.1] at hz
      rw [hz, l0] at this
      omega
    · simp only [] at hgt hz hne
      obtain ⟨g, hg, g10, hcg⟩ := far o ho hne
      rw [x11 o ho, hcg] at hgt
      rw [x11 o ho] at hz
      obtain ⟨c1, c2, c3, c4⟩ := cv o ho (P 1 o) (hC.2.1 o ho).1
      obtain ⟨d1, d2, d3, d4⟩ := cv o ho g g10
      rw [c1, d1, L_le, L_sub (by omega) (by omega), l0] at hgt
      have := c4 (hS.2.1 o ho).2.2.2.2.1 (by omega)
      rw [r1.1.1] at hz
      rw [hz, l0] at this
      omega
    · simp only [] at hle' hz hne hnz
      obtain ⟨g, hg, g10, hcg⟩ := far o ho hne
      rw [x11 o ho, hcg] at hle' hnz
      rw [hcg] at hz
      obtain ⟨c1, c2, c3, c4⟩ := cv o ho (P 1 o) (hC.2.1 o ho).1
      obtain ⟨d1, d2, d3, d4⟩ := cv o ho g g10
      have es : (cvR I J1 o (P 1 o) - cvR I J1 o g).toInt = (cvR I J1 o (P 1 o)).toInt - (cvR I J1 o g).toInt := L_sub (by omega) (by omega)
      rw [c1, d1, L_le, es, l0] at hle'
      rw [c1, d1] at hnz
      have hnz' : (cvR I J1 o (P 1 o)).toInt - (cvR I J1 o g).toInt ≠ 0 := fun q => hnz (L_ext (by rw [es, l0]; exact q))
      have := d4 ((hS.2.1 o ho).2.2.2.2.2 g hg) (by omega)
      rw [r1.1.1] at hz
      rw [hz, l0] at this
      omega
    · simp only [] at hle' ⊢
      rw [x11 o ho] at hle' ⊢
      obtain ⟨c1, c2, c3, c4⟩ := cv o ho (P 1 o) (hC.2.1 o ho).1
      rw [Int64.sub_zero, c1] at hle' ⊢
      rw [L_le, l0] at hle'
      exact L_ext (by rw [l0]; omega)
    · simp only [] at hm1
      have hp2 : P 2 o = 0 := by
        obtain ⟨p1, p2, p3⟩ := hC.2.1 o ho
        have x12 := hX.2.1.2.1 o ho
        cases hg : P 2 o with
        | zero => rfl
        | succ g =>
          rw [hg, hm1] at x12
          have x12 : (-1 : Int32) = nI g := x12
          exact absurd x12.symm (nI_m1 (by omega))
      rw [L_le, l0, r2.1.2.2.1]
      rcases m2 o ho with ⟨q1, _⟩ | ⟨src, v, _, _, q3, _, _, _, ⟨_, q⟩ | ⟨q, _⟩⟩
      · rw [q1, l0]; omega
      · omega
      · omega
  obtain ⟨r3, e3, n3⟩ := move_sim (J0 := J) (Y0 := Y) (B := 1000 + 24 * (T : Int)) (s0 := fun r => (J1 1 r).toInt) (h0 := fun r => (J1 2 r).toInt) hX hC (by omega) (fun r hr => n1 r hr) (n 1) 0 (mL I P (n 1) 0 J1) (lFlow1 (n 1) 0 (X, Y1)).2 (by omega) r2 m2 (fun r hr => FI.start (by omega) (by rw [(k2 r).1]) (by rw [(k2 r).2]) (n1 r hr).1 (n1 r hr).2.2.1 (n1 r hr).2.2.2)
  have e3' : mq2 n (X, Y) = (X, (mq2 n (X, Y)).2) := by
    refine Prod.ext ?_ rfl
    unfold mq2
    rw [e1', e2']
    exact e3
  have y3 : (mq2 n (X, Y)).2 = (lFlow2 (n 1) 0 (X, (lFlow1 (n 1) 0 (X, Y1)).2)).2 := by
    unfold mq2
    rw [e1', e2']
  obtain ⟨r4, e4, n4⟩ := blow_sim (J0 := J) (Y0 := Y) hX hS hC (n 3) 0 (1000 + 24 * (T : Int) + 15) (vL P (n 1) 0 (mL I P (n 1) 0 J1)) (mq2 n (X, Y)).2 (by omega) (by omega) (by rw [y3]; exact r3) n3
  have e4' : mq3 n (X, Y) = (X, (mq3 n (X, Y)).2) := by
    refine Prod.ext ?_ rfl
    unfold mq3
    rw [e3']
    exact e4
  have y4 : (mq3 n (X, Y)).2 = (lBlow (n 3) 0 (X, (mq2 n (X, Y)).2)).2 := by
    unfold mq3
    exact congrArg (fun q => (lBlow (n 3) 0 q).2) e3'
  have hsJ3 : sJ3 n (I, J, P) = fL I P (n 3) 0 (vL P (n 1) 0 (mL I P (n 1) 0 J1)) := by
    show fL I P (n 3) 0 (vL P (n 1) 0 (mL I P (n 1) 0 (bL I P (n 2) 0 J))) = _
    rw [hJ1]
  rw [← hsJ3, ← y4] at r4
  rw [← hsJ3] at n4
  have hHO3 : HO n I (sJ3 n (I, J, P)) := fun r hr => by rw [r4.2.2.1 0 r (by decide) (by decide) (by decide) (by decide) (by decide) (by decide)]; exact hHO r hr
  obtain ⟨r5, e5, n5, l5'⟩ := press_sim (J0 := J) (Y0 := Y) (B := 1000 + 24 * ((T + 1 : Nat) : Int)) hX hS (by omega) (n 0) 0 (sJ3 n (I, J, P)) (mq3 n (X, Y)).2 (by omega) r4 (n4.mono (by omega) (by omega)) hHO3 (fun r hr => absurd hr (by omega))
  have e5' : (mq4 n (X, Y)).1 = X := by
    unfold mq4
    rw [e4']
    exact e5
  have y5 : (mq4 n (X, Y)).2 = (lPress (n 0) 0 (X, (mq3 n (X, Y)).2)).2 := by
    unfold mq4
    exact congrArg (fun q => (lPress (n 0) 0 q).2) e4'
  have hJ0 : ∀ r, sJ4 n (I, J, P) 0 r = J 0 r := fun r => r5.2.2.1 0 r (by decide) (by decide) (by decide) (by decide) (by decide) (by decide)
  have hl : ∀ r, r < n 0 → (sJ4 n (I, J, P) 1 r).toInt ≤ (J 0 r).toInt := fun r hr => by
    rw [← hJ0 r]
    exact l5' r hr
  refine ⟨by rw [e1'], hFQ, by rw [e3'], by rw [e4'], e5', by rw [y5]; exact r5, fun r hr => ?_, hl⟩
  have hb := hHO.bd hS hr
  have hl' := hl r hr
  obtain ⟨a, b, c, d⟩ := n5 r hr
  exact ⟨a, by omega, c, d⟩
end SEC
