section FLW
variable {n : Nat → Nat} {I X : I2} {P : P2} {J0 Y0 : J2} {B : Int} {T : Nat}
theorem cl_eq {r : Nat} {J Y : J2} (hX : XR n I P X) (hS : SB n I P) (hr : r < n 0) (y5 : Y 5 r = J 1 r) (h0 : 0 ≤ (J 1 r).toInt) (h1 : (J 1 r).toInt ≤ 2000000) : mo_cl X Y r = m_clear (I 0 r) (I 1 r) (J 1 r) ∧ (m_clear (I 0 r) (I 1 r) (J 1 r)).toInt = (I 1 r).toInt - (J 1 r).toInt / (I 0 r).toInt ∧ 0 ≤ (J 1 r).toInt / (I 0 r).toInt ∧ (J 1 r).toInt / (I 0 r).toInt ≤ (J 1 r).toInt := by
  obtain ⟨a1, a2, a3, a4⟩ := hS.1 r hr
  obtain ⟨⟨x3, x4, _⟩, _⟩ := hX
  have d0 := Int.ediv_nonneg h0 (show 0 ≤ (I 0 r).toInt by omega)
  have d1 := Int.ediv_le_self (I 0 r).toInt h0
  have ed : m_depth (I 0 r) (J 1 r) = J 1 r / Int32.toInt64 (I 0 r) := by
    unfold m_depth
    rw [if_pos (I_le.mpr (by rw [i1]; exact a1))]
  have e : (J 1 r / Int32.toInt64 (I 0 r)).toInt = (J 1 r).toInt / (I 0 r).toInt := by
    rw [L_div h0 (by rw [W_l]; omega), W_l]
  refine ⟨?_, ?_, d0, d1⟩
  · unfold mo_cl m_clear
    rw [x3, x4, y5, ed]
  · unfold m_clear
    rw [ed, L_sub (by rw [W_l, e]; omega) (by rw [W_l, e]; omega), W_l, e]
theorem cov_eq {o r : Nat} {J Y : J2} (hX : XR n I P X) (hS : SB n I P) (hC : CInv n P) (ho : o < n 1) (hr : r < n 0) (y5 : Y 5 r = J 1 r) (h0 : 0 ≤ (J 1 r).toInt) (h1 : (J 1 r).toInt ≤ 2000000) : mo_cv X Y o r = cvR I J o r ∧ 0 ≤ (cvR I J o r).toInt ∧ (cvR I J o r).toInt ≤ 100 ∧ ((I 14 o).toInt ≤ (I 1 r).toInt → 1 ≤ (cvR I J o r).toInt → 1 ≤ (J 1 r).toInt) := by
  obtain ⟨a1, a2, a3, a4⟩ := hS.1 r hr
  obtain ⟨b1, b2, b3, b4, b5, b6⟩ := hS.2.1 o ho
  have hp1 := (hC.2.1 o ho).1
  obtain ⟨c1, c2, c3, c4⟩ := hS.1 (P 1 o) hp1
  obtain ⟨e1, e2, e3, e4⟩ := cl_eq hX hS hr y5 h0 h1
  obtain ⟨_, ⟨_, _, _, x14, x15, _⟩, _⟩ := hX
  unfold mo_cv mo_fr cvR m_cov
  rw [e1, x14, x15]
  generalize m_clear (I 0 r) (I 1 r) (J 1 r) = c at *
  have f_eq : (if c ≤ Int32.toInt64 (I 13 o) then Int32.toInt64 (I 13 o) else c) = m_max (Int32.toInt64 (I 13 o)) c := by
    unfold m_max
    by_cases q : c < Int32.toInt64 (I 13 o)
    · rw [if_pos q, if_pos (Int64.le_of_lt q)]
    · rw [if_neg q]
      by_cases q2 : c ≤ Int32.toInt64 (I 13 o)
      · rw [if_pos q2]
        exact Int64.le_antisymm (Int64.not_lt.mp q) q2
      · rw [if_neg q2]
  rw [f_eq]
  have hf : ((m_max (Int32.toInt64 (I 13 o)) c).toInt = (I 13 o).toInt ∨ (m_max (Int32.toInt64 (I 13 o)) c).toInt = c.toInt) ∧ (I 13 o).toInt ≤ (m_max (Int32.toInt64 (I 13 o)) c).toInt ∧ c.toInt ≤ (m_max (Int32.toInt64 (I 13 o)) c).toInt := by
    unfold m_max
    split
    · rename_i q
      rw [L_lt, W_l] at q
      rw [W_l]
      omega
    · rename_i q
      rw [L_lt, W_l] at q
      omega
  generalize m_max (Int32.toInt64 (I 13 o)) c = f at *
  have ed : (Int32.toInt64 (I 14 o) - f).toInt = (I 14 o).toInt - f.toInt := by
    rw [L_sub (by rw [W_l]; omega) (by rw [W_l]; omega), W_l]
  unfold m_max
  by_cases q : Int32.toInt64 (I 14 o) ≤ f
  · have q' := q
    rw [L_le, W_l] at q'
    rw [if_pos q]
    by_cases q2 : Int32.toInt64 (I 14 o) - f < 0
    · rw [if_pos q2]
      refine ⟨rfl, ?_, ?_, ?_⟩ <;> rw [l0] <;> omega
    · have q3 := q2
      rw [L_lt, ed, l0] at q3
      rw [if_neg q2]
      refine ⟨L_ext (by rw [ed, l0]; omega), ?_, ?_, ?_⟩ <;> rw [ed] <;> omega
  · have q' := q
    rw [L_le, W_l] at q'
    have q2 : ¬ Int32.toInt64 (I 14 o) - f < 0 := by
      rw [L_lt, ed, l0]
      omega
    rw [if_neg q, if_neg q2]
    refine ⟨rfl, by rw [ed]; omega, by rw [ed]; omega, fun h9 h8 => ?_⟩
    have : 1 ≤ (J 1 r).toInt / (I 0 r).toInt := by omega
    omega
theorem w5 {w : Int32} (h0 : 1 ≤ w.toInt) (h1 : w.toInt ≤ 50) : Int32.toInt64 (5 * w) = 5 * Int32.toInt64 w := by
  apply L_ext
  rw [W_l, I_mul (by rw [i5]; omega) (by rw [i5]; omega), L_mul (by rw [W_l, l5]; omega) (by rw [W_l, l5]; omega), W_l, i5, l5]
theorem ff_bd {w : Int32} {s d : Int64} (h0 : 1 ≤ w.toInt) (h1 : w.toInt ≤ 50) (s0 : 0 ≤ s.toInt) (d0 : 1 ≤ d.toInt) (d1 : d.toInt ≤ 100) : 0 ≤ (m_ff w s d).toInt ∧ (m_ff w s d).toInt ≤ 25000 ∧ 16 * (m_ff w s d).toInt ≤ s.toInt := by
  have hm := mul_bd (a := 5 * w.toInt) (b := d.toInt) (A := 250) (B := 100) (by omega) (by omega) (by omega) d1
  have e5 : (5 * Int32.toInt64 w).toInt = 5 * w.toInt := by rw [L_mul (by rw [W_l, l5]; omega) (by rw [W_l, l5]; omega), W_l, l5]
  have e1 : (Int32.toInt64 (5 * w) * d).toInt = 5 * w.toInt * d.toInt := by
    rw [w5 h0 h1, L_mul (by rw [e5]; omega) (by rw [e5]; omega), e5]
  have e2 : (s / 16).toInt = s.toInt / 16 := by rw [L_div s0 (by rw [l16]; decide), l16]
  unfold m_ff m_min
  split
  · rename_i q
    rw [L_lt, e1, e2] at q
    rw [e2]
    omega
  · rename_i q
    rw [L_lt, e1, e2] at q
    rw [e1]
    omega
theorem up4 (Y : J2) (i : Nat) (v w : Int64) : up2 (up2 (up2 (up2 Y 18 i 0) 19 i 0) 18 i v) 19 i w = up2 (up2 Y 18 i v) 19 i w := by
  funext a b
  simp only [up2]
  grind
/-- what was measured at an opening -/
def MD (n : Nat → Nat) (P : P2) (s0 h0 : Nat → Int) (J : J2) (i : Nat) : Prop := (J 10 i = 0 ∧ J 11 i = 0) ∨ ∃ src v, src < n 0 ∧ 1 ≤ s0 src ∧ 1 ≤ v ∧ v ≤ 25000 ∧ 16 * v ≤ s0 src ∧ (J 11 i).toInt = h0 src * v / s0 src ∧ ((src = P 1 i ∧ (J 10 i).toInt = v) ∨ (P 2 i = src + 1 ∧ (J 10 i).toInt = -v))
theorem hwv {J : J2} {B : Int} {r : Nat} {v : Int64} (hB : 1000 ≤ B ∧ B ≤ 3000000) (hN : NB 1500000 B n J) (hr : r < n 0) (s1 : 1 ≤ (J 1 r).toInt) (v0 : 0 ≤ v.toInt) (v1 : v.toInt ≤ 25000) : (m_hw (J 1 r) (J 2 r) v).toInt = (J 2 r).toInt * v.toInt / (J 1 r).toInt := by
  obtain ⟨a, b, c, d⟩ := hN r hr
  have hbs := mul_bd (a := B) (b := (J 1 r).toInt) (A := 3000000) (B := 1500000) (by omega) a hB.2 b
  have hm := mul_bd (a := (J 2 r).toInt) (b := v.toInt) (A := 4500000000000) (B := 25000) c v0 (by omega) v1
  exact hw_eq s1 v0 c (by omega)
theorem hw0 {s h : Int64} : m_hw s h 0 = 0 := by
  unfold m_hw
  split
  · rename_i q
    apply L_ext
    rw [Int64.mul_zero, L_div (by rw [l0]; decide) (by have := L_le.mp q; rw [l1] at this; omega), l0]
    simp
  · rfl
theorem meas_step {i : Nat} {J Y : J2} {z : Nat → Nat} (hX : XR n I P X) (hS : SB n I P) (hC : CInv n P) (hB : 1000 ≤ B ∧ B ≤ 3000000) (hi : i < n 1) (hR : RD n J0 Y0 J Y) (hN : NB 1500000 B n J) : RD n J0 Y0 (mS I P i J) (syFlow1 z i X Y) ∧ MD n P (fun r => (J 1 r).toInt) (fun r => (J 2 r).toInt) (mS I P i J) i := by
  have h10 : n 0 ≤ 10 := hC.1 0 (by decide)
  obtain ⟨p1, p2, p3⟩ := hC.2.1 i hi
  obtain ⟨b1, b2, b3, b4, b5, b6⟩ := hS.2.1 i hi
  obtain ⟨s1, s2, s3, s4⟩ := hN (P 1 i) p1
  have hy5 := hR.1.1
  have hy6 := hR.1.2.1
  obtain ⟨c1, c2, c3, c4⟩ := cov_eq hX hS hC hi p1 (hy5 (P 1 i)) s1 (by omega)
  have hcl : (nI (P 1 i)).toNatClampNeg = P 1 i := nI_clamp (by omega)
  have x11 := hX.2.1.1 i
  have x12 := hX.2.1.2.1 i hi
  have x13 := hX.2.1.2.2.1 i
  have x17 := hX.2.1.2.2.2.2.2.2 i
  have ew := w5 b1 b2
  have j10 : mS I P i J 10 i = mFl I P i J := by simp [mS, up2]
  have j11 : mS I P i J 11 i = mHt I P i J := by simp [mS, up2]
  have key : syFlow1 z i X Y = up2 (up2 Y 18 i (mFl I P i J)) 19 i (mHt I P i J) ∧ ((mFl I P i J = 0 ∧ mHt I P i J = 0) ∨ ∃ src v, src < n 0 ∧ 1 ≤ (J 1 src).toInt ∧ 1 ≤ v ∧ v ≤ 25000 ∧ 16 * v ≤ (J 1 src).toInt ∧ (mHt I P i J).toInt = (J 2 src).toInt * v / (J 1 src).toInt ∧ ((src = P 1 i ∧ (mFl I P i J).toInt = v) ∨ (P 2 i = src + 1 ∧ (mFl I P i J).toInt = -v))) := by
    unfold syFlow1
    rw [x11, x17, x13, hcl, hy5, hy6, c1]
    cases hg : P 2 i with
    | zero =>
      rw [hg] at x12
      have x12 : X 12 i = (-1) := x12
      rw [if_pos x12]
      unfold mFl mHt
      rw [hg]
      simp only []
      generalize m_open (I 15 i) (I 16 i) = op
      generalize cvR I J i (P 1 i) = cv at *
      unfold m_flN m_fhN
      rw [Int64.sub_zero]
      by_cases o1 : op = 0
      · rw [if_pos o1, if_pos o1, if_pos o1]
        exact ⟨rfl, Or.inl ⟨rfl, rfl⟩⟩
      · rw [if_neg o1, if_neg o1, if_neg o1]
        by_cases o2 : cv = 0
        · have o3 : cv ≤ 0 := by rw [o2]; exact Int64.le_refl 0
          rw [if_pos o2, if_pos o3, if_pos o3]
          exact ⟨rfl, Or.inl ⟨rfl, rfl⟩⟩
        · have o4 : 1 ≤ cv.toInt := by
            rcases Int.lt_or_eq_of_le c2 with q | q
            · omega
            · exact absurd (L_ext (by rw [l0]; exact q.symm)) o2
          have o3 : ¬ cv ≤ 0 := by rw [L_le, l0]; omega
          rw [if_neg o2, if_neg o3, if_neg o3]
          have hs1 := c4 b5 o4
          obtain ⟨v0, v1, v2⟩ := ff_bd (s := J 1 (P 1 i)) b1 b2 s1 o4 c3
          refine ⟨?_, ?_⟩
          · have hs1' : (1 : Int64) ≤ J 1 (P 1 i) := L_le.mpr (by rw [l1]; exact hs1)
            unfold m_hw m_ff m_min
            rw [if_pos hs1', ew]
            generalize 5 * Int32.toInt64 (I 12 i) * cv = a
            by_cases q : a ≤ J 1 (P 1 i) / 16
            · rw [if_pos q, if_neg (Int64.not_lt.mpr q), up4]
            · rw [if_neg q, if_pos (Int64.not_le.mp q), up4]
          · by_cases z0 : (m_ff (I 12 i) (J 1 (P 1 i)) cv).toInt = 0
            · have z1 : m_ff (I 12 i) (J 1 (P 1 i)) cv = 0 := L_ext (by rw [l0]; exact z0)
              rw [z1]
              exact Or.inl ⟨rfl, hw0⟩
            · exact Or.inr ⟨P 1 i, _, p1, hs1, by omega, v1, v2, hwv hB hN p1 hs1 v0 v1, Or.inl ⟨rfl, rfl⟩⟩
    | succ g =>
      rw [hg] at x12
      have x12 : X 12 i = nI g := x12
      have g10 : g < n 0 := by omega
      have hcg : (nI g).toNatClampNeg = g := nI_clamp (by omega)
      obtain ⟨t1, t2, t3, t4⟩ := hN g g10
      obtain ⟨d1, d2, d3, d4⟩ := cov_eq hX hS hC hi g10 (hy5 g) t1 (by omega)
      rw [x12, if_neg (nI_m1 (by omega)), hcg, hy5, hy6, d1]
      unfold mFl mHt
      rw [hg]
      simp only []
      generalize m_open (I 15 i) (I 16 i) = op
      generalize cvR I J i (P 1 i) = cn at *
      generalize cvR I J i g = cf at *
      unfold m_flS m_fhS
      have es : (cn - cf).toInt = cn.toInt - cf.toInt := L_sub (by omega) (by omega)
      have es2 : (cf - cn).toInt = cf.toInt - cn.toInt := L_sub (by omega) (by omega)
      have en : -(cn - cf) = cf - cn := by
        apply L_ext
        rw [L_neg (by rw [es]; omega), es, es2]
        omega
      by_cases o1 : op = 0
      · rw [if_pos o1, if_pos o1, if_pos o1]
        exact ⟨rfl, Or.inl ⟨rfl, rfl⟩⟩
      · rw [if_neg o1, if_neg o1, if_neg o1]
        by_cases o2 : cn.toInt = cf.toInt
        · have q1 : cn - cf = 0 := L_ext (by rw [es, l0]; omega)
          have q2 : cn ≤ cf := L_le.mpr (by omega)
          have q3 : cf ≤ cn := L_le.mpr (by omega)
          rw [if_pos q1, if_pos q2, if_pos q3, if_pos q2, if_pos q3]
          exact ⟨rfl, Or.inl ⟨rfl, rfl⟩⟩
        · have q1 : ¬ cn - cf = 0 := fun h => by have := congrArg Int64.toInt h; rw [es, l0] at this; omega
          rw [if_neg q1]
          by_cases o3 : cn.toInt < cf.toInt
          · have q2 : cn ≤ cf := L_le.mpr (by omega)
            have q3 : ¬ cf ≤ cn := by rw [L_le]; omega
            have q4 : cn - cf ≤ 0 := L_le.mpr (by rw [es, l0]; omega)
            rw [if_pos q4, if_pos q2, if_neg q3, if_pos q2, if_neg q3, en]
            have hs1 := d4 (b6 g hg) (by omega)
            obtain ⟨v0, v1, v2⟩ := ff_bd (w := I 12 i) (s := J 1 g) (d := cf - cn) b1 b2 t1 (by omega) (by omega)
            refine ⟨?_, ?_⟩
            · have hs1' : (1 : Int64) ≤ J 1 g := L_le.mpr (by rw [l1]; exact hs1)
              unfold m_hw m_ff m_min
              rw [if_pos hs1', ew]
              generalize 5 * Int32.toInt64 (I 12 i) * (cf - cn) = a
              by_cases q : a ≤ J 1 g / 16
              · rw [if_pos q, if_neg (Int64.not_lt.mpr q), up4]
              · rw [if_neg q, if_pos (Int64.not_le.mp q), up4]
            · by_cases z0 : (m_ff (I 12 i) (J 1 g) (cf - cn)).toInt = 0
              · have z1 : m_ff (I 12 i) (J 1 g) (cf - cn) = 0 := L_ext (by rw [l0]; exact z0)
                rw [z1]
                exact Or.inl ⟨neg0, hw0⟩
              · exact Or.inr ⟨g, _, g10, hs1, by omega, v1, v2, hwv hB hN g10 hs1 v0 v1, Or.inr ⟨rfl, L_neg (by omega)⟩⟩
          · have q2 : ¬ cn ≤ cf := by rw [L_le]; omega
            have q4 : ¬ cn - cf ≤ 0 := by rw [L_le, es, l0]; omega
            rw [if_neg q4, if_neg q2, if_neg q2]
            have hs1 := c4 b5 (by omega)
            obtain ⟨v0, v1, v2⟩ := ff_bd (w := I 12 i) (s := J 1 (P 1 i)) (d := cn - cf) b1 b2 s1 (by omega) (by omega)
            refine ⟨?_, ?_⟩
            · have hs1' : (1 : Int64) ≤ J 1 (P 1 i) := L_le.mpr (by rw [l1]; exact hs1)
              unfold m_hw m_ff m_min
              rw [if_pos hs1', ew]
              generalize 5 * Int32.toInt64 (I 12 i) * (cn - cf) = a
              by_cases q : a ≤ J 1 (P 1 i) / 16
              · rw [if_pos q, if_neg (Int64.not_lt.mpr q), up4]
              · rw [if_neg q, if_pos (Int64.not_le.mp q), up4]
            · by_cases z0 : (m_ff (I 12 i) (J 1 (P 1 i)) (cn - cf)).toInt = 0
              · have z1 : m_ff (I 12 i) (J 1 (P 1 i)) (cn - cf) = 0 := L_ext (by rw [l0]; exact z0)
                rw [z1]
                exact Or.inl ⟨rfl, hw0⟩
              · exact Or.inr ⟨P 1 i, _, p1, hs1, by omega, v1, v2, hwv hB hN p1 hs1 v0 v1, Or.inl ⟨rfl, rfl⟩⟩
  refine ⟨?_, ?_⟩
  · rw [key.1]
    exact hR.flow hi _ _
  · unfold MD
    rw [j10, j11]
    exact key.2
theorem meas_sim {s0 h0 : Nat → Int} (hX : XR n I P X) (hS : SB n I P) (hC : CInv n P) (hB : 1000 ≤ B ∧ B ≤ 3000000) : ∀ (k i : Nat) (J Y : J2), i + k = n 1 → RD n J0 Y0 J Y → NB 1500000 B n J → (∀ r, (J 1 r).toInt = s0 r ∧ (J 2 r).toInt = h0 r) → (∀ o, o < i → MD n P s0 h0 J o) → RD n J0 Y0 (mL I P k i J) (lFlow1 k i (X, Y)).2 ∧ (lFlow1 k i (X, Y)).1 = X ∧ (∀ o, o < n 1 → MD n P s0 h0 (mL I P k i J) o) ∧ (∀ r, mL I P k i J 1 r = J 1 r ∧ mL I P k i J 2 r = J 2 r) := by
  intro k
  induction k with
  | zero =>
    intro i J Y hi hR hN hs hm
    exact ⟨hR, rfl, fun o ho => hm o (by omega), fun r => ⟨rfl, rfl⟩⟩
  | succ k ih =>
    intro i J Y hi hR hN hs hm
    obtain ⟨h1, h2⟩ := meas_step (z := fun _ => 0) hX hS hC hB (show i < n 1 by omega) hR hN
    have e1 : ∀ r, mS I P i J 1 r = J 1 r := fun r => by simp [mS, up2]
    have e2 : ∀ r, mS I P i J 2 r = J 2 r := fun r => by simp [mS, up2]
    obtain ⟨g1, g2, g3, g4⟩ := ih (i + 1) (mS I P i J) _ (by omega) h1 (fun r hr => by rw [e1, e2]; exact hN r hr) (fun r => by rw [e1, e2]; exact hs r) (fun o ho => by
      by_cases e : o = i
      · subst e
        rw [show s0 = (fun r => (J 1 r).toInt) from funext fun r => (hs r).1.symm, show h0 = (fun r => (J 2 r).toInt) from funext fun r => (hs r).2.symm]
        exact h2
      · have a1 : mS I P i J 10 o = J 10 o := by simp [mS, up2, e]
        have a2 : mS I P i J 11 o = J 11 o := by simp [mS, up2, e]
        have := hm o (by omega)
        unfold MD at this ⊢
        rw [a1, a2]
        exact this)
    exact ⟨g1, g2, g3, fun r => ⟨((g4 r).1).trans (e1 r), ((g4 r).2).trans (e2 r)⟩⟩
end FLW
