section MVE
variable {n : Nat → Nat} {I X : I2} {P : P2} {J0 Y0 : J2} {B : Int} {T : Nat}
theorem subn (a b : Int64) : a - (-b) = a + b := by rw [Int64.sub_eq_add_neg, Int64.neg_neg]
theorem move_y {i : Nat} {J Y : J2} {z : Nat → Nat} (hX : XR n I P X) (hC : CInv n P) (hi : i < n 1) (hR : RD n J0 Y0 J Y) (hw0 : J 10 i = 0 → J 11 i = 0) (hwn : P 2 i = 0 → 0 ≤ (J 10 i).toInt) (hmin : -9223372036854775808 < (J 10 i).toInt) : RD n J0 Y0 (vS P i J) (syFlow2 z i X Y) := by
  have h10 : n 0 ≤ 10 := hC.1 0 (by decide)
  obtain ⟨p1, p2, p3⟩ := hC.2.1 i hi
  have hcl : (nI (P 1 i)).toNatClampNeg = P 1 i := nI_clamp (by omega)
  have x11 := hX.2.1.1 i
  have x12 := hX.2.1.2.1 i hi
  have hy5 := hR.1.1
  have hy6 := hR.1.2.1
  have hy18 := hR.1.2.2.1 i
  have hy19 := hR.1.2.2.2.1 i
  have hy20 := hR.1.2.2.2.2.1 i
  have hy44 := hR.1.2.2.2.2.2.2.2.1
  unfold syFlow2
  rw [x11, hcl, hy5, hy6, hy18, hy19, hy20, hy44]
  cases hg : P 2 i with
  | zero =>
    rw [hg] at x12
    have x12 : X 12 i = (-1) := x12
    have hw := hwn hg
    rw [if_pos x12]
    unfold vS
    rw [hg]
    simp only []
    by_cases q : J 10 i ≤ 0
    · have e0 : J 10 i = 0 := L_ext (by rw [l0]; have := L_le.mp q; rw [l0] at this; omega)
      rw [if_pos q, e0, hw0 e0]
      have e1 : m_abs 0 = 0 := by decide
      have e2 : m_nh 0 0 = 0 := by decide
      rw [e1, e2, neg0, Int64.add_zero, Int64.add_zero, Int64.add_zero, Int64.add_zero]
      have e3 : sRo (up2 J 12 i (J 12 i)) (P 1 i) (J 1 (P 1 i)) (J 2 (P 1 i)) = J := by
        unfold sRo
        rw [up2_id J 12 i, up2_id]
        exact up2_id J 2 (P 1 i)
      rw [e3, show up2 J 99 1 (J 99 1) = J from up2_id J 99 1, ← hy20, up2_id]
      exact hR
    · have q0 : 0 < J 10 i := Int64.not_le.mp q
      have e1 : m_abs (J 10 i) = J 10 i := if_pos q0
      have e2 : m_nh (J 10 i) (J 11 i) = -(J 11 i) := if_pos (Int64.le_of_lt q0)
      rw [if_neg q, e1, e2, Int64.sub_eq_add_neg, Int64.sub_eq_add_neg]
      exact ((hR.sum hi _).room p1 _ _).acc (k := 1) (by decide) _
  | succ g =>
    rw [hg] at x12
    have x12 : X 12 i = nI g := x12
    have g10 : g < n 0 := by omega
    have hgr : ¬ g = P 1 i := by omega
    have hcg : (nI g).toNatClampNeg = g := nI_clamp (by omega)
    rw [x12, if_neg (nI_m1 (by omega)), hcg, hy5, hy6]
    unfold vS
    rw [hg]
    simp only []
    by_cases q : 0 ≤ J 10 i
    · have e2 : m_nh (J 10 i) (J 11 i) = -(J 11 i) := if_pos q
      have e3 : m_fh (J 10 i) (J 11 i) = J 11 i := if_pos q
      rw [if_pos q, e2, e3]
      by_cases q1 : J 10 i ≤ 0
      · have e0 : J 10 i = 0 := Int64.le_antisymm q1 q
        rw [if_pos q1, e0, hw0 e0]
        have e1 : m_abs 0 = 0 := by decide
        rw [e1, neg0, Int64.add_zero, Int64.add_zero, Int64.add_zero, Int64.add_zero, Int64.add_zero, Int64.add_zero]
        have e4 : sRo (up2 J 12 i (J 12 i)) (P 1 i) (J 1 (P 1 i)) (J 2 (P 1 i)) = J := by
          unfold sRo
          rw [up2_id J 12 i, up2_id]
          exact up2_id J 2 (P 1 i)
        have e5 : sRo J g (J 1 g) (J 2 g) = J := by
          unfold sRo
          rw [up2_id]
          exact up2_id J 2 g
        rw [e4, e5, show up2 J 99 1 (J 99 1) = J from up2_id J 99 1, ← hy20, up2_id]
        exact hR
      · have q0 : 0 < J 10 i := Int64.not_le.mp q1
        have e1 : m_abs (J 10 i) = J 10 i := if_pos q0
        rw [if_neg q1, e1, Int64.sub_eq_add_neg, Int64.sub_eq_add_neg]
        have key := (((hR.sum hi (J 12 i + J 10 i)).room p1 (J 1 (P 1 i) + -(J 10 i)) (J 2 (P 1 i) + -(J 11 i))).room g10 (J 1 g + J 10 i) (J 2 g + J 11 i)).acc (k := 1) (by decide) (J 99 1 + 0)
        refine cast (congrArg (RD n J0 Y0 _) ?_) key
        funext a b
        simp only [up2]
        grind
    · have q0 : J 10 i < 0 := Int64.not_le.mp q
      have q0' := L_lt.mp q0
      rw [l0] at q0'
      have e2 : m_nh (J 10 i) (J 11 i) = J 11 i := if_neg q
      have e3 : m_fh (J 10 i) (J 11 i) = -(J 11 i) := if_neg q
      have e1 : m_abs (J 10 i) = -(J 10 i) := if_neg (fun h => by have := L_lt.mp h; rw [l0] at this; omega)
      have q1 : ¬ -(J 10 i) ≤ 0 := by rw [L_le, L_neg hmin, l0]; omega
      rw [if_neg q, if_neg q1, e1, e2, e3, subn, Int64.sub_eq_add_neg]
      have key := (((hR.sum hi (J 12 i + -(J 10 i))).room p1 (J 1 (P 1 i) + -(J 10 i)) (J 2 (P 1 i) + J 11 i)).room g10 (J 1 g + J 10 i) (J 2 g + -(J 11 i))).acc (k := 1) (by decide) (J 99 1 + 0)
      refine cast (congrArg (RD n J0 Y0 _) ?_) key
      funext a b
      simp only [up2]
      grind
/-- a room while the flows move: o went out, q came in -/
def FI (s0 h0 : Nat → Int) (B : Int) (i : Nat) (J : J2) (r : Nat) : Prop := ∃ o q : Int, 0 ≤ o ∧ 0 ≤ q ∧ q ≤ 25000 * i ∧ 16 * o ≤ i * s0 r ∧ (J 1 r).toInt = s0 r - o + q ∧ (16 - i) * h0 r ≤ 16 * (J 2 r).toInt ∧ (J 2 r).toInt ≤ h0 r + B * q ∧ (s0 r = 0 → (J 2 r).toInt ≤ B * q) ∧ (1 ≤ s0 r → s0 r * (J 2 r).toInt ≤ h0 r * (s0 r - o) + s0 r * (B * q + i))
theorem FI.stay {s0 h0 : Nat → Int} {B : Int} {i : Nat} {J J' : J2} {r : Nat} (h : FI s0 h0 B i J r) (hs : 0 ≤ s0 r) (hh : 0 ≤ h0 r) (e1 : (J' 1 r).toInt = (J 1 r).toInt) (e2 : (J' 2 r).toInt = (J 2 r).toInt) : FI s0 h0 B (i + 1) J' r := by
  obtain ⟨o, q, a1, a2, a3, a4, a5, a6, a7, a8, a9⟩ := h
  refine ⟨o, q, a1, a2, by omega, ?_, by rw [e1]; exact a5, ?_, by rw [e2]; exact a7, fun h => by rw [e2]; exact a8 h, fun h => ?_⟩
  · rw [show (((i + 1 : Nat) : Int)) = (i : Int) + 1 by omega, Int.add_mul, Int.one_mul]
    omega
  · rw [e2, show (16 - ((i + 1 : Nat) : Int)) = (16 - (i : Int)) - 1 by omega, Int.sub_mul, Int.one_mul]
    omega
  · rw [e2, show B * q + ((i + 1 : Nat) : Int) = (B * q + i) + 1 by omega, Int.mul_add, Int.mul_one]
    have := a9 h
    omega
theorem FI.out {s0 h0 : Nat → Int} {B : Int} {i : Nat} {J J' : J2} {r : Nat} {v f : Int} (h : FI s0 h0 B i J r) (hs : 1 ≤ s0 r) (hh : 0 ≤ h0 r) (v1 : 1 ≤ v) (v2 : 16 * v ≤ s0 r) (hf : f = h0 r * v / s0 r) (e1 : (J' 1 r).toInt = (J 1 r).toInt - v) (e2 : (J' 2 r).toInt = (J 2 r).toInt - f) : FI s0 h0 B (i + 1) J' r := by
  obtain ⟨o, q, a1, a2, a3, a4, a5, a6, a7, a8, a9⟩ := h
  have hm : 0 ≤ h0 r * v := Int.mul_nonneg hh (by omega)
  have f0 : 0 ≤ f := by rw [hf]; exact Int.ediv_nonneg hm (by omega)
  have f1 : f * s0 r ≤ h0 r * v := by rw [hf]; exact Int.ediv_mul_le _ (by omega)
  have f2 : h0 r * v < (f + 1) * s0 r := by rw [hf]; exact Int.lt_ediv_add_one_mul_self _ (by omega)
  rw [Int.add_mul, Int.one_mul, Int.mul_comm f] at f2
  have f3 : 16 * f ≤ h0 r := by
    have g1 : h0 r * (16 * v) ≤ h0 r * s0 r := Int.mul_le_mul_of_nonneg_left v2 hh
    have g2 : (16 * f) * s0 r ≤ h0 r * s0 r := by
      rw [Int.mul_assoc]
      have : h0 r * (16 * v) = 16 * (h0 r * v) := by rw [← Int.mul_assoc, Int.mul_comm (h0 r) 16, Int.mul_assoc]
      omega
    exact Int.le_of_mul_le_mul_right g2 (by omega)
  refine ⟨o + v, q, by omega, a2, by omega, ?_, by rw [e1, a5]; omega, ?_, by rw [e2]; omega, fun h => by omega, fun h => ?_⟩
  · rw [show (((i + 1 : Nat) : Int)) = (i : Int) + 1 by omega, Int.add_mul, Int.one_mul]
    omega
  · rw [e2, show (16 - ((i + 1 : Nat) : Int)) = (16 - (i : Int)) - 1 by omega, Int.sub_mul, Int.one_mul]
    omega
  · have := a9 h
    rw [e2, show B * q + ((i + 1 : Nat) : Int) = (B * q + i) + 1 by omega, Int.mul_add, Int.mul_one, Int.mul_sub (s0 r), show s0 r - (o + v) = (s0 r - o) - v by omega, Int.mul_sub (h0 r)]
    omega
theorem FI.inn {s0 h0 : Nat → Int} {B : Int} {i : Nat} {J J' : J2} {r : Nat} {v f : Int} (h : FI s0 h0 B i J r) (hs : 0 ≤ s0 r) (hh : 0 ≤ h0 r) (v1 : 1 ≤ v) (v2 : v ≤ 25000) (f0 : 0 ≤ f) (f1 : f ≤ B * v) (e1 : (J' 1 r).toInt = (J 1 r).toInt + v) (e2 : (J' 2 r).toInt = (J 2 r).toInt + f) : FI s0 h0 B (i + 1) J' r := by
  obtain ⟨o, q, a1, a2, a3, a4, a5, a6, a7, a8, a9⟩ := h
  refine ⟨o, q + v, by omega, by omega, by omega, ?_, by rw [e1, a5]; omega, ?_, ?_, fun h => ?_, fun h => ?_⟩
  · rw [show (((i + 1 : Nat) : Int)) = (i : Int) + 1 by omega, Int.add_mul, Int.one_mul]
    omega
  · rw [e2, show (16 - ((i + 1 : Nat) : Int)) = (16 - (i : Int)) - 1 by omega, Int.sub_mul, Int.one_mul]
    omega
  · rw [e2, Int.mul_add]
    omega
  · have := a8 h
    rw [e2, Int.mul_add]
    omega
  · have g := a9 h
    have g2 : s0 r * f ≤ s0 r * (B * v) := Int.mul_le_mul_of_nonneg_left f1 hs
    rw [e2, show B * (q + v) + ((i + 1 : Nat) : Int) = (B * q + i) + (B * v + 1) by rw [Int.mul_add]; omega, Int.mul_add (s0 r) (B * q + i), Int.mul_add (s0 r) (J 2 r).toInt, Int.mul_add (s0 r) (B * v), Int.mul_one]
    omega
theorem FI.done {s0 h0 : Nat → Int} {B : Int} {i : Nat} {J : J2} {r : Nat} (h : FI s0 h0 B i J r) (hi : i ≤ 15) (hB : 0 ≤ B) (hs : 0 ≤ s0 r) (hs2 : s0 r ≤ 1500000) (hh : 0 ≤ h0 r) (hb : h0 r ≤ B * s0 r) : 0 ≤ (J 1 r).toInt ∧ (J 1 r).toInt ≤ 2000000 ∧ 0 ≤ (J 2 r).toInt ∧ (J 2 r).toInt ≤ (B + 15) * (J 1 r).toInt := by
  obtain ⟨o, q, a1, a2, a3, a4, a5, a6, a7, a8, a9⟩ := h
  have g1 : (i : Int) * s0 r ≤ 15 * s0 r := Int.mul_le_mul_of_nonneg_right (by omega) hs
  have g2 : 0 ≤ (16 - (i : Int)) * h0 r := Int.mul_nonneg (by omega) hh
  refine ⟨by omega, by omega, by omega, ?_⟩
  by_cases z : s0 r = 0
  · have e : (J 1 r).toInt = q := by omega
    rw [e, Int.add_mul]
    have := a8 z
    omega
  · have g := a9 (by omega)
    have g3 : h0 r * (s0 r - o) ≤ B * s0 r * (s0 r - o) := Int.mul_le_mul_of_nonneg_right hb (by omega)
    have g4 : s0 r * (B * (s0 r - o + q) + i) = B * s0 r * (s0 r - o) + s0 r * (B * q + i) := by
      rw [Int.mul_add B, Int.add_assoc, Int.mul_add (s0 r), ← Int.mul_assoc, Int.mul_comm (s0 r) B]
    have g5 : s0 r * (J 2 r).toInt ≤ s0 r * (B * (s0 r - o + q) + i) := by rw [g4]; omega
    have g6 : (J 2 r).toInt ≤ B * (s0 r - o + q) + i := Int.le_of_mul_le_mul_left g5 (by omega)
    rw [a5, Int.add_mul]
    omega
theorem FI.small {s0 h0 : Nat → Int} {B : Int} {i : Nat} {J : J2} {r : Nat} (h : FI s0 h0 B i J r) (hi : i ≤ 15) (hB : 0 ≤ B ∧ B ≤ 3000000) (hs : 0 ≤ s0 r) (hs2 : s0 r ≤ 1500000) (hh : 0 ≤ h0 r) (hb : h0 r ≤ B * s0 r) : 0 ≤ (J 1 r).toInt ∧ (J 1 r).toInt ≤ 2000000 ∧ 0 ≤ (J 2 r).toInt ∧ (J 2 r).toInt ≤ 9000000000000 := by
  obtain ⟨h1, h2, h3, h4⟩ := h.done hi hB.1 hs hs2 hh hb
  have := mul_bd (a := B + 15) (b := (J 1 r).toInt) (A := 3000015) (B := 2000000) (by omega) h1 (by omega) h2
  exact ⟨h1, h2, h3, by omega⟩
theorem move_step {i : Nat} {J Y : J2} {z : Nat → Nat} {s0 h0 : Nat → Int} (hX : XR n I P X) (hC : CInv n P) (hB : 1000 ≤ B ∧ B ≤ 3000000) (hs : ∀ r, r < n 0 → 0 ≤ s0 r ∧ s0 r ≤ 1500000 ∧ 0 ≤ h0 r ∧ h0 r ≤ B * s0 r) (hi : i < n 1) (hR : RD n J0 Y0 J Y) (hM : MD n P s0 h0 J i) (hF : ∀ r, r < n 0 → FI s0 h0 B i J r) : RD n J0 Y0 (vS P i J) (syFlow2 z i X Y) ∧ (∀ r, r < n 0 → FI s0 h0 B (i + 1) (vS P i J) r) ∧ (∀ o, vS P i J 10 o = J 10 o ∧ vS P i J 11 o = J 11 o) := by
  have h15 : n 1 ≤ 15 := hC.1 1 (by decide)
  obtain ⟨p1, p2, p3⟩ := hC.2.1 i hi
  have hrow : ∀ o, vS P i J 10 o = J 10 o ∧ vS P i J 11 o = J 11 o := fun o => by
    unfold vS
    cases hg : P 2 i <;> simp [sRo, up2]
  rcases hM with ⟨m1, m2⟩ | ⟨src, v, m1, m2, m3, m4, m5, m6, m7⟩
  · refine ⟨move_y hX hC hi hR (fun _ => m2) (fun _ => by rw [m1, l0]; decide) (by rw [m1, l0]; decide), fun r hr => ?_, hrow⟩
    obtain ⟨b1, b2, b3, b4⟩ := hs r hr
    have e1 : m_nh 0 0 = 0 := by decide
    have e2 : m_fh 0 0 = 0 := by decide
    have k1 : vS P i J 1 r = J 1 r := by
      unfold vS
      rw [m1, m2]
      cases hg : P 2 i with
      | zero =>
        simp only [sRo, up2]
        simp only [neg0, Int64.add_zero]
        grind
      | succ g =>
        simp only [sRo, up2]
        simp only [neg0, Int64.add_zero]
        grind
    have k2 : vS P i J 2 r = J 2 r := by
      unfold vS
      rw [m1, m2, e1, e2]
      cases hg : P 2 i with
      | zero =>
        simp only [sRo, up2]
        simp only [neg0, Int64.add_zero]
        grind
      | succ g =>
        simp only [sRo, up2]
        simp only [neg0, Int64.add_zero]
        grind
    exact (hF r hr).stay b1 b3 (by rw [k1]) (by rw [k2])
  · obtain ⟨b1, b2, b3, b4⟩ := hs src m1
    have f0 : 0 ≤ (J 11 i).toInt := by rw [m6]; exact Int.ediv_nonneg (Int.mul_nonneg b3 (by omega)) (by omega)
    have f1 : (J 11 i).toInt ≤ B * v := by
      rw [m6]
      refine Int.ediv_le_of_le_mul (by omega) ?_
      calc h0 src * v ≤ B * s0 src * v := Int.mul_le_mul_of_nonneg_right b4 (by omega)
        _ = B * v * s0 src := by rw [Int.mul_assoc, Int.mul_comm (s0 src), Int.mul_assoc]
    have f2 := mul_bd (a := B) (b := v) (A := 3000000) (B := 25000) (by omega) (by omega) hB.2 m4
    have hsm : ∀ r, r < n 0 → 0 ≤ (J 1 r).toInt ∧ (J 1 r).toInt ≤ 2000000 ∧ 0 ≤ (J 2 r).toInt ∧ (J 2 r).toInt ≤ 9000000000000 := fun r hr => by
      obtain ⟨c1, c2, c3, c4⟩ := hs r hr
      exact (hF r hr).small (by omega) (by omega) c1 c2 c3 c4
    have en : (-(J 11 i)).toInt = -(J 11 i).toInt := L_neg (by omega)
    rcases m7 with ⟨rfl, m8⟩ | ⟨m8, m9⟩
    · have w0 : 0 ≤ J 10 i := L_le.mpr (by rw [l0]; omega)
      have en2 : (-(J 10 i)).toInt = -v := by rw [L_neg (by omega), m8]
      refine ⟨move_y hX hC hi hR (fun h => absurd (congrArg Int64.toInt h) (by rw [m8, l0]; omega)) (fun _ => by omega) (by omega), fun r hr => ?_, hrow⟩
      obtain ⟨c1, c2, c3, c4⟩ := hs r hr
      have t := hsm r hr
      have ta := hsm (P 1 i) m1
      have e2 : m_nh (J 10 i) (J 11 i) = -(J 11 i) := if_pos w0
      have e3 : m_fh (J 10 i) (J 11 i) = J 11 i := if_pos w0
      by_cases er : r = P 1 i
      · subst er
        have k1 : vS P i J 1 (P 1 i) = J 1 (P 1 i) + -(J 10 i) := by
          unfold vS
          cases hg : P 2 i with
          | zero =>
            simp [sRo, up2]
          | succ g =>
            have : ¬ P 1 i = g := by omega
            simp [sRo, up2, this]
        have k2 : vS P i J 2 (P 1 i) = J 2 (P 1 i) + -(J 11 i) := by
          unfold vS
          rw [e2]
          cases hg : P 2 i with
          | zero =>
            simp [sRo, up2]
          | succ g =>
            have : ¬ P 1 i = g := by omega
            simp [sRo, up2, this]
        exact (hF _ hr).out m2 c3 m3 m5 m6 (by rw [k1, L_add (by rw [en2]; omega) (by rw [en2]; omega), en2]; omega) (by rw [k2, L_add (by rw [en]; omega) (by rw [en]; omega), en]; omega)
      · by_cases eg : P 2 i = r + 1
        · have k1 : vS P i J 1 r = J 1 r + J 10 i := by
            unfold vS
            rw [eg]
            simp [sRo, up2]
          have k2 : vS P i J 2 r = J 2 r + J 11 i := by
            unfold vS
            rw [eg, e3]
            simp [sRo, up2]
          exact (hF _ hr).inn c1 c3 m3 m4 f0 f1 (by rw [k1, L_add (by omega) (by omega), m8]) (by rw [k2, L_add (by omega) (by omega)])
        · have k1 : vS P i J 1 r = J 1 r := by
            unfold vS
            cases hg : P 2 i with
            | zero =>
              simp [sRo, up2, er]
            | succ g =>
              have : ¬ r = g := by omega
              simp [sRo, up2, er, this]
          have k2 : vS P i J 2 r = J 2 r := by
            unfold vS
            cases hg : P 2 i with
            | zero =>
              simp [sRo, up2, er]
            | succ g =>
              have : ¬ r = g := by omega
              simp [sRo, up2, er, this]
          exact (hF _ hr).stay c1 c3 (by rw [k1]) (by rw [k2])
    · have w0 : ¬ 0 ≤ J 10 i := by rw [L_le, l0]; omega
      have en2 : (-(J 10 i)).toInt = v := by rw [L_neg (by omega), m9]; omega
      refine ⟨move_y hX hC hi hR (fun h => absurd (congrArg Int64.toInt h) (by rw [m9, l0]; omega)) (fun h => by omega) (by omega), fun r hr => ?_, hrow⟩
      obtain ⟨c1, c2, c3, c4⟩ := hs r hr
      have t := hsm r hr
      have e2 : m_nh (J 10 i) (J 11 i) = J 11 i := if_neg w0
      have e3 : m_fh (J 10 i) (J 11 i) = -(J 11 i) := if_neg w0
      have hne : ¬ P 1 i = src := by omega
      by_cases er : r = P 1 i
      · subst er
        have k1 : vS P i J 1 (P 1 i) = J 1 (P 1 i) + -(J 10 i) := by
          unfold vS
          rw [m8]
          simp [sRo, up2, hne]
        have k2 : vS P i J 2 (P 1 i) = J 2 (P 1 i) + J 11 i := by
          unfold vS
          rw [m8, e2]
          simp [sRo, up2, hne]
        exact (hF _ hr).inn c1 c3 m3 m4 f0 f1 (by rw [k1, L_add (by omega) (by omega), en2]) (by rw [k2, L_add (by omega) (by omega)])
      · by_cases eg : r = src
        · subst eg
          have k1 : vS P i J 1 r = J 1 r + J 10 i := by
            unfold vS
            rw [m8]
            simp [sRo, up2]
          have k2 : vS P i J 2 r = J 2 r + -(J 11 i) := by
            unfold vS
            rw [m8, e3]
            simp [sRo, up2]
          exact (hF _ hr).out m2 c3 m3 m5 m6 (by rw [k1, L_add (by omega) (by omega), m9]; omega) (by rw [k2, L_add (by rw [en]; omega) (by rw [en]; omega), en]; omega)
        · have k1 : vS P i J 1 r = J 1 r := by
            unfold vS
            rw [m8]
            simp [sRo, up2, er, eg]
          have k2 : vS P i J 2 r = J 2 r := by
            unfold vS
            rw [m8]
            simp [sRo, up2, er, eg]
          exact (hF _ hr).stay c1 c3 (by rw [k1]) (by rw [k2])
theorem move_sim {s0 h0 : Nat → Int} (hX : XR n I P X) (hC : CInv n P) (hB : 1000 ≤ B ∧ B ≤ 3000000) (hs : ∀ r, r < n 0 → 0 ≤ s0 r ∧ s0 r ≤ 1500000 ∧ 0 ≤ h0 r ∧ h0 r ≤ B * s0 r) : ∀ (k i : Nat) (J Y : J2), i + k = n 1 → RD n J0 Y0 J Y → (∀ o, o < n 1 → MD n P s0 h0 J o) → (∀ r, r < n 0 → FI s0 h0 B i J r) → RD n J0 Y0 (vL P k i J) (lFlow2 k i (X, Y)).2 ∧ (lFlow2 k i (X, Y)).1 = X ∧ NB 2000000 (B + 15) n (vL P k i J) := by
  intro k
  have h15 : n 1 ≤ 15 := hC.1 1 (by decide)
  induction k with
  | zero =>
    intro i J Y hi hR hM hF
    exact ⟨hR, rfl, fun r hr => (hF r hr).done (by omega) (by omega) (hs r hr).1 (hs r hr).2.1 (hs r hr).2.2.1 (hs r hr).2.2.2⟩
  | succ k ih =>
    intro i J Y hi hR hM hF
    obtain ⟨h1, h2, h3⟩ := move_step (z := fun _ => 0) hX hC hB hs (show i < n 1 by omega) hR (hM i (by omega)) hF
    exact ih (i + 1) (vS P i J) _ (by omega) h1 (fun o ho => by
      have := hM o ho
      unfold MD at this ⊢
      rw [(h3 o).1, (h3 o).2]
      exact this) h2
theorem FI.start {s0 h0 : Nat → Int} {J : J2} {r : Nat} (hB : 0 ≤ B) (e1 : (J 1 r).toInt = s0 r) (e2 : (J 2 r).toInt = h0 r) (hs : 0 ≤ s0 r) (hh : 0 ≤ h0 r) (hb : h0 r ≤ B * s0 r) : FI s0 h0 B 0 J r := by
  refine ⟨0, 0, by decide, by decide, by decide, by simp, by omega, ?_, ?_, fun h => ?_, fun h => ?_⟩
  · simp
    omega
  · simp
    omega
  · rw [h] at hb
    simp at hb ⊢
    omega
  · rw [e2]
    simp
    rw [Int.mul_comm]
    exact Int.le_refl _
end MVE
