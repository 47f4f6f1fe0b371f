theorem take_bd {h s v B : Int} (hs : 1 ≤ s) (hv0 : 0 ≤ v) (hv : v ≤ s) (h0 : 0 ≤ h) (hB : h ≤ B * s) : 0 ≤ h * v / s ∧ h * v / s ≤ h ∧ h - h * v / s ≤ (B + 1) * (s - v) := by
  have hhv : 0 ≤ h * v := Int.mul_nonneg h0 hv0
  have q0 : 0 ≤ h * v / s := Int.ediv_nonneg hhv (by omega)
  have q1 : h * v / s ≤ h := by
    have : h * v ≤ h * s := Int.mul_le_mul_of_nonneg_left hv h0
    exact Int.ediv_le_of_le_mul (by omega) this
  refine ⟨q0, q1, ?_⟩
  by_cases e : v = s
  · subst e
    rw [Int.mul_ediv_cancel _ (by omega)]
    simp
  · have hlt := Int.lt_ediv_add_one_mul_self (h * v) (b := s) (by omega)
    generalize h * v / s = q at *
    have e1 : (q + 1) * s = s * q + s := by rw [Int.add_mul, Int.one_mul, Int.mul_comm]
    rw [e1] at hlt
    have e2 : s * (h - q) = h * s - s * q := by rw [Int.mul_sub, Int.mul_comm s h]
    have e3 : h * (s - v) ≤ B * s * (s - v) := Int.mul_le_mul_of_nonneg_right hB (by omega)
    rw [Int.mul_sub] at e3
    have e4 : s * (B * (s - v) + 1) = B * s * (s - v) + s := by rw [Int.mul_add, Int.mul_one, ← Int.mul_assoc, Int.mul_comm s B]
    have e5 : s * (h - q) < s * (B * (s - v) + 1) := by rw [e2, e4]; omega
    have e6 : h - q < B * (s - v) + 1 := Int.lt_of_mul_lt_mul_left e5 (by omega)
    rw [Int.add_mul, Int.one_mul]
    omega
section BL
variable {n : Nat → Nat} {I X : I2} {P : P2} {J0 Y0 : J2} {B : Int} {T : Nat}
theorem hw_eq {s h v : Int64} (hs : 1 ≤ s.toInt) (hv0 : 0 ≤ v.toInt) (hh : 0 ≤ h.toInt) (hm : h.toInt * v.toInt < 9223372036854775808) : (m_hw s h v).toInt = h.toInt * v.toInt / s.toInt := by
  have hp : 0 ≤ h.toInt * v.toInt := Int.mul_nonneg hh hv0
  have e : (h * v).toInt = h.toInt * v.toInt := L_mul (by omega) hm
  unfold m_hw
  rw [if_pos (L_le.mpr (by rw [l1]; exact hs)), L_div (by rw [e]; exact hp) (by omega), e]
theorem neg0 : (-(0 : Int64)) = 0 := by decide
theorem blow_y {f : Nat} {J Y : J2} {z : Nat → Nat} (hX : XR n I P X) (hS : SB n I P) (hC : CInv n P) (hf : f < n 3) (hR : RD n J0 Y0 J Y) (hs : 0 ≤ (J 1 (P 4 f)).toInt) : syBlow z f X Y = if I 99 0 < I 31 f then Y else up2 (up2 (up2 Y 5 (P 4 f) (J 1 (P 4 f) + -(m_bl (I 32 f) (J 1 (P 4 f))))) 6 (P 4 f) (J 2 (P 4 f) + -(m_hw (J 1 (P 4 f)) (J 2 (P 4 f)) (m_bl (I 32 f) (J 1 (P 4 f)))))) 45 0 (J 99 2 + m_bl (I 32 f) (J 1 (P 4 f))) := by
  obtain ⟨_, _, _, ⟨x28, x29, x30⟩, _, _, x1, x2, _⟩ := hX
  have h1 := hC.2.2.2.1 f hf
  have h2 := hC.1 0 (by decide)
  have hc : (nI (P 4 f)).toNatClampNeg = P 4 f := nI_clamp (by simp only [cap] at h2; omega)
  have y5 := hR.1.1 (P 4 f)
  have y6 := hR.1.2.1 (P 4 f)
  have y45 := hR.1.2.2.2.2.2.2.2.2.1
  have hra := hS.2.2.2.1 f hf
  have hr32 : (Int32.toInt64 (I 32 f)).toInt = (I 32 f).toInt := W_l _
  unfold syBlow
  rw [x1, x28, x29, x30, hc, y5, y6, y45]
  by_cases c : I 99 0 < I 31 f
  · rw [if_pos c, if_pos c]
  · rw [if_neg c, if_neg c]
    generalize Int32.toInt64 (I 32 f) = ra at hr32 ⊢
    show _ = up2 (up2 (up2 Y 5 (P 4 f) (J 1 (P 4 f) + -(m_bl (I 32 f) (J 1 (P 4 f))))) 6 (P 4 f) (J 2 (P 4 f) + -(m_hw (J 1 (P 4 f)) (J 2 (P 4 f)) (m_bl (I 32 f) (J 1 (P 4 f)))))) 45 0 (J 99 2 + m_bl (I 32 f) (J 1 (P 4 f)))
    unfold m_bl m_min m_hw
    rw [show Int32.toInt64 (I 32 f) = ra from L_ext (by rw [W_l, hr32])]
    by_cases d : J 1 (P 4 f) ≤ 0
    · have e0 : J 1 (P 4 f) = 0 := L_ext (by rw [l0]; have := L_le.mp d; rw [l0] at this; omega)
      rw [if_pos d, e0, if_pos (show (0 : Int64) < ra from L_lt.mpr (by rw [l0]; omega)), if_neg (by decide), neg0, Int64.add_zero, Int64.add_zero, Int64.add_zero, ← e0, ← y5, up2_id, ← y6, up2_id, ← y45, up2_id]
    · have d1 : (1 : Int64) ≤ J 1 (P 4 f) := L_le.mpr (by have := Int64.not_le.mp d; rw [L_lt, l0] at this; rw [l1]; omega)
      rw [if_neg d, if_pos d1]
      by_cases g : ra ≤ J 1 (P 4 f)
      · rw [if_pos g, if_neg (Int64.not_lt.mpr g), up2_comm Y (k := 6) (k' := 5) (by omega), Int64.sub_eq_add_neg, Int64.sub_eq_add_neg]
      · rw [if_neg g, if_pos (Int64.not_le.mp g), up2_comm Y (k := 6) (k' := 5) (by omega), Int64.sub_eq_add_neg, Int64.sub_eq_add_neg]
theorem blow_step {f : Nat} {J Y : J2} {z : Nat → Nat} (hX : XR n I P X) (hS : SB n I P) (hC : CInv n P) (hB : 1000 ≤ B ∧ B ≤ 3000000) (hf : f < n 3) (hR : RD n J0 Y0 J Y) (hN : NB 2000000 B n J) : RD n J0 Y0 (fS I P f J) (syBlow z f X Y) ∧ NB 2000000 (B + 1) n (fS I P f J) := by
  have hr := hC.2.2.2.1 f hf
  have hN1 : NB 2000000 (B + 1) n J := fun r h => by
    obtain ⟨a, b, c, d⟩ := hN r h
    refine ⟨a, b, c, ?_⟩
    rw [Int.add_mul, Int.one_mul]
    omega
  rw [blow_y hX hS hC hf hR (hN (P 4 f) hr).1]
  by_cases c : I 99 0 < I 31 f
  · have c' : ¬ I 31 f ≤ I 99 0 := Int32.not_le.mpr c
    rw [if_pos c]
    unfold fS m_bsm m_bht m_bout
    rw [if_neg c', if_neg c', if_neg c', Int64.add_zero]
    have e : sRo J (P 4 f) (J 1 (P 4 f)) (J 2 (P 4 f)) = J := by
      unfold sRo
      rw [up2_id]
      exact up2_id J 2 (P 4 f)
    rw [e, show up2 J 99 2 (J 99 2) = J from up2_id J 99 2]
    exact ⟨hR, hN1⟩
  · have c' : I 31 f ≤ I 99 0 := Int32.not_lt.mp c
    rw [if_neg c]
    unfold fS m_bsm m_bht m_bout
    rw [if_pos c', if_pos c', if_pos c']
    refine ⟨(hR.room hr _ _).acc (k := 2) (by decide) _, NB.acc (hN1.room (Int.le_refl _) ?_) (by decide) (by decide)⟩
    obtain ⟨s1, s2, s3, s4⟩ := hN (P 4 f) hr
    have hra := hS.2.2.2.1 f hf
    have hv : 0 ≤ (m_bl (I 32 f) (J 1 (P 4 f))).toInt ∧ (m_bl (I 32 f) (J 1 (P 4 f))).toInt ≤ (J 1 (P 4 f)).toInt ∧ (m_bl (I 32 f) (J 1 (P 4 f))).toInt ≤ 100000 := by
      unfold m_bl m_min
      split
      · rename_i g
        rw [L_lt, W_l] at g
        omega
      · rename_i g
        rw [L_lt, W_l] at g
        rw [W_l]
        omega
    generalize m_bl (I 32 f) (J 1 (P 4 f)) = v at hv ⊢
    generalize J 1 (P 4 f) = s at *
    generalize J 2 (P 4 f) = h at *
    have e1 : (s + -v).toInt = s.toInt - v.toInt := by
      rw [L_add (by rw [L_neg (by omega)]; omega) (by rw [L_neg (by omega)]; omega), L_neg (by omega)]
      omega
    by_cases z1 : s.toInt = 0
    · have h0 : h.toInt = 0 := by rw [z1] at s4; simp at s4; omega
      have hw : m_hw s h v = 0 := by
        unfold m_hw
        rw [if_neg (fun q => by have := L_le.mp q; rw [l1] at this; omega)]
      rw [e1, hw, neg0, Int64.add_zero, h0]
      have : s.toInt - v.toInt = 0 := by omega
      rw [this]
      omega
    · have hbs := mul_bd (a := B) (b := s.toInt) (A := 3000000) (B := 2000000) (by omega) s1 hB.2 s2
      have hm := mul_bd (a := h.toInt) (b := v.toInt) (A := 6000000000000) (B := 100000) s3 hv.1 (by omega) hv.2.2
      have hw := hw_eq (s := s) (h := h) (v := v) (by omega) hv.1 s3 (by omega)
      obtain ⟨t1, t2, t3⟩ := take_bd (h := h.toInt) (s := s.toInt) (v := v.toInt) (B := B) (by omega) hv.1 hv.2.1 s3 s4
      have e2 : (h + -(m_hw s h v)).toInt = h.toInt - h.toInt * v.toInt / s.toInt := by
        rw [L_add (by rw [L_neg (by rw [hw]; omega), hw]; omega) (by rw [L_neg (by rw [hw]; omega), hw]; omega), L_neg (by rw [hw]; omega), hw]
        omega
      rw [e1, e2]
      omega
theorem blow_sim (hX : XR n I P X) (hS : SB n I P) (hC : CInv n P) : ∀ (k i : Nat) (B : Int) (J Y : J2), 1000 ≤ B ∧ B + k ≤ 3000000 → i + k = n 3 → RD n J0 Y0 J Y → NB 2000000 B n J → RD n J0 Y0 (fL I P k i J) (lBlow k i (X, Y)).2 ∧ (lBlow k i (X, Y)).1 = X ∧ NB 2000000 (B + k) n (fL I P k i J) := by
  intro k
  induction k with
  | zero =>
    intro i B J Y hB hi hR hN
    exact ⟨hR, rfl, by rw [show B + ((0 : Nat) : Int) = B by omega]; exact hN⟩
  | succ k ih =>
    intro i B J Y hB hi hR hN
    obtain ⟨h1, h2⟩ := blow_step (z := fun _ => 0) hX hS hC (B := B) (by omega) (show i < n 3 by omega) hR hN
    have := ih (i + 1) (B + 1) (fS I P i J) _ (by omega) (by omega) h1 h2
    rw [show B + 1 + (k : Int) = B + ((k + 1 : Nat) : Int) by omega] at this
    exact this
/-- each room holds what its area and height say -/
def HO (n : Nat → Nat) (I : I2) (J : J2) : Prop := ∀ r, r < n 0 → J 0 r = Int32.toInt64 (I 0 r) * Int32.toInt64 (I 1 r)
theorem HO.bd {J : J2} (h : HO n I J) (hS : SB n I P) {r : Nat} (hr : r < n 0) : 1 ≤ (J 0 r).toInt ∧ (J 0 r).toInt ≤ 1000000 := by
  obtain ⟨a1, a2, a3, a4⟩ := hS.1 r hr
  have hm := mul_bd (a := (I 0 r).toInt) (b := (I 1 r).toInt) (A := 10000) (B := 100) (by omega) (by omega) a2 a4
  have h1 : 1 * 1 ≤ (I 0 r).toInt * (I 1 r).toInt := Int.mul_le_mul a1 a3 (by decide) (by omega)
  rw [h r hr, L_mul (by rw [W_l, W_l]; omega) (by rw [W_l, W_l]; omega), W_l, W_l]
  omega
theorem press_step {r : Nat} {J Y : J2} {z : Nat → Nat} (hX : XR n I P X) (hS : SB n I P) (hB : 1000 ≤ B ∧ B ≤ 3000000) (hr : r < n 0) (hR : RD n J0 Y0 J Y) (hN : NB 2000000 B n J) (hH : HO n I J) (hB2 : B * 2000000 ≤ 6000000000000) : RD n J0 Y0 (pS r J) (syPress z r X Y) ∧ NB 2000000 B n (pS r J) ∧ HO n I (pS r J) ∧ (pS r J 1 r).toInt ≤ (J 0 r).toInt ∧ (∀ q, q ≠ r → pS r J 1 q = J 1 q) := by
  have hho := hH.bd hS hr
  have y5 := hR.1.1 r
  have y6 := hR.1.2.1 r
  have y46 := hR.1.2.2.2.2.2.2.2.2.2
  obtain ⟨⟨x3, x4, _⟩, _⟩ := hX
  have hH2 : HO n I (pS r J) := fun q hq => by simp [pS, sRo, up2, hH q hq]
  have hO : ∀ q, q ≠ r → pS r J 1 q = J 1 q := fun q hq => by simp [pS, sRo, up2, hq]
  have hv : pS r J 1 r = m_psm (J 0 r) (J 1 r) := by simp [pS, sRo, up2]
  unfold syPress
  rw [x3, x4, y5, y6, y46, ← hH r hr]
  by_cases c : J 1 r ≤ J 0 r
  · have c' : ¬ J 0 r < J 1 r := Int64.not_lt.mpr c
    have e : pS r J = J := by
      unfold pS m_psm m_pht m_pout
      rw [if_neg c', if_neg c', if_neg c', Int64.add_zero]
      have e : sRo J r (J 1 r) (J 2 r) = J := by
        unfold sRo
        rw [up2_id]
        exact up2_id J 2 r
      rw [e]
      exact up2_id J 99 3
    rw [if_pos c, e]
    exact ⟨hR, hN, hH, L_le.mp c, fun _ _ => rfl⟩
  · have c' : J 0 r < J 1 r := Int64.not_le.mp c
    have cl := L_lt.mp c'
    rw [if_neg c]
    refine ⟨?_, ?_, hH2, ?_, hO⟩
    · have e : up2 (up2 (up2 Y 6 r (J 2 r * J 0 r / J 1 r)) 46 0 (J 99 3 + (J 1 r - J 0 r))) 5 r (J 0 r) = up2 (up2 (up2 Y 5 r (J 0 r)) 6 r (J 2 r * J 0 r / J 1 r)) 46 0 (J 99 3 + (J 1 r - J 0 r)) := by
        funext a b
        simp only [up2]
        grind
      rw [e]
      unfold pS m_psm m_pht m_pout m_hw
      rw [if_pos c', if_pos c', if_pos c', if_pos (L_le.mpr (by rw [l1]; omega))]
      exact (hR.room hr _ _).acc (k := 3) (by decide) _
    · unfold pS m_psm m_pht m_pout
      rw [if_pos c', if_pos c', if_pos c']
      refine NB.acc (hN.room (Int.le_refl _) ?_) (by decide) (by decide)
      obtain ⟨s1, s2, s3, s4⟩ := hN r hr
      generalize J 1 r = s at *
      generalize J 2 r = h at *
      generalize J 0 r = o at *
      have hbs := mul_bd (a := B) (b := s.toInt) (A := B) (B := 2000000) (by omega) s1 (Int.le_refl _) s2
      have hm := mul_bd (a := h.toInt) (b := o.toInt) (A := 6000000000000) (B := 1000000) s3 (by omega) (by omega) hho.2
      rw [hw_eq (by omega) (by omega) s3 (by omega)]
      refine ⟨by omega, by omega, Int.ediv_nonneg hm.1 (by omega), ?_⟩
      refine Int.ediv_le_of_le_mul (by omega) ?_
      calc h.toInt * o.toInt ≤ B * s.toInt * o.toInt := Int.mul_le_mul_of_nonneg_right s4 (by omega)
        _ = B * o.toInt * s.toInt := by rw [Int.mul_assoc, Int.mul_comm s.toInt, Int.mul_assoc]
    · rw [hv]
      unfold m_psm
      rw [if_pos c']
      exact Int.le_refl _
theorem press_sim (hX : XR n I P X) (hS : SB n I P) (hB : 1000 ≤ B ∧ B ≤ 3000000) : ∀ (k i : Nat) (J Y : J2), i + k = n 0 → RD n J0 Y0 J Y → NB 2000000 B n J → HO n I J → (∀ r, r < i → (J 1 r).toInt ≤ (J 0 r).toInt) → RD n J0 Y0 (pL k i J) (lPress k i (X, Y)).2 ∧ (lPress k i (X, Y)).1 = X ∧ NB 2000000 B n (pL k i J) ∧ (∀ r, r < n 0 → (pL k i J 1 r).toInt ≤ (pL k i J 0 r).toInt) := by
  intro k
  induction k with
  | zero =>
    intro i J Y hi hR hN hH hL
    exact ⟨hR, rfl, hN, fun r hr => hL r (by omega)⟩
  | succ k ih =>
    intro i J Y hi hR hN hH hL
    have hb2 : B * 2000000 ≤ 6000000000000 := by omega
    obtain ⟨h1, h2, h3, h4, h5⟩ := press_step (z := fun _ => 0) hX hS hB (show i < n 0 by omega) hR hN hH hb2
    refine ih (i + 1) (pS i J) _ (by omega) h1 h2 h3 (fun r hr => ?_)
    have e0 : pS i J 0 r = J 0 r := by simp [pS, sRo, up2]
    rw [e0]
    by_cases e : r = i
    · subst e
      exact h4
    · rw [h5 r e]
      exact hL r (by omega)
end BL
