theorem up2_id {α : Type} (g : Nat → Nat → α) (k i : Nat) : up2 g k i (g k i) = g := by
  funext a b
  simp only [up2]
  split
  · rename_i h
    rw [h.1, h.2]
  · rfl
theorem up2_comm {α : Type} (g : Nat → Nat → α) {k i k' i' : Nat} (h : ¬ (k = k' ∧ i = i')) (v w : α) : up2 (up2 g k i v) k' i' w = up2 (up2 g k' i' w) k i v := by
  funext a b
  simp only [up2]
  grind
theorem up2_same {α : Type} (g : Nat → Nat → α) (k i : Nat) (v w : α) : up2 (up2 g k i v) k i w = up2 g k i w := by
  funext a b
  simp only [up2]
  grind
section ST
variable {n : Nat → Nat} {I X : I2} {P : P2} {J0 Y0 : J2} {B : Int} {T : Nat}
theorem age_eq {f : Nat} (hS : SB n I P) (hT : I 99 0 = nI T) (hT2 : T ≤ 100000) (hf : f < n 2) (hle : I 21 f ≤ I 99 0) : (I 99 0 - I 21 f).toInt = T - (I 21 f).toInt ∧ Int32.toInt64 ((I 99 0 - I 21 f) + 1) = Int32.toInt64 (I 99 0 - I 21 f) + 1 := by
  obtain ⟨a1, a2, _⟩ := hS.2.2.1 f hf
  have t : (I 99 0).toInt = T := by rw [hT]; exact nI_toInt (by omega)
  have hl := I_le.mp hle
  have e : (I 99 0 - I 21 f).toInt = T - (I 21 f).toInt := by rw [I_sub (by omega) (by omega), t]
  refine ⟨e, L_ext ?_⟩
  rw [W_l, I_add (by rw [i1]; omega) (by rw [i1]; omega), L_add (by rw [W_l, l1]; omega) (by rw [W_l, l1]; omega), W_l, l1, i1]
theorem f1_bd {f : Nat} (hS : SB n I P) (hT : I 99 0 = nI T) (hT2 : T ≤ 100000) (hf : f < n 2) (hle : I 21 f ≤ I 99 0) (sa : Int32) : 0 ≤ (m_f1 (I 21 f) (I 99 0) (I 22 f) (I 23 f) sa).toInt ∧ (m_f1 (I 21 f) (I 99 0) (I 22 f) (I 23 f) sa).toInt ≤ 100000 := by
  obtain ⟨a1, a2, a3, a4, a5, a6, a7, a8⟩ := hS.2.2.1 f hf
  obtain ⟨e1, e2⟩ := age_eq hS hT hT2 hf hle
  have hl := I_le.mp hle
  have t : (I 99 0).toInt = T := by rw [hT]; exact nI_toInt (by omega)
  have e3 : (Int32.toInt64 ((I 99 0 - I 21 f) + 1)).toInt = T - (I 21 f).toInt + 1 := by
    rw [W_l, I_add (by rw [i1]; omega) (by rw [i1]; omega), e1, i1]
  have hm := mul_bd (a := T - (I 21 f).toInt + 1) (b := (I 22 f).toInt) (A := 100001) (B := 1000) (by omega) (by omega) (by omega) (by omega)
  have e4 : (Int32.toInt64 ((I 99 0 - I 21 f) + 1) * Int32.toInt64 (I 22 f)).toInt = (T - (I 21 f).toInt + 1) * (I 22 f).toInt := by
    rw [L_mul (by rw [e3, W_l]; omega) (by rw [e3, W_l]; omega), e3, W_l]
  have h0 : 0 ≤ (m_f0 (I 21 f) (I 99 0) (I 22 f) (I 23 f)).toInt ∧ (m_f0 (I 21 f) (I 99 0) (I 22 f) (I 23 f)).toInt ≤ 100000 := by
    unfold m_f0 m_min
    split
    · rw [W_l]; omega
    · rename_i c
      rw [L_lt, e4, W_l] at c
      rw [e4]; omega
  unfold m_f1
  split
  · exact h0
  · rw [L_div h0.1 (by rw [l2]; decide), l2]; omega
theorem burn_y {f : Nat} {Y : J2} (hX : XR n I P X) (hS : SB n I P) (hC : CInv n P) (hT : I 99 0 = nI T) (hT2 : T ≤ 100000) (hf : f < n 2) (z : Nat → Nat) : syBurn z f X Y = if I 99 0 < I 21 f then Y else up2 (up2 (up2 Y 5 (P 3 f) (Y 5 (P 3 f) + m_f1 (I 21 f) (I 99 0) (I 22 f) (I 23 f) (I 3 (P 3 f)))) 6 (P 3 f) (Y 6 (P 3 f) + m_f1 (I 21 f) (I 99 0) (I 22 f) (I 23 f) (I 3 (P 3 f)) * Int32.toInt64 (I 24 f))) 43 0 (Y 43 0 + m_f1 (I 21 f) (I 99 0) (I 22 f) (I 23 f) (I 3 (P 3 f))) := by
  obtain ⟨⟨x3, x4, x7, x8, x9⟩, _, ⟨x22, x23, x24, x25, x26⟩, _, _, _, x1, x2, _⟩ := hX
  have h1 := hC.2.2.1 f hf
  have h2 := hC.1 0 (by decide)
  have hc : (nI (P 3 f)).toNatClampNeg = P 3 f := nI_clamp (by simp only [cap] at h2; omega)
  unfold syBurn
  rw [x1, x22, x23, x24, x25, x26, hc, x8]
  by_cases c : I 99 0 < I 21 f
  · rw [if_pos c, if_pos c]
  · rw [if_neg c, if_neg c]
    have e2 := (age_eq hS hT hT2 hf (Int32.not_lt.mp c)).2
    unfold m_f1 m_f0 m_min
    rw [e2]
    generalize (Int32.toInt64 (I 99 0 - I 21 f) + 1) * Int32.toInt64 (I 22 f) = a
    generalize Int32.toInt64 (I 23 f) = m
    by_cases d : a ≤ m
    · rw [if_pos d, if_neg (Int64.not_lt.mpr d)]
      split <;> rfl
    · rw [if_neg d, if_pos (Int64.not_le.mp d)]
      split <;> rfl
theorem burn_step {f : Nat} {J Y : J2} {M : Int} (hX : XR n I P X) (hS : SB n I P) (hC : CInv n P) (hT : I 99 0 = nI T) (hT2 : T ≤ 100000) (hB : 1000 ≤ B ∧ B ≤ 3000000) (hM : 0 ≤ M ∧ M ≤ 2000000) (hf : f < n 2) (hR : RD n J0 Y0 J Y) (hN : NB M B n J) (z : Nat → Nat) : RD n J0 Y0 (bS I P f J) (syBurn z f X Y) ∧ NB (M + 100000) B n (bS I P f J) := by
  have hr := hC.2.2.1 f hf
  rw [burn_y hX hS hC hT hT2 hf z]
  by_cases c : I 99 0 < I 21 f
  · have c' : ¬ I 21 f ≤ I 99 0 := Int32.not_le.mpr c
    rw [if_pos c]
    unfold bS m_fsm m_fht m_fout
    rw [if_neg c', if_neg c', if_neg c', Int64.add_zero]
    have e : sRo J (P 3 f) (J 1 (P 3 f)) (J 2 (P 3 f)) = J := by
      unfold sRo
      rw [up2_id]
      exact up2_id J 2 (P 3 f)
    rw [e, show up2 J 99 0 (J 99 0) = J from up2_id J 99 0]
    exact ⟨hR, fun r h => by have := hN r h; omega⟩
  · have c' : I 21 f ≤ I 99 0 := Int32.not_lt.mp c
    have hb := f1_bd hS hT hT2 hf c' (I 3 (P 3 f))
    rw [if_neg c]
    unfold bS m_fsm m_fht m_fout
    rw [if_pos c', if_pos c', if_pos c']
    generalize m_f1 (I 21 f) (I 99 0) (I 22 f) (I 23 f) (I 3 (P 3 f)) = v at hb ⊢
    obtain ⟨s1, s2, s3, s4⟩ := hN (P 3 f) hr
    obtain ⟨_, _, _, _, _, _, a7, a8⟩ := hS.2.2.1 f hf
    have hm := mul_bd (a := B) (b := (J 1 (P 3 f)).toInt) (A := 3000000) (B := 2000000) (by omega) s1 hB.2 (by omega)
    have hm2 := mul_bd (a := v.toInt) (b := (I 24 f).toInt) (A := 100000) (B := 1000) hb.1 a7 hb.2 a8
    have hm3 : v.toInt * (I 24 f).toInt ≤ v.toInt * B := Int.mul_le_mul_of_nonneg_left (by omega) hb.1
    have e1 : (J 1 (P 3 f) + v).toInt = (J 1 (P 3 f)).toInt + v.toInt := L_add (by omega) (by omega)
    have e2 : (v * Int32.toInt64 (I 24 f)).toInt = v.toInt * (I 24 f).toInt := by rw [L_mul (by rw [W_l]; omega) (by rw [W_l]; omega), W_l]
    have e3 : (J 2 (P 3 f) + v * Int32.toInt64 (I 24 f)).toInt = (J 2 (P 3 f)).toInt + v.toInt * (I 24 f).toInt := by rw [L_add (by rw [e2]; omega) (by rw [e2]; omega), e2]
    refine ⟨?_, ?_⟩
    · rw [hR.1.1, hR.1.2.1, hR.1.2.2.2.2.2.2.1]
      exact (hR.room hr _ _).acc (k := 0) (by decide) _
    · refine NB.acc (hN.room (by omega) ?_) (by decide) (by decide)
      rw [e1, e3, Int.mul_add, Int.mul_comm B v.toInt]
      omega
theorem burn_sim (hX : XR n I P X) (hS : SB n I P) (hC : CInv n P) (hT : I 99 0 = nI T) (hT2 : T ≤ 100000) (hB : 1000 ≤ B ∧ B ≤ 3000000) : ∀ (k i : Nat) (J Y : J2), i + k = n 2 → RD n J0 Y0 J Y → NB (1000000 + 100000 * (i : Int)) B n J → RD n J0 Y0 (bL I P k i J) (lBurn k i (X, Y)).2 ∧ (lBurn k i (X, Y)).1 = X ∧ NB 1500000 B n (bL I P k i J) := by
  have h5 : n 2 ≤ 5 := hC.1 2 (by decide)
  intro k
  induction k with
  | zero =>
    intro i J Y hi hR hN
    exact ⟨hR, rfl, fun r h => by have := hN r h; show 0 ≤ (J 1 r).toInt ∧ (J 1 r).toInt ≤ 1500000 ∧ 0 ≤ (J 2 r).toInt ∧ (J 2 r).toInt ≤ B * (J 1 r).toInt; omega⟩
  | succ k ih =>
    intro i J Y hi hR hN
    obtain ⟨h1, h2⟩ := burn_step hX hS hC hT hT2 hB (by omega) (show i < n 2 by omega) hR hN (fun _ => 0)
    exact ih (i + 1) (bS I P i J) _ (by omega) h1 (fun r h => by have := h2 r h; omega)
end ST
