/-! the public operations: class against model -/
theorem min_z {v a b : Int32} : m_in v a b = 0 ↔ ¬ (a ≤ v ∧ v ≤ b) := by
  unfold m_in
  simp only [I_lt, I_le]
  split
  · exact ⟨fun _ => by omega, fun _ => by trivial⟩
  · split
    · exact ⟨fun _ => by omega, fun _ => by trivial⟩
    · exact ⟨fun h => absurd h (by decide), fun h => absurd h (by omega)⟩
theorem min_n {p : Int32} {c : Nat} (hc : c ≤ 100) : m_in p 0 (nI c - 1) = 0 ↔ ¬ (0 ≤ p ∧ p < nI c) := by
  have e : (nI c).toInt = c := nI_toInt (by omega)
  have e1 : (nI c - 1).toInt = (c : Int) - 1 := by
    rw [I_sub (by rw [e, i1]; omega) (by rw [e, i1]; omega), e, i1]
  rw [min_z, I_le, I_le, I_lt, e, e1, i0]
  omega
theorem mro_z {X : I2} {c : Nat} {p : Int32} (h2 : X 2 0 = nI c) (hc : c ≤ 100) : mo_ro X p = 0 ↔ ¬ (p = (-1) ∨ ¬ m_isR c p = 0) := by
  have e : (nI c).toInt = c := nI_toInt (by omega)
  unfold mo_ro m_isR
  by_cases q : p = (-1)
  · rw [if_pos q]
    exact ⟨fun h => absurd h (by decide), fun h => absurd (Or.inl q) h⟩
  · rw [if_neg q, h2]
    have z := min_n (p := p) (c := c) hc
    by_cases w : m_in p 0 (nI c - 1) = 0
    · rw [if_pos w]
      have := z.mp w
      rw [I_le, I_lt, e, i0] at this
      refine ⟨fun _ h => ?_, fun _ => by trivial⟩
      rcases h with h | h
      · exact q h
      · apply h
        by_cases w1 : p < 0
        · rw [if_pos w1]
        · rw [if_neg w1, if_pos]
          rw [I_lt, i0] at w1
          rw [I_le, e]
          omega
    · rw [if_neg w]
      have : 0 ≤ p ∧ p < nI c := Classical.not_not.mp (fun h => w (z.mpr h))
      rw [I_le, I_lt, e, i0] at this
      refine ⟨fun h => absurd h (by decide), fun h => absurd (Or.inr ?_) h⟩
      rw [if_neg (by rw [I_lt, i0]; omega), if_neg (by rw [I_le, e]; omega)]
      decide
theorem full_z {c N : Nat} (h : c ≤ N) (hN : N ≤ 100) : nI c = nI N ↔ ¬ nI c < nI N := by
  rw [nI_eq (by omega) (by omega), nI_ltI (by omega) (by omega)]
  omega
theorem num_in {p : Int32} {c : Nat} (hc : c ≤ 100) (h : 0 ≤ p ∧ p < nI c) : p = nI p.toNatClampNeg ∧ p.toNatClampNeg < c := by
  obtain ⟨r, hr, q⟩ := num_of h hc
  subst q
  rw [nI_clamp (by omega)]
  exact ⟨rfl, hr⟩
section OPS
variable {n : Nat → Nat} {I X : I2} {P : P2} {J Y : J2} {T : Nat}
theorem SIMt.code (h : SIMt n I J P X Y T) (c : Int32) : SIMt n I J P (up2 X 0 0 c) Y T := by
  obtain ⟨hT, hX, hS, hC, hRJ, hDZ, hHO, hNB, hle, h34, h38, hDI, hDF⟩ := h
  obtain ⟨⟨x3, x4, x7, x8, x9⟩, ⟨x11, x12, x13, x14, x15, x16, x17⟩, ⟨x22, x23, x24, x25, x26⟩, ⟨x28, x29, x30⟩, ⟨x32, x33⟩, ⟨x36, x39, x40, x41⟩, x1, x2, x10, x21, x27, x31, x35⟩ := hX
  have k : ∀ a b, a ≠ 0 → up2 X 0 0 c a b = X a b := fun a b h => up2_ne _ _ _ _ (fun e => h e.1)
  refine ⟨hT, ⟨⟨?_, ?_, ?_, ?_, ?_⟩, ⟨?_, ?_, ?_, ?_, ?_, ?_, ?_⟩, ⟨?_, ?_, ?_, ?_, ?_⟩, ⟨?_, ?_, ?_⟩, ⟨?_, ?_⟩, ⟨?_, ?_, ?_, ?_⟩, ?_, ?_, ?_, ?_, ?_, ?_, ?_⟩, hS, hC, hRJ, hDZ, hHO, hNB, hle, h34, ?_, ⟨hDI.1, hDI.2.1, hDI.2.2.1, ?_, hDI.2.2.2.2⟩, hDF⟩
  all_goals simp only [k _ _ (by decide : (1 : Nat) ≠ 0), k _ _ (by decide : (2 : Nat) ≠ 0), k _ _ (by decide : (3 : Nat) ≠ 0), k _ _ (by decide : (4 : Nat) ≠ 0), k _ _ (by decide : (7 : Nat) ≠ 0), k _ _ (by decide : (8 : Nat) ≠ 0), k _ _ (by decide : (9 : Nat) ≠ 0), k _ _ (by decide : (10 : Nat) ≠ 0), k _ _ (by decide : (11 : Nat) ≠ 0), k _ _ (by decide : (12 : Nat) ≠ 0), k _ _ (by decide : (13 : Nat) ≠ 0), k _ _ (by decide : (14 : Nat) ≠ 0), k _ _ (by decide : (15 : Nat) ≠ 0), k _ _ (by decide : (16 : Nat) ≠ 0), k _ _ (by decide : (17 : Nat) ≠ 0), k _ _ (by decide : (21 : Nat) ≠ 0), k _ _ (by decide : (22 : Nat) ≠ 0), k _ _ (by decide : (23 : Nat) ≠ 0), k _ _ (by decide : (24 : Nat) ≠ 0), k _ _ (by decide : (25 : Nat) ≠ 0), k _ _ (by decide : (26 : Nat) ≠ 0), k _ _ (by decide : (27 : Nat) ≠ 0), k _ _ (by decide : (28 : Nat) ≠ 0), k _ _ (by decide : (29 : Nat) ≠ 0), k _ _ (by decide : (30 : Nat) ≠ 0), k _ _ (by decide : (31 : Nat) ≠ 0), k _ _ (by decide : (32 : Nat) ≠ 0), k _ _ (by decide : (33 : Nat) ≠ 0), k _ _ (by decide : (35 : Nat) ≠ 0), k _ _ (by decide : (36 : Nat) ≠ 0), k _ _ (by decide : (38 : Nat) ≠ 0), k _ _ (by decide : (39 : Nat) ≠ 0), k _ _ (by decide : (40 : Nat) ≠ 0), k _ _ (by decide : (41 : Nat) ≠ 0), k _ _ (by decide : (42 : Nat) ≠ 0)]
  all_goals first | assumption | exact hDI.2.2.2.1
theorem lt_of_nI {c : Nat} (N : Nat) (hc : c ≤ 100) (hN : N ≤ 100) (h : nI c < nI N) : c < N := (nI_ltI (by omega) (by omega)).mp h
theorem x_room (h2 : X 2 0 = nI (n 0)) (hc : n 0 ≤ 10) (p1 p2 : Int32) : (kdRoom n p1 p2 = 0 → (1 ≤ p1 ∧ p1 ≤ 10000) ∧ (1 ≤ p2 ∧ p2 ≤ 100) ∧ n 0 < 10 ∧ xMroom X Y p1 p2 = up2 (up2 (up2 (up2 (up2 X 0 0 0) 3 (n 0) p1) 4 (n 0) p2) 9 (n 0) (-1)) 2 0 (nI (n 0 + 1)) ∧ vMroom X Y p1 p2 = nI (n 0)) ∧ (¬ kdRoom n p1 p2 = 0 → xMroom X Y p1 p2 = up2 X 0 0 (kdRoom n p1 p2)) := by
  have e10 : nI (n 0) = 10 ↔ ¬ nI (n 0) < 10 := full_z (N := 10) hc (by decide)
  unfold kdRoom xMroom vMroom
  simp only [min_z, h2, e10, nI_clamp (show n 0 < 2 ^ 31 by omega), nI_1, nI_pred]
  by_cases c1 : 1 ≤ p1 ∧ p1 ≤ 10000
  · by_cases c2 : 1 ≤ p2 ∧ p2 ≤ 100
    · by_cases c3 : nI (n 0) < 10
      · simp [c1, c2, c3, lt_of_nI 10 (by omega) (by omega) c3]
      · simp [c1, c2, c3]
    · simp [c1, c2]
  · simp [c1]
theorem x_steel (h2 : X 2 0 = nI (n 0)) (hc : n 0 ≤ 10) (h31 : X 31 0 = nI (n 4)) (hc4 : n 4 ≤ 9) (p1 p2 : Int32) : (kdSteel n p1 p2 = 0 → (0 ≤ p1 ∧ p1 < nI (n 0)) ∧ (1 ≤ p2 ∧ p2 ≤ 1000) ∧ n 4 < 9 ∧ xMsteel X Y p1 p2 = up2 (up2 (up2 (up2 X 0 0 0) 32 (n 4) p1) 33 (n 4) p2) 31 0 (nI (n 4 + 1)) ∧ vMsteel X Y p1 p2 = nI (n 4)) ∧ (¬ kdSteel n p1 p2 = 0 → xMsteel X Y p1 p2 = up2 X 0 0 (kdSteel n p1 p2)) := by
  have e10 : nI (n 4) = 9 ↔ ¬ nI (n 4) < 9 := full_z (N := 9) hc4 (by decide)
  unfold kdSteel xMsteel vMsteel
  simp only [h2, min_n (show n 0 ≤ 100 by omega), min_z, h31, e10, nI_clamp (show n 4 < 2 ^ 31 by omega), nI_1, nI_pred]
  by_cases c1 : 0 ≤ p1 ∧ p1 < nI (n 0)
  · by_cases c2 : 1 ≤ p2 ∧ p2 ≤ 1000
    · by_cases c3 : nI (n 4) < 9
      · simp [c1, c2, c3, lt_of_nI 9 (by omega) (by omega) c3]
      · simp [c1, c2, c3]
    · simp [c1, c2]
  · simp [c1]
theorem x_fan (h1 : X 1 0 = I 99 0) (h2 : X 2 0 = nI (n 0)) (hc : n 0 ≤ 10) (h27 : X 27 0 = nI (n 3)) (hc3 : n 3 ≤ 9) (p1 p2 p3 : Int32) : (kdFan n I p1 p2 p3 = 0 → (0 ≤ p1 ∧ p1 < nI (n 0)) ∧ (1 ≤ p3 ∧ p3 ≤ 100000) ∧ n 3 < 9 ∧ xMfan X Y p1 p2 p3 = up2 (up2 (up2 (up2 (up2 X 0 0 0) 28 (n 3) p1) 29 (n 3) p2) 30 (n 3) p3) 27 0 (nI (n 3 + 1)) ∧ vMfan X Y p1 p2 p3 = nI (n 3)) ∧ (¬ kdFan n I p1 p2 p3 = 0 → xMfan X Y p1 p2 p3 = up2 X 0 0 (kdFan n I p1 p2 p3)) := by
  have e10 : nI (n 3) = 9 ↔ ¬ nI (n 3) < 9 := full_z (N := 9) hc3 (by decide)
  unfold kdFan xMfan vMfan
  simp only [h1, h2, min_n (show n 0 ≤ 100 by omega), min_z, h27, e10, nI_clamp (show n 3 < 2 ^ 31 by omega), nI_1, nI_pred]
  by_cases c1 : 0 ≤ p1 ∧ p1 < nI (n 0)
  · by_cases c2 : I 99 0 ≤ p2 ∧ p2 ≤ 100000
    · by_cases c4 : 1 ≤ p3 ∧ p3 ≤ 100000
      · by_cases c3 : nI (n 3) < 9
        · simp [c1, c2, c3, c4, lt_of_nI 9 (by omega) (by omega) c3]
        · simp [c1, c2, c3, c4]
      · simp [c1, c2, c4]
    · simp [c1, c2]
  · simp [c1]
theorem x_fire (h1 : X 1 0 = I 99 0) (h2 : X 2 0 = nI (n 0)) (hc : n 0 ≤ 10) (h21 : X 21 0 = nI (n 2)) (hc2 : n 2 ≤ 5) (p1 p2 p3 p4 p5 : Int32) : (kdFire n I p1 p2 p3 p4 p5 = 0 → (0 ≤ p1 ∧ p1 < nI (n 0)) ∧ (I 99 0 ≤ p2 ∧ p2 ≤ 100000) ∧ (1 ≤ p3 ∧ p3 ≤ 1000) ∧ (1 ≤ p4 ∧ p4 ≤ 100000) ∧ (0 ≤ p5 ∧ p5 ≤ 1000) ∧ n 2 < 5 ∧ xMfire X Y p1 p2 p3 p4 p5 = up2 (up2 (up2 (up2 (up2 (up2 (up2 X 0 0 0) 22 (n 2) p1) 23 (n 2) p2) 24 (n 2) p3) 25 (n 2) p4) 26 (n 2) p5) 21 0 (nI (n 2 + 1)) ∧ vMfire X Y p1 p2 p3 p4 p5 = nI (n 2)) ∧ (¬ kdFire n I p1 p2 p3 p4 p5 = 0 → xMfire X Y p1 p2 p3 p4 p5 = up2 X 0 0 (kdFire n I p1 p2 p3 p4 p5)) := by
  have e10 : nI (n 2) = 5 ↔ ¬ nI (n 2) < 5 := full_z (N := 5) hc2 (by decide)
  unfold kdFire xMfire vMfire
  simp only [h1, h2, min_n (show n 0 ≤ 100 by omega), min_z, h21, e10, nI_clamp (show n 2 < 2 ^ 31 by omega), nI_1, nI_pred]
  by_cases c1 : 0 ≤ p1 ∧ p1 < nI (n 0)
  · by_cases c2 : I 99 0 ≤ p2 ∧ p2 ≤ 100000
    · by_cases c4 : 1 ≤ p3 ∧ p3 ≤ 1000
      · by_cases c5 : 1 ≤ p4 ∧ p4 ≤ 100000
        · by_cases c6 : 0 ≤ p5 ∧ p5 ≤ 1000
          · by_cases c3 : nI (n 2) < 5
            · simp [c1, c2, c3, c4, c5, c6, lt_of_nI 5 (by omega) (by omega) c3]
            · simp [c1, c2, c3, c4, c5, c6]
          · simp [c1, c2, c4, c5, c6]
        · simp [c1, c2, c4, c5]
      · simp [c1, c2, c4]
    · simp [c1, c2]
  · simp [c1]
theorem x_glass (h10 : X 10 0 = nI (n 1)) (hc : n 1 ≤ 15) (h16 : ∀ i, X 16 i = gl0 (I 15 i)) (hv : ∀ o, o < n 1 → I 15 o = (-1) ∨ 1 ≤ (I 15 o).toInt) (p1 p2 : Int32) : (kdGlass n I p1 p2 = 0 → (0 ≤ p1 ∧ p1 < nI (n 1)) ∧ (1 ≤ p2 ∧ p2 ≤ 1000) ∧ I 15 p1.toNatClampNeg = (-1) ∧ xMglass X Y p1 p2 = up2 (up2 (up2 X 0 0 0) 16 p1.toNatClampNeg p2) 17 p1.toNatClampNeg 0) ∧ (¬ kdGlass n I p1 p2 = 0 → xMglass X Y p1 p2 = up2 X 0 0 (kdGlass n I p1 p2)) := by
  unfold kdGlass xMglass
  simp only [h10, min_n (show n 1 ≤ 100 by omega), min_z, h16]
  by_cases c1 : 0 ≤ p1 ∧ p1 < nI (n 1)
  · have e : gl0 (I 15 p1.toNatClampNeg) ≤ 0 ↔ I 15 p1.toNatClampNeg = (-1) := by
      unfold gl0
      split
      · rename_i q; exact ⟨fun _ => q, fun _ => by decide⟩
      · rename_i q
        rcases hv _ (num_in (by omega) c1).2 with z | z
        · exact absurd z q
        · rw [I_le, i0]
          exact ⟨fun _ => by omega, fun w => absurd w q⟩
    simp only [e]
    by_cases c2 : 1 ≤ p2 ∧ p2 ≤ 1000
    · by_cases c3 : I 15 p1.toNatClampNeg = (-1)
      · simp [c1, c2, c3]
      · simp [c1, c2, c3]
    · simp [c1, c2]
  · simp [c1]
theorem x_spr (h2 : X 2 0 = nI (n 0)) (hc : n 0 ≤ 10) (h7 : ∀ i, X 7 i = gl0 (I 2 i)) (hv : ∀ o, o < n 0 → I 2 o = (-1) ∨ 1 ≤ (I 2 o).toInt) (p1 p2 : Int32) : (kdSpr n I p1 p2 = 0 → (0 ≤ p1 ∧ p1 < nI (n 0)) ∧ (1 ≤ p2 ∧ p2 ≤ 1000) ∧ I 2 p1.toNatClampNeg = (-1) ∧ xMspr X Y p1 p2 = up2 (up2 X 0 0 0) 7 p1.toNatClampNeg p2) ∧ (¬ kdSpr n I p1 p2 = 0 → xMspr X Y p1 p2 = up2 X 0 0 (kdSpr n I p1 p2)) := by
  unfold kdSpr xMspr
  simp only [h2, min_n (show n 0 ≤ 100 by omega), min_z, h7]
  by_cases c1 : 0 ≤ p1 ∧ p1 < nI (n 0)
  · have e : gl0 (I 2 p1.toNatClampNeg) ≤ 0 ↔ I 2 p1.toNatClampNeg = (-1) := by
      unfold gl0
      split
      · rename_i q; exact ⟨fun _ => q, fun _ => by decide⟩
      · rename_i q
        rcases hv _ (num_in (by omega) c1).2 with z | z
        · exact absurd z q
        · rw [I_le, i0]
          exact ⟨fun _ => by omega, fun w => absurd w q⟩
    simp only [e]
    by_cases c2 : 1 ≤ p2 ∧ p2 ≤ 1000
    · by_cases c3 : I 2 p1.toNatClampNeg = (-1)
      · simp [c1, c2, c3]
      · simp [c1, c2, c3]
    · simp [c1, c2]
  · simp [c1]
theorem x_pers (h2 : X 2 0 = nI (n 0)) (hc : n 0 ≤ 10) (h35 : X 35 0 = nI (n 5)) (hc5 : n 5 ≤ 9) (p1 : Int32) : (kdPers n p1 = 0 → (p1 = (-1) ∨ ¬ m_isR (n 0) p1 = 0) ∧ n 5 < 9 ∧ xMpers X Y p1 = up2 (up2 (up2 X 0 0 0) 36 (n 5) p1) 35 0 (nI (n 5 + 1)) ∧ vMpers X Y p1 = nI (n 5)) ∧ (¬ kdPers n p1 = 0 → xMpers X Y p1 = up2 X 0 0 (kdPers n p1)) := by
  have e10 : nI (n 5) = 9 ↔ ¬ nI (n 5) < 9 := full_z (N := 9) hc5 (by decide)
  unfold kdPers xMpers vMpers
  simp only [mro_z h2 (show n 0 ≤ 100 by omega), h35, e10, nI_clamp (show n 5 < 2 ^ 31 by omega), nI_1, nI_pred]
  by_cases c1 : p1 = (-1) ∨ ¬ m_isR (n 0) p1 = 0
  · by_cases c3 : nI (n 5) < 9
    · simp only [if_pos c1, if_pos c3, if_neg (not_not_intro c1), if_neg (not_not_intro c3)]
      exact ⟨fun _ => ⟨c1, lt_of_nI 9 (by omega) (by omega) c3, by trivial, by trivial⟩, fun h => absurd (by trivial) h⟩
    · simp only [if_pos c1, if_neg c3, if_neg (not_not_intro c1), if_pos (show ¬ nI (n 5) < 9 from c3)]
      exact ⟨fun h => absurd h (by decide), fun _ => by trivial⟩
  · simp only [if_neg c1, if_pos (show ¬ (p1 = (-1) ∨ ¬ m_isR (n 0) p1 = 0) from c1)]
    exact ⟨fun h => absurd h (by decide), fun _ => by trivial⟩
theorem x_open (h2 : X 2 0 = nI (n 0)) (hc : n 0 ≤ 10) (h10 : X 10 0 = nI (n 1)) (hc1 : n 1 ≤ 15) (h4 : ∀ i, X 4 i = I 1 i) (p1 p2 p3 p4 p5 : Int32) : (kdOpen n I p1 p2 p3 p4 p5 = 0 → (0 ≤ p1 ∧ p1 < nI (n 0)) ∧ (p2 = (-1) ∨ ¬ m_isR (n 0) p2 = 0) ∧ ¬ p1 = p2 ∧ (1 ≤ p3.toInt ∧ p3.toInt ≤ 50) ∧ (0 ≤ p4.toInt ∧ p4.toInt < p5.toInt ∧ p5.toInt ≤ (I 1 p1.toNatClampNeg).toInt) ∧ (p2 = (-1) ∨ p5.toInt ≤ (I 1 p2.toNatClampNeg).toInt) ∧ n 1 < 15 ∧ xMopen X Y p1 p2 p3 p4 p5 = up2 (up2 (up2 (up2 (up2 (up2 (up2 (up2 X 0 0 0) 11 (n 1) p1) 12 (n 1) p2) 13 (n 1) p3) 14 (n 1) p4) 15 (n 1) p5) 17 (n 1) 1) 10 0 (nI (n 1 + 1)) ∧ vMopen X Y p1 p2 p3 p4 p5 = nI (n 1)) ∧ (¬ kdOpen n I p1 p2 p3 p4 p5 = 0 → xMopen X Y p1 p2 p3 p4 p5 = up2 X 0 0 (kdOpen n I p1 p2 p3 p4 p5)) := by
  have e10 : nI (n 1) = 15 ↔ ¬ nI (n 1) < 15 := full_z (N := 15) hc1 (by decide)
  unfold kdOpen xMopen vMopen
  simp only [h2, min_n (show n 0 ≤ 100 by omega), mro_z h2 (show n 0 ≤ 100 by omega), min_z, h10, h4, e10, nI_clamp (show n 1 < 2 ^ 31 by omega), nI_1, nI_pred]
  by_cases c1 : 0 ≤ p1 ∧ p1 < nI (n 0)
  · by_cases c2 : p2 = (-1) ∨ ¬ m_isR (n 0) p2 = 0
    · by_cases c3 : p1 = p2
      · simp only [if_pos c1, if_pos c2, if_pos c3, if_neg (not_not_intro c1), if_neg (not_not_intro c2)]
        exact ⟨fun h => absurd h (by decide), fun _ => by trivial⟩
      · simp only [if_pos c1, if_pos c2, if_neg c3, if_neg (not_not_intro c1), if_neg (not_not_intro c2)]
        by_cases c4 : 1 ≤ p3 ∧ p3 ≤ 50
        · simp only [if_pos c4, if_neg (not_not_intro c4)]
          have o1 := p5.le_toInt
          have o2 := p5.toInt_lt
          have t50 : (50 : Int32).toInt = 50 := by decide
          by_cases c5 : 1 ≤ p5 ∧ p5 ≤ I 1 p1.toNatClampNeg
          · have c5' := c5
            rw [I_le, I_le, i1] at c5'
            have e5 : (p5 - 1).toInt = p5.toInt - 1 := by rw [I_sub (by rw [i1]; omega) (by rw [i1]; omega), i1]
            rw [if_pos c5]
            by_cases c6 : 0 ≤ p4 ∧ p4 ≤ p5 - 1
            · have c6' := c6
              rw [I_le, I_le, i0, e5] at c6'
              have m1 : ¬ p4 < 0 := by rw [I_lt, i0]; omega
              have m2 : ¬ p5 ≤ p4 := by rw [I_le]; omega
              have m3 : ¬ I 1 p1.toNatClampNeg < p5 := by rw [I_lt]; omega
              rw [if_pos c6]
              simp only [if_neg m1, if_neg m2, if_neg m3]
              have c4' := c4
              rw [I_le, I_le, i1, t50] at c4'
              by_cases c7 : p2 = (-1)
              · simp only [if_pos c7]
                by_cases c8 : nI (n 1) < 15
                · simp only [if_pos c8, if_neg (not_not_intro c8)]
                  exact ⟨fun _ => ⟨c1, c2, c3, c4', ⟨c6'.1, by omega, c5'.2⟩, Or.inl c7, lt_of_nI 15 (by omega) (by omega) c8, by trivial, by trivial⟩, fun h => absurd (by trivial) h⟩
                · simp only [if_neg c8, if_pos (show ¬ nI (n 1) < 15 from c8)]
                  exact ⟨fun h => absurd h (by decide), fun _ => by trivial⟩
              · simp only [if_neg c7]
                by_cases c9 : I 1 p2.toNatClampNeg < p5
                · simp only [if_pos c9]
                  exact ⟨fun h => absurd h (by decide), fun _ => by trivial⟩
                · simp only [if_neg c9]
                  rw [I_lt] at c9
                  by_cases c8 : nI (n 1) < 15
                  · simp only [if_pos c8, if_neg (not_not_intro c8)]
                    exact ⟨fun _ => ⟨c1, c2, c3, c4', ⟨c6'.1, by omega, c5'.2⟩, Or.inr (by omega), lt_of_nI 15 (by omega) (by omega) c8, by trivial, by trivial⟩, fun h => absurd (by trivial) h⟩
                  · simp only [if_neg c8, if_pos (show ¬ nI (n 1) < 15 from c8)]
                    exact ⟨fun h => absurd h (by decide), fun _ => by trivial⟩
            · rw [if_neg c6]
              refine ⟨fun h => absurd h (by decide), fun _ => ?_⟩
              by_cases m1 : p4 < 0
              · rw [if_pos m1]
              · rw [if_neg m1]
                rw [I_lt, i0] at m1
                rw [if_pos]
                rw [I_le, I_le, i0, e5] at c6
                rw [I_le]
                omega
          · rw [if_neg c5]
            refine ⟨fun h => absurd h (by decide), fun _ => ?_⟩
            by_cases m1 : p4 < 0
            · rw [if_pos m1]
            · rw [if_neg m1]
              by_cases m2 : p5 ≤ p4
              · rw [if_pos m2]
              · rw [if_neg m2, if_pos]
                rw [I_lt, i0] at m1
                rw [I_le] at m2
                rw [I_le, I_le, i1] at c5
                rw [I_lt]
                omega
        · simp only [if_neg c4, if_pos (show ¬ (1 ≤ p3 ∧ p3 ≤ 50) from c4)]
          exact ⟨fun h => absurd h (by decide), fun _ => by trivial⟩
    · simp only [if_pos c1, if_neg c2, if_neg (not_not_intro c1), if_pos (show ¬ (p2 = (-1) ∨ ¬ m_isR (n 0) p2 = 0) from c2)]
      exact ⟨fun h => absurd h (by decide), fun _ => by trivial⟩
  · simp only [if_neg c1, if_pos (show ¬ (0 ≤ p1 ∧ p1 < nI (n 0)) from c1)]
    exact ⟨fun h => absurd h (by decide), fun _ => by trivial⟩
theorem x_go (h : SIMt n I J P X Y T) (p1 p2 p3 : Int32) : (kdGo n I P p1 p2 p3 = 0 → (0 ≤ p1 ∧ p1 < nI (n 5)) ∧ (p3 = (-1) ∨ ¬ m_isR (n 0) p3 = 0) ∧ P 6 p1.toNatClampNeg < 20 ∧ xMgo X Y p1 p2 p3 = up2 (up2 (up2 (up2 X 0 0 0) 41 (20 * p1.toNatClampNeg + P 6 p1.toNatClampNeg) p2) 42 (20 * p1.toNatClampNeg + P 6 p1.toNatClampNeg) p3) 39 p1.toNatClampNeg (nI (P 6 p1.toNatClampNeg + 1))) ∧ (¬ kdGo n I P p1 p2 p3 = 0 → xMgo X Y p1 p2 p3 = up2 X 0 0 (kdGo n I P p1 p2 p3)) := by
  obtain ⟨⟨hT, hnow⟩, hX, hS, hC, hRJ, hDZ, hHO, hNB, hle, h34, h38, hDI, hDF⟩ := h
  obtain ⟨x36, x39, x40, x41⟩ := hX.2.2.2.2.2.1
  obtain ⟨x1, x2, x10, x21, x27, x31, x35⟩ := hX.2.2.2.2.2.2
  have h10 : n 0 ≤ 10 := hC.1 0 (by decide)
  have h9 : n 5 ≤ 9 := hC.1 5 (by decide)
  unfold kdGo xMgo
  simp only [x35, min_n (show n 5 ≤ 100 by omega), mro_z x2 (show n 0 ≤ 100 by omega), min_z, x1]
  by_cases c1 : 0 ≤ p1 ∧ p1 < nI (n 5)
  · obtain ⟨e1, hr⟩ := num_in (by omega) c1
    generalize p1.toNatClampNeg = r at *
    subst e1
    obtain ⟨k1, k2⟩ := hC.2.2.2.2.2 r hr
    obtain ⟨i1', i2, i3, i4⟩ := hDI.2.2.2.2 r hr
    simp only [x39, gx_eq (i := r) (rfl : nI (P 6 r) = nI (P 6 r)), nI_clamp (show 20 * r + P 6 r < 2 ^ 31 by omega), nI_1]
    by_cases c2 : I 99 0 ≤ p2 ∧ p2 ≤ 100000
    · by_cases c3 : p3 = (-1) ∨ ¬ m_isR (n 0) p3 = 0
      · simp only [if_pos c1, if_pos c2, if_pos c3, if_neg (not_not_intro c1), if_neg (not_not_intro c2), if_neg (not_not_intro c3)]
        have t20 : (20 : Int32) ≤ nI (P 6 r) ↔ 20 ≤ P 6 r := nI_leI (a := 20) (by decide) (by omega)
        have t20' : nI (P 6 r) = 20 ↔ P 6 r = 20 := nI_eq (b := 20) (by omega) (by decide)
        have t0 : nI (P 6 r) ≤ 0 ↔ P 6 r ≤ 0 := nI_leI (b := 0) (by omega) (by decide)
        by_cases c4 : P 6 r = 20
        · have tl : m_tell (P 6 r) (I 52 r) p2 = 0 := by unfold m_tell; rw [if_pos (t20.mpr (by omega))]
          rw [tl, if_neg (show ¬ ¬ (0 : Int32) = 0 by decide), if_pos (t20'.mpr c4)]
          exact ⟨fun h => absurd h (by decide), fun _ => by trivial⟩
        · have tl : m_tell (P 6 r) (I 52 r) p2 = if I 52 r < p2 then 1 else 0 := by unfold m_tell; rw [if_neg (fun q => by have := t20.mp q; omega)]
          rw [tl, if_neg (show ¬ nI (P 6 r) = 20 from fun q => c4 (t20'.mp q))]
          by_cases c5 : P 6 r = 0
          · have lt : I 52 r < p2 := by
              rw [i3 c5, I_lt, im1]
              have := c2.1
              rw [I_le, hnow, nI_toInt (by omega)] at this
              omega
            rw [if_pos lt, if_pos (show ¬ (1 : Int32) = 0 by decide), if_pos (t0.mpr (by omega))]
            exact ⟨fun _ => ⟨c1, c3, by omega, by trivial⟩, fun h => absurd (by trivial) h⟩
          · rw [if_neg (show ¬ nI (P 6 r) ≤ 0 from fun q => c5 (by have := t0.mp q; omega))]
            obtain ⟨k, hk⟩ := Nat.exists_eq_succ_of_ne_zero c5
            have e41 : X 41 (nI (20 * r + P 6 r) - 1).toNatClampNeg = I 52 r := by
              rw [i4 k hk, hk, show 20 * r + (k + 1) = (20 * r + k) + 1 from rfl, nI_pred, nI_clamp (by omega)]
              exact (x41 r k hr (by omega)).1
            rw [e41]
            by_cases lt : I 52 r < p2
            · simp only [if_pos lt, if_pos (show ¬ (1 : Int32) = 0 by decide)]
              exact ⟨fun _ => ⟨c1, c3, by omega, by trivial⟩, fun h => absurd (by trivial) h⟩
            · simp only [if_neg lt, if_neg (show ¬ ¬ (0 : Int32) = 0 by decide)]
              exact ⟨fun h => absurd h (by decide), fun _ => by trivial⟩
      · simp only [if_pos c1, if_pos c2, if_neg c3, if_neg (not_not_intro c1), if_neg (not_not_intro c2), if_pos (show ¬ (p3 = (-1) ∨ ¬ m_isR (n 0) p3 = 0) from c3)]
        exact ⟨fun h => absurd h (by decide), fun _ => by trivial⟩
    · simp only [if_pos c1, if_neg c2, if_neg (not_not_intro c1), if_pos (show ¬ (I 99 0 ≤ p2 ∧ p2 ≤ 100000) from c2)]
      exact ⟨fun h => absurd h (by decide), fun _ => by trivial⟩
  · simp only [if_neg c1, if_pos (show ¬ (0 ≤ p1 ∧ p1 < nI (n 5)) from c1)]
    exact ⟨fun h => absurd h (by decide), fun _ => by trivial⟩
theorem e100 {p k : Nat} (h : k < 100) : (100 + p = k) = False := eq_false (by omega)
theorem e200 {p k : Nat} (h : k < 200) : (200 + p = k) = False := eq_false (by omega)
theorem e100' {p k : Nat} (h : k < 100) : (k = 100 + p) = False := eq_false (by omega)
theorem e200' {p k : Nat} (h : k < 200) : (k = 200 + p) = False := eq_false (by omega)
set_option maxHeartbeats 2000000 in
theorem op_room (h : SIMt n I J P X Y T) {p1 p2 : Int32} (hp1 : 1 ≤ p1.toInt ∧ p1.toInt ≤ 10000) (hp2 : 1 ≤ p2.toInt ∧ p2.toInt ≤ 100) (hn : n 0 < 10) (hC' : CInv (va_up n 0 (n 0 + 1)) P) : SIMt (va_up n 0 (n 0 + 1)) (nwRoI I (n 0) p1 p2) (nwRoJ J (n 0) p1 p2) P (up2 (up2 (up2 (up2 (up2 X 0 0 0) 3 (n 0) p1) 4 (n 0) p2) 9 (n 0) (-1)) 2 0 (nI (n 0 + 1))) Y T := by
  obtain ⟨⟨hT, hnow⟩, ⟨⟨x3, x4, x7, x8, x9⟩, ⟨x11, x12, x13, x14, x15, x16, x17⟩, ⟨x22, x23, x24, x25, x26⟩, ⟨x28, x29, x30⟩, ⟨x32, x33⟩, ⟨x36, x39, x40, x41⟩, x1, x2, x10, x21, x27, x31, x35⟩, ⟨s1, s2, s3, s4, s5⟩, hC, ⟨j5, j6, j18, j19, j20, j37, j43, j44, j45, j46⟩, ⟨d1, d2, d3⟩, hHO, hNB, hle, h34, h38, ⟨i1', i2, i3, i4, i5'⟩, ⟨f1, f2, f3, f4⟩⟩ := h
  refine ⟨⟨hT, ?_⟩, ⟨⟨?_, ?_, ?_, ?_, ?_⟩, ⟨?_, ?_, ?_, ?_, ?_, ?_, ?_⟩, ⟨?_, ?_, ?_, ?_, ?_⟩, ⟨?_, ?_, ?_⟩, ⟨?_, ?_⟩, ⟨?_, ?_, ?_, ?_⟩, ?_, ?_, ?_, ?_, ?_, ?_, ?_⟩, ⟨?_, ?_, ?_, ?_, ?_⟩, ?_, ⟨?_, ?_, ?_, ?_, ?_, ?_, ?_, ?_, ?_, ?_⟩, ⟨?_, ?_, ?_⟩, ?_, ?_, ?_, ?_, ?_, ⟨?_, ?_, ?_, ?_, ?_⟩, ⟨?_, ?_, ?_, ?_⟩⟩
  · first | exact hnow | simpa [up2, va_up, nwRoI, nwRoJ, e100, e200] using hnow | (simp [up2, va_up, nwRoI, nwRoJ, e100, e200, hnow]; done) | (intros; simp only [up2, va_up, nwRoI, nwRoJ, e100, e200]; grind)
  · first | exact x3 | simpa [up2, va_up, nwRoI, nwRoJ, e100, e200] using x3 | (simp [up2, va_up, nwRoI, nwRoJ, e100, e200, x3]; done) | (intros; simp only [up2, va_up, nwRoI, nwRoJ, e100, e200]; grind)
  · first | exact x4 | simpa [up2, va_up, nwRoI, nwRoJ, e100, e200] using x4 | (simp [up2, va_up, nwRoI, nwRoJ, e100, e200, x4]; done) | (intros; simp only [up2, va_up, nwRoI, nwRoJ, e100, e200]; grind)
  · intro i; by_cases q : i = n 0
    · subst q; simp [up2, va_up, nwRoI, nwRoJ, e100, e200, x7, (f1 _ (Nat.le_refl _)).1, gl0]
    · simp [up2, va_up, nwRoI, nwRoJ, e100, e200, x7, q]
  · intro i; by_cases q : i = n 0
    · subst q; simp [up2, va_up, nwRoI, nwRoJ, e100, e200, x8, (f1 _ (Nat.le_refl _)).2]
    · simp [up2, va_up, nwRoI, nwRoJ, e100, e200, x8, q]
  · first | exact x9 | simpa [up2, va_up, nwRoI, nwRoJ, e100, e200] using x9 | (simp [up2, va_up, nwRoI, nwRoJ, e100, e200, x9]; done) | (intros; simp only [up2, va_up, nwRoI, nwRoJ, e100, e200]; grind)
  · first | exact x11 | simpa [up2, va_up, nwRoI, nwRoJ, e100, e200] using x11 | (simp [up2, va_up, nwRoI, nwRoJ, e100, e200, x11]; done) | (intros; simp only [up2, va_up, nwRoI, nwRoJ, e100, e200]; grind)
  · first | exact x12 | simpa [up2, va_up, nwRoI, nwRoJ, e100, e200] using x12 | (simp [up2, va_up, nwRoI, nwRoJ, e100, e200, x12]; done) | (intros; simp only [up2, va_up, nwRoI, nwRoJ, e100, e200]; grind)
  · first | exact x13 | simpa [up2, va_up, nwRoI, nwRoJ, e100, e200] using x13 | (simp [up2, va_up, nwRoI, nwRoJ, e100, e200, x13]; done) | (intros; simp only [up2, va_up, nwRoI, nwRoJ, e100, e200]; grind)
  · first | exact x14 | simpa [up2, va_up, nwRoI, nwRoJ, e100, e200] using x14 | (simp [up2, va_up, nwRoI, nwRoJ, e100, e200, x14]; done) | (intros; simp only [up2, va_up, nwRoI, nwRoJ, e100, e200]; grind)
  · first | exact x15 | simpa [up2, va_up, nwRoI, nwRoJ, e100, e200] using x15 | (simp [up2, va_up, nwRoI, nwRoJ, e100, e200, x15]; done) | (intros; simp only [up2, va_up, nwRoI, nwRoJ, e100, e200]; grind)
  · first | exact x16 | simpa [up2, va_up, nwRoI, nwRoJ, e100, e200] using x16 | (simp [up2, va_up, nwRoI, nwRoJ, e100, e200, x16]; done) | (intros; simp only [up2, va_up, nwRoI, nwRoJ, e100, e200]; grind)
  · first | exact x17 | simpa [up2, va_up, nwRoI, nwRoJ, e100, e200] using x17 | (simp [up2, va_up, nwRoI, nwRoJ, e100, e200, x17]; done) | (intros; simp only [up2, va_up, nwRoI, nwRoJ, e100, e200]; grind)
  · first | exact x22 | simpa [up2, va_up, nwRoI, nwRoJ, e100, e200] using x22 | (simp [up2, va_up, nwRoI, nwRoJ, e100, e200, x22]; done) | (intros; simp only [up2, va_up, nwRoI, nwRoJ, e100, e200]; grind)
  · first | exact x23 | simpa [up2, va_up, nwRoI, nwRoJ, e100, e200] using x23 | (simp [up2, va_up, nwRoI, nwRoJ, e100, e200, x23]; done) | (intros; simp only [up2, va_up, nwRoI, nwRoJ, e100, e200]; grind)
  · first | exact x24 | simpa [up2, va_up, nwRoI, nwRoJ, e100, e200] using x24 | (simp [up2, va_up, nwRoI, nwRoJ, e100, e200, x24]; done) | (intros; simp only [up2, va_up, nwRoI, nwRoJ, e100, e200]; grind)
  · first | exact x25 | simpa [up2, va_up, nwRoI, nwRoJ, e100, e200] using x25 | (simp [up2, va_up, nwRoI, nwRoJ, e100, e200, x25]; done) | (intros; simp only [up2, va_up, nwRoI, nwRoJ, e100, e200]; grind)
  · first | exact x26 | simpa [up2, va_up, nwRoI, nwRoJ, e100, e200] using x26 | (simp [up2, va_up, nwRoI, nwRoJ, e100, e200, x26]; done) | (intros; simp only [up2, va_up, nwRoI, nwRoJ, e100, e200]; grind)
  · first | exact x28 | simpa [up2, va_up, nwRoI, nwRoJ, e100, e200] using x28 | (simp [up2, va_up, nwRoI, nwRoJ, e100, e200, x28]; done) | (intros; simp only [up2, va_up, nwRoI, nwRoJ, e100, e200]; grind)
  · first | exact x29 | simpa [up2, va_up, nwRoI, nwRoJ, e100, e200] using x29 | (simp [up2, va_up, nwRoI, nwRoJ, e100, e200, x29]; done) | (intros; simp only [up2, va_up, nwRoI, nwRoJ, e100, e200]; grind)
  · first | exact x30 | simpa [up2, va_up, nwRoI, nwRoJ, e100, e200] using x30 | (simp [up2, va_up, nwRoI, nwRoJ, e100, e200, x30]; done) | (intros; simp only [up2, va_up, nwRoI, nwRoJ, e100, e200]; grind)
  · first | exact x32 | simpa [up2, va_up, nwRoI, nwRoJ, e100, e200] using x32 | (simp [up2, va_up, nwRoI, nwRoJ, e100, e200, x32]; done) | (intros; simp only [up2, va_up, nwRoI, nwRoJ, e100, e200]; grind)
  · first | exact x33 | simpa [up2, va_up, nwRoI, nwRoJ, e100, e200] using x33 | (simp [up2, va_up, nwRoI, nwRoJ, e100, e200, x33]; done) | (intros; simp only [up2, va_up, nwRoI, nwRoJ, e100, e200]; grind)
  · first | exact x36 | simpa [up2, va_up, nwRoI, nwRoJ, e100, e200] using x36 | (simp [up2, va_up, nwRoI, nwRoJ, e100, e200, x36]; done) | (intros; simp only [up2, va_up, nwRoI, nwRoJ, e100, e200]; grind)
  · first | exact x39 | simpa [up2, va_up, nwRoI, nwRoJ, e100, e200] using x39 | (simp [up2, va_up, nwRoI, nwRoJ, e100, e200, x39]; done) | (intros; simp only [up2, va_up, nwRoI, nwRoJ, e100, e200]; grind)
  · first | exact x40 | simpa [up2, va_up, nwRoI, nwRoJ, e100, e200] using x40 | (simp [up2, va_up, nwRoI, nwRoJ, e100, e200, x40]; done) | (intros; simp only [up2, va_up, nwRoI, nwRoJ, e100, e200]; grind)
  · first | exact x41 | simpa [up2, va_up, nwRoI, nwRoJ, e100, e200] using x41 | (simp [up2, va_up, nwRoI, nwRoJ, e100, e200, x41]; done) | (intros; simp only [up2, va_up, nwRoI, nwRoJ, e100, e200]; grind)
  · first | exact x1 | simpa [up2, va_up, nwRoI, nwRoJ, e100, e200] using x1 | (simp [up2, va_up, nwRoI, nwRoJ, e100, e200, x1]; done) | (intros; simp only [up2, va_up, nwRoI, nwRoJ, e100, e200]; grind)
  · first | exact x2 | simpa [up2, va_up, nwRoI, nwRoJ, e100, e200] using x2 | (simp [up2, va_up, nwRoI, nwRoJ, e100, e200, x2]; done) | (intros; simp only [up2, va_up, nwRoI, nwRoJ, e100, e200]; grind)
  · first | exact x10 | simpa [up2, va_up, nwRoI, nwRoJ, e100, e200] using x10 | (simp [up2, va_up, nwRoI, nwRoJ, e100, e200, x10]; done) | (intros; simp only [up2, va_up, nwRoI, nwRoJ, e100, e200]; grind)
  · first | exact x21 | simpa [up2, va_up, nwRoI, nwRoJ, e100, e200] using x21 | (simp [up2, va_up, nwRoI, nwRoJ, e100, e200, x21]; done) | (intros; simp only [up2, va_up, nwRoI, nwRoJ, e100, e200]; grind)
  · first | exact x27 | simpa [up2, va_up, nwRoI, nwRoJ, e100, e200] using x27 | (simp [up2, va_up, nwRoI, nwRoJ, e100, e200, x27]; done) | (intros; simp only [up2, va_up, nwRoI, nwRoJ, e100, e200]; grind)
  · first | exact x31 | simpa [up2, va_up, nwRoI, nwRoJ, e100, e200] using x31 | (simp [up2, va_up, nwRoI, nwRoJ, e100, e200, x31]; done) | (intros; simp only [up2, va_up, nwRoI, nwRoJ, e100, e200]; grind)
  · first | exact x35 | simpa [up2, va_up, nwRoI, nwRoJ, e100, e200] using x35 | (simp [up2, va_up, nwRoI, nwRoJ, e100, e200, x35]; done) | (intros; simp only [up2, va_up, nwRoI, nwRoJ, e100, e200]; grind)
  · intro r hr; by_cases q : r = n 0
    · subst q; simp [up2, va_up, nwRoI, nwRoJ, e100, e200]; exact ⟨hp1.1, hp1.2, hp2.1, hp2.2⟩
    · have hr' : r < n 0 := by (simp [va_up] at hr; omega)
      simpa [up2, va_up, nwRoI, nwRoJ, e100, e200, q] using s1 r hr'
  · intro o ho
    have ho' : o < n 1 := by simpa [va_up] using ho
    obtain ⟨c1, c2, c3⟩ := hC.2.1 o ho'
    obtain ⟨q1, q2, q3, q4, q5, q6⟩ := s2 o ho'
    refine ⟨by simpa [up2, va_up, nwRoI, nwRoJ, e100, e200] using q1, by simpa [up2, va_up, nwRoI, nwRoJ, e100, e200] using q2, by simpa [up2, va_up, nwRoI, nwRoJ, e100, e200] using q3, by simpa [up2, va_up, nwRoI, nwRoJ, e100, e200] using q4, ?_, fun g hg => ?_⟩
    · simpa [up2, va_up, nwRoI, nwRoJ, e100, e200, show P 1 o ≠ n 0 by omega] using q5
    · simpa [up2, va_up, nwRoI, nwRoJ, e100, e200, show g ≠ n 0 by omega] using q6 g hg
  · first | exact s3 | simpa [up2, va_up, nwRoI, nwRoJ, e100, e200] using s3 | (simp [up2, va_up, nwRoI, nwRoJ, e100, e200, s3]; done) | (intros; simp only [up2, va_up, nwRoI, nwRoJ, e100, e200]; grind)
  · first | exact s4 | simpa [up2, va_up, nwRoI, nwRoJ, e100, e200] using s4 | (simp [up2, va_up, nwRoI, nwRoJ, e100, e200, s4]; done) | (intros; simp only [up2, va_up, nwRoI, nwRoJ, e100, e200]; grind)
  · first | exact s5 | simpa [up2, va_up, nwRoI, nwRoJ, e100, e200] using s5 | (simp [up2, va_up, nwRoI, nwRoJ, e100, e200, s5]; done) | (intros; simp only [up2, va_up, nwRoI, nwRoJ, e100, e200]; grind)
  · exact hC'
  · intro i; by_cases q : i = n 0
    · subst q; simp [up2, va_up, nwRoI, nwRoJ, e100, e200, j5, (d1 _ (Nat.le_refl _)).1]
    · simp [up2, va_up, nwRoI, nwRoJ, e100, e200, j5, q]
  · intro i; by_cases q : i = n 0
    · subst q; simp [up2, va_up, nwRoI, nwRoJ, e100, e200, j6, (d1 _ (Nat.le_refl _)).2]
    · simp [up2, va_up, nwRoI, nwRoJ, e100, e200, j6, q]
  · first | exact j18 | simpa [up2, va_up, nwRoI, nwRoJ, e100, e200] using j18 | (simp [up2, va_up, nwRoI, nwRoJ, e100, e200, j18]; done) | (intros; simp only [up2, va_up, nwRoI, nwRoJ, e100, e200]; grind)
  · first | exact j19 | simpa [up2, va_up, nwRoI, nwRoJ, e100, e200] using j19 | (simp [up2, va_up, nwRoI, nwRoJ, e100, e200, j19]; done) | (intros; simp only [up2, va_up, nwRoI, nwRoJ, e100, e200]; grind)
  · first | exact j20 | simpa [up2, va_up, nwRoI, nwRoJ, e100, e200] using j20 | (simp [up2, va_up, nwRoI, nwRoJ, e100, e200, j20]; done) | (intros; simp only [up2, va_up, nwRoI, nwRoJ, e100, e200]; grind)
  · first | exact j37 | simpa [up2, va_up, nwRoI, nwRoJ, e100, e200] using j37 | (simp [up2, va_up, nwRoI, nwRoJ, e100, e200, j37]; done) | (intros; simp only [up2, va_up, nwRoI, nwRoJ, e100, e200]; grind)
  · first | exact j43 | simpa [up2, va_up, nwRoI, nwRoJ, e100, e200] using j43 | (simp [up2, va_up, nwRoI, nwRoJ, e100, e200, j43]; done) | (intros; simp only [up2, va_up, nwRoI, nwRoJ, e100, e200]; grind)
  · first | exact j44 | simpa [up2, va_up, nwRoI, nwRoJ, e100, e200] using j44 | (simp [up2, va_up, nwRoI, nwRoJ, e100, e200, j44]; done) | (intros; simp only [up2, va_up, nwRoI, nwRoJ, e100, e200]; grind)
  · first | exact j45 | simpa [up2, va_up, nwRoI, nwRoJ, e100, e200] using j45 | (simp [up2, va_up, nwRoI, nwRoJ, e100, e200, j45]; done) | (intros; simp only [up2, va_up, nwRoI, nwRoJ, e100, e200]; grind)
  · first | exact j46 | simpa [up2, va_up, nwRoI, nwRoJ, e100, e200] using j46 | (simp [up2, va_up, nwRoI, nwRoJ, e100, e200, j46]; done) | (intros; simp only [up2, va_up, nwRoI, nwRoJ, e100, e200]; grind)
  · intro r hr
    have hr' : n 0 + 1 ≤ r := by simpa [va_up] using hr
    simpa [up2, va_up, nwRoI, nwRoJ, e100, e200, show r ≠ n 0 by omega] using d1 r (by omega)
  · first | exact d2 | simpa [up2, va_up, nwRoI, nwRoJ, e100, e200] using d2 | (simp [up2, va_up, nwRoI, nwRoJ, e100, e200, d2]; done) | (intros; simp only [up2, va_up, nwRoI, nwRoJ, e100, e200]; grind)
  · first | exact d3 | simpa [up2, va_up, nwRoI, nwRoJ, e100, e200] using d3 | (simp [up2, va_up, nwRoI, nwRoJ, e100, e200, d3]; done) | (intros; simp only [up2, va_up, nwRoI, nwRoJ, e100, e200]; grind)
  · intro r hr; by_cases q : r = n 0
    · subst q; simp [up2, va_up, nwRoI, nwRoJ, e100, e200]
    · have hr' : r < n 0 := by (simp [va_up] at hr; omega)
      simpa [up2, va_up, nwRoI, nwRoJ, e100, e200, q] using hHO r hr'
  · intro r hr; by_cases q : r = n 0
    · subst q; simp [up2, va_up, nwRoI, nwRoJ, e100, e200]
    · have hr' : r < n 0 := by (simp [va_up] at hr; omega)
      simpa [up2, va_up, nwRoI, nwRoJ, e100, e200, q] using hNB r hr'
  · intro r hr; by_cases q : r = n 0
    · subst q
      have hm := mul_bd (a := p1.toInt) (b := p2.toInt) (A := 10000) (B := 100) (by omega) (by omega) hp1.2 hp2.2
      have e1 : nwRoJ J (n 0) p1 p2 1 (n 0) = 0 := by simp [up2, va_up, nwRoI, nwRoJ, e100, e200]
      have e0 : nwRoJ J (n 0) p1 p2 0 (n 0) = Int32.toInt64 p1 * Int32.toInt64 p2 := by simp [up2, va_up, nwRoI, nwRoJ, e100, e200]
      rw [e1, e0, l0, L_mul (by rw [W_l, W_l]; omega) (by rw [W_l, W_l]; omega), W_l, W_l]; exact hm.1
    · have hr' : r < n 0 := by (simp [va_up] at hr; omega)
      simpa [up2, va_up, nwRoI, nwRoJ, e100, e200, q] using hle r hr'
  · first | exact h34 | simpa [up2, va_up, nwRoI, nwRoJ, e100, e200] using h34 | (simp [up2, va_up, nwRoI, nwRoJ, e100, e200, h34]; done) | (intros; simp only [up2, va_up, nwRoI, nwRoJ, e100, e200]; grind)
  · first | exact h38 | simpa [up2, va_up, nwRoI, nwRoJ, e100, e200] using h38 | (simp [up2, va_up, nwRoI, nwRoJ, e100, e200, h38]; done) | (intros; simp only [up2, va_up, nwRoI, nwRoJ, e100, e200]; grind)
  · intro r hr; by_cases q : r = n 0
    · subst q; simp [up2, va_up, nwRoI, nwRoJ, e100, e200]
    · have hr' : r < n 0 := by (simp [va_up] at hr; omega)
      simpa [up2, va_up, nwRoI, nwRoJ, e100, e200, q] using i1' r hr'
  · first | exact i2 | simpa [up2, va_up, nwRoI, nwRoJ, e100, e200] using i2 | (simp [up2, va_up, nwRoI, nwRoJ, e100, e200, i2]; done) | (intros; simp only [up2, va_up, nwRoI, nwRoJ, e100, e200]; grind)
  · first | exact i3 | simpa [up2, va_up, nwRoI, nwRoJ, e100, e200] using i3 | (simp [up2, va_up, nwRoI, nwRoJ, e100, e200, i3]; done) | (intros; simp only [up2, va_up, nwRoI, nwRoJ, e100, e200]; grind)
  · first | exact i4 | simpa [up2, va_up, nwRoI, nwRoJ, e100, e200] using i4 | (simp [up2, va_up, nwRoI, nwRoJ, e100, e200, i4]; done) | (intros; simp only [up2, va_up, nwRoI, nwRoJ, e100, e200]; grind)
  · intro p hp
    have hp' : p < n 5 := by simpa [va_up] using hp
    obtain ⟨q1, q2, q3, q4⟩ := i5' p hp'
    have pv : ∀ v, PV n v → PV (va_up n 0 (n 0 + 1)) v := fun v h => by
      rcases h with h | ⟨r, hr, e⟩
      · exact Or.inl h
      · exact Or.inr ⟨r, by (simp [va_up]; omega), e⟩
    refine ⟨by simpa [nwRoI, up2] using pv _ q1, fun q hq => ?_, fun h0 => ?_, fun k hk => ?_⟩
    · have := pv _ (q2 q hq)
      simpa [up2, va_up, nwRoI, nwRoJ, e100, e200, show 200 + p ≠ 0 by omega, show 200 + p ≠ 1 by omega, show 200 + p ≠ 2 by omega, show 200 + p ≠ 3 by omega, show 200 + p ≠ 4 by omega] using this
    · simpa [up2, va_up, nwRoI, nwRoJ, e100, e200] using q3 h0
    · simpa [up2, va_up, nwRoI, nwRoJ, e100, e200] using q4 k hk
  · intro r hr
    have hr' : n 0 + 1 ≤ r := by simpa [va_up] using hr
    simpa [up2, va_up, nwRoI, nwRoJ, e100, e200, show r ≠ n 0 by omega] using f1 r (by omega)
  · first | exact f2 | simpa [up2, va_up, nwRoI, nwRoJ, e100, e200] using f2 | (simp [up2, va_up, nwRoI, nwRoJ, e100, e200, f2]; done) | (intros; simp only [up2, va_up, nwRoI, nwRoJ, e100, e200]; grind)
  · first | exact f3 | simpa [up2, va_up, nwRoI, nwRoJ, e100, e200] using f3 | (simp [up2, va_up, nwRoI, nwRoJ, e100, e200, f3]; done) | (intros; simp only [up2, va_up, nwRoI, nwRoJ, e100, e200]; grind)
  · first | exact f4 | simpa [up2, va_up, nwRoI, nwRoJ, e100, e200] using f4 | (simp [up2, va_up, nwRoI, nwRoJ, e100, e200, f4]; done) | (intros; simp only [up2, va_up, nwRoI, nwRoJ, e100, e200]; grind)
set_option maxHeartbeats 2000000 in
theorem op_steel (h : SIMt n I J P X Y T) {r : Nat} {p2 : Int32} (hp2 : 1 ≤ p2.toInt ∧ p2.toInt ≤ 1000) (hC' : CInv (va_up n 4 (n 4 + 1)) (up2 P 5 (n 4) r)) : SIMt (va_up n 4 (n 4 + 1)) (nwStI I (n 4) p2) J (up2 P 5 (n 4) r) (up2 (up2 (up2 (up2 X 0 0 0) 32 (n 4) (nI r)) 33 (n 4) p2) 31 0 (nI (n 4 + 1))) Y T := by
  obtain ⟨⟨hT, hnow⟩, ⟨⟨x3, x4, x7, x8, x9⟩, ⟨x11, x12, x13, x14, x15, x16, x17⟩, ⟨x22, x23, x24, x25, x26⟩, ⟨x28, x29, x30⟩, ⟨x32, x33⟩, ⟨x36, x39, x40, x41⟩, x1, x2, x10, x21, x27, x31, x35⟩, ⟨s1, s2, s3, s4, s5⟩, hC, ⟨j5, j6, j18, j19, j20, j37, j43, j44, j45, j46⟩, ⟨d1, d2, d3⟩, hHO, hNB, hle, h34, h38, ⟨i1', i2, i3, i4, i5'⟩, ⟨f1, f2, f3, f4⟩⟩ := h
  refine ⟨⟨hT, ?_⟩, ⟨⟨?_, ?_, ?_, ?_, ?_⟩, ⟨?_, ?_, ?_, ?_, ?_, ?_, ?_⟩, ⟨?_, ?_, ?_, ?_, ?_⟩, ⟨?_, ?_, ?_⟩, ⟨?_, ?_⟩, ⟨?_, ?_, ?_, ?_⟩, ?_, ?_, ?_, ?_, ?_, ?_, ?_⟩, ⟨?_, ?_, ?_, ?_, ?_⟩, ?_, ⟨?_, ?_, ?_, ?_, ?_, ?_, ?_, ?_, ?_, ?_⟩, ⟨?_, ?_, ?_⟩, ?_, ?_, ?_, ?_, ?_, ⟨?_, ?_, ?_, ?_, ?_⟩, ⟨?_, ?_, ?_, ?_⟩⟩
  · first | exact hnow | simpa [up2, va_up, nwStI, e100, e200] using hnow | (simp [up2, va_up, nwStI, e100, e200, hnow]; done) | (intros; simp only [up2, va_up, nwStI, e100, e200]; grind)
  · first | exact x3 | simpa [up2, va_up, nwStI, e100, e200] using x3 | (simp [up2, va_up, nwStI, e100, e200, x3]; done) | (intros; simp only [up2, va_up, nwStI, e100, e200]; grind)
  · first | exact x4 | simpa [up2, va_up, nwStI, e100, e200] using x4 | (simp [up2, va_up, nwStI, e100, e200, x4]; done) | (intros; simp only [up2, va_up, nwStI, e100, e200]; grind)
  · first | exact x7 | simpa [up2, va_up, nwStI, e100, e200] using x7 | (simp [up2, va_up, nwStI, e100, e200, x7]; done) | (intros; simp only [up2, va_up, nwStI, e100, e200]; grind)
  · first | exact x8 | simpa [up2, va_up, nwStI, e100, e200] using x8 | (simp [up2, va_up, nwStI, e100, e200, x8]; done) | (intros; simp only [up2, va_up, nwStI, e100, e200]; grind)
  · first | exact x9 | simpa [up2, va_up, nwStI, e100, e200] using x9 | (simp [up2, va_up, nwStI, e100, e200, x9]; done) | (intros; simp only [up2, va_up, nwStI, e100, e200]; grind)
  · first | exact x11 | simpa [up2, va_up, nwStI, e100, e200] using x11 | (simp [up2, va_up, nwStI, e100, e200, x11]; done) | (intros; simp only [up2, va_up, nwStI, e100, e200]; grind)
  · first | exact x12 | simpa [up2, va_up, nwStI, e100, e200] using x12 | (simp [up2, va_up, nwStI, e100, e200, x12]; done) | (intros; simp only [up2, va_up, nwStI, e100, e200]; grind)
  · first | exact x13 | simpa [up2, va_up, nwStI, e100, e200] using x13 | (simp [up2, va_up, nwStI, e100, e200, x13]; done) | (intros; simp only [up2, va_up, nwStI, e100, e200]; grind)
  · first | exact x14 | simpa [up2, va_up, nwStI, e100, e200] using x14 | (simp [up2, va_up, nwStI, e100, e200, x14]; done) | (intros; simp only [up2, va_up, nwStI, e100, e200]; grind)
  · first | exact x15 | simpa [up2, va_up, nwStI, e100, e200] using x15 | (simp [up2, va_up, nwStI, e100, e200, x15]; done) | (intros; simp only [up2, va_up, nwStI, e100, e200]; grind)
  · first | exact x16 | simpa [up2, va_up, nwStI, e100, e200] using x16 | (simp [up2, va_up, nwStI, e100, e200, x16]; done) | (intros; simp only [up2, va_up, nwStI, e100, e200]; grind)
  · first | exact x17 | simpa [up2, va_up, nwStI, e100, e200] using x17 | (simp [up2, va_up, nwStI, e100, e200, x17]; done) | (intros; simp only [up2, va_up, nwStI, e100, e200]; grind)
  · first | exact x22 | simpa [up2, va_up, nwStI, e100, e200] using x22 | (simp [up2, va_up, nwStI, e100, e200, x22]; done) | (intros; simp only [up2, va_up, nwStI, e100, e200]; grind)
  · first | exact x23 | simpa [up2, va_up, nwStI, e100, e200] using x23 | (simp [up2, va_up, nwStI, e100, e200, x23]; done) | (intros; simp only [up2, va_up, nwStI, e100, e200]; grind)
  · first | exact x24 | simpa [up2, va_up, nwStI, e100, e200] using x24 | (simp [up2, va_up, nwStI, e100, e200, x24]; done) | (intros; simp only [up2, va_up, nwStI, e100, e200]; grind)
  · first | exact x25 | simpa [up2, va_up, nwStI, e100, e200] using x25 | (simp [up2, va_up, nwStI, e100, e200, x25]; done) | (intros; simp only [up2, va_up, nwStI, e100, e200]; grind)
  · first | exact x26 | simpa [up2, va_up, nwStI, e100, e200] using x26 | (simp [up2, va_up, nwStI, e100, e200, x26]; done) | (intros; simp only [up2, va_up, nwStI, e100, e200]; grind)
  · first | exact x28 | simpa [up2, va_up, nwStI, e100, e200] using x28 | (simp [up2, va_up, nwStI, e100, e200, x28]; done) | (intros; simp only [up2, va_up, nwStI, e100, e200]; grind)
  · first | exact x29 | simpa [up2, va_up, nwStI, e100, e200] using x29 | (simp [up2, va_up, nwStI, e100, e200, x29]; done) | (intros; simp only [up2, va_up, nwStI, e100, e200]; grind)
  · first | exact x30 | simpa [up2, va_up, nwStI, e100, e200] using x30 | (simp [up2, va_up, nwStI, e100, e200, x30]; done) | (intros; simp only [up2, va_up, nwStI, e100, e200]; grind)
  · intro i; by_cases q : i = n 4
    · subst q; simp [up2, va_up, nwStI, e100, e200, x32]
    · simp [up2, va_up, nwStI, e100, e200, x32, q]
  · intro i; by_cases q : i = n 4
    · subst q; simp [up2, va_up, nwStI, e100, e200, x33]
    · simp [up2, va_up, nwStI, e100, e200, x33, q]
  · first | exact x36 | simpa [up2, va_up, nwStI, e100, e200] using x36 | (simp [up2, va_up, nwStI, e100, e200, x36]; done) | (intros; simp only [up2, va_up, nwStI, e100, e200]; grind)
  · first | exact x39 | simpa [up2, va_up, nwStI, e100, e200] using x39 | (simp [up2, va_up, nwStI, e100, e200, x39]; done) | (intros; simp only [up2, va_up, nwStI, e100, e200]; grind)
  · first | exact x40 | simpa [up2, va_up, nwStI, e100, e200] using x40 | (simp [up2, va_up, nwStI, e100, e200, x40]; done) | (intros; simp only [up2, va_up, nwStI, e100, e200]; grind)
  · first | exact x41 | simpa [up2, va_up, nwStI, e100, e200] using x41 | (simp [up2, va_up, nwStI, e100, e200, x41]; done) | (intros; simp only [up2, va_up, nwStI, e100, e200]; grind)
  · first | exact x1 | simpa [up2, va_up, nwStI, e100, e200] using x1 | (simp [up2, va_up, nwStI, e100, e200, x1]; done) | (intros; simp only [up2, va_up, nwStI, e100, e200]; grind)
  · first | exact x2 | simpa [up2, va_up, nwStI, e100, e200] using x2 | (simp [up2, va_up, nwStI, e100, e200, x2]; done) | (intros; simp only [up2, va_up, nwStI, e100, e200]; grind)
  · first | exact x10 | simpa [up2, va_up, nwStI, e100, e200] using x10 | (simp [up2, va_up, nwStI, e100, e200, x10]; done) | (intros; simp only [up2, va_up, nwStI, e100, e200]; grind)
  · first | exact x21 | simpa [up2, va_up, nwStI, e100, e200] using x21 | (simp [up2, va_up, nwStI, e100, e200, x21]; done) | (intros; simp only [up2, va_up, nwStI, e100, e200]; grind)
  · first | exact x27 | simpa [up2, va_up, nwStI, e100, e200] using x27 | (simp [up2, va_up, nwStI, e100, e200, x27]; done) | (intros; simp only [up2, va_up, nwStI, e100, e200]; grind)
  · first | exact x31 | simpa [up2, va_up, nwStI, e100, e200] using x31 | (simp [up2, va_up, nwStI, e100, e200, x31]; done) | (intros; simp only [up2, va_up, nwStI, e100, e200]; grind)
  · first | exact x35 | simpa [up2, va_up, nwStI, e100, e200] using x35 | (simp [up2, va_up, nwStI, e100, e200, x35]; done) | (intros; simp only [up2, va_up, nwStI, e100, e200]; grind)
  · first | exact s1 | simpa [up2, va_up, nwStI, e100, e200] using s1 | (simp [up2, va_up, nwStI, e100, e200, s1]; done) | (intros; simp only [up2, va_up, nwStI, e100, e200]; grind)
  · first | exact s2 | simpa [up2, va_up, nwStI, e100, e200] using s2 | (simp [up2, va_up, nwStI, e100, e200, s2]; done) | (intros; simp only [up2, va_up, nwStI, e100, e200]; grind)
  · first | exact s3 | simpa [up2, va_up, nwStI, e100, e200] using s3 | (simp [up2, va_up, nwStI, e100, e200, s3]; done) | (intros; simp only [up2, va_up, nwStI, e100, e200]; grind)
  · first | exact s4 | simpa [up2, va_up, nwStI, e100, e200] using s4 | (simp [up2, va_up, nwStI, e100, e200, s4]; done) | (intros; simp only [up2, va_up, nwStI, e100, e200]; grind)
  · intro m hv; by_cases q : m = n 4
    · subst q; simp [up2, va_up, nwStI, e100, e200]; exact hp2
    · have hv' : m < n 4 := by (simp [va_up] at hv; omega)
      simpa [up2, va_up, nwStI, e100, e200, q] using s5 m hv'
  · exact hC'
  · first | exact j5 | simpa [up2, va_up, nwStI, e100, e200] using j5 | (simp [up2, va_up, nwStI, e100, e200, j5]; done) | (intros; simp only [up2, va_up, nwStI, e100, e200]; grind)
  · first | exact j6 | simpa [up2, va_up, nwStI, e100, e200] using j6 | (simp [up2, va_up, nwStI, e100, e200, j6]; done) | (intros; simp only [up2, va_up, nwStI, e100, e200]; grind)
  · first | exact j18 | simpa [up2, va_up, nwStI, e100, e200] using j18 | (simp [up2, va_up, nwStI, e100, e200, j18]; done) | (intros; simp only [up2, va_up, nwStI, e100, e200]; grind)
  · first | exact j19 | simpa [up2, va_up, nwStI, e100, e200] using j19 | (simp [up2, va_up, nwStI, e100, e200, j19]; done) | (intros; simp only [up2, va_up, nwStI, e100, e200]; grind)
  · first | exact j20 | simpa [up2, va_up, nwStI, e100, e200] using j20 | (simp [up2, va_up, nwStI, e100, e200, j20]; done) | (intros; simp only [up2, va_up, nwStI, e100, e200]; grind)
  · first | exact j37 | simpa [up2, va_up, nwStI, e100, e200] using j37 | (simp [up2, va_up, nwStI, e100, e200, j37]; done) | (intros; simp only [up2, va_up, nwStI, e100, e200]; grind)
  · first | exact j43 | simpa [up2, va_up, nwStI, e100, e200] using j43 | (simp [up2, va_up, nwStI, e100, e200, j43]; done) | (intros; simp only [up2, va_up, nwStI, e100, e200]; grind)
  · first | exact j44 | simpa [up2, va_up, nwStI, e100, e200] using j44 | (simp [up2, va_up, nwStI, e100, e200, j44]; done) | (intros; simp only [up2, va_up, nwStI, e100, e200]; grind)
  · first | exact j45 | simpa [up2, va_up, nwStI, e100, e200] using j45 | (simp [up2, va_up, nwStI, e100, e200, j45]; done) | (intros; simp only [up2, va_up, nwStI, e100, e200]; grind)
  · first | exact j46 | simpa [up2, va_up, nwStI, e100, e200] using j46 | (simp [up2, va_up, nwStI, e100, e200, j46]; done) | (intros; simp only [up2, va_up, nwStI, e100, e200]; grind)
  · first | exact d1 | simpa [up2, va_up, nwStI, e100, e200] using d1 | (simp [up2, va_up, nwStI, e100, e200, d1]; done) | (intros; simp only [up2, va_up, nwStI, e100, e200]; grind)
  · first | exact d2 | simpa [up2, va_up, nwStI, e100, e200] using d2 | (simp [up2, va_up, nwStI, e100, e200, d2]; done) | (intros; simp only [up2, va_up, nwStI, e100, e200]; grind)
  · first | exact d3 | simpa [up2, va_up, nwStI, e100, e200] using d3 | (simp [up2, va_up, nwStI, e100, e200, d3]; done) | (intros; simp only [up2, va_up, nwStI, e100, e200]; grind)
  · first | exact hHO | simpa [up2, va_up, nwStI, e100, e200] using hHO | (simp [up2, va_up, nwStI, e100, e200, hHO]; done) | (intros; simp only [up2, va_up, nwStI, e100, e200]; grind)
  · first | exact hNB | simpa [up2, va_up, nwStI, e100, e200] using hNB | (simp [up2, va_up, nwStI, e100, e200, hNB]; done) | (intros; simp only [up2, va_up, nwStI, e100, e200]; grind)
  · first | exact hle | simpa [up2, va_up, nwStI, e100, e200] using hle | (simp [up2, va_up, nwStI, e100, e200, hle]; done) | (intros; simp only [up2, va_up, nwStI, e100, e200]; grind)
  · intro m; by_cases q : m = n 4
    · subst q; simp [up2, va_up, nwStI, e100, e200, h34, f3 _ (Nat.le_refl _)]
    · simp [up2, va_up, nwStI, e100, e200, h34, q]
  · first | exact h38 | simpa [up2, va_up, nwStI, e100, e200] using h38 | (simp [up2, va_up, nwStI, e100, e200, h38]; done) | (intros; simp only [up2, va_up, nwStI, e100, e200]; grind)
  · first | exact i1' | simpa [up2, va_up, nwStI, e100, e200] using i1' | (simp [up2, va_up, nwStI, e100, e200, i1']; done) | (intros; simp only [up2, va_up, nwStI, e100, e200]; grind)
  · first | exact i2 | simpa [up2, va_up, nwStI, e100, e200] using i2 | (simp [up2, va_up, nwStI, e100, e200, i2]; done) | (intros; simp only [up2, va_up, nwStI, e100, e200]; grind)
  · intro m; by_cases q : m = n 4
    · subst q; simp [up2, va_up, nwStI, e100, e200]
    · simpa [up2, va_up, nwStI, e100, e200, q] using i3 m
  · first | exact i4 | simpa [up2, va_up, nwStI, e100, e200] using i4 | (simp [up2, va_up, nwStI, e100, e200, i4]; done) | (intros; simp only [up2, va_up, nwStI, e100, e200]; grind)
  · intro p hp
    have hp' : p < n 5 := by simpa [va_up] using hp
    obtain ⟨q1, q2, q3, q4⟩ := i5' p hp'
    exact ⟨by simpa [up2, va_up, nwStI, e100, e200, PV] using q1, fun q hq => by (have hq' : q < P 6 p := by simpa [up2, va_up, nwStI, e100, e200] using hq); simpa [up2, va_up, nwStI, e100, e200, PV] using q2 q hq', fun h => by (have h' : P 6 p = 0 := by simpa [up2, va_up, nwStI, e100, e200] using h); simpa [up2, va_up, nwStI, e100, e200] using q3 h', fun k hk => by (have hk' : P 6 p = k + 1 := by simpa [up2, va_up, nwStI, e100, e200] using hk); simpa [up2, va_up, nwStI, e100, e200] using q4 k hk'⟩
  · first | exact f1 | simpa [up2, va_up, nwStI, e100, e200] using f1 | (simp [up2, va_up, nwStI, e100, e200, f1]; done) | (intros; simp only [up2, va_up, nwStI, e100, e200]; grind)
  · first | exact f2 | simpa [up2, va_up, nwStI, e100, e200] using f2 | (simp [up2, va_up, nwStI, e100, e200, f2]; done) | (intros; simp only [up2, va_up, nwStI, e100, e200]; grind)
  · intro m hv
    have hv' : n 4 + 1 ≤ m := by simpa [va_up] using hv
    simpa [up2, va_up, nwStI, e100, e200, show m ≠ n 4 by omega] using f3 m (by omega)
  · first | exact f4 | simpa [up2, va_up, nwStI, e100, e200] using f4 | (simp [up2, va_up, nwStI, e100, e200, f4]; done) | (intros; simp only [up2, va_up, nwStI, e100, e200]; grind)
set_option maxHeartbeats 2000000 in
theorem op_fan (h : SIMt n I J P X Y T) {r : Nat} {p2 p3 : Int32} (hp3 : 1 ≤ p3.toInt ∧ p3.toInt ≤ 100000) (hC' : CInv (va_up n 3 (n 3 + 1)) (up2 P 4 (n 3) r)) : SIMt (va_up n 3 (n 3 + 1)) (nwFaI I (n 3) p2 p3) J (up2 P 4 (n 3) r) (up2 (up2 (up2 (up2 (up2 X 0 0 0) 28 (n 3) (nI r)) 29 (n 3) p2) 30 (n 3) p3) 27 0 (nI (n 3 + 1))) Y T := by
  obtain ⟨⟨hT, hnow⟩, ⟨⟨x3, x4, x7, x8, x9⟩, ⟨x11, x12, x13, x14, x15, x16, x17⟩, ⟨x22, x23, x24, x25, x26⟩, ⟨x28, x29, x30⟩, ⟨x32, x33⟩, ⟨x36, x39, x40, x41⟩, x1, x2, x10, x21, x27, x31, x35⟩, ⟨s1, s2, s3, s4, s5⟩, hC, ⟨j5, j6, j18, j19, j20, j37, j43, j44, j45, j46⟩, ⟨d1, d2, d3⟩, hHO, hNB, hle, h34, h38, ⟨i1', i2, i3, i4, i5'⟩, ⟨f1, f2, f3, f4⟩⟩ := h
  refine ⟨⟨hT, ?_⟩, ⟨⟨?_, ?_, ?_, ?_, ?_⟩, ⟨?_, ?_, ?_, ?_, ?_, ?_, ?_⟩, ⟨?_, ?_, ?_, ?_, ?_⟩, ⟨?_, ?_, ?_⟩, ⟨?_, ?_⟩, ⟨?_, ?_, ?_, ?_⟩, ?_, ?_, ?_, ?_, ?_, ?_, ?_⟩, ⟨?_, ?_, ?_, ?_, ?_⟩, ?_, ⟨?_, ?_, ?_, ?_, ?_, ?_, ?_, ?_, ?_, ?_⟩, ⟨?_, ?_, ?_⟩, ?_, ?_, ?_, ?_, ?_, ⟨?_, ?_, ?_, ?_, ?_⟩, ⟨?_, ?_, ?_, ?_⟩⟩
  · first | exact hnow | simpa [up2, va_up, nwFaI, e100, e200] using hnow | (simp [up2, va_up, nwFaI, e100, e200, hnow]; done) | (intros; simp only [up2, va_up, nwFaI, e100, e200]; grind)
  · first | exact x3 | simpa [up2, va_up, nwFaI, e100, e200] using x3 | (simp [up2, va_up, nwFaI, e100, e200, x3]; done) | (intros; simp only [up2, va_up, nwFaI, e100, e200]; grind)
  · first | exact x4 | simpa [up2, va_up, nwFaI, e100, e200] using x4 | (simp [up2, va_up, nwFaI, e100, e200, x4]; done) | (intros; simp only [up2, va_up, nwFaI, e100, e200]; grind)
  · first | exact x7 | simpa [up2, va_up, nwFaI, e100, e200] using x7 | (simp [up2, va_up, nwFaI, e100, e200, x7]; done) | (intros; simp only [up2, va_up, nwFaI, e100, e200]; grind)
  · first | exact x8 | simpa [up2, va_up, nwFaI, e100, e200] using x8 | (simp [up2, va_up, nwFaI, e100, e200, x8]; done) | (intros; simp only [up2, va_up, nwFaI, e100, e200]; grind)
  · first | exact x9 | simpa [up2, va_up, nwFaI, e100, e200] using x9 | (simp [up2, va_up, nwFaI, e100, e200, x9]; done) | (intros; simp only [up2, va_up, nwFaI, e100, e200]; grind)
  · first | exact x11 | simpa [up2, va_up, nwFaI, e100, e200] using x11 | (simp [up2, va_up, nwFaI, e100, e200, x11]; done) | (intros; simp only [up2, va_up, nwFaI, e100, e200]; grind)
  · first | exact x12 | simpa [up2, va_up, nwFaI, e100, e200] using x12 | (simp [up2, va_up, nwFaI, e100, e200, x12]; done) | (intros; simp only [up2, va_up, nwFaI, e100, e200]; grind)
  · first | exact x13 | simpa [up2, va_up, nwFaI, e100, e200] using x13 | (simp [up2, va_up, nwFaI, e100, e200, x13]; done) | (intros; simp only [up2, va_up, nwFaI, e100, e200]; grind)
  · first | exact x14 | simpa [up2, va_up, nwFaI, e100, e200] using x14 | (simp [up2, va_up, nwFaI, e100, e200, x14]; done) | (intros; simp only [up2, va_up, nwFaI, e100, e200]; grind)
  · first | exact x15 | simpa [up2, va_up, nwFaI, e100, e200] using x15 | (simp [up2, va_up, nwFaI, e100, e200, x15]; done) | (intros; simp only [up2, va_up, nwFaI, e100, e200]; grind)
  · first | exact x16 | simpa [up2, va_up, nwFaI, e100, e200] using x16 | (simp [up2, va_up, nwFaI, e100, e200, x16]; done) | (intros; simp only [up2, va_up, nwFaI, e100, e200]; grind)
  · first | exact x17 | simpa [up2, va_up, nwFaI, e100, e200] using x17 | (simp [up2, va_up, nwFaI, e100, e200, x17]; done) | (intros; simp only [up2, va_up, nwFaI, e100, e200]; grind)
  · first | exact x22 | simpa [up2, va_up, nwFaI, e100, e200] using x22 | (simp [up2, va_up, nwFaI, e100, e200, x22]; done) | (intros; simp only [up2, va_up, nwFaI, e100, e200]; grind)
  · first | exact x23 | simpa [up2, va_up, nwFaI, e100, e200] using x23 | (simp [up2, va_up, nwFaI, e100, e200, x23]; done) | (intros; simp only [up2, va_up, nwFaI, e100, e200]; grind)
  · first | exact x24 | simpa [up2, va_up, nwFaI, e100, e200] using x24 | (simp [up2, va_up, nwFaI, e100, e200, x24]; done) | (intros; simp only [up2, va_up, nwFaI, e100, e200]; grind)
  · first | exact x25 | simpa [up2, va_up, nwFaI, e100, e200] using x25 | (simp [up2, va_up, nwFaI, e100, e200, x25]; done) | (intros; simp only [up2, va_up, nwFaI, e100, e200]; grind)
  · first | exact x26 | simpa [up2, va_up, nwFaI, e100, e200] using x26 | (simp [up2, va_up, nwFaI, e100, e200, x26]; done) | (intros; simp only [up2, va_up, nwFaI, e100, e200]; grind)
  · intro i; by_cases q : i = n 3
    · subst q; simp [up2, va_up, nwFaI, e100, e200, x28]
    · simp [up2, va_up, nwFaI, e100, e200, x28, q]
  · intro i; by_cases q : i = n 3
    · subst q; simp [up2, va_up, nwFaI, e100, e200, x29]
    · simp [up2, va_up, nwFaI, e100, e200, x29, q]
  · intro i; by_cases q : i = n 3
    · subst q; simp [up2, va_up, nwFaI, e100, e200, x30]
    · simp [up2, va_up, nwFaI, e100, e200, x30, q]
  · first | exact x32 | simpa [up2, va_up, nwFaI, e100, e200] using x32 | (simp [up2, va_up, nwFaI, e100, e200, x32]; done) | (intros; simp only [up2, va_up, nwFaI, e100, e200]; grind)
  · first | exact x33 | simpa [up2, va_up, nwFaI, e100, e200] using x33 | (simp [up2, va_up, nwFaI, e100, e200, x33]; done) | (intros; simp only [up2, va_up, nwFaI, e100, e200]; grind)
  · first | exact x36 | simpa [up2, va_up, nwFaI, e100, e200] using x36 | (simp [up2, va_up, nwFaI, e100, e200, x36]; done) | (intros; simp only [up2, va_up, nwFaI, e100, e200]; grind)
  · first | exact x39 | simpa [up2, va_up, nwFaI, e100, e200] using x39 | (simp [up2, va_up, nwFaI, e100, e200, x39]; done) | (intros; simp only [up2, va_up, nwFaI, e100, e200]; grind)
  · first | exact x40 | simpa [up2, va_up, nwFaI, e100, e200] using x40 | (simp [up2, va_up, nwFaI, e100, e200, x40]; done) | (intros; simp only [up2, va_up, nwFaI, e100, e200]; grind)
  · first | exact x41 | simpa [up2, va_up, nwFaI, e100, e200] using x41 | (simp [up2, va_up, nwFaI, e100, e200, x41]; done) | (intros; simp only [up2, va_up, nwFaI, e100, e200]; grind)
  · first | exact x1 | simpa [up2, va_up, nwFaI, e100, e200] using x1 | (simp [up2, va_up, nwFaI, e100, e200, x1]; done) | (intros; simp only [up2, va_up, nwFaI, e100, e200]; grind)
  · first | exact x2 | simpa [up2, va_up, nwFaI, e100, e200] using x2 | (simp [up2, va_up, nwFaI, e100, e200, x2]; done) | (intros; simp only [up2, va_up, nwFaI, e100, e200]; grind)
  · first | exact x10 | simpa [up2, va_up, nwFaI, e100, e200] using x10 | (simp [up2, va_up, nwFaI, e100, e200, x10]; done) | (intros; simp only [up2, va_up, nwFaI, e100, e200]; grind)
  · first | exact x21 | simpa [up2, va_up, nwFaI, e100, e200] using x21 | (simp [up2, va_up, nwFaI, e100, e200, x21]; done) | (intros; simp only [up2, va_up, nwFaI, e100, e200]; grind)
  · first | exact x27 | simpa [up2, va_up, nwFaI, e100, e200] using x27 | (simp [up2, va_up, nwFaI, e100, e200, x27]; done) | (intros; simp only [up2, va_up, nwFaI, e100, e200]; grind)
  · first | exact x31 | simpa [up2, va_up, nwFaI, e100, e200] using x31 | (simp [up2, va_up, nwFaI, e100, e200, x31]; done) | (intros; simp only [up2, va_up, nwFaI, e100, e200]; grind)
  · first | exact x35 | simpa [up2, va_up, nwFaI, e100, e200] using x35 | (simp [up2, va_up, nwFaI, e100, e200, x35]; done) | (intros; simp only [up2, va_up, nwFaI, e100, e200]; grind)
  · first | exact s1 | simpa [up2, va_up, nwFaI, e100, e200] using s1 | (simp [up2, va_up, nwFaI, e100, e200, s1]; done) | (intros; simp only [up2, va_up, nwFaI, e100, e200]; grind)
  · first | exact s2 | simpa [up2, va_up, nwFaI, e100, e200] using s2 | (simp [up2, va_up, nwFaI, e100, e200, s2]; done) | (intros; simp only [up2, va_up, nwFaI, e100, e200]; grind)
  · first | exact s3 | simpa [up2, va_up, nwFaI, e100, e200] using s3 | (simp [up2, va_up, nwFaI, e100, e200, s3]; done) | (intros; simp only [up2, va_up, nwFaI, e100, e200]; grind)
  · intro m hv; by_cases q : m = n 3
    · subst q; simp [up2, va_up, nwFaI, e100, e200]; exact hp3
    · have hv' : m < n 3 := by (simp [va_up] at hv; omega)
      simpa [up2, va_up, nwFaI, e100, e200, q] using s4 m hv'
  · first | exact s5 | simpa [up2, va_up, nwFaI, e100, e200] using s5 | (simp [up2, va_up, nwFaI, e100, e200, s5]; done) | (intros; simp only [up2, va_up, nwFaI, e100, e200]; grind)
  · exact hC'
  · first | exact j5 | simpa [up2, va_up, nwFaI, e100, e200] using j5 | (simp [up2, va_up, nwFaI, e100, e200, j5]; done) | (intros; simp only [up2, va_up, nwFaI, e100, e200]; grind)
  · first | exact j6 | simpa [up2, va_up, nwFaI, e100, e200] using j6 | (simp [up2, va_up, nwFaI, e100, e200, j6]; done) | (intros; simp only [up2, va_up, nwFaI, e100, e200]; grind)
  · first | exact j18 | simpa [up2, va_up, nwFaI, e100, e200] using j18 | (simp [up2, va_up, nwFaI, e100, e200, j18]; done) | (intros; simp only [up2, va_up, nwFaI, e100, e200]; grind)
  · first | exact j19 | simpa [up2, va_up, nwFaI, e100, e200] using j19 | (simp [up2, va_up, nwFaI, e100, e200, j19]; done) | (intros; simp only [up2, va_up, nwFaI, e100, e200]; grind)
  · first | exact j20 | simpa [up2, va_up, nwFaI, e100, e200] using j20 | (simp [up2, va_up, nwFaI, e100, e200, j20]; done) | (intros; simp only [up2, va_up, nwFaI, e100, e200]; grind)
  · first | exact j37 | simpa [up2, va_up, nwFaI, e100, e200] using j37 | (simp [up2, va_up, nwFaI, e100, e200, j37]; done) | (intros; simp only [up2, va_up, nwFaI, e100, e200]; grind)
  · first | exact j43 | simpa [up2, va_up, nwFaI, e100, e200] using j43 | (simp [up2, va_up, nwFaI, e100, e200, j43]; done) | (intros; simp only [up2, va_up, nwFaI, e100, e200]; grind)
  · first | exact j44 | simpa [up2, va_up, nwFaI, e100, e200] using j44 | (simp [up2, va_up, nwFaI, e100, e200, j44]; done) | (intros; simp only [up2, va_up, nwFaI, e100, e200]; grind)
  · first | exact j45 | simpa [up2, va_up, nwFaI, e100, e200] using j45 | (simp [up2, va_up, nwFaI, e100, e200, j45]; done) | (intros; simp only [up2, va_up, nwFaI, e100, e200]; grind)
  · first | exact j46 | simpa [up2, va_up, nwFaI, e100, e200] using j46 | (simp [up2, va_up, nwFaI, e100, e200, j46]; done) | (intros; simp only [up2, va_up, nwFaI, e100, e200]; grind)
  · first | exact d1 | simpa [up2, va_up, nwFaI, e100, e200] using d1 | (simp [up2, va_up, nwFaI, e100, e200, d1]; done) | (intros; simp only [up2, va_up, nwFaI, e100, e200]; grind)
  · first | exact d2 | simpa [up2, va_up, nwFaI, e100, e200] using d2 | (simp [up2, va_up, nwFaI, e100, e200, d2]; done) | (intros; simp only [up2, va_up, nwFaI, e100, e200]; grind)
  · first | exact d3 | simpa [up2, va_up, nwFaI, e100, e200] using d3 | (simp [up2, va_up, nwFaI, e100, e200, d3]; done) | (intros; simp only [up2, va_up, nwFaI, e100, e200]; grind)
  · first | exact hHO | simpa [up2, va_up, nwFaI, e100, e200] using hHO | (simp [up2, va_up, nwFaI, e100, e200, hHO]; done) | (intros; simp only [up2, va_up, nwFaI, e100, e200]; grind)
  · first | exact hNB | simpa [up2, va_up, nwFaI, e100, e200] using hNB | (simp [up2, va_up, nwFaI, e100, e200, hNB]; done) | (intros; simp only [up2, va_up, nwFaI, e100, e200]; grind)
  · first | exact hle | simpa [up2, va_up, nwFaI, e100, e200] using hle | (simp [up2, va_up, nwFaI, e100, e200, hle]; done) | (intros; simp only [up2, va_up, nwFaI, e100, e200]; grind)
  · first | exact h34 | simpa [up2, va_up, nwFaI, e100, e200] using h34 | (simp [up2, va_up, nwFaI, e100, e200, h34]; done) | (intros; simp only [up2, va_up, nwFaI, e100, e200]; grind)
  · first | exact h38 | simpa [up2, va_up, nwFaI, e100, e200] using h38 | (simp [up2, va_up, nwFaI, e100, e200, h38]; done) | (intros; simp only [up2, va_up, nwFaI, e100, e200]; grind)
  · first | exact i1' | simpa [up2, va_up, nwFaI, e100, e200] using i1' | (simp [up2, va_up, nwFaI, e100, e200, i1']; done) | (intros; simp only [up2, va_up, nwFaI, e100, e200]; grind)
  · first | exact i2 | simpa [up2, va_up, nwFaI, e100, e200] using i2 | (simp [up2, va_up, nwFaI, e100, e200, i2]; done) | (intros; simp only [up2, va_up, nwFaI, e100, e200]; grind)
  · first | exact i3 | simpa [up2, va_up, nwFaI, e100, e200] using i3 | (simp [up2, va_up, nwFaI, e100, e200, i3]; done) | (intros; simp only [up2, va_up, nwFaI, e100, e200]; grind)
  · first | exact i4 | simpa [up2, va_up, nwFaI, e100, e200] using i4 | (simp [up2, va_up, nwFaI, e100, e200, i4]; done) | (intros; simp only [up2, va_up, nwFaI, e100, e200]; grind)
  · intro p hp
    have hp' : p < n 5 := by simpa [va_up] using hp
    obtain ⟨q1, q2, q3, q4⟩ := i5' p hp'
    exact ⟨by simpa [up2, va_up, nwFaI, e100, e200, PV] using q1, fun q hq => by (have hq' : q < P 6 p := by simpa [up2, va_up, nwFaI, e100, e200] using hq); simpa [up2, va_up, nwFaI, e100, e200, PV] using q2 q hq', fun h => by (have h' : P 6 p = 0 := by simpa [up2, va_up, nwFaI, e100, e200] using h); simpa [up2, va_up, nwFaI, e100, e200] using q3 h', fun k hk => by (have hk' : P 6 p = k + 1 := by simpa [up2, va_up, nwFaI, e100, e200] using hk); simpa [up2, va_up, nwFaI, e100, e200] using q4 k hk'⟩
  · first | exact f1 | simpa [up2, va_up, nwFaI, e100, e200] using f1 | (simp [up2, va_up, nwFaI, e100, e200, f1]; done) | (intros; simp only [up2, va_up, nwFaI, e100, e200]; grind)
  · first | exact f2 | simpa [up2, va_up, nwFaI, e100, e200] using f2 | (simp [up2, va_up, nwFaI, e100, e200, f2]; done) | (intros; simp only [up2, va_up, nwFaI, e100, e200]; grind)
  · first | exact f3 | simpa [up2, va_up, nwFaI, e100, e200] using f3 | (simp [up2, va_up, nwFaI, e100, e200, f3]; done) | (intros; simp only [up2, va_up, nwFaI, e100, e200]; grind)
  · first | exact f4 | simpa [up2, va_up, nwFaI, e100, e200] using f4 | (simp [up2, va_up, nwFaI, e100, e200, f4]; done) | (intros; simp only [up2, va_up, nwFaI, e100, e200]; grind)
set_option maxHeartbeats 2000000 in
theorem op_fire (h : SIMt n I J P X Y T) {r : Nat} {p2 p3 p4 p5 : Int32} (hp2 : 0 ≤ p2.toInt ∧ p2.toInt ≤ 100000) (hp3 : 1 ≤ p3.toInt ∧ p3.toInt ≤ 1000) (hp4 : 1 ≤ p4.toInt ∧ p4.toInt ≤ 100000) (hp5 : 0 ≤ p5.toInt ∧ p5.toInt ≤ 1000) (hC' : CInv (va_up n 2 (n 2 + 1)) (up2 P 3 (n 2) r)) : SIMt (va_up n 2 (n 2 + 1)) (nwFiI I (n 2) p2 p3 p4 p5) J (up2 P 3 (n 2) r) (up2 (up2 (up2 (up2 (up2 (up2 (up2 X 0 0 0) 22 (n 2) (nI r)) 23 (n 2) p2) 24 (n 2) p3) 25 (n 2) p4) 26 (n 2) p5) 21 0 (nI (n 2 + 1))) Y T := by
  obtain ⟨⟨hT, hnow⟩, ⟨⟨x3, x4, x7, x8, x9⟩, ⟨x11, x12, x13, x14, x15, x16, x17⟩, ⟨x22, x23, x24, x25, x26⟩, ⟨x28, x29, x30⟩, ⟨x32, x33⟩, ⟨x36, x39, x40, x41⟩, x1, x2, x10, x21, x27, x31, x35⟩, ⟨s1, s2, s3, s4, s5⟩, hC, ⟨j5, j6, j18, j19, j20, j37, j43, j44, j45, j46⟩, ⟨d1, d2, d3⟩, hHO, hNB, hle, h34, h38, ⟨i1', i2, i3, i4, i5'⟩, ⟨f1, f2, f3, f4⟩⟩ := h
  refine ⟨⟨hT, ?_⟩, ⟨⟨?_, ?_, ?_, ?_, ?_⟩, ⟨?_, ?_, ?_, ?_, ?_, ?_, ?_⟩, ⟨?_, ?_, ?_, ?_, ?_⟩, ⟨?_, ?_, ?_⟩, ⟨?_, ?_⟩, ⟨?_, ?_, ?_, ?_⟩, ?_, ?_, ?_, ?_, ?_, ?_, ?_⟩, ⟨?_, ?_, ?_, ?_, ?_⟩, ?_, ⟨?_, ?_, ?_, ?_, ?_, ?_, ?_, ?_, ?_, ?_⟩, ⟨?_, ?_, ?_⟩, ?_, ?_, ?_, ?_, ?_, ⟨?_, ?_, ?_, ?_, ?_⟩, ⟨?_, ?_, ?_, ?_⟩⟩
  · first | exact hnow | simpa [up2, va_up, nwFiI, e100, e200] using hnow | (simp [up2, va_up, nwFiI, e100, e200, hnow]; done) | (intros; simp only [up2, va_up, nwFiI, e100, e200]; grind)
  · first | exact x3 | simpa [up2, va_up, nwFiI, e100, e200] using x3 | (simp [up2, va_up, nwFiI, e100, e200, x3]; done) | (intros; simp only [up2, va_up, nwFiI, e100, e200]; grind)
  · first | exact x4 | simpa [up2, va_up, nwFiI, e100, e200] using x4 | (simp [up2, va_up, nwFiI, e100, e200, x4]; done) | (intros; simp only [up2, va_up, nwFiI, e100, e200]; grind)
  · first | exact x7 | simpa [up2, va_up, nwFiI, e100, e200] using x7 | (simp [up2, va_up, nwFiI, e100, e200, x7]; done) | (intros; simp only [up2, va_up, nwFiI, e100, e200]; grind)
  · first | exact x8 | simpa [up2, va_up, nwFiI, e100, e200] using x8 | (simp [up2, va_up, nwFiI, e100, e200, x8]; done) | (intros; simp only [up2, va_up, nwFiI, e100, e200]; grind)
  · first | exact x9 | simpa [up2, va_up, nwFiI, e100, e200] using x9 | (simp [up2, va_up, nwFiI, e100, e200, x9]; done) | (intros; simp only [up2, va_up, nwFiI, e100, e200]; grind)
  · first | exact x11 | simpa [up2, va_up, nwFiI, e100, e200] using x11 | (simp [up2, va_up, nwFiI, e100, e200, x11]; done) | (intros; simp only [up2, va_up, nwFiI, e100, e200]; grind)
  · first | exact x12 | simpa [up2, va_up, nwFiI, e100, e200] using x12 | (simp [up2, va_up, nwFiI, e100, e200, x12]; done) | (intros; simp only [up2, va_up, nwFiI, e100, e200]; grind)
  · first | exact x13 | simpa [up2, va_up, nwFiI, e100, e200] using x13 | (simp [up2, va_up, nwFiI, e100, e200, x13]; done) | (intros; simp only [up2, va_up, nwFiI, e100, e200]; grind)
  · first | exact x14 | simpa [up2, va_up, nwFiI, e100, e200] using x14 | (simp [up2, va_up, nwFiI, e100, e200, x14]; done) | (intros; simp only [up2, va_up, nwFiI, e100, e200]; grind)
  · first | exact x15 | simpa [up2, va_up, nwFiI, e100, e200] using x15 | (simp [up2, va_up, nwFiI, e100, e200, x15]; done) | (intros; simp only [up2, va_up, nwFiI, e100, e200]; grind)
  · first | exact x16 | simpa [up2, va_up, nwFiI, e100, e200] using x16 | (simp [up2, va_up, nwFiI, e100, e200, x16]; done) | (intros; simp only [up2, va_up, nwFiI, e100, e200]; grind)
  · first | exact x17 | simpa [up2, va_up, nwFiI, e100, e200] using x17 | (simp [up2, va_up, nwFiI, e100, e200, x17]; done) | (intros; simp only [up2, va_up, nwFiI, e100, e200]; grind)
  · intro i; by_cases q : i = n 2
    · subst q; simp [up2, va_up, nwFiI, e100, e200, x22]
    · simp [up2, va_up, nwFiI, e100, e200, x22, q]
  · intro i; by_cases q : i = n 2
    · subst q; simp [up2, va_up, nwFiI, e100, e200, x23]
    · simp [up2, va_up, nwFiI, e100, e200, x23, q]
  · intro i; by_cases q : i = n 2
    · subst q; simp [up2, va_up, nwFiI, e100, e200, x24]
    · simp [up2, va_up, nwFiI, e100, e200, x24, q]
  · intro i; by_cases q : i = n 2
    · subst q; simp [up2, va_up, nwFiI, e100, e200, x25]
    · simp [up2, va_up, nwFiI, e100, e200, x25, q]
  · intro i; by_cases q : i = n 2
    · subst q; simp [up2, va_up, nwFiI, e100, e200, x26]
    · simp [up2, va_up, nwFiI, e100, e200, x26, q]
  · first | exact x28 | simpa [up2, va_up, nwFiI, e100, e200] using x28 | (simp [up2, va_up, nwFiI, e100, e200, x28]; done) | (intros; simp only [up2, va_up, nwFiI, e100, e200]; grind)
  · first | exact x29 | simpa [up2, va_up, nwFiI, e100, e200] using x29 | (simp [up2, va_up, nwFiI, e100, e200, x29]; done) | (intros; simp only [up2, va_up, nwFiI, e100, e200]; grind)
  · first | exact x30 | simpa [up2, va_up, nwFiI, e100, e200] using x30 | (simp [up2, va_up, nwFiI, e100, e200, x30]; done) | (intros; simp only [up2, va_up, nwFiI, e100, e200]; grind)
  · first | exact x32 | simpa [up2, va_up, nwFiI, e100, e200] using x32 | (simp [up2, va_up, nwFiI, e100, e200, x32]; done) | (intros; simp only [up2, va_up, nwFiI, e100, e200]; grind)
  · first | exact x33 | simpa [up2, va_up, nwFiI, e100, e200] using x33 | (simp [up2, va_up, nwFiI, e100, e200, x33]; done) | (intros; simp only [up2, va_up, nwFiI, e100, e200]; grind)
  · first | exact x36 | simpa [up2, va_up, nwFiI, e100, e200] using x36 | (simp [up2, va_up, nwFiI, e100, e200, x36]; done) | (intros; simp only [up2, va_up, nwFiI, e100, e200]; grind)
  · first | exact x39 | simpa [up2, va_up, nwFiI, e100, e200] using x39 | (simp [up2, va_up, nwFiI, e100, e200, x39]; done) | (intros; simp only [up2, va_up, nwFiI, e100, e200]; grind)
  · first | exact x40 | simpa [up2, va_up, nwFiI, e100, e200] using x40 | (simp [up2, va_up, nwFiI, e100, e200, x40]; done) | (intros; simp only [up2, va_up, nwFiI, e100, e200]; grind)
  · first | exact x41 | simpa [up2, va_up, nwFiI, e100, e200] using x41 | (simp [up2, va_up, nwFiI, e100, e200, x41]; done) | (intros; simp only [up2, va_up, nwFiI, e100, e200]; grind)
  · first | exact x1 | simpa [up2, va_up, nwFiI, e100, e200] using x1 | (simp [up2, va_up, nwFiI, e100, e200, x1]; done) | (intros; simp only [up2, va_up, nwFiI, e100, e200]; grind)
  · first | exact x2 | simpa [up2, va_up, nwFiI, e100, e200] using x2 | (simp [up2, va_up, nwFiI, e100, e200, x2]; done) | (intros; simp only [up2, va_up, nwFiI, e100, e200]; grind)
  · first | exact x10 | simpa [up2, va_up, nwFiI, e100, e200] using x10 | (simp [up2, va_up, nwFiI, e100, e200, x10]; done) | (intros; simp only [up2, va_up, nwFiI, e100, e200]; grind)
  · first | exact x21 | simpa [up2, va_up, nwFiI, e100, e200] using x21 | (simp [up2, va_up, nwFiI, e100, e200, x21]; done) | (intros; simp only [up2, va_up, nwFiI, e100, e200]; grind)
  · first | exact x27 | simpa [up2, va_up, nwFiI, e100, e200] using x27 | (simp [up2, va_up, nwFiI, e100, e200, x27]; done) | (intros; simp only [up2, va_up, nwFiI, e100, e200]; grind)
  · first | exact x31 | simpa [up2, va_up, nwFiI, e100, e200] using x31 | (simp [up2, va_up, nwFiI, e100, e200, x31]; done) | (intros; simp only [up2, va_up, nwFiI, e100, e200]; grind)
  · first | exact x35 | simpa [up2, va_up, nwFiI, e100, e200] using x35 | (simp [up2, va_up, nwFiI, e100, e200, x35]; done) | (intros; simp only [up2, va_up, nwFiI, e100, e200]; grind)
  · first | exact s1 | simpa [up2, va_up, nwFiI, e100, e200] using s1 | (simp [up2, va_up, nwFiI, e100, e200, s1]; done) | (intros; simp only [up2, va_up, nwFiI, e100, e200]; grind)
  · first | exact s2 | simpa [up2, va_up, nwFiI, e100, e200] using s2 | (simp [up2, va_up, nwFiI, e100, e200, s2]; done) | (intros; simp only [up2, va_up, nwFiI, e100, e200]; grind)
  · intro m hv; by_cases q : m = n 2
    · subst q; simp [up2, va_up, nwFiI, e100, e200]; exact ⟨hp2.1, hp2.2, hp3.1, hp3.2, hp4.1, hp4.2, hp5.1, hp5.2⟩
    · have hv' : m < n 2 := by (simp [va_up] at hv; omega)
      simpa [up2, va_up, nwFiI, e100, e200, q] using s3 m hv'
  · first | exact s4 | simpa [up2, va_up, nwFiI, e100, e200] using s4 | (simp [up2, va_up, nwFiI, e100, e200, s4]; done) | (intros; simp only [up2, va_up, nwFiI, e100, e200]; grind)
  · first | exact s5 | simpa [up2, va_up, nwFiI, e100, e200] using s5 | (simp [up2, va_up, nwFiI, e100, e200, s5]; done) | (intros; simp only [up2, va_up, nwFiI, e100, e200]; grind)
  · exact hC'
  · first | exact j5 | simpa [up2, va_up, nwFiI, e100, e200] using j5 | (simp [up2, va_up, nwFiI, e100, e200, j5]; done) | (intros; simp only [up2, va_up, nwFiI, e100, e200]; grind)
  · first | exact j6 | simpa [up2, va_up, nwFiI, e100, e200] using j6 | (simp [up2, va_up, nwFiI, e100, e200, j6]; done) | (intros; simp only [up2, va_up, nwFiI, e100, e200]; grind)
  · first | exact j18 | simpa [up2, va_up, nwFiI, e100, e200] using j18 | (simp [up2, va_up, nwFiI, e100, e200, j18]; done) | (intros; simp only [up2, va_up, nwFiI, e100, e200]; grind)
  · first | exact j19 | simpa [up2, va_up, nwFiI, e100, e200] using j19 | (simp [up2, va_up, nwFiI, e100, e200, j19]; done) | (intros; simp only [up2, va_up, nwFiI, e100, e200]; grind)
  · first | exact j20 | simpa [up2, va_up, nwFiI, e100, e200] using j20 | (simp [up2, va_up, nwFiI, e100, e200, j20]; done) | (intros; simp only [up2, va_up, nwFiI, e100, e200]; grind)
  · first | exact j37 | simpa [up2, va_up, nwFiI, e100, e200] using j37 | (simp [up2, va_up, nwFiI, e100, e200, j37]; done) | (intros; simp only [up2, va_up, nwFiI, e100, e200]; grind)
  · first | exact j43 | simpa [up2, va_up, nwFiI, e100, e200] using j43 | (simp [up2, va_up, nwFiI, e100, e200, j43]; done) | (intros; simp only [up2, va_up, nwFiI, e100, e200]; grind)
  · first | exact j44 | simpa [up2, va_up, nwFiI, e100, e200] using j44 | (simp [up2, va_up, nwFiI, e100, e200, j44]; done) | (intros; simp only [up2, va_up, nwFiI, e100, e200]; grind)
  · first | exact j45 | simpa [up2, va_up, nwFiI, e100, e200] using j45 | (simp [up2, va_up, nwFiI, e100, e200, j45]; done) | (intros; simp only [up2, va_up, nwFiI, e100, e200]; grind)
  · first | exact j46 | simpa [up2, va_up, nwFiI, e100, e200] using j46 | (simp [up2, va_up, nwFiI, e100, e200, j46]; done) | (intros; simp only [up2, va_up, nwFiI, e100, e200]; grind)
  · first | exact d1 | simpa [up2, va_up, nwFiI, e100, e200] using d1 | (simp [up2, va_up, nwFiI, e100, e200, d1]; done) | (intros; simp only [up2, va_up, nwFiI, e100, e200]; grind)
  · first | exact d2 | simpa [up2, va_up, nwFiI, e100, e200] using d2 | (simp [up2, va_up, nwFiI, e100, e200, d2]; done) | (intros; simp only [up2, va_up, nwFiI, e100, e200]; grind)
  · first | exact d3 | simpa [up2, va_up, nwFiI, e100, e200] using d3 | (simp [up2, va_up, nwFiI, e100, e200, d3]; done) | (intros; simp only [up2, va_up, nwFiI, e100, e200]; grind)
  · first | exact hHO | simpa [up2, va_up, nwFiI, e100, e200] using hHO | (simp [up2, va_up, nwFiI, e100, e200, hHO]; done) | (intros; simp only [up2, va_up, nwFiI, e100, e200]; grind)
  · first | exact hNB | simpa [up2, va_up, nwFiI, e100, e200] using hNB | (simp [up2, va_up, nwFiI, e100, e200, hNB]; done) | (intros; simp only [up2, va_up, nwFiI, e100, e200]; grind)
  · first | exact hle | simpa [up2, va_up, nwFiI, e100, e200] using hle | (simp [up2, va_up, nwFiI, e100, e200, hle]; done) | (intros; simp only [up2, va_up, nwFiI, e100, e200]; grind)
  · first | exact h34 | simpa [up2, va_up, nwFiI, e100, e200] using h34 | (simp [up2, va_up, nwFiI, e100, e200, h34]; done) | (intros; simp only [up2, va_up, nwFiI, e100, e200]; grind)
  · first | exact h38 | simpa [up2, va_up, nwFiI, e100, e200] using h38 | (simp [up2, va_up, nwFiI, e100, e200, h38]; done) | (intros; simp only [up2, va_up, nwFiI, e100, e200]; grind)
  · first | exact i1' | simpa [up2, va_up, nwFiI, e100, e200] using i1' | (simp [up2, va_up, nwFiI, e100, e200, i1']; done) | (intros; simp only [up2, va_up, nwFiI, e100, e200]; grind)
  · first | exact i2 | simpa [up2, va_up, nwFiI, e100, e200] using i2 | (simp [up2, va_up, nwFiI, e100, e200, i2]; done) | (intros; simp only [up2, va_up, nwFiI, e100, e200]; grind)
  · first | exact i3 | simpa [up2, va_up, nwFiI, e100, e200] using i3 | (simp [up2, va_up, nwFiI, e100, e200, i3]; done) | (intros; simp only [up2, va_up, nwFiI, e100, e200]; grind)
  · first | exact i4 | simpa [up2, va_up, nwFiI, e100, e200] using i4 | (simp [up2, va_up, nwFiI, e100, e200, i4]; done) | (intros; simp only [up2, va_up, nwFiI, e100, e200]; grind)
  · intro p hp
    have hp' : p < n 5 := by simpa [va_up] using hp
    obtain ⟨q1, q2, q3, q4⟩ := i5' p hp'
    exact ⟨by simpa [up2, va_up, nwFiI, e100, e200, PV] using q1, fun q hq => by (have hq' : q < P 6 p := by simpa [up2, va_up, nwFiI, e100, e200] using hq); simpa [up2, va_up, nwFiI, e100, e200, PV] using q2 q hq', fun h => by (have h' : P 6 p = 0 := by simpa [up2, va_up, nwFiI, e100, e200] using h); simpa [up2, va_up, nwFiI, e100, e200] using q3 h', fun k hk => by (have hk' : P 6 p = k + 1 := by simpa [up2, va_up, nwFiI, e100, e200] using hk); simpa [up2, va_up, nwFiI, e100, e200] using q4 k hk'⟩
  · first | exact f1 | simpa [up2, va_up, nwFiI, e100, e200] using f1 | (simp [up2, va_up, nwFiI, e100, e200, f1]; done) | (intros; simp only [up2, va_up, nwFiI, e100, e200]; grind)
  · first | exact f2 | simpa [up2, va_up, nwFiI, e100, e200] using f2 | (simp [up2, va_up, nwFiI, e100, e200, f2]; done) | (intros; simp only [up2, va_up, nwFiI, e100, e200]; grind)
  · first | exact f3 | simpa [up2, va_up, nwFiI, e100, e200] using f3 | (simp [up2, va_up, nwFiI, e100, e200, f3]; done) | (intros; simp only [up2, va_up, nwFiI, e100, e200]; grind)
  · first | exact f4 | simpa [up2, va_up, nwFiI, e100, e200] using f4 | (simp [up2, va_up, nwFiI, e100, e200, f4]; done) | (intros; simp only [up2, va_up, nwFiI, e100, e200]; grind)
set_option maxHeartbeats 2000000 in
theorem op_spr (h : SIMt n I J P X Y T) {r : Nat} {p2 : Int32} (hr : r < n 0) (hp2 : 1 ≤ p2.toInt ∧ p2.toInt ≤ 1000) : SIMt n (up2 I 2 r p2) J P (up2 (up2 X 0 0 0) 7 r p2) Y T := by
  obtain ⟨⟨hT, hnow⟩, ⟨⟨x3, x4, x7, x8, x9⟩, ⟨x11, x12, x13, x14, x15, x16, x17⟩, ⟨x22, x23, x24, x25, x26⟩, ⟨x28, x29, x30⟩, ⟨x32, x33⟩, ⟨x36, x39, x40, x41⟩, x1, x2, x10, x21, x27, x31, x35⟩, ⟨s1, s2, s3, s4, s5⟩, hC, ⟨j5, j6, j18, j19, j20, j37, j43, j44, j45, j46⟩, ⟨d1, d2, d3⟩, hHO, hNB, hle, h34, h38, ⟨i1', i2, i3, i4, i5'⟩, ⟨f1, f2, f3, f4⟩⟩ := h
  have hne : ¬ p2 = (-1) := fun e => by rw [e, im1] at hp2; omega
  refine ⟨⟨hT, ?_⟩, ⟨⟨?_, ?_, ?_, ?_, ?_⟩, ⟨?_, ?_, ?_, ?_, ?_, ?_, ?_⟩, ⟨?_, ?_, ?_, ?_, ?_⟩, ⟨?_, ?_, ?_⟩, ⟨?_, ?_⟩, ⟨?_, ?_, ?_, ?_⟩, ?_, ?_, ?_, ?_, ?_, ?_, ?_⟩, ⟨?_, ?_, ?_, ?_, ?_⟩, ?_, ⟨?_, ?_, ?_, ?_, ?_, ?_, ?_, ?_, ?_, ?_⟩, ⟨?_, ?_, ?_⟩, ?_, ?_, ?_, ?_, ?_, ⟨?_, ?_, ?_, ?_, ?_⟩, ⟨?_, ?_, ?_, ?_⟩⟩
  · first | exact hnow | simpa [up2, e100, e200] using hnow | (simp [up2, e100, e200, hnow]; done) | (intros; simp only [up2, e100, e200]; grind)
  · first | exact x3 | simpa [up2, e100, e200] using x3 | (simp [up2, e100, e200, x3]; done) | (intros; simp only [up2, e100, e200]; grind)
  · first | exact x4 | simpa [up2, e100, e200] using x4 | (simp [up2, e100, e200, x4]; done) | (intros; simp only [up2, e100, e200]; grind)
  · intro i; by_cases q : i = r
    · subst q; simp [up2, e100, e200, gl0, hne]
    · simp [up2, e100, e200, x7, q]
  · first | exact x8 | simpa [up2, e100, e200] using x8 | (simp [up2, e100, e200, x8]; done) | (intros; simp only [up2, e100, e200]; grind)
  · first | exact x9 | simpa [up2, e100, e200] using x9 | (simp [up2, e100, e200, x9]; done) | (intros; simp only [up2, e100, e200]; grind)
  · first | exact x11 | simpa [up2, e100, e200] using x11 | (simp [up2, e100, e200, x11]; done) | (intros; simp only [up2, e100, e200]; grind)
  · first | exact x12 | simpa [up2, e100, e200] using x12 | (simp [up2, e100, e200, x12]; done) | (intros; simp only [up2, e100, e200]; grind)
  · first | exact x13 | simpa [up2, e100, e200] using x13 | (simp [up2, e100, e200, x13]; done) | (intros; simp only [up2, e100, e200]; grind)
  · first | exact x14 | simpa [up2, e100, e200] using x14 | (simp [up2, e100, e200, x14]; done) | (intros; simp only [up2, e100, e200]; grind)
  · first | exact x15 | simpa [up2, e100, e200] using x15 | (simp [up2, e100, e200, x15]; done) | (intros; simp only [up2, e100, e200]; grind)
  · first | exact x16 | simpa [up2, e100, e200] using x16 | (simp [up2, e100, e200, x16]; done) | (intros; simp only [up2, e100, e200]; grind)
  · first | exact x17 | simpa [up2, e100, e200] using x17 | (simp [up2, e100, e200, x17]; done) | (intros; simp only [up2, e100, e200]; grind)
  · first | exact x22 | simpa [up2, e100, e200] using x22 | (simp [up2, e100, e200, x22]; done) | (intros; simp only [up2, e100, e200]; grind)
  · first | exact x23 | simpa [up2, e100, e200] using x23 | (simp [up2, e100, e200, x23]; done) | (intros; simp only [up2, e100, e200]; grind)
  · first | exact x24 | simpa [up2, e100, e200] using x24 | (simp [up2, e100, e200, x24]; done) | (intros; simp only [up2, e100, e200]; grind)
  · first | exact x25 | simpa [up2, e100, e200] using x25 | (simp [up2, e100, e200, x25]; done) | (intros; simp only [up2, e100, e200]; grind)
  · first | exact x26 | simpa [up2, e100, e200] using x26 | (simp [up2, e100, e200, x26]; done) | (intros; simp only [up2, e100, e200]; grind)
  · first | exact x28 | simpa [up2, e100, e200] using x28 | (simp [up2, e100, e200, x28]; done) | (intros; simp only [up2, e100, e200]; grind)
  · first | exact x29 | simpa [up2, e100, e200] using x29 | (simp [up2, e100, e200, x29]; done) | (intros; simp only [up2, e100, e200]; grind)
  · first | exact x30 | simpa [up2, e100, e200] using x30 | (simp [up2, e100, e200, x30]; done) | (intros; simp only [up2, e100, e200]; grind)
  · first | exact x32 | simpa [up2, e100, e200] using x32 | (simp [up2, e100, e200, x32]; done) | (intros; simp only [up2, e100, e200]; grind)
  · first | exact x33 | simpa [up2, e100, e200] using x33 | (simp [up2, e100, e200, x33]; done) | (intros; simp only [up2, e100, e200]; grind)
  · first | exact x36 | simpa [up2, e100, e200] using x36 | (simp [up2, e100, e200, x36]; done) | (intros; simp only [up2, e100, e200]; grind)
  · first | exact x39 | simpa [up2, e100, e200] using x39 | (simp [up2, e100, e200, x39]; done) | (intros; simp only [up2, e100, e200]; grind)
  · first | exact x40 | simpa [up2, e100, e200] using x40 | (simp [up2, e100, e200, x40]; done) | (intros; simp only [up2, e100, e200]; grind)
  · first | exact x41 | simpa [up2, e100, e200] using x41 | (simp [up2, e100, e200, x41]; done) | (intros; simp only [up2, e100, e200]; grind)
  · first | exact x1 | simpa [up2, e100, e200] using x1 | (simp [up2, e100, e200, x1]; done) | (intros; simp only [up2, e100, e200]; grind)
  · first | exact x2 | simpa [up2, e100, e200] using x2 | (simp [up2, e100, e200, x2]; done) | (intros; simp only [up2, e100, e200]; grind)
  · first | exact x10 | simpa [up2, e100, e200] using x10 | (simp [up2, e100, e200, x10]; done) | (intros; simp only [up2, e100, e200]; grind)
  · first | exact x21 | simpa [up2, e100, e200] using x21 | (simp [up2, e100, e200, x21]; done) | (intros; simp only [up2, e100, e200]; grind)
  · first | exact x27 | simpa [up2, e100, e200] using x27 | (simp [up2, e100, e200, x27]; done) | (intros; simp only [up2, e100, e200]; grind)
  · first | exact x31 | simpa [up2, e100, e200] using x31 | (simp [up2, e100, e200, x31]; done) | (intros; simp only [up2, e100, e200]; grind)
  · first | exact x35 | simpa [up2, e100, e200] using x35 | (simp [up2, e100, e200, x35]; done) | (intros; simp only [up2, e100, e200]; grind)
  · first | exact s1 | simpa [up2, e100, e200] using s1 | (simp [up2, e100, e200, s1]; done) | (intros; simp only [up2, e100, e200]; grind)
  · first | exact s2 | simpa [up2, e100, e200] using s2 | (simp [up2, e100, e200, s2]; done) | (intros; simp only [up2, e100, e200]; grind)
  · first | exact s3 | simpa [up2, e100, e200] using s3 | (simp [up2, e100, e200, s3]; done) | (intros; simp only [up2, e100, e200]; grind)
  · first | exact s4 | simpa [up2, e100, e200] using s4 | (simp [up2, e100, e200, s4]; done) | (intros; simp only [up2, e100, e200]; grind)
  · first | exact s5 | simpa [up2, e100, e200] using s5 | (simp [up2, e100, e200, s5]; done) | (intros; simp only [up2, e100, e200]; grind)
  · exact hC
  · first | exact j5 | simpa [up2, e100, e200] using j5 | (simp [up2, e100, e200, j5]; done) | (intros; simp only [up2, e100, e200]; grind)
  · first | exact j6 | simpa [up2, e100, e200] using j6 | (simp [up2, e100, e200, j6]; done) | (intros; simp only [up2, e100, e200]; grind)
  · first | exact j18 | simpa [up2, e100, e200] using j18 | (simp [up2, e100, e200, j18]; done) | (intros; simp only [up2, e100, e200]; grind)
  · first | exact j19 | simpa [up2, e100, e200] using j19 | (simp [up2, e100, e200, j19]; done) | (intros; simp only [up2, e100, e200]; grind)
  · first | exact j20 | simpa [up2, e100, e200] using j20 | (simp [up2, e100, e200, j20]; done) | (intros; simp only [up2, e100, e200]; grind)
  · first | exact j37 | simpa [up2, e100, e200] using j37 | (simp [up2, e100, e200, j37]; done) | (intros; simp only [up2, e100, e200]; grind)
  · first | exact j43 | simpa [up2, e100, e200] using j43 | (simp [up2, e100, e200, j43]; done) | (intros; simp only [up2, e100, e200]; grind)
  · first | exact j44 | simpa [up2, e100, e200] using j44 | (simp [up2, e100, e200, j44]; done) | (intros; simp only [up2, e100, e200]; grind)
  · first | exact j45 | simpa [up2, e100, e200] using j45 | (simp [up2, e100, e200, j45]; done) | (intros; simp only [up2, e100, e200]; grind)
  · first | exact j46 | simpa [up2, e100, e200] using j46 | (simp [up2, e100, e200, j46]; done) | (intros; simp only [up2, e100, e200]; grind)
  · first | exact d1 | simpa [up2, e100, e200] using d1 | (simp [up2, e100, e200, d1]; done) | (intros; simp only [up2, e100, e200]; grind)
  · first | exact d2 | simpa [up2, e100, e200] using d2 | (simp [up2, e100, e200, d2]; done) | (intros; simp only [up2, e100, e200]; grind)
  · first | exact d3 | simpa [up2, e100, e200] using d3 | (simp [up2, e100, e200, d3]; done) | (intros; simp only [up2, e100, e200]; grind)
  · first | exact hHO | simpa [up2, e100, e200] using hHO | (simp [up2, e100, e200, hHO]; done) | (intros; simp only [up2, e100, e200]; grind)
  · first | exact hNB | simpa [up2, e100, e200] using hNB | (simp [up2, e100, e200, hNB]; done) | (intros; simp only [up2, e100, e200]; grind)
  · first | exact hle | simpa [up2, e100, e200] using hle | (simp [up2, e100, e200, hle]; done) | (intros; simp only [up2, e100, e200]; grind)
  · first | exact h34 | simpa [up2, e100, e200] using h34 | (simp [up2, e100, e200, h34]; done) | (intros; simp only [up2, e100, e200]; grind)
  · first | exact h38 | simpa [up2, e100, e200] using h38 | (simp [up2, e100, e200, h38]; done) | (intros; simp only [up2, e100, e200]; grind)
  · intro i hi; by_cases q : i = r
    · subst q; simp [up2, e100, e200]; exact ⟨Or.inr hp2.1, (i1' _ hi).2⟩
    · simpa [up2, e100, e200, q] using i1' i hi
  · first | exact i2 | simpa [up2, e100, e200] using i2 | (simp [up2, e100, e200, i2]; done) | (intros; simp only [up2, e100, e200]; grind)
  · first | exact i3 | simpa [up2, e100, e200] using i3 | (simp [up2, e100, e200, i3]; done) | (intros; simp only [up2, e100, e200]; grind)
  · first | exact i4 | simpa [up2, e100, e200] using i4 | (simp [up2, e100, e200, i4]; done) | (intros; simp only [up2, e100, e200]; grind)
  · intro p hp
    obtain ⟨q1, q2, q3, q4⟩ := i5' p hp
    exact ⟨by simpa [up2, e100, e200] using q1, fun q hq => by simpa [up2, e100, e200] using q2 q hq, fun h => by simpa [up2, e100, e200] using q3 h, fun k hk => by simpa [up2, e100, e200] using q4 k hk⟩
  · intro i hi
    simpa [up2, e100, e200, show i ≠ r by omega] using f1 i hi
  · first | exact f2 | simpa [up2, e100, e200] using f2 | (simp [up2, e100, e200, f2]; done) | (intros; simp only [up2, e100, e200]; grind)
  · first | exact f3 | simpa [up2, e100, e200] using f3 | (simp [up2, e100, e200, f3]; done) | (intros; simp only [up2, e100, e200]; grind)
  · first | exact f4 | simpa [up2, e100, e200] using f4 | (simp [up2, e100, e200, f4]; done) | (intros; simp only [up2, e100, e200]; grind)
set_option maxHeartbeats 2000000 in
theorem op_glass (h : SIMt n I J P X Y T) {r : Nat} {p2 : Int32} (hr : r < n 1) (hp2 : 1 ≤ p2.toInt ∧ p2.toInt ≤ 1000) (h15 : I 15 r = (-1)) : SIMt n (up2 I 15 r p2) J P (up2 (up2 (up2 X 0 0 0) 16 r p2) 17 r 0) Y T := by
  obtain ⟨⟨hT, hnow⟩, ⟨⟨x3, x4, x7, x8, x9⟩, ⟨x11, x12, x13, x14, x15, x16, x17⟩, ⟨x22, x23, x24, x25, x26⟩, ⟨x28, x29, x30⟩, ⟨x32, x33⟩, ⟨x36, x39, x40, x41⟩, x1, x2, x10, x21, x27, x31, x35⟩, ⟨s1, s2, s3, s4, s5⟩, hC, ⟨j5, j6, j18, j19, j20, j37, j43, j44, j45, j46⟩, ⟨d1, d2, d3⟩, hHO, hNB, hle, h34, h38, ⟨i1', i2, i3, i4, i5'⟩, ⟨f1, f2, f3, f4⟩⟩ := h
  have hne : ¬ p2 = (-1) := fun e => by rw [e, im1] at hp2; omega
  have h16 : I 16 r = 0 := by
    rcases (i2 r hr).1 with e | e
    · exact e.2
    · rw [h15, im1] at e; omega
  refine ⟨⟨hT, ?_⟩, ⟨⟨?_, ?_, ?_, ?_, ?_⟩, ⟨?_, ?_, ?_, ?_, ?_, ?_, ?_⟩, ⟨?_, ?_, ?_, ?_, ?_⟩, ⟨?_, ?_, ?_⟩, ⟨?_, ?_⟩, ⟨?_, ?_, ?_, ?_⟩, ?_, ?_, ?_, ?_, ?_, ?_, ?_⟩, ⟨?_, ?_, ?_, ?_, ?_⟩, ?_, ⟨?_, ?_, ?_, ?_, ?_, ?_, ?_, ?_, ?_, ?_⟩, ⟨?_, ?_, ?_⟩, ?_, ?_, ?_, ?_, ?_, ⟨?_, ?_, ?_, ?_, ?_⟩, ⟨?_, ?_, ?_, ?_⟩⟩
  · first | exact hnow | simpa [up2, e100, e200] using hnow | (simp [up2, e100, e200, hnow]; done) | (intros; simp only [up2, e100, e200]; grind)
  · first | exact x3 | simpa [up2, e100, e200] using x3 | (simp [up2, e100, e200, x3]; done) | (intros; simp only [up2, e100, e200]; grind)
  · first | exact x4 | simpa [up2, e100, e200] using x4 | (simp [up2, e100, e200, x4]; done) | (intros; simp only [up2, e100, e200]; grind)
  · first | exact x7 | simpa [up2, e100, e200] using x7 | (simp [up2, e100, e200, x7]; done) | (intros; simp only [up2, e100, e200]; grind)
  · first | exact x8 | simpa [up2, e100, e200] using x8 | (simp [up2, e100, e200, x8]; done) | (intros; simp only [up2, e100, e200]; grind)
  · first | exact x9 | simpa [up2, e100, e200] using x9 | (simp [up2, e100, e200, x9]; done) | (intros; simp only [up2, e100, e200]; grind)
  · first | exact x11 | simpa [up2, e100, e200] using x11 | (simp [up2, e100, e200, x11]; done) | (intros; simp only [up2, e100, e200]; grind)
  · first | exact x12 | simpa [up2, e100, e200] using x12 | (simp [up2, e100, e200, x12]; done) | (intros; simp only [up2, e100, e200]; grind)
  · first | exact x13 | simpa [up2, e100, e200] using x13 | (simp [up2, e100, e200, x13]; done) | (intros; simp only [up2, e100, e200]; grind)
  · first | exact x14 | simpa [up2, e100, e200] using x14 | (simp [up2, e100, e200, x14]; done) | (intros; simp only [up2, e100, e200]; grind)
  · first | exact x15 | simpa [up2, e100, e200] using x15 | (simp [up2, e100, e200, x15]; done) | (intros; simp only [up2, e100, e200]; grind)
  · intro i; by_cases q : i = r
    · subst q; simp [up2, e100, e200, gl0, hne]
    · simp [up2, e100, e200, x16, q]
  · intro i; by_cases q : i = r
    · subst q; simp [up2, e100, e200, m_open, hne, h16]
    · simp [up2, e100, e200, x17, q]
  · first | exact x22 | simpa [up2, e100, e200] using x22 | (simp [up2, e100, e200, x22]; done) | (intros; simp only [up2, e100, e200]; grind)
  · first | exact x23 | simpa [up2, e100, e200] using x23 | (simp [up2, e100, e200, x23]; done) | (intros; simp only [up2, e100, e200]; grind)
  · first | exact x24 | simpa [up2, e100, e200] using x24 | (simp [up2, e100, e200, x24]; done) | (intros; simp only [up2, e100, e200]; grind)
  · first | exact x25 | simpa [up2, e100, e200] using x25 | (simp [up2, e100, e200, x25]; done) | (intros; simp only [up2, e100, e200]; grind)
  · first | exact x26 | simpa [up2, e100, e200] using x26 | (simp [up2, e100, e200, x26]; done) | (intros; simp only [up2, e100, e200]; grind)
  · first | exact x28 | simpa [up2, e100, e200] using x28 | (simp [up2, e100, e200, x28]; done) | (intros; simp only [up2, e100, e200]; grind)
  · first | exact x29 | simpa [up2, e100, e200] using x29 | (simp [up2, e100, e200, x29]; done) | (intros; simp only [up2, e100, e200]; grind)
  · first | exact x30 | simpa [up2, e100, e200] using x30 | (simp [up2, e100, e200, x30]; done) | (intros; simp only [up2, e100, e200]; grind)
  · first | exact x32 | simpa [up2, e100, e200] using x32 | (simp [up2, e100, e200, x32]; done) | (intros; simp only [up2, e100, e200]; grind)
  · first | exact x33 | simpa [up2, e100, e200] using x33 | (simp [up2, e100, e200, x33]; done) | (intros; simp only [up2, e100, e200]; grind)
  · first | exact x36 | simpa [up2, e100, e200] using x36 | (simp [up2, e100, e200, x36]; done) | (intros; simp only [up2, e100, e200]; grind)
  · first | exact x39 | simpa [up2, e100, e200] using x39 | (simp [up2, e100, e200, x39]; done) | (intros; simp only [up2, e100, e200]; grind)
  · first | exact x40 | simpa [up2, e100, e200] using x40 | (simp [up2, e100, e200, x40]; done) | (intros; simp only [up2, e100, e200]; grind)
  · first | exact x41 | simpa [up2, e100, e200] using x41 | (simp [up2, e100, e200, x41]; done) | (intros; simp only [up2, e100, e200]; grind)
  · first | exact x1 | simpa [up2, e100, e200] using x1 | (simp [up2, e100, e200, x1]; done) | (intros; simp only [up2, e100, e200]; grind)
  · first | exact x2 | simpa [up2, e100, e200] using x2 | (simp [up2, e100, e200, x2]; done) | (intros; simp only [up2, e100, e200]; grind)
  · first | exact x10 | simpa [up2, e100, e200] using x10 | (simp [up2, e100, e200, x10]; done) | (intros; simp only [up2, e100, e200]; grind)
  · first | exact x21 | simpa [up2, e100, e200] using x21 | (simp [up2, e100, e200, x21]; done) | (intros; simp only [up2, e100, e200]; grind)
  · first | exact x27 | simpa [up2, e100, e200] using x27 | (simp [up2, e100, e200, x27]; done) | (intros; simp only [up2, e100, e200]; grind)
  · first | exact x31 | simpa [up2, e100, e200] using x31 | (simp [up2, e100, e200, x31]; done) | (intros; simp only [up2, e100, e200]; grind)
  · first | exact x35 | simpa [up2, e100, e200] using x35 | (simp [up2, e100, e200, x35]; done) | (intros; simp only [up2, e100, e200]; grind)
  · first | exact s1 | simpa [up2, e100, e200] using s1 | (simp [up2, e100, e200, s1]; done) | (intros; simp only [up2, e100, e200]; grind)
  · first | exact s2 | simpa [up2, e100, e200] using s2 | (simp [up2, e100, e200, s2]; done) | (intros; simp only [up2, e100, e200]; grind)
  · first | exact s3 | simpa [up2, e100, e200] using s3 | (simp [up2, e100, e200, s3]; done) | (intros; simp only [up2, e100, e200]; grind)
  · first | exact s4 | simpa [up2, e100, e200] using s4 | (simp [up2, e100, e200, s4]; done) | (intros; simp only [up2, e100, e200]; grind)
  · first | exact s5 | simpa [up2, e100, e200] using s5 | (simp [up2, e100, e200, s5]; done) | (intros; simp only [up2, e100, e200]; grind)
  · exact hC
  · first | exact j5 | simpa [up2, e100, e200] using j5 | (simp [up2, e100, e200, j5]; done) | (intros; simp only [up2, e100, e200]; grind)
  · first | exact j6 | simpa [up2, e100, e200] using j6 | (simp [up2, e100, e200, j6]; done) | (intros; simp only [up2, e100, e200]; grind)
  · first | exact j18 | simpa [up2, e100, e200] using j18 | (simp [up2, e100, e200, j18]; done) | (intros; simp only [up2, e100, e200]; grind)
  · first | exact j19 | simpa [up2, e100, e200] using j19 | (simp [up2, e100, e200, j19]; done) | (intros; simp only [up2, e100, e200]; grind)
  · first | exact j20 | simpa [up2, e100, e200] using j20 | (simp [up2, e100, e200, j20]; done) | (intros; simp only [up2, e100, e200]; grind)
  · first | exact j37 | simpa [up2, e100, e200] using j37 | (simp [up2, e100, e200, j37]; done) | (intros; simp only [up2, e100, e200]; grind)
  · first | exact j43 | simpa [up2, e100, e200] using j43 | (simp [up2, e100, e200, j43]; done) | (intros; simp only [up2, e100, e200]; grind)
  · first | exact j44 | simpa [up2, e100, e200] using j44 | (simp [up2, e100, e200, j44]; done) | (intros; simp only [up2, e100, e200]; grind)
  · first | exact j45 | simpa [up2, e100, e200] using j45 | (simp [up2, e100, e200, j45]; done) | (intros; simp only [up2, e100, e200]; grind)
  · first | exact j46 | simpa [up2, e100, e200] using j46 | (simp [up2, e100, e200, j46]; done) | (intros; simp only [up2, e100, e200]; grind)
  · first | exact d1 | simpa [up2, e100, e200] using d1 | (simp [up2, e100, e200, d1]; done) | (intros; simp only [up2, e100, e200]; grind)
  · first | exact d2 | simpa [up2, e100, e200] using d2 | (simp [up2, e100, e200, d2]; done) | (intros; simp only [up2, e100, e200]; grind)
  · first | exact d3 | simpa [up2, e100, e200] using d3 | (simp [up2, e100, e200, d3]; done) | (intros; simp only [up2, e100, e200]; grind)
  · first | exact hHO | simpa [up2, e100, e200] using hHO | (simp [up2, e100, e200, hHO]; done) | (intros; simp only [up2, e100, e200]; grind)
  · first | exact hNB | simpa [up2, e100, e200] using hNB | (simp [up2, e100, e200, hNB]; done) | (intros; simp only [up2, e100, e200]; grind)
  · first | exact hle | simpa [up2, e100, e200] using hle | (simp [up2, e100, e200, hle]; done) | (intros; simp only [up2, e100, e200]; grind)
  · first | exact h34 | simpa [up2, e100, e200] using h34 | (simp [up2, e100, e200, h34]; done) | (intros; simp only [up2, e100, e200]; grind)
  · first | exact h38 | simpa [up2, e100, e200] using h38 | (simp [up2, e100, e200, h38]; done) | (intros; simp only [up2, e100, e200]; grind)
  · first | exact i1' | simpa [up2, e100, e200] using i1' | (simp [up2, e100, e200, i1']; done) | (intros; simp only [up2, e100, e200]; grind)
  · intro i hi; by_cases q : i = r
    · subst q; simp [up2, e100, e200, h16]; exact Or.inr hp2.1
    · simpa [up2, e100, e200, q] using i2 i hi
  · first | exact i3 | simpa [up2, e100, e200] using i3 | (simp [up2, e100, e200, i3]; done) | (intros; simp only [up2, e100, e200]; grind)
  · first | exact i4 | simpa [up2, e100, e200] using i4 | (simp [up2, e100, e200, i4]; done) | (intros; simp only [up2, e100, e200]; grind)
  · intro p hp
    obtain ⟨q1, q2, q3, q4⟩ := i5' p hp
    exact ⟨by simpa [up2, e100, e200] using q1, fun q hq => by simpa [up2, e100, e200] using q2 q hq, fun h => by simpa [up2, e100, e200] using q3 h, fun k hk => by simpa [up2, e100, e200] using q4 k hk⟩
  · first | exact f1 | simpa [up2, e100, e200] using f1 | (simp [up2, e100, e200, f1]; done) | (intros; simp only [up2, e100, e200]; grind)
  · intro i hi
    simpa [up2, e100, e200, show i ≠ r by omega] using f2 i hi
  · first | exact f3 | simpa [up2, e100, e200] using f3 | (simp [up2, e100, e200, f3]; done) | (intros; simp only [up2, e100, e200]; grind)
  · first | exact f4 | simpa [up2, e100, e200] using f4 | (simp [up2, e100, e200, f4]; done) | (intros; simp only [up2, e100, e200]; grind)
set_option maxHeartbeats 2000000 in
theorem op_open (h : SIMt n I J P X Y T) {r g : Nat} {p2 p3 p4 p5 : Int32} (hr : r < n 0) (hfar : p2 = farN g) (hp3 : 1 ≤ p3.toInt ∧ p3.toInt ≤ 50) (hp4 : 0 ≤ p4.toInt ∧ p4.toInt < p5.toInt ∧ p5.toInt ≤ (I 1 r).toInt) (hp5 : ∀ k, g = k + 1 → p5.toInt ≤ (I 1 k).toInt) (hC' : CInv (va_up n 1 (n 1 + 1)) (nwOpP P (n 1) r g)) : SIMt (va_up n 1 (n 1 + 1)) (nwOpI I (n 1) p3 p4 p5) (nwOpJ J (n 1)) (nwOpP P (n 1) r g) (up2 (up2 (up2 (up2 (up2 (up2 (up2 (up2 X 0 0 0) 11 (n 1) (nI r)) 12 (n 1) p2) 13 (n 1) p3) 14 (n 1) p4) 15 (n 1) p5) 17 (n 1) 1) 10 0 (nI (n 1 + 1))) Y T := by
  obtain ⟨⟨hT, hnow⟩, ⟨⟨x3, x4, x7, x8, x9⟩, ⟨x11, x12, x13, x14, x15, x16, x17⟩, ⟨x22, x23, x24, x25, x26⟩, ⟨x28, x29, x30⟩, ⟨x32, x33⟩, ⟨x36, x39, x40, x41⟩, x1, x2, x10, x21, x27, x31, x35⟩, ⟨s1, s2, s3, s4, s5⟩, hC, ⟨j5, j6, j18, j19, j20, j37, j43, j44, j45, j46⟩, ⟨d1, d2, d3⟩, hHO, hNB, hle, h34, h38, ⟨i1', i2, i3, i4, i5'⟩, ⟨f1, f2, f3, f4⟩⟩ := h
  refine ⟨⟨hT, ?_⟩, ⟨⟨?_, ?_, ?_, ?_, ?_⟩, ⟨?_, ?_, ?_, ?_, ?_, ?_, ?_⟩, ⟨?_, ?_, ?_, ?_, ?_⟩, ⟨?_, ?_, ?_⟩, ⟨?_, ?_⟩, ⟨?_, ?_, ?_, ?_⟩, ?_, ?_, ?_, ?_, ?_, ?_, ?_⟩, ⟨?_, ?_, ?_, ?_, ?_⟩, ?_, ⟨?_, ?_, ?_, ?_, ?_, ?_, ?_, ?_, ?_, ?_⟩, ⟨?_, ?_, ?_⟩, ?_, ?_, ?_, ?_, ?_, ⟨?_, ?_, ?_, ?_, ?_⟩, ⟨?_, ?_, ?_, ?_⟩⟩
  · first | exact hnow | simpa [up2, va_up, nwOpI, nwOpJ, nwOpP, e100, e200] using hnow | (simp [up2, va_up, nwOpI, nwOpJ, nwOpP, e100, e200, hnow]; done) | (intros; simp only [up2, va_up, nwOpI, nwOpJ, nwOpP, e100, e200]; grind)
  · first | exact x3 | simpa [up2, va_up, nwOpI, nwOpJ, nwOpP, e100, e200] using x3 | (simp [up2, va_up, nwOpI, nwOpJ, nwOpP, e100, e200, x3]; done) | (intros; simp only [up2, va_up, nwOpI, nwOpJ, nwOpP, e100, e200]; grind)
  · first | exact x4 | simpa [up2, va_up, nwOpI, nwOpJ, nwOpP, e100, e200] using x4 | (simp [up2, va_up, nwOpI, nwOpJ, nwOpP, e100, e200, x4]; done) | (intros; simp only [up2, va_up, nwOpI, nwOpJ, nwOpP, e100, e200]; grind)
  · first | exact x7 | simpa [up2, va_up, nwOpI, nwOpJ, nwOpP, e100, e200] using x7 | (simp [up2, va_up, nwOpI, nwOpJ, nwOpP, e100, e200, x7]; done) | (intros; simp only [up2, va_up, nwOpI, nwOpJ, nwOpP, e100, e200]; grind)
  · first | exact x8 | simpa [up2, va_up, nwOpI, nwOpJ, nwOpP, e100, e200] using x8 | (simp [up2, va_up, nwOpI, nwOpJ, nwOpP, e100, e200, x8]; done) | (intros; simp only [up2, va_up, nwOpI, nwOpJ, nwOpP, e100, e200]; grind)
  · first | exact x9 | simpa [up2, va_up, nwOpI, nwOpJ, nwOpP, e100, e200] using x9 | (simp [up2, va_up, nwOpI, nwOpJ, nwOpP, e100, e200, x9]; done) | (intros; simp only [up2, va_up, nwOpI, nwOpJ, nwOpP, e100, e200]; grind)
  · intro i; by_cases q : i = n 1
    · subst q; simp [up2, va_up, nwOpI, nwOpJ, nwOpP, e100, e200, x11]
    · simp [up2, va_up, nwOpI, nwOpJ, nwOpP, e100, e200, x11, q]
  · intro i hv; by_cases q : i = n 1
    · subst q; simp [up2, va_up, nwOpI, nwOpJ, nwOpP, e100, e200, hfar]
    · have hv' : i < n 1 := by (simp [va_up] at hv; omega)
      simpa [up2, va_up, nwOpI, nwOpJ, nwOpP, e100, e200, q] using x12 i hv'
  · intro i; by_cases q : i = n 1
    · subst q; simp [up2, va_up, nwOpI, nwOpJ, nwOpP, e100, e200, x13]
    · simp [up2, va_up, nwOpI, nwOpJ, nwOpP, e100, e200, x13, q]
  · intro i; by_cases q : i = n 1
    · subst q; simp [up2, va_up, nwOpI, nwOpJ, nwOpP, e100, e200, x14]
    · simp [up2, va_up, nwOpI, nwOpJ, nwOpP, e100, e200, x14, q]
  · intro i; by_cases q : i = n 1
    · subst q; simp [up2, va_up, nwOpI, nwOpJ, nwOpP, e100, e200, x15]
    · simp [up2, va_up, nwOpI, nwOpJ, nwOpP, e100, e200, x15, q]
  · intro i; by_cases q : i = n 1
    · subst q; simp [up2, va_up, nwOpI, nwOpJ, nwOpP, e100, e200, x16, (f2 _ (Nat.le_refl _)).1, gl0]
    · simp [up2, va_up, nwOpI, nwOpJ, nwOpP, e100, e200, x16, q]
  · intro i; by_cases q : i = n 1
    · subst q; simp [up2, va_up, nwOpI, nwOpJ, nwOpP, e100, e200, m_open]
    · simp [up2, va_up, nwOpI, nwOpJ, nwOpP, e100, e200, x17, q]
  · first | exact x22 | simpa [up2, va_up, nwOpI, nwOpJ, nwOpP, e100, e200] using x22 | (simp [up2, va_up, nwOpI, nwOpJ, nwOpP, e100, e200, x22]; done) | (intros; simp only [up2, va_up, nwOpI, nwOpJ, nwOpP, e100, e200]; grind)
  · first | exact x23 | simpa [up2, va_up, nwOpI, nwOpJ, nwOpP, e100, e200] using x23 | (simp [up2, va_up, nwOpI, nwOpJ, nwOpP, e100, e200, x23]; done) | (intros; simp only [up2, va_up, nwOpI, nwOpJ, nwOpP, e100, e200]; grind)
  · first | exact x24 | simpa [up2, va_up, nwOpI, nwOpJ, nwOpP, e100, e200] using x24 | (simp [up2, va_up, nwOpI, nwOpJ, nwOpP, e100, e200, x24]; done) | (intros; simp only [up2, va_up, nwOpI, nwOpJ, nwOpP, e100, e200]; grind)
  · first | exact x25 | simpa [up2, va_up, nwOpI, nwOpJ, nwOpP, e100, e200] using x25 | (simp [up2, va_up, nwOpI, nwOpJ, nwOpP, e100, e200, x25]; done) | (intros; simp only [up2, va_up, nwOpI, nwOpJ, nwOpP, e100, e200]; grind)
  · first | exact x26 | simpa [up2, va_up, nwOpI, nwOpJ, nwOpP, e100, e200] using x26 | (simp [up2, va_up, nwOpI, nwOpJ, nwOpP, e100, e200, x26]; done) | (intros; simp only [up2, va_up, nwOpI, nwOpJ, nwOpP, e100, e200]; grind)
  · first | exact x28 | simpa [up2, va_up, nwOpI, nwOpJ, nwOpP, e100, e200] using x28 | (simp [up2, va_up, nwOpI, nwOpJ, nwOpP, e100, e200, x28]; done) | (intros; simp only [up2, va_up, nwOpI, nwOpJ, nwOpP, e100, e200]; grind)
  · first | exact x29 | simpa [up2, va_up, nwOpI, nwOpJ, nwOpP, e100, e200] using x29 | (simp [up2, va_up, nwOpI, nwOpJ, nwOpP, e100, e200, x29]; done) | (intros; simp only [up2, va_up, nwOpI, nwOpJ, nwOpP, e100, e200]; grind)
  · first | exact x30 | simpa [up2, va_up, nwOpI, nwOpJ, nwOpP, e100, e200] using x30 | (simp [up2, va_up, nwOpI, nwOpJ, nwOpP, e100, e200, x30]; done) | (intros; simp only [up2, va_up, nwOpI, nwOpJ, nwOpP, e100, e200]; grind)
  · first | exact x32 | simpa [up2, va_up, nwOpI, nwOpJ, nwOpP, e100, e200] using x32 | (simp [up2, va_up, nwOpI, nwOpJ, nwOpP, e100, e200, x32]; done) | (intros; simp only [up2, va_up, nwOpI, nwOpJ, nwOpP, e100, e200]; grind)
  · first | exact x33 | simpa [up2, va_up, nwOpI, nwOpJ, nwOpP, e100, e200] using x33 | (simp [up2, va_up, nwOpI, nwOpJ, nwOpP, e100, e200, x33]; done) | (intros; simp only [up2, va_up, nwOpI, nwOpJ, nwOpP, e100, e200]; grind)
  · first | exact x36 | simpa [up2, va_up, nwOpI, nwOpJ, nwOpP, e100, e200] using x36 | (simp [up2, va_up, nwOpI, nwOpJ, nwOpP, e100, e200, x36]; done) | (intros; simp only [up2, va_up, nwOpI, nwOpJ, nwOpP, e100, e200]; grind)
  · first | exact x39 | simpa [up2, va_up, nwOpI, nwOpJ, nwOpP, e100, e200] using x39 | (simp [up2, va_up, nwOpI, nwOpJ, nwOpP, e100, e200, x39]; done) | (intros; simp only [up2, va_up, nwOpI, nwOpJ, nwOpP, e100, e200]; grind)
  · first | exact x40 | simpa [up2, va_up, nwOpI, nwOpJ, nwOpP, e100, e200] using x40 | (simp [up2, va_up, nwOpI, nwOpJ, nwOpP, e100, e200, x40]; done) | (intros; simp only [up2, va_up, nwOpI, nwOpJ, nwOpP, e100, e200]; grind)
  · first | exact x41 | simpa [up2, va_up, nwOpI, nwOpJ, nwOpP, e100, e200] using x41 | (simp [up2, va_up, nwOpI, nwOpJ, nwOpP, e100, e200, x41]; done) | (intros; simp only [up2, va_up, nwOpI, nwOpJ, nwOpP, e100, e200]; grind)
  · first | exact x1 | simpa [up2, va_up, nwOpI, nwOpJ, nwOpP, e100, e200] using x1 | (simp [up2, va_up, nwOpI, nwOpJ, nwOpP, e100, e200, x1]; done) | (intros; simp only [up2, va_up, nwOpI, nwOpJ, nwOpP, e100, e200]; grind)
  · first | exact x2 | simpa [up2, va_up, nwOpI, nwOpJ, nwOpP, e100, e200] using x2 | (simp [up2, va_up, nwOpI, nwOpJ, nwOpP, e100, e200, x2]; done) | (intros; simp only [up2, va_up, nwOpI, nwOpJ, nwOpP, e100, e200]; grind)
  · first | exact x10 | simpa [up2, va_up, nwOpI, nwOpJ, nwOpP, e100, e200] using x10 | (simp [up2, va_up, nwOpI, nwOpJ, nwOpP, e100, e200, x10]; done) | (intros; simp only [up2, va_up, nwOpI, nwOpJ, nwOpP, e100, e200]; grind)
  · first | exact x21 | simpa [up2, va_up, nwOpI, nwOpJ, nwOpP, e100, e200] using x21 | (simp [up2, va_up, nwOpI, nwOpJ, nwOpP, e100, e200, x21]; done) | (intros; simp only [up2, va_up, nwOpI, nwOpJ, nwOpP, e100, e200]; grind)
  · first | exact x27 | simpa [up2, va_up, nwOpI, nwOpJ, nwOpP, e100, e200] using x27 | (simp [up2, va_up, nwOpI, nwOpJ, nwOpP, e100, e200, x27]; done) | (intros; simp only [up2, va_up, nwOpI, nwOpJ, nwOpP, e100, e200]; grind)
  · first | exact x31 | simpa [up2, va_up, nwOpI, nwOpJ, nwOpP, e100, e200] using x31 | (simp [up2, va_up, nwOpI, nwOpJ, nwOpP, e100, e200, x31]; done) | (intros; simp only [up2, va_up, nwOpI, nwOpJ, nwOpP, e100, e200]; grind)
  · first | exact x35 | simpa [up2, va_up, nwOpI, nwOpJ, nwOpP, e100, e200] using x35 | (simp [up2, va_up, nwOpI, nwOpJ, nwOpP, e100, e200, x35]; done) | (intros; simp only [up2, va_up, nwOpI, nwOpJ, nwOpP, e100, e200]; grind)
  · first | exact s1 | simpa [up2, va_up, nwOpI, nwOpJ, nwOpP, e100, e200] using s1 | (simp [up2, va_up, nwOpI, nwOpJ, nwOpP, e100, e200, s1]; done) | (intros; simp only [up2, va_up, nwOpI, nwOpJ, nwOpP, e100, e200]; grind)
  · intro o ho; by_cases q : o = n 1
    · subst q
      simp [up2, va_up, nwOpI, nwOpJ, nwOpP, e100, e200]
      exact ⟨hp3.1, hp3.2, hp4.1, hp4.2.1, hp4.2.2, hp5⟩
    · have ho' : o < n 1 := by (simp [va_up] at ho; omega)
      simpa [up2, va_up, nwOpI, nwOpJ, nwOpP, e100, e200, q] using s2 o ho'
  · first | exact s3 | simpa [up2, va_up, nwOpI, nwOpJ, nwOpP, e100, e200] using s3 | (simp [up2, va_up, nwOpI, nwOpJ, nwOpP, e100, e200, s3]; done) | (intros; simp only [up2, va_up, nwOpI, nwOpJ, nwOpP, e100, e200]; grind)
  · first | exact s4 | simpa [up2, va_up, nwOpI, nwOpJ, nwOpP, e100, e200] using s4 | (simp [up2, va_up, nwOpI, nwOpJ, nwOpP, e100, e200, s4]; done) | (intros; simp only [up2, va_up, nwOpI, nwOpJ, nwOpP, e100, e200]; grind)
  · first | exact s5 | simpa [up2, va_up, nwOpI, nwOpJ, nwOpP, e100, e200] using s5 | (simp [up2, va_up, nwOpI, nwOpJ, nwOpP, e100, e200, s5]; done) | (intros; simp only [up2, va_up, nwOpI, nwOpJ, nwOpP, e100, e200]; grind)
  · exact hC'
  · first | exact j5 | simpa [up2, va_up, nwOpI, nwOpJ, nwOpP, e100, e200] using j5 | (simp [up2, va_up, nwOpI, nwOpJ, nwOpP, e100, e200, j5]; done) | (intros; simp only [up2, va_up, nwOpI, nwOpJ, nwOpP, e100, e200]; grind)
  · first | exact j6 | simpa [up2, va_up, nwOpI, nwOpJ, nwOpP, e100, e200] using j6 | (simp [up2, va_up, nwOpI, nwOpJ, nwOpP, e100, e200, j6]; done) | (intros; simp only [up2, va_up, nwOpI, nwOpJ, nwOpP, e100, e200]; grind)
  · intro i; by_cases q : i = n 1
    · subst q; simp [up2, va_up, nwOpI, nwOpJ, nwOpP, e100, e200, j18, (d2 _ (Nat.le_refl _)).1]
    · simp [up2, va_up, nwOpI, nwOpJ, nwOpP, e100, e200, j18, q]
  · intro i; by_cases q : i = n 1
    · subst q; simp [up2, va_up, nwOpI, nwOpJ, nwOpP, e100, e200, j19, (d2 _ (Nat.le_refl _)).2.1]
    · simp [up2, va_up, nwOpI, nwOpJ, nwOpP, e100, e200, j19, q]
  · intro i; by_cases q : i = n 1
    · subst q; simp [up2, va_up, nwOpI, nwOpJ, nwOpP, e100, e200, j20, (d2 _ (Nat.le_refl _)).2.2]
    · simp [up2, va_up, nwOpI, nwOpJ, nwOpP, e100, e200, j20, q]
  · first | exact j37 | simpa [up2, va_up, nwOpI, nwOpJ, nwOpP, e100, e200] using j37 | (simp [up2, va_up, nwOpI, nwOpJ, nwOpP, e100, e200, j37]; done) | (intros; simp only [up2, va_up, nwOpI, nwOpJ, nwOpP, e100, e200]; grind)
  · first | exact j43 | simpa [up2, va_up, nwOpI, nwOpJ, nwOpP, e100, e200] using j43 | (simp [up2, va_up, nwOpI, nwOpJ, nwOpP, e100, e200, j43]; done) | (intros; simp only [up2, va_up, nwOpI, nwOpJ, nwOpP, e100, e200]; grind)
  · first | exact j44 | simpa [up2, va_up, nwOpI, nwOpJ, nwOpP, e100, e200] using j44 | (simp [up2, va_up, nwOpI, nwOpJ, nwOpP, e100, e200, j44]; done) | (intros; simp only [up2, va_up, nwOpI, nwOpJ, nwOpP, e100, e200]; grind)
  · first | exact j45 | simpa [up2, va_up, nwOpI, nwOpJ, nwOpP, e100, e200] using j45 | (simp [up2, va_up, nwOpI, nwOpJ, nwOpP, e100, e200, j45]; done) | (intros; simp only [up2, va_up, nwOpI, nwOpJ, nwOpP, e100, e200]; grind)
  · first | exact j46 | simpa [up2, va_up, nwOpI, nwOpJ, nwOpP, e100, e200] using j46 | (simp [up2, va_up, nwOpI, nwOpJ, nwOpP, e100, e200, j46]; done) | (intros; simp only [up2, va_up, nwOpI, nwOpJ, nwOpP, e100, e200]; grind)
  · first | exact d1 | simpa [up2, va_up, nwOpI, nwOpJ, nwOpP, e100, e200] using d1 | (simp [up2, va_up, nwOpI, nwOpJ, nwOpP, e100, e200, d1]; done) | (intros; simp only [up2, va_up, nwOpI, nwOpJ, nwOpP, e100, e200]; grind)
  · intro o hv
    have hv' : n 1 + 1 ≤ o := by simpa [va_up] using hv
    simpa [up2, va_up, nwOpI, nwOpJ, nwOpP, e100, e200, show o ≠ n 1 by omega] using d2 o (by omega)
  · first | exact d3 | simpa [up2, va_up, nwOpI, nwOpJ, nwOpP, e100, e200] using d3 | (simp [up2, va_up, nwOpI, nwOpJ, nwOpP, e100, e200, d3]; done) | (intros; simp only [up2, va_up, nwOpI, nwOpJ, nwOpP, e100, e200]; grind)
  · first | exact hHO | simpa [up2, va_up, nwOpI, nwOpJ, nwOpP, e100, e200] using hHO | (simp [up2, va_up, nwOpI, nwOpJ, nwOpP, e100, e200, hHO]; done) | (intros; simp only [up2, va_up, nwOpI, nwOpJ, nwOpP, e100, e200]; grind)
  · first | exact hNB | simpa [up2, va_up, nwOpI, nwOpJ, nwOpP, e100, e200] using hNB | (simp [up2, va_up, nwOpI, nwOpJ, nwOpP, e100, e200, hNB]; done) | (intros; simp only [up2, va_up, nwOpI, nwOpJ, nwOpP, e100, e200]; grind)
  · first | exact hle | simpa [up2, va_up, nwOpI, nwOpJ, nwOpP, e100, e200] using hle | (simp [up2, va_up, nwOpI, nwOpJ, nwOpP, e100, e200, hle]; done) | (intros; simp only [up2, va_up, nwOpI, nwOpJ, nwOpP, e100, e200]; grind)
  · first | exact h34 | simpa [up2, va_up, nwOpI, nwOpJ, nwOpP, e100, e200] using h34 | (simp [up2, va_up, nwOpI, nwOpJ, nwOpP, e100, e200, h34]; done) | (intros; simp only [up2, va_up, nwOpI, nwOpJ, nwOpP, e100, e200]; grind)
  · first | exact h38 | simpa [up2, va_up, nwOpI, nwOpJ, nwOpP, e100, e200] using h38 | (simp [up2, va_up, nwOpI, nwOpJ, nwOpP, e100, e200, h38]; done) | (intros; simp only [up2, va_up, nwOpI, nwOpJ, nwOpP, e100, e200]; grind)
  · first | exact i1' | simpa [up2, va_up, nwOpI, nwOpJ, nwOpP, e100, e200] using i1' | (simp [up2, va_up, nwOpI, nwOpJ, nwOpP, e100, e200, i1']; done) | (intros; simp only [up2, va_up, nwOpI, nwOpJ, nwOpP, e100, e200]; grind)
  · intro o hv; by_cases q : o = n 1
    · subst q; simp [up2, va_up, nwOpI, nwOpJ, nwOpP, e100, e200]
    · have hv' : o < n 1 := by (simp [va_up] at hv; omega)
      simpa [up2, va_up, nwOpI, nwOpJ, nwOpP, e100, e200, q] using i2 o hv'
  · first | exact i3 | simpa [up2, va_up, nwOpI, nwOpJ, nwOpP, e100, e200] using i3 | (simp [up2, va_up, nwOpI, nwOpJ, nwOpP, e100, e200, i3]; done) | (intros; simp only [up2, va_up, nwOpI, nwOpJ, nwOpP, e100, e200]; grind)
  · first | exact i4 | simpa [up2, va_up, nwOpI, nwOpJ, nwOpP, e100, e200] using i4 | (simp [up2, va_up, nwOpI, nwOpJ, nwOpP, e100, e200, i4]; done) | (intros; simp only [up2, va_up, nwOpI, nwOpJ, nwOpP, e100, e200]; grind)
  · intro p hp
    have hp' : p < n 5 := by simpa [va_up] using hp
    obtain ⟨q1, q2, q3, q4⟩ := i5' p hp'
    exact ⟨by simpa [up2, va_up, nwOpI, nwOpJ, nwOpP, e100, e200, PV] using q1, fun q hq => by (have hq' : q < P 6 p := by simpa [up2, va_up, nwOpI, nwOpJ, nwOpP, e100, e200] using hq); simpa [up2, va_up, nwOpI, nwOpJ, nwOpP, e100, e200, PV] using q2 q hq', fun h => by (have h' : P 6 p = 0 := by simpa [up2, va_up, nwOpI, nwOpJ, nwOpP, e100, e200] using h); simpa [up2, va_up, nwOpI, nwOpJ, nwOpP, e100, e200] using q3 h', fun k hk => by (have hk' : P 6 p = k + 1 := by simpa [up2, va_up, nwOpI, nwOpJ, nwOpP, e100, e200] using hk); simpa [up2, va_up, nwOpI, nwOpJ, nwOpP, e100, e200] using q4 k hk'⟩
  · first | exact f1 | simpa [up2, va_up, nwOpI, nwOpJ, nwOpP, e100, e200] using f1 | (simp [up2, va_up, nwOpI, nwOpJ, nwOpP, e100, e200, f1]; done) | (intros; simp only [up2, va_up, nwOpI, nwOpJ, nwOpP, e100, e200]; grind)
  · intro o hv
    have hv' : n 1 + 1 ≤ o := by simpa [va_up] using hv
    simpa [up2, va_up, nwOpI, nwOpJ, nwOpP, e100, e200, show o ≠ n 1 by omega] using f2 o (by omega)
  · first | exact f3 | simpa [up2, va_up, nwOpI, nwOpJ, nwOpP, e100, e200] using f3 | (simp [up2, va_up, nwOpI, nwOpJ, nwOpP, e100, e200, f3]; done) | (intros; simp only [up2, va_up, nwOpI, nwOpJ, nwOpP, e100, e200]; grind)
  · first | exact f4 | simpa [up2, va_up, nwOpI, nwOpJ, nwOpP, e100, e200] using f4 | (simp [up2, va_up, nwOpI, nwOpJ, nwOpP, e100, e200, f4]; done) | (intros; simp only [up2, va_up, nwOpI, nwOpJ, nwOpP, e100, e200]; grind)
set_option maxHeartbeats 2000000 in
theorem op_pers (h : SIMt n I J P X Y T) {p1 : Int32} (hp1 : PV n p1) (hC' : CInv (va_up n 5 (n 5 + 1)) (nwPeP P (n 5))) : SIMt (va_up n 5 (n 5 + 1)) (nwPeI I (n 5) p1) (nwPeJ J (n 5)) (nwPeP P (n 5)) (up2 (up2 (up2 X 0 0 0) 36 (n 5) p1) 35 0 (nI (n 5 + 1))) Y T := by
  obtain ⟨⟨hT, hnow⟩, ⟨⟨x3, x4, x7, x8, x9⟩, ⟨x11, x12, x13, x14, x15, x16, x17⟩, ⟨x22, x23, x24, x25, x26⟩, ⟨x28, x29, x30⟩, ⟨x32, x33⟩, ⟨x36, x39, x40, x41⟩, x1, x2, x10, x21, x27, x31, x35⟩, ⟨s1, s2, s3, s4, s5⟩, hC, ⟨j5, j6, j18, j19, j20, j37, j43, j44, j45, j46⟩, ⟨d1, d2, d3⟩, hHO, hNB, hle, h34, h38, ⟨i1', i2, i3, i4, i5'⟩, ⟨f1, f2, f3, f4⟩⟩ := h
  have h9 : n 5 ≤ 9 := hC.1 5 (by decide)
  refine ⟨⟨hT, ?_⟩, ⟨⟨?_, ?_, ?_, ?_, ?_⟩, ⟨?_, ?_, ?_, ?_, ?_, ?_, ?_⟩, ⟨?_, ?_, ?_, ?_, ?_⟩, ⟨?_, ?_, ?_⟩, ⟨?_, ?_⟩, ⟨?_, ?_, ?_, ?_⟩, ?_, ?_, ?_, ?_, ?_, ?_, ?_⟩, ⟨?_, ?_, ?_, ?_, ?_⟩, ?_, ⟨?_, ?_, ?_, ?_, ?_, ?_, ?_, ?_, ?_, ?_⟩, ⟨?_, ?_, ?_⟩, ?_, ?_, ?_, ?_, ?_, ⟨?_, ?_, ?_, ?_, ?_⟩, ⟨?_, ?_, ?_, ?_⟩⟩
  · first | exact hnow | simpa [up2, va_up, nwPeI, nwPeJ, nwPeP, e100, e200, e100', e200'] using hnow | (simp [up2, va_up, nwPeI, nwPeJ, nwPeP, e100, e200, e100', e200', hnow]; done) | (intros; simp only [up2, va_up, nwPeI, nwPeJ, nwPeP, e100, e200, e100', e200']; grind)
  · first | exact x3 | simpa [up2, va_up, nwPeI, nwPeJ, nwPeP, e100, e200, e100', e200'] using x3 | (simp [up2, va_up, nwPeI, nwPeJ, nwPeP, e100, e200, e100', e200', x3]; done) | (intros; simp only [up2, va_up, nwPeI, nwPeJ, nwPeP, e100, e200, e100', e200']; grind)
  · first | exact x4 | simpa [up2, va_up, nwPeI, nwPeJ, nwPeP, e100, e200, e100', e200'] using x4 | (simp [up2, va_up, nwPeI, nwPeJ, nwPeP, e100, e200, e100', e200', x4]; done) | (intros; simp only [up2, va_up, nwPeI, nwPeJ, nwPeP, e100, e200, e100', e200']; grind)
  · first | exact x7 | simpa [up2, va_up, nwPeI, nwPeJ, nwPeP, e100, e200, e100', e200'] using x7 | (simp [up2, va_up, nwPeI, nwPeJ, nwPeP, e100, e200, e100', e200', x7]; done) | (intros; simp only [up2, va_up, nwPeI, nwPeJ, nwPeP, e100, e200, e100', e200']; grind)
  · first | exact x8 | simpa [up2, va_up, nwPeI, nwPeJ, nwPeP, e100, e200, e100', e200'] using x8 | (simp [up2, va_up, nwPeI, nwPeJ, nwPeP, e100, e200, e100', e200', x8]; done) | (intros; simp only [up2, va_up, nwPeI, nwPeJ, nwPeP, e100, e200, e100', e200']; grind)
  · first | exact x9 | simpa [up2, va_up, nwPeI, nwPeJ, nwPeP, e100, e200, e100', e200'] using x9 | (simp [up2, va_up, nwPeI, nwPeJ, nwPeP, e100, e200, e100', e200', x9]; done) | (intros; simp only [up2, va_up, nwPeI, nwPeJ, nwPeP, e100, e200, e100', e200']; grind)
  · first | exact x11 | simpa [up2, va_up, nwPeI, nwPeJ, nwPeP, e100, e200, e100', e200'] using x11 | (simp [up2, va_up, nwPeI, nwPeJ, nwPeP, e100, e200, e100', e200', x11]; done) | (intros; simp only [up2, va_up, nwPeI, nwPeJ, nwPeP, e100, e200, e100', e200']; grind)
  · first | exact x12 | simpa [up2, va_up, nwPeI, nwPeJ, nwPeP, e100, e200, e100', e200'] using x12 | (simp [up2, va_up, nwPeI, nwPeJ, nwPeP, e100, e200, e100', e200', x12]; done) | (intros; simp only [up2, va_up, nwPeI, nwPeJ, nwPeP, e100, e200, e100', e200']; grind)
  · first | exact x13 | simpa [up2, va_up, nwPeI, nwPeJ, nwPeP, e100, e200, e100', e200'] using x13 | (simp [up2, va_up, nwPeI, nwPeJ, nwPeP, e100, e200, e100', e200', x13]; done) | (intros; simp only [up2, va_up, nwPeI, nwPeJ, nwPeP, e100, e200, e100', e200']; grind)
  · first | exact x14 | simpa [up2, va_up, nwPeI, nwPeJ, nwPeP, e100, e200, e100', e200'] using x14 | (simp [up2, va_up, nwPeI, nwPeJ, nwPeP, e100, e200, e100', e200', x14]; done) | (intros; simp only [up2, va_up, nwPeI, nwPeJ, nwPeP, e100, e200, e100', e200']; grind)
  · first | exact x15 | simpa [up2, va_up, nwPeI, nwPeJ, nwPeP, e100, e200, e100', e200'] using x15 | (simp [up2, va_up, nwPeI, nwPeJ, nwPeP, e100, e200, e100', e200', x15]; done) | (intros; simp only [up2, va_up, nwPeI, nwPeJ, nwPeP, e100, e200, e100', e200']; grind)
  · first | exact x16 | simpa [up2, va_up, nwPeI, nwPeJ, nwPeP, e100, e200, e100', e200'] using x16 | (simp [up2, va_up, nwPeI, nwPeJ, nwPeP, e100, e200, e100', e200', x16]; done) | (intros; simp only [up2, va_up, nwPeI, nwPeJ, nwPeP, e100, e200, e100', e200']; grind)
  · first | exact x17 | simpa [up2, va_up, nwPeI, nwPeJ, nwPeP, e100, e200, e100', e200'] using x17 | (simp [up2, va_up, nwPeI, nwPeJ, nwPeP, e100, e200, e100', e200', x17]; done) | (intros; simp only [up2, va_up, nwPeI, nwPeJ, nwPeP, e100, e200, e100', e200']; grind)
  · first | exact x22 | simpa [up2, va_up, nwPeI, nwPeJ, nwPeP, e100, e200, e100', e200'] using x22 | (simp [up2, va_up, nwPeI, nwPeJ, nwPeP, e100, e200, e100', e200', x22]; done) | (intros; simp only [up2, va_up, nwPeI, nwPeJ, nwPeP, e100, e200, e100', e200']; grind)
  · first | exact x23 | simpa [up2, va_up, nwPeI, nwPeJ, nwPeP, e100, e200, e100', e200'] using x23 | (simp [up2, va_up, nwPeI, nwPeJ, nwPeP, e100, e200, e100', e200', x23]; done) | (intros; simp only [up2, va_up, nwPeI, nwPeJ, nwPeP, e100, e200, e100', e200']; grind)
  · first | exact x24 | simpa [up2, va_up, nwPeI, nwPeJ, nwPeP, e100, e200, e100', e200'] using x24 | (simp [up2, va_up, nwPeI, nwPeJ, nwPeP, e100, e200, e100', e200', x24]; done) | (intros; simp only [up2, va_up, nwPeI, nwPeJ, nwPeP, e100, e200, e100', e200']; grind)
  · first | exact x25 | simpa [up2, va_up, nwPeI, nwPeJ, nwPeP, e100, e200, e100', e200'] using x25 | (simp [up2, va_up, nwPeI, nwPeJ, nwPeP, e100, e200, e100', e200', x25]; done) | (intros; simp only [up2, va_up, nwPeI, nwPeJ, nwPeP, e100, e200, e100', e200']; grind)
  · first | exact x26 | simpa [up2, va_up, nwPeI, nwPeJ, nwPeP, e100, e200, e100', e200'] using x26 | (simp [up2, va_up, nwPeI, nwPeJ, nwPeP, e100, e200, e100', e200', x26]; done) | (intros; simp only [up2, va_up, nwPeI, nwPeJ, nwPeP, e100, e200, e100', e200']; grind)
  · first | exact x28 | simpa [up2, va_up, nwPeI, nwPeJ, nwPeP, e100, e200, e100', e200'] using x28 | (simp [up2, va_up, nwPeI, nwPeJ, nwPeP, e100, e200, e100', e200', x28]; done) | (intros; simp only [up2, va_up, nwPeI, nwPeJ, nwPeP, e100, e200, e100', e200']; grind)
  · first | exact x29 | simpa [up2, va_up, nwPeI, nwPeJ, nwPeP, e100, e200, e100', e200'] using x29 | (simp [up2, va_up, nwPeI, nwPeJ, nwPeP, e100, e200, e100', e200', x29]; done) | (intros; simp only [up2, va_up, nwPeI, nwPeJ, nwPeP, e100, e200, e100', e200']; grind)
  · first | exact x30 | simpa [up2, va_up, nwPeI, nwPeJ, nwPeP, e100, e200, e100', e200'] using x30 | (simp [up2, va_up, nwPeI, nwPeJ, nwPeP, e100, e200, e100', e200', x30]; done) | (intros; simp only [up2, va_up, nwPeI, nwPeJ, nwPeP, e100, e200, e100', e200']; grind)
  · first | exact x32 | simpa [up2, va_up, nwPeI, nwPeJ, nwPeP, e100, e200, e100', e200'] using x32 | (simp [up2, va_up, nwPeI, nwPeJ, nwPeP, e100, e200, e100', e200', x32]; done) | (intros; simp only [up2, va_up, nwPeI, nwPeJ, nwPeP, e100, e200, e100', e200']; grind)
  · first | exact x33 | simpa [up2, va_up, nwPeI, nwPeJ, nwPeP, e100, e200, e100', e200'] using x33 | (simp [up2, va_up, nwPeI, nwPeJ, nwPeP, e100, e200, e100', e200', x33]; done) | (intros; simp only [up2, va_up, nwPeI, nwPeJ, nwPeP, e100, e200, e100', e200']; grind)
  · intro i; by_cases q : i = n 5
    · subst q; simp [up2, va_up, nwPeI, nwPeJ, nwPeP, e100, e200, e100', e200', x36]
    · simp [up2, va_up, nwPeI, nwPeJ, nwPeP, e100, e200, e100', e200', x36, q]
  · intro i; by_cases q : i = n 5
    · subst q; simp [up2, va_up, nwPeI, nwPeJ, nwPeP, e100, e200, e100', e200', x39, (f4 _ (Nat.le_refl _)).1]
    · simp [up2, va_up, nwPeI, nwPeJ, nwPeP, e100, e200, e100', e200', x39, q]
  · intro i; by_cases q : i = n 5
    · subst q; simp [up2, va_up, nwPeI, nwPeJ, nwPeP, e100, e200, e100', e200', x40, (f4 _ (Nat.le_refl _)).2]
    · simp [up2, va_up, nwPeI, nwPeJ, nwPeP, e100, e200, e100', e200', x40, q]
  · intro p q hp hq; by_cases z : p = n 5
    · subst z; simp [up2, va_up, nwPeI, nwPeJ, nwPeP, e100, e200, e100', e200'] at hq
    · have hp' : p < n 5 := by (simp [va_up] at hp; omega)
      have hq' : q < P 6 p := by simpa [up2, va_up, nwPeI, nwPeJ, nwPeP, e100, e200, e100', e200', z] using hq
      have w1 : ¬ (100 + p = 200 + n 5) := by omega
      have w2 : ¬ (200 + p = 100 + n 5) := by omega
      simpa [up2, va_up, nwPeI, nwPeJ, nwPeP, e100, e200, e100', e200', z, w1, w2] using x41 p q hp' hq'
  · first | exact x1 | simpa [up2, va_up, nwPeI, nwPeJ, nwPeP, e100, e200, e100', e200'] using x1 | (simp [up2, va_up, nwPeI, nwPeJ, nwPeP, e100, e200, e100', e200', x1]; done) | (intros; simp only [up2, va_up, nwPeI, nwPeJ, nwPeP, e100, e200, e100', e200']; grind)
  · first | exact x2 | simpa [up2, va_up, nwPeI, nwPeJ, nwPeP, e100, e200, e100', e200'] using x2 | (simp [up2, va_up, nwPeI, nwPeJ, nwPeP, e100, e200, e100', e200', x2]; done) | (intros; simp only [up2, va_up, nwPeI, nwPeJ, nwPeP, e100, e200, e100', e200']; grind)
  · first | exact x10 | simpa [up2, va_up, nwPeI, nwPeJ, nwPeP, e100, e200, e100', e200'] using x10 | (simp [up2, va_up, nwPeI, nwPeJ, nwPeP, e100, e200, e100', e200', x10]; done) | (intros; simp only [up2, va_up, nwPeI, nwPeJ, nwPeP, e100, e200, e100', e200']; grind)
  · first | exact x21 | simpa [up2, va_up, nwPeI, nwPeJ, nwPeP, e100, e200, e100', e200'] using x21 | (simp [up2, va_up, nwPeI, nwPeJ, nwPeP, e100, e200, e100', e200', x21]; done) | (intros; simp only [up2, va_up, nwPeI, nwPeJ, nwPeP, e100, e200, e100', e200']; grind)
  · first | exact x27 | simpa [up2, va_up, nwPeI, nwPeJ, nwPeP, e100, e200, e100', e200'] using x27 | (simp [up2, va_up, nwPeI, nwPeJ, nwPeP, e100, e200, e100', e200', x27]; done) | (intros; simp only [up2, va_up, nwPeI, nwPeJ, nwPeP, e100, e200, e100', e200']; grind)
  · first | exact x31 | simpa [up2, va_up, nwPeI, nwPeJ, nwPeP, e100, e200, e100', e200'] using x31 | (simp [up2, va_up, nwPeI, nwPeJ, nwPeP, e100, e200, e100', e200', x31]; done) | (intros; simp only [up2, va_up, nwPeI, nwPeJ, nwPeP, e100, e200, e100', e200']; grind)
  · first | exact x35 | simpa [up2, va_up, nwPeI, nwPeJ, nwPeP, e100, e200, e100', e200'] using x35 | (simp [up2, va_up, nwPeI, nwPeJ, nwPeP, e100, e200, e100', e200', x35]; done) | (intros; simp only [up2, va_up, nwPeI, nwPeJ, nwPeP, e100, e200, e100', e200']; grind)
  · first | exact s1 | simpa [up2, va_up, nwPeI, nwPeJ, nwPeP, e100, e200, e100', e200'] using s1 | (simp [up2, va_up, nwPeI, nwPeJ, nwPeP, e100, e200, e100', e200', s1]; done) | (intros; simp only [up2, va_up, nwPeI, nwPeJ, nwPeP, e100, e200, e100', e200']; grind)
  · first | exact s2 | simpa [up2, va_up, nwPeI, nwPeJ, nwPeP, e100, e200, e100', e200'] using s2 | (simp [up2, va_up, nwPeI, nwPeJ, nwPeP, e100, e200, e100', e200', s2]; done) | (intros; simp only [up2, va_up, nwPeI, nwPeJ, nwPeP, e100, e200, e100', e200']; grind)
  · first | exact s3 | simpa [up2, va_up, nwPeI, nwPeJ, nwPeP, e100, e200, e100', e200'] using s3 | (simp [up2, va_up, nwPeI, nwPeJ, nwPeP, e100, e200, e100', e200', s3]; done) | (intros; simp only [up2, va_up, nwPeI, nwPeJ, nwPeP, e100, e200, e100', e200']; grind)
  · first | exact s4 | simpa [up2, va_up, nwPeI, nwPeJ, nwPeP, e100, e200, e100', e200'] using s4 | (simp [up2, va_up, nwPeI, nwPeJ, nwPeP, e100, e200, e100', e200', s4]; done) | (intros; simp only [up2, va_up, nwPeI, nwPeJ, nwPeP, e100, e200, e100', e200']; grind)
  · first | exact s5 | simpa [up2, va_up, nwPeI, nwPeJ, nwPeP, e100, e200, e100', e200'] using s5 | (simp [up2, va_up, nwPeI, nwPeJ, nwPeP, e100, e200, e100', e200', s5]; done) | (intros; simp only [up2, va_up, nwPeI, nwPeJ, nwPeP, e100, e200, e100', e200']; grind)
  · exact hC'
  · first | exact j5 | simpa [up2, va_up, nwPeI, nwPeJ, nwPeP, e100, e200, e100', e200'] using j5 | (simp [up2, va_up, nwPeI, nwPeJ, nwPeP, e100, e200, e100', e200', j5]; done) | (intros; simp only [up2, va_up, nwPeI, nwPeJ, nwPeP, e100, e200, e100', e200']; grind)
  · first | exact j6 | simpa [up2, va_up, nwPeI, nwPeJ, nwPeP, e100, e200, e100', e200'] using j6 | (simp [up2, va_up, nwPeI, nwPeJ, nwPeP, e100, e200, e100', e200', j6]; done) | (intros; simp only [up2, va_up, nwPeI, nwPeJ, nwPeP, e100, e200, e100', e200']; grind)
  · first | exact j18 | simpa [up2, va_up, nwPeI, nwPeJ, nwPeP, e100, e200, e100', e200'] using j18 | (simp [up2, va_up, nwPeI, nwPeJ, nwPeP, e100, e200, e100', e200', j18]; done) | (intros; simp only [up2, va_up, nwPeI, nwPeJ, nwPeP, e100, e200, e100', e200']; grind)
  · first | exact j19 | simpa [up2, va_up, nwPeI, nwPeJ, nwPeP, e100, e200, e100', e200'] using j19 | (simp [up2, va_up, nwPeI, nwPeJ, nwPeP, e100, e200, e100', e200', j19]; done) | (intros; simp only [up2, va_up, nwPeI, nwPeJ, nwPeP, e100, e200, e100', e200']; grind)
  · first | exact j20 | simpa [up2, va_up, nwPeI, nwPeJ, nwPeP, e100, e200, e100', e200'] using j20 | (simp [up2, va_up, nwPeI, nwPeJ, nwPeP, e100, e200, e100', e200', j20]; done) | (intros; simp only [up2, va_up, nwPeI, nwPeJ, nwPeP, e100, e200, e100', e200']; grind)
  · intro i; by_cases q : i = n 5
    · subst q; simp [up2, va_up, nwPeI, nwPeJ, nwPeP, e100, e200, e100', e200', j37, (d3 _ (Nat.le_refl _)).1]
    · simp [up2, va_up, nwPeI, nwPeJ, nwPeP, e100, e200, e100', e200', j37, q]
  · first | exact j43 | simpa [up2, va_up, nwPeI, nwPeJ, nwPeP, e100, e200, e100', e200'] using j43 | (simp [up2, va_up, nwPeI, nwPeJ, nwPeP, e100, e200, e100', e200', j43]; done) | (intros; simp only [up2, va_up, nwPeI, nwPeJ, nwPeP, e100, e200, e100', e200']; grind)
  · first | exact j44 | simpa [up2, va_up, nwPeI, nwPeJ, nwPeP, e100, e200, e100', e200'] using j44 | (simp [up2, va_up, nwPeI, nwPeJ, nwPeP, e100, e200, e100', e200', j44]; done) | (intros; simp only [up2, va_up, nwPeI, nwPeJ, nwPeP, e100, e200, e100', e200']; grind)
  · first | exact j45 | simpa [up2, va_up, nwPeI, nwPeJ, nwPeP, e100, e200, e100', e200'] using j45 | (simp [up2, va_up, nwPeI, nwPeJ, nwPeP, e100, e200, e100', e200', j45]; done) | (intros; simp only [up2, va_up, nwPeI, nwPeJ, nwPeP, e100, e200, e100', e200']; grind)
  · first | exact j46 | simpa [up2, va_up, nwPeI, nwPeJ, nwPeP, e100, e200, e100', e200'] using j46 | (simp [up2, va_up, nwPeI, nwPeJ, nwPeP, e100, e200, e100', e200', j46]; done) | (intros; simp only [up2, va_up, nwPeI, nwPeJ, nwPeP, e100, e200, e100', e200']; grind)
  · first | exact d1 | simpa [up2, va_up, nwPeI, nwPeJ, nwPeP, e100, e200, e100', e200'] using d1 | (simp [up2, va_up, nwPeI, nwPeJ, nwPeP, e100, e200, e100', e200', d1]; done) | (intros; simp only [up2, va_up, nwPeI, nwPeJ, nwPeP, e100, e200, e100', e200']; grind)
  · first | exact d2 | simpa [up2, va_up, nwPeI, nwPeJ, nwPeP, e100, e200, e100', e200'] using d2 | (simp [up2, va_up, nwPeI, nwPeJ, nwPeP, e100, e200, e100', e200', d2]; done) | (intros; simp only [up2, va_up, nwPeI, nwPeJ, nwPeP, e100, e200, e100', e200']; grind)
  · intro p hv
    have hv' : n 5 + 1 ≤ p := by simpa [va_up] using hv
    simpa [up2, va_up, nwPeI, nwPeJ, nwPeP, e100, e200, e100', e200', show p ≠ n 5 by omega] using d3 p (by omega)
  · intro i hi
    have hi' : i < n 0 := by simpa [va_up] using hi
    simpa [up2, va_up, nwPeI, nwPeJ, nwPeP, e100, e200, e100', e200'] using hHO i hi'
  · first | exact hNB | simpa [up2, va_up, nwPeI, nwPeJ, nwPeP, e100, e200, e100', e200'] using hNB | (simp [up2, va_up, nwPeI, nwPeJ, nwPeP, e100, e200, e100', e200', hNB]; done) | (intros; simp only [up2, va_up, nwPeI, nwPeJ, nwPeP, e100, e200, e100', e200']; grind)
  · first | exact hle | simpa [up2, va_up, nwPeI, nwPeJ, nwPeP, e100, e200, e100', e200'] using hle | (simp [up2, va_up, nwPeI, nwPeJ, nwPeP, e100, e200, e100', e200', hle]; done) | (intros; simp only [up2, va_up, nwPeI, nwPeJ, nwPeP, e100, e200, e100', e200']; grind)
  · first | exact h34 | simpa [up2, va_up, nwPeI, nwPeJ, nwPeP, e100, e200, e100', e200'] using h34 | (simp [up2, va_up, nwPeI, nwPeJ, nwPeP, e100, e200, e100', e200', h34]; done) | (intros; simp only [up2, va_up, nwPeI, nwPeJ, nwPeP, e100, e200, e100', e200']; grind)
  · intro i; by_cases q : i = n 5
    · subst q; simp [up2, va_up, nwPeI, nwPeJ, nwPeP, e100, e200, e100', e200', h38, (d3 _ (Nat.le_refl _)).2]
    · simp [up2, va_up, nwPeI, nwPeJ, nwPeP, e100, e200, e100', e200', h38, q]
  · first | exact i1' | simpa [up2, va_up, nwPeI, nwPeJ, nwPeP, e100, e200, e100', e200'] using i1' | (simp [up2, va_up, nwPeI, nwPeJ, nwPeP, e100, e200, e100', e200', i1']; done) | (intros; simp only [up2, va_up, nwPeI, nwPeJ, nwPeP, e100, e200, e100', e200']; grind)
  · first | exact i2 | simpa [up2, va_up, nwPeI, nwPeJ, nwPeP, e100, e200, e100', e200'] using i2 | (simp [up2, va_up, nwPeI, nwPeJ, nwPeP, e100, e200, e100', e200', i2]; done) | (intros; simp only [up2, va_up, nwPeI, nwPeJ, nwPeP, e100, e200, e100', e200']; grind)
  · first | exact i3 | simpa [up2, va_up, nwPeI, nwPeJ, nwPeP, e100, e200, e100', e200'] using i3 | (simp [up2, va_up, nwPeI, nwPeJ, nwPeP, e100, e200, e100', e200', i3]; done) | (intros; simp only [up2, va_up, nwPeI, nwPeJ, nwPeP, e100, e200, e100', e200']; grind)
  · first | exact i4 | simpa [up2, va_up, nwPeI, nwPeJ, nwPeP, e100, e200, e100', e200'] using i4 | (simp [up2, va_up, nwPeI, nwPeJ, nwPeP, e100, e200, e100', e200', i4]; done) | (intros; simp only [up2, va_up, nwPeI, nwPeJ, nwPeP, e100, e200, e100', e200']; grind)
  · intro p hp; by_cases z : p = n 5
    · subst z
      refine ⟨by simpa [up2, va_up, nwPeI, nwPeJ, nwPeP, e100, e200, e100', e200', PV] using hp1, fun q hq => ?_, fun _ => by simp [up2, va_up, nwPeI, nwPeJ, nwPeP, e100, e200, e100', e200'], fun k hk => ?_⟩
      · simp [up2, va_up, nwPeI, nwPeJ, nwPeP, e100, e200, e100', e200'] at hq
      · simp [up2, va_up, nwPeI, nwPeJ, nwPeP, e100, e200, e100', e200'] at hk
    · have hp' : p < n 5 := by (simp [va_up] at hp; omega)
      have w1 : ¬ (100 + p = 200 + n 5) := by omega
      have w2 : ¬ (200 + p = 100 + n 5) := by omega
      obtain ⟨q1, q2, q3, q4⟩ := i5' p hp'
      exact ⟨by simpa [up2, va_up, nwPeI, nwPeJ, nwPeP, e100, e200, e100', e200', PV, z] using q1, fun q hq => by (have hq' : q < P 6 p := by simpa [up2, va_up, nwPeI, nwPeJ, nwPeP, e100, e200, e100', e200', z] using hq); simpa [up2, va_up, nwPeI, nwPeJ, nwPeP, e100, e200, e100', e200', PV, z, w1, w2] using q2 q hq', fun h => by (have h' : P 6 p = 0 := by simpa [up2, va_up, nwPeI, nwPeJ, nwPeP, e100, e200, e100', e200', z] using h); simpa [up2, va_up, nwPeI, nwPeJ, nwPeP, e100, e200, e100', e200', z] using q3 h', fun k hk => by (have hk' : P 6 p = k + 1 := by simpa [up2, va_up, nwPeI, nwPeJ, nwPeP, e100, e200, e100', e200', z] using hk); simpa [up2, va_up, nwPeI, nwPeJ, nwPeP, e100, e200, e100', e200', z, w1, w2] using q4 k hk'⟩
  · first | exact f1 | simpa [up2, va_up, nwPeI, nwPeJ, nwPeP, e100, e200, e100', e200'] using f1 | (simp [up2, va_up, nwPeI, nwPeJ, nwPeP, e100, e200, e100', e200', f1]; done) | (intros; simp only [up2, va_up, nwPeI, nwPeJ, nwPeP, e100, e200, e100', e200']; grind)
  · first | exact f2 | simpa [up2, va_up, nwPeI, nwPeJ, nwPeP, e100, e200, e100', e200'] using f2 | (simp [up2, va_up, nwPeI, nwPeJ, nwPeP, e100, e200, e100', e200', f2]; done) | (intros; simp only [up2, va_up, nwPeI, nwPeJ, nwPeP, e100, e200, e100', e200']; grind)
  · first | exact f3 | simpa [up2, va_up, nwPeI, nwPeJ, nwPeP, e100, e200, e100', e200'] using f3 | (simp [up2, va_up, nwPeI, nwPeJ, nwPeP, e100, e200, e100', e200', f3]; done) | (intros; simp only [up2, va_up, nwPeI, nwPeJ, nwPeP, e100, e200, e100', e200']; grind)
  · intro p hv
    have hv' : n 5 + 1 ≤ p := by simpa [va_up] using hv
    simpa [up2, va_up, nwPeI, nwPeJ, nwPeP, e100, e200, e100', e200', show p ≠ n 5 by omega] using f4 p (by omega)
set_option maxHeartbeats 2000000 in
theorem op_go (h : SIMt n I J P X Y T) {r : Nat} {p2 p3 : Int32} (hr : r < n 5) (hp3 : PV n p3) (h20 : P 6 r < 20) (hC' : CInv n (nwGoP P r)) : SIMt n (nwGoI I P r p2 p3) J (nwGoP P r) (up2 (up2 (up2 (up2 X 0 0 0) 41 (20 * r + P 6 r) p2) 42 (20 * r + P 6 r) p3) 39 r (nI (P 6 r + 1))) Y T := by
  obtain ⟨⟨hT, hnow⟩, ⟨⟨x3, x4, x7, x8, x9⟩, ⟨x11, x12, x13, x14, x15, x16, x17⟩, ⟨x22, x23, x24, x25, x26⟩, ⟨x28, x29, x30⟩, ⟨x32, x33⟩, ⟨x36, x39, x40, x41⟩, x1, x2, x10, x21, x27, x31, x35⟩, ⟨s1, s2, s3, s4, s5⟩, hC, ⟨j5, j6, j18, j19, j20, j37, j43, j44, j45, j46⟩, ⟨d1, d2, d3⟩, hHO, hNB, hle, h34, h38, ⟨i1', i2, i3, i4, i5'⟩, ⟨f1, f2, f3, f4⟩⟩ := h
  have h9 : n 5 ≤ 9 := hC.1 5 (by decide)
  refine ⟨⟨hT, ?_⟩, ⟨⟨?_, ?_, ?_, ?_, ?_⟩, ⟨?_, ?_, ?_, ?_, ?_, ?_, ?_⟩, ⟨?_, ?_, ?_, ?_, ?_⟩, ⟨?_, ?_, ?_⟩, ⟨?_, ?_⟩, ⟨?_, ?_, ?_, ?_⟩, ?_, ?_, ?_, ?_, ?_, ?_, ?_⟩, ⟨?_, ?_, ?_, ?_, ?_⟩, ?_, ⟨?_, ?_, ?_, ?_, ?_, ?_, ?_, ?_, ?_, ?_⟩, ⟨?_, ?_, ?_⟩, ?_, ?_, ?_, ?_, ?_, ⟨?_, ?_, ?_, ?_, ?_⟩, ⟨?_, ?_, ?_, ?_⟩⟩
  · first | exact hnow | simpa [up2, nwGoI, nwGoP, e100, e200, e100', e200'] using hnow | (simp [up2, nwGoI, nwGoP, e100, e200, e100', e200', hnow]; done) | (intros; simp only [up2, nwGoI, nwGoP, e100, e200, e100', e200']; grind)
  · first | exact x3 | simpa [up2, nwGoI, nwGoP, e100, e200, e100', e200'] using x3 | (simp [up2, nwGoI, nwGoP, e100, e200, e100', e200', x3]; done) | (intros; simp only [up2, nwGoI, nwGoP, e100, e200, e100', e200']; grind)
  · first | exact x4 | simpa [up2, nwGoI, nwGoP, e100, e200, e100', e200'] using x4 | (simp [up2, nwGoI, nwGoP, e100, e200, e100', e200', x4]; done) | (intros; simp only [up2, nwGoI, nwGoP, e100, e200, e100', e200']; grind)
  · first | exact x7 | simpa [up2, nwGoI, nwGoP, e100, e200, e100', e200'] using x7 | (simp [up2, nwGoI, nwGoP, e100, e200, e100', e200', x7]; done) | (intros; simp only [up2, nwGoI, nwGoP, e100, e200, e100', e200']; grind)
  · first | exact x8 | simpa [up2, nwGoI, nwGoP, e100, e200, e100', e200'] using x8 | (simp [up2, nwGoI, nwGoP, e100, e200, e100', e200', x8]; done) | (intros; simp only [up2, nwGoI, nwGoP, e100, e200, e100', e200']; grind)
  · first | exact x9 | simpa [up2, nwGoI, nwGoP, e100, e200, e100', e200'] using x9 | (simp [up2, nwGoI, nwGoP, e100, e200, e100', e200', x9]; done) | (intros; simp only [up2, nwGoI, nwGoP, e100, e200, e100', e200']; grind)
  · first | exact x11 | simpa [up2, nwGoI, nwGoP, e100, e200, e100', e200'] using x11 | (simp [up2, nwGoI, nwGoP, e100, e200, e100', e200', x11]; done) | (intros; simp only [up2, nwGoI, nwGoP, e100, e200, e100', e200']; grind)
  · first | exact x12 | simpa [up2, nwGoI, nwGoP, e100, e200, e100', e200'] using x12 | (simp [up2, nwGoI, nwGoP, e100, e200, e100', e200', x12]; done) | (intros; simp only [up2, nwGoI, nwGoP, e100, e200, e100', e200']; grind)
  · first | exact x13 | simpa [up2, nwGoI, nwGoP, e100, e200, e100', e200'] using x13 | (simp [up2, nwGoI, nwGoP, e100, e200, e100', e200', x13]; done) | (intros; simp only [up2, nwGoI, nwGoP, e100, e200, e100', e200']; grind)
  · first | exact x14 | simpa [up2, nwGoI, nwGoP, e100, e200, e100', e200'] using x14 | (simp [up2, nwGoI, nwGoP, e100, e200, e100', e200', x14]; done) | (intros; simp only [up2, nwGoI, nwGoP, e100, e200, e100', e200']; grind)
  · first | exact x15 | simpa [up2, nwGoI, nwGoP, e100, e200, e100', e200'] using x15 | (simp [up2, nwGoI, nwGoP, e100, e200, e100', e200', x15]; done) | (intros; simp only [up2, nwGoI, nwGoP, e100, e200, e100', e200']; grind)
  · first | exact x16 | simpa [up2, nwGoI, nwGoP, e100, e200, e100', e200'] using x16 | (simp [up2, nwGoI, nwGoP, e100, e200, e100', e200', x16]; done) | (intros; simp only [up2, nwGoI, nwGoP, e100, e200, e100', e200']; grind)
  · first | exact x17 | simpa [up2, nwGoI, nwGoP, e100, e200, e100', e200'] using x17 | (simp [up2, nwGoI, nwGoP, e100, e200, e100', e200', x17]; done) | (intros; simp only [up2, nwGoI, nwGoP, e100, e200, e100', e200']; grind)
  · first | exact x22 | simpa [up2, nwGoI, nwGoP, e100, e200, e100', e200'] using x22 | (simp [up2, nwGoI, nwGoP, e100, e200, e100', e200', x22]; done) | (intros; simp only [up2, nwGoI, nwGoP, e100, e200, e100', e200']; grind)
  · first | exact x23 | simpa [up2, nwGoI, nwGoP, e100, e200, e100', e200'] using x23 | (simp [up2, nwGoI, nwGoP, e100, e200, e100', e200', x23]; done) | (intros; simp only [up2, nwGoI, nwGoP, e100, e200, e100', e200']; grind)
  · first | exact x24 | simpa [up2, nwGoI, nwGoP, e100, e200, e100', e200'] using x24 | (simp [up2, nwGoI, nwGoP, e100, e200, e100', e200', x24]; done) | (intros; simp only [up2, nwGoI, nwGoP, e100, e200, e100', e200']; grind)
  · first | exact x25 | simpa [up2, nwGoI, nwGoP, e100, e200, e100', e200'] using x25 | (simp [up2, nwGoI, nwGoP, e100, e200, e100', e200', x25]; done) | (intros; simp only [up2, nwGoI, nwGoP, e100, e200, e100', e200']; grind)
  · first | exact x26 | simpa [up2, nwGoI, nwGoP, e100, e200, e100', e200'] using x26 | (simp [up2, nwGoI, nwGoP, e100, e200, e100', e200', x26]; done) | (intros; simp only [up2, nwGoI, nwGoP, e100, e200, e100', e200']; grind)
  · first | exact x28 | simpa [up2, nwGoI, nwGoP, e100, e200, e100', e200'] using x28 | (simp [up2, nwGoI, nwGoP, e100, e200, e100', e200', x28]; done) | (intros; simp only [up2, nwGoI, nwGoP, e100, e200, e100', e200']; grind)
  · first | exact x29 | simpa [up2, nwGoI, nwGoP, e100, e200, e100', e200'] using x29 | (simp [up2, nwGoI, nwGoP, e100, e200, e100', e200', x29]; done) | (intros; simp only [up2, nwGoI, nwGoP, e100, e200, e100', e200']; grind)
  · first | exact x30 | simpa [up2, nwGoI, nwGoP, e100, e200, e100', e200'] using x30 | (simp [up2, nwGoI, nwGoP, e100, e200, e100', e200', x30]; done) | (intros; simp only [up2, nwGoI, nwGoP, e100, e200, e100', e200']; grind)
  · first | exact x32 | simpa [up2, nwGoI, nwGoP, e100, e200, e100', e200'] using x32 | (simp [up2, nwGoI, nwGoP, e100, e200, e100', e200', x32]; done) | (intros; simp only [up2, nwGoI, nwGoP, e100, e200, e100', e200']; grind)
  · first | exact x33 | simpa [up2, nwGoI, nwGoP, e100, e200, e100', e200'] using x33 | (simp [up2, nwGoI, nwGoP, e100, e200, e100', e200', x33]; done) | (intros; simp only [up2, nwGoI, nwGoP, e100, e200, e100', e200']; grind)
  · first | exact x36 | simpa [up2, nwGoI, nwGoP, e100, e200, e100', e200'] using x36 | (simp [up2, nwGoI, nwGoP, e100, e200, e100', e200', x36]; done) | (intros; simp only [up2, nwGoI, nwGoP, e100, e200, e100', e200']; grind)
  · intro i; by_cases q : i = r
    · subst q; simp [up2, nwGoI, nwGoP, e100, e200, e100', e200', x39]
    · simp [up2, nwGoI, nwGoP, e100, e200, e100', e200', x39, q]
  · first | exact x40 | simpa [up2, nwGoI, nwGoP, e100, e200, e100', e200'] using x40 | (simp [up2, nwGoI, nwGoP, e100, e200, e100', e200', x40]; done) | (intros; simp only [up2, nwGoI, nwGoP, e100, e200, e100', e200']; grind)
  · intro p q hp hq
    have c20 : P 6 p ≤ 20 := (hC.2.2.2.2.2 p hp).1
    by_cases z : p = r
    · subst z
      have hq' : q < P 6 p + 1 := by simpa [up2, nwGoI, nwGoP, e100, e200, e100', e200'] using hq
      by_cases y : q = P 6 p
      · subst y; simp [up2, nwGoI, nwGoP, e100, e200, e100', e200']
      · simpa [up2, nwGoI, nwGoP, e100, e200, e100', e200', y] using x41 p q hp (by omega)
    · have hq' : q < P 6 p := by simpa [up2, nwGoI, nwGoP, e100, e200, e100', e200', z] using hq
      have w : ¬ (20 * p + q = 20 * r + P 6 r) := by omega
      have w1 : ¬ (100 + p = 200 + r) := by omega
      have w2 : ¬ (200 + p = 100 + r) := by omega
      simpa [up2, nwGoI, nwGoP, e100, e200, e100', e200', z, w, w1, w2] using x41 p q hp hq'
  · first | exact x1 | simpa [up2, nwGoI, nwGoP, e100, e200, e100', e200'] using x1 | (simp [up2, nwGoI, nwGoP, e100, e200, e100', e200', x1]; done) | (intros; simp only [up2, nwGoI, nwGoP, e100, e200, e100', e200']; grind)
  · first | exact x2 | simpa [up2, nwGoI, nwGoP, e100, e200, e100', e200'] using x2 | (simp [up2, nwGoI, nwGoP, e100, e200, e100', e200', x2]; done) | (intros; simp only [up2, nwGoI, nwGoP, e100, e200, e100', e200']; grind)
  · first | exact x10 | simpa [up2, nwGoI, nwGoP, e100, e200, e100', e200'] using x10 | (simp [up2, nwGoI, nwGoP, e100, e200, e100', e200', x10]; done) | (intros; simp only [up2, nwGoI, nwGoP, e100, e200, e100', e200']; grind)
  · first | exact x21 | simpa [up2, nwGoI, nwGoP, e100, e200, e100', e200'] using x21 | (simp [up2, nwGoI, nwGoP, e100, e200, e100', e200', x21]; done) | (intros; simp only [up2, nwGoI, nwGoP, e100, e200, e100', e200']; grind)
  · first | exact x27 | simpa [up2, nwGoI, nwGoP, e100, e200, e100', e200'] using x27 | (simp [up2, nwGoI, nwGoP, e100, e200, e100', e200', x27]; done) | (intros; simp only [up2, nwGoI, nwGoP, e100, e200, e100', e200']; grind)
  · first | exact x31 | simpa [up2, nwGoI, nwGoP, e100, e200, e100', e200'] using x31 | (simp [up2, nwGoI, nwGoP, e100, e200, e100', e200', x31]; done) | (intros; simp only [up2, nwGoI, nwGoP, e100, e200, e100', e200']; grind)
  · first | exact x35 | simpa [up2, nwGoI, nwGoP, e100, e200, e100', e200'] using x35 | (simp [up2, nwGoI, nwGoP, e100, e200, e100', e200', x35]; done) | (intros; simp only [up2, nwGoI, nwGoP, e100, e200, e100', e200']; grind)
  · first | exact s1 | simpa [up2, nwGoI, nwGoP, e100, e200, e100', e200'] using s1 | (simp [up2, nwGoI, nwGoP, e100, e200, e100', e200', s1]; done) | (intros; simp only [up2, nwGoI, nwGoP, e100, e200, e100', e200']; grind)
  · first | exact s2 | simpa [up2, nwGoI, nwGoP, e100, e200, e100', e200'] using s2 | (simp [up2, nwGoI, nwGoP, e100, e200, e100', e200', s2]; done) | (intros; simp only [up2, nwGoI, nwGoP, e100, e200, e100', e200']; grind)
  · first | exact s3 | simpa [up2, nwGoI, nwGoP, e100, e200, e100', e200'] using s3 | (simp [up2, nwGoI, nwGoP, e100, e200, e100', e200', s3]; done) | (intros; simp only [up2, nwGoI, nwGoP, e100, e200, e100', e200']; grind)
  · first | exact s4 | simpa [up2, nwGoI, nwGoP, e100, e200, e100', e200'] using s4 | (simp [up2, nwGoI, nwGoP, e100, e200, e100', e200', s4]; done) | (intros; simp only [up2, nwGoI, nwGoP, e100, e200, e100', e200']; grind)
  · first | exact s5 | simpa [up2, nwGoI, nwGoP, e100, e200, e100', e200'] using s5 | (simp [up2, nwGoI, nwGoP, e100, e200, e100', e200', s5]; done) | (intros; simp only [up2, nwGoI, nwGoP, e100, e200, e100', e200']; grind)
  · exact hC'
  · first | exact j5 | simpa [up2, nwGoI, nwGoP, e100, e200, e100', e200'] using j5 | (simp [up2, nwGoI, nwGoP, e100, e200, e100', e200', j5]; done) | (intros; simp only [up2, nwGoI, nwGoP, e100, e200, e100', e200']; grind)
  · first | exact j6 | simpa [up2, nwGoI, nwGoP, e100, e200, e100', e200'] using j6 | (simp [up2, nwGoI, nwGoP, e100, e200, e100', e200', j6]; done) | (intros; simp only [up2, nwGoI, nwGoP, e100, e200, e100', e200']; grind)
  · first | exact j18 | simpa [up2, nwGoI, nwGoP, e100, e200, e100', e200'] using j18 | (simp [up2, nwGoI, nwGoP, e100, e200, e100', e200', j18]; done) | (intros; simp only [up2, nwGoI, nwGoP, e100, e200, e100', e200']; grind)
  · first | exact j19 | simpa [up2, nwGoI, nwGoP, e100, e200, e100', e200'] using j19 | (simp [up2, nwGoI, nwGoP, e100, e200, e100', e200', j19]; done) | (intros; simp only [up2, nwGoI, nwGoP, e100, e200, e100', e200']; grind)
  · first | exact j20 | simpa [up2, nwGoI, nwGoP, e100, e200, e100', e200'] using j20 | (simp [up2, nwGoI, nwGoP, e100, e200, e100', e200', j20]; done) | (intros; simp only [up2, nwGoI, nwGoP, e100, e200, e100', e200']; grind)
  · first | exact j37 | simpa [up2, nwGoI, nwGoP, e100, e200, e100', e200'] using j37 | (simp [up2, nwGoI, nwGoP, e100, e200, e100', e200', j37]; done) | (intros; simp only [up2, nwGoI, nwGoP, e100, e200, e100', e200']; grind)
  · first | exact j43 | simpa [up2, nwGoI, nwGoP, e100, e200, e100', e200'] using j43 | (simp [up2, nwGoI, nwGoP, e100, e200, e100', e200', j43]; done) | (intros; simp only [up2, nwGoI, nwGoP, e100, e200, e100', e200']; grind)
  · first | exact j44 | simpa [up2, nwGoI, nwGoP, e100, e200, e100', e200'] using j44 | (simp [up2, nwGoI, nwGoP, e100, e200, e100', e200', j44]; done) | (intros; simp only [up2, nwGoI, nwGoP, e100, e200, e100', e200']; grind)
  · first | exact j45 | simpa [up2, nwGoI, nwGoP, e100, e200, e100', e200'] using j45 | (simp [up2, nwGoI, nwGoP, e100, e200, e100', e200', j45]; done) | (intros; simp only [up2, nwGoI, nwGoP, e100, e200, e100', e200']; grind)
  · first | exact j46 | simpa [up2, nwGoI, nwGoP, e100, e200, e100', e200'] using j46 | (simp [up2, nwGoI, nwGoP, e100, e200, e100', e200', j46]; done) | (intros; simp only [up2, nwGoI, nwGoP, e100, e200, e100', e200']; grind)
  · first | exact d1 | simpa [up2, nwGoI, nwGoP, e100, e200, e100', e200'] using d1 | (simp [up2, nwGoI, nwGoP, e100, e200, e100', e200', d1]; done) | (intros; simp only [up2, nwGoI, nwGoP, e100, e200, e100', e200']; grind)
  · first | exact d2 | simpa [up2, nwGoI, nwGoP, e100, e200, e100', e200'] using d2 | (simp [up2, nwGoI, nwGoP, e100, e200, e100', e200', d2]; done) | (intros; simp only [up2, nwGoI, nwGoP, e100, e200, e100', e200']; grind)
  · first | exact d3 | simpa [up2, nwGoI, nwGoP, e100, e200, e100', e200'] using d3 | (simp [up2, nwGoI, nwGoP, e100, e200, e100', e200', d3]; done) | (intros; simp only [up2, nwGoI, nwGoP, e100, e200, e100', e200']; grind)
  · intro i hi
    have hi' : i < n 0 := by simpa [va_up] using hi
    simpa [up2, nwGoI, nwGoP, e100, e200, e100', e200'] using hHO i hi'
  · first | exact hNB | simpa [up2, nwGoI, nwGoP, e100, e200, e100', e200'] using hNB | (simp [up2, nwGoI, nwGoP, e100, e200, e100', e200', hNB]; done) | (intros; simp only [up2, nwGoI, nwGoP, e100, e200, e100', e200']; grind)
  · first | exact hle | simpa [up2, nwGoI, nwGoP, e100, e200, e100', e200'] using hle | (simp [up2, nwGoI, nwGoP, e100, e200, e100', e200', hle]; done) | (intros; simp only [up2, nwGoI, nwGoP, e100, e200, e100', e200']; grind)
  · first | exact h34 | simpa [up2, nwGoI, nwGoP, e100, e200, e100', e200'] using h34 | (simp [up2, nwGoI, nwGoP, e100, e200, e100', e200', h34]; done) | (intros; simp only [up2, nwGoI, nwGoP, e100, e200, e100', e200']; grind)
  · first | exact h38 | simpa [up2, nwGoI, nwGoP, e100, e200, e100', e200'] using h38 | (simp [up2, nwGoI, nwGoP, e100, e200, e100', e200', h38]; done) | (intros; simp only [up2, nwGoI, nwGoP, e100, e200, e100', e200']; grind)
  · first | exact i1' | simpa [up2, nwGoI, nwGoP, e100, e200, e100', e200'] using i1' | (simp [up2, nwGoI, nwGoP, e100, e200, e100', e200', i1']; done) | (intros; simp only [up2, nwGoI, nwGoP, e100, e200, e100', e200']; grind)
  · first | exact i2 | simpa [up2, nwGoI, nwGoP, e100, e200, e100', e200'] using i2 | (simp [up2, nwGoI, nwGoP, e100, e200, e100', e200', i2]; done) | (intros; simp only [up2, nwGoI, nwGoP, e100, e200, e100', e200']; grind)
  · first | exact i3 | simpa [up2, nwGoI, nwGoP, e100, e200, e100', e200'] using i3 | (simp [up2, nwGoI, nwGoP, e100, e200, e100', e200', i3]; done) | (intros; simp only [up2, nwGoI, nwGoP, e100, e200, e100', e200']; grind)
  · first | exact i4 | simpa [up2, nwGoI, nwGoP, e100, e200, e100', e200'] using i4 | (simp [up2, nwGoI, nwGoP, e100, e200, e100', e200', i4]; done) | (intros; simp only [up2, nwGoI, nwGoP, e100, e200, e100', e200']; grind)
  · intro p hp
    obtain ⟨q1, q2, q3, q4⟩ := i5' p hp
    have w1 : ¬ (100 + p = 200 + r) := by omega
    have w2 : ¬ (200 + p = 100 + r) := by omega
    by_cases z : p = r
    · subst z
      refine ⟨by simpa [up2, nwGoI, nwGoP, e100, e200, e100', e200', PV] using q1, fun q hq => ?_, fun h => ?_, fun k hk => ?_⟩
      · have hq' : q < P 6 p + 1 := by simpa [up2, nwGoI, nwGoP, e100, e200, e100', e200'] using hq
        by_cases y : q = P 6 p
        · subst y; simpa [up2, nwGoI, nwGoP, e100, e200, e100', e200', PV, w2] using hp3
        · simpa [up2, nwGoI, nwGoP, e100, e200, e100', e200', PV, y, w2] using q2 q (by omega)
      · simp [up2, nwGoI, nwGoP, e100, e200, e100', e200'] at h
      · have hk' : P 6 p = k := by simpa [up2, nwGoI, nwGoP, e100, e200, e100', e200'] using hk
        subst hk'; simp [up2, nwGoI, nwGoP, e100, e200, e100', e200', w1]
    · exact ⟨by simpa [up2, nwGoI, nwGoP, e100, e200, e100', e200', PV, z] using q1, fun q hq => by (have hq' : q < P 6 p := by simpa [up2, nwGoI, nwGoP, e100, e200, e100', e200', z] using hq); simpa [up2, nwGoI, nwGoP, e100, e200, e100', e200', PV, z, w1, w2] using q2 q hq', fun h => by (have h' : P 6 p = 0 := by simpa [up2, nwGoI, nwGoP, e100, e200, e100', e200', z] using h); simpa [up2, nwGoI, nwGoP, e100, e200, e100', e200', z] using q3 h', fun k hk => by (have hk' : P 6 p = k + 1 := by simpa [up2, nwGoI, nwGoP, e100, e200, e100', e200', z] using hk); simpa [up2, nwGoI, nwGoP, e100, e200, e100', e200', z, w1, w2] using q4 k hk'⟩
  · first | exact f1 | simpa [up2, nwGoI, nwGoP, e100, e200, e100', e200'] using f1 | (simp [up2, nwGoI, nwGoP, e100, e200, e100', e200', f1]; done) | (intros; simp only [up2, nwGoI, nwGoP, e100, e200, e100', e200']; grind)
  · first | exact f2 | simpa [up2, nwGoI, nwGoP, e100, e200, e100', e200'] using f2 | (simp [up2, nwGoI, nwGoP, e100, e200, e100', e200', f2]; done) | (intros; simp only [up2, nwGoI, nwGoP, e100, e200, e100', e200']; grind)
  · first | exact f3 | simpa [up2, nwGoI, nwGoP, e100, e200, e100', e200'] using f3 | (simp [up2, nwGoI, nwGoP, e100, e200, e100', e200', f3]; done) | (intros; simp only [up2, nwGoI, nwGoP, e100, e200, e100', e200']; grind)
  · intro p hp
    simpa [up2, nwGoI, nwGoP, e100, e200, e100', e200', show p ≠ r by omega] using f4 p hp
end OPS
