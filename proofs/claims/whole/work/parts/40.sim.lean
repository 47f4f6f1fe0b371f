section ACT
variable {n : Nat → Nat} {I X : I2} {P : P2} {J Y : J2} {B : Int} {T : Nat}
theorem wa_eq {r : Nat} (y5 : Y 5 r = J 1 r) (y6 : Y 6 r = J 2 r) (h0 : 0 ≤ (J 1 r).toInt) : mo_wa Y r = m_warmth (J 1 r) (J 2 r) := by
  unfold mo_wa m_warmth
  rw [y5, y6]
  by_cases q : J 1 r = 0
  · rw [if_pos q, if_neg (by rw [q]; decide)]
  · rw [if_neg q, if_pos (L_le.mpr ?_)]
    rw [l1]
    have : (J 1 r).toInt ≠ 0 := fun h => q (L_ext (by rw [l0]; exact h))
    omega
theorem wa_bd {r : Nat} {M : Int} (h : NB M B n J) (hB : 0 ≤ B) (hr : r < n 0) : 0 ≤ (m_warmth (J 1 r) (J 2 r)).toInt ∧ (m_warmth (J 1 r) (J 2 r)).toInt ≤ B := by
  obtain ⟨a, b, c, d⟩ := h r hr
  unfold m_warmth
  split
  · rename_i q
    have q := L_le.mp q
    rw [l1] at q
    rw [L_div c (by omega)]
    exact ⟨Int.ediv_nonneg c a, Int.ediv_le_of_le_mul (by omega) d⟩
  · rw [l0]
    omega
theorem hot_eq {r : Nat} {li : Int32} (hw : mo_wa Y r = m_warmth (J 1 r) (J 2 r)) (hl : 1 ≤ li.toInt) : mo_hot Y r li = m_hot (J 1 r) (J 2 r) li := by
  unfold mo_hot m_hot
  rw [hw, if_neg (by rw [I_le, i0]; omega)]
theorem act1_step {i : Nat} {Ia In X' : I2} {z : Nat → Nat} (hX : XR n I P X) (hS : SB n I P) (hN : NB 2000000 B n J) (hR : RJ J Y) (hi : i < n 0) (hsl : I 2 i = (-1) ∨ 1 ≤ (I 2 i).toInt) (h3 : Ia 3 i = 0 ∨ Ia 3 i = 1)
    (ea : ∀ a b, a ≠ 3 → Ia a b = I a b) (en : ∀ a b, a ≠ 4 → In a b = I a b) (ex : ∀ a b, a ≠ 8 → a ≠ 9 → X' a b = X a b) (e8 : ∀ r, X' 8 r = Ia 3 r) (e9 : ∀ r, X' 9 r = In 4 r) :
    sxAct1 z i X' Y = up2 (up2 X' 8 i (aS J i Ia 3 i)) 9 i (nS J i In 4 i) ∧ (aS J i Ia 3 i = 0 ∨ aS J i Ia 3 i = 1) := by
  obtain ⟨s1, s2, s3, s4⟩ := hN i hi
  have hw := wa_eq (hR.1 i) (hR.2.1 i) s1
  have hX2 : mo_cl X' Y i = mo_cl X Y i := by
    unfold mo_cl
    rw [ex 3 i (by decide) (by decide), ex 4 i (by decide) (by decide)]
  have hcl := (cl_eq hX hS hi (hR.1 i) s1 s2).1
  have x7 : X' 7 i = gl0 (I 2 i) := by rw [ex 7 i (by decide) (by decide)]; exact hX.1.2.2.1 i
  have x1 : X' 1 0 = I 99 0 := by rw [ex 1 0 (by decide) (by decide)]; exact hX.2.2.2.2.2.2.1
  have ka : aS J i Ia 3 i = m_act (J 1 i) (J 2 i) (I 2 i) (Ia 3 i) := by
    simp only [aS, up2]
    rw [ea 2 i (by decide)]
    simp
  have kn : nS J i In 4 i = m_fl (I 0 i) (I 1 i) (J 1 i) (In 4 i) (I 99 0) := by
    simp only [nS, up2]
    rw [en 0 i (by decide), en 1 i (by decide), en 99 0 (by decide)]
    simp
  have k2 : m_fl (I 0 i) (I 1 i) (J 1 i) (In 4 i) (I 99 0) = if In 4 i = (-1) then (if 18 ≤ m_clear (I 0 i) (I 1 i) (J 1 i) then In 4 i else I 99 0) else In 4 i := by
    unfold m_fl m_low
    by_cases q : In 4 i = (-1)
    · rw [if_pos q, if_pos q]
      by_cases q2 : 18 ≤ m_clear (I 0 i) (I 1 i) (J 1 i)
      · rw [if_pos q2, if_pos q2, if_pos rfl]
      · rw [if_neg q2, if_neg q2, if_neg (by decide)]
    · rw [if_neg q, if_neg q]
  have k3 : m_act (J 1 i) (J 2 i) (I 2 i) (Ia 3 i) = if Ia 3 i = 0 then (if mo_hot Y i (X' 7 i) = 0 then 0 else 1) else 1 := by
    rw [x7]
    unfold m_act gl0
    rcases hsl with q | q
    · rw [if_pos q, if_pos q]
      have : mo_hot Y i 0 = 0 := by
        unfold mo_hot
        rw [if_pos (by decide)]
      rw [this]
      rcases h3 with h | h <;> rw [h] <;> decide
    · have q1 : ¬ I 2 i = (-1) := fun h => by rw [h, im1] at q; omega
      rw [if_neg q1, if_neg q1, hot_eq hw q]
      unfold m_hot
      by_cases q2 : m_warmth (J 1 i) (J 2 i) < Int32.toInt64 (I 2 i)
      · rw [if_pos q2, if_pos q2]
        rcases h3 with h | h <;> rw [h] <;> decide
      · rw [if_neg q2, if_neg q2]
        rcases h3 with h | h <;> rw [h] <;> decide
  refine ⟨?_, ?_⟩
  · rw [ka, kn, k2, k3]
    unfold sxAct1
    rw [e8, e9, hX2, hcl, x1]
    by_cases c1 : Ia 3 i = 0
    · rw [if_pos c1, if_pos c1]
      by_cases c2 : mo_hot Y i (X' 7 i) = 0
      · rw [if_pos c2, if_pos c2]
        by_cases c3 : In 4 i = (-1)
        · rw [if_pos c3, if_pos c3]
          split <;> rfl
        · rw [if_neg c3, if_neg c3]
      · rw [if_neg c2, if_neg c2]
        by_cases c3 : In 4 i = (-1)
        · rw [if_pos c3, if_pos c3]
          split <;> rfl
        · rw [if_neg c3, if_neg c3]
    · rw [if_neg c1, if_neg c1]
      by_cases c3 : In 4 i = (-1)
      · rw [if_pos c3, if_pos c3]
        split <;> rfl
      · rw [if_neg c3, if_neg c3]
  · rw [ka, k3]
    split
    · split
      · exact Or.inl rfl
      · exact Or.inr rfl
    · exact Or.inr rfl
theorem act1_sim (hX : XR n I P X) (hS : SB n I P) (hN : NB 2000000 B n J) (hR : RJ J Y) (hsl : ∀ r, r < n 0 → I 2 r = (-1) ∨ 1 ≤ (I 2 r).toInt) : ∀ (k i : Nat) (Ia In X' : I2), i + k = n 0 → (∀ r, r < n 0 → Ia 3 r = 0 ∨ Ia 3 r = 1) → (∀ r, n 0 ≤ r → Ia 3 r = 0) → (∀ a b, a ≠ 3 → Ia a b = I a b) → (∀ a b, a ≠ 4 → In a b = I a b) → (∀ a b, a ≠ 8 → a ≠ 9 → X' a b = X a b) → (∀ r, X' 8 r = Ia 3 r) → (∀ r, X' 9 r = In 4 r) →
    (lAct1 k i (X', Y)).2 = Y ∧ (∀ r, r < n 0 → aL J k i Ia 3 r = 0 ∨ aL J k i Ia 3 r = 1) ∧ (∀ r, n 0 ≤ r → aL J k i Ia 3 r = 0) ∧ (∀ a b, a ≠ 3 → aL J k i Ia a b = I a b) ∧ (∀ a b, a ≠ 4 → nL J k i In a b = I a b) ∧ (∀ a b, a ≠ 8 → a ≠ 9 → (lAct1 k i (X', Y)).1 a b = X a b) ∧ (∀ r, (lAct1 k i (X', Y)).1 8 r = aL J k i Ia 3 r) ∧ (∀ r, (lAct1 k i (X', Y)).1 9 r = nL J k i In 4 r) := by
  intro k
  induction k with
  | zero =>
    intro i Ia In X' hi h3 h30 ea en ex e8 e9
    exact ⟨rfl, h3, h30, ea, en, ex, e8, e9⟩
  | succ k ih =>
    intro i Ia In X' hi h3 h30 ea en ex e8 e9
    have hin : i < n 0 := by omega
    obtain ⟨k1, k2⟩ := act1_step (z := fun _ => 0) hX hS hN hR hin (hsl i hin) (h3 i hin) ea en ex e8 e9
    have oa : ∀ a b, ¬ (a = 3 ∧ b = i) → aS J i Ia a b = Ia a b := fun a b h => up2_ne _ _ _ _ h
    have on : ∀ a b, ¬ (a = 4 ∧ b = i) → nS J i In a b = In a b := fun a b h => up2_ne _ _ _ _ h
    have := ih (i + 1) (aS J i Ia) (nS J i In) (up2 (up2 X' 8 i (aS J i Ia 3 i)) 9 i (nS J i In 4 i)) (by omega)
      (fun r hr => by
        by_cases e : r = i
        · subst e; exact k2
        · rw [oa 3 r (by omega)]; exact h3 r hr)
      (fun r hr => by rw [oa 3 r (by omega)]; exact h30 r hr)
      (fun a b ha => by rw [oa a b (by omega)]; exact ea a b ha) (fun a b ha => by rw [on a b (by omega)]; exact en a b ha)
      (fun a b h8 h9 => by simp only [up2]; simp [h8, h9]; exact ex a b h8 h9)
      (fun r => by
        by_cases e : r = i
        · subst e; simp [up2]
        · rw [oa 3 r (by omega)]; simp [up2, e, e8])
      (fun r => by
        by_cases e : r = i
        · subst e; simp [up2]
        · rw [on 4 r (by omega)]; simp [up2, e, e9])
    rw [← k1] at this
    exact this
theorem act2_step {i : Nat} {Iz X' : I2} {z : Nat → Nat} (hX : XR n I P X) (hC : CInv n P) (hN : NB 2000000 B n J) (hR : RJ J Y) (hi : i < n 1) (hgl : I 15 i = (-1) ∨ 1 ≤ (I 15 i).toInt) (h16 : Iz 16 i = 0 ∨ Iz 16 i = 1)
    (ez : Iz 15 i = I 15 i) (ex : ∀ a b, a ≠ 8 → a ≠ 9 → a ≠ 17 → X' a b = X a b) (e17 : X' 17 i = m_open (Iz 15 i) (Iz 16 i)) :
    sxAct2 z i X' Y = up2 X' 17 i (m_open (I 15 i) (zS J P i Iz 16 i)) ∧ (zS J P i Iz 16 i = 0 ∨ zS J P i Iz 16 i = 1) := by
  have h10 : n 0 ≤ 10 := hC.1 0 (by decide)
  obtain ⟨p1, p2, p3⟩ := hC.2.1 i hi
  obtain ⟨s1, s2, s3, s4⟩ := hN (P 1 i) p1
  have hw := wa_eq (hR.1 (P 1 i)) (hR.2.1 (P 1 i)) s1
  have hcl : (nI (P 1 i)).toNatClampNeg = P 1 i := nI_clamp (by omega)
  have x11 : X' 11 i = nI (P 1 i) := by rw [ex 11 i (by decide) (by decide) (by decide)]; exact hX.2.1.1 i
  have x12 : X' 12 i = farN (P 2 i) := by rw [ex 12 i (by decide) (by decide) (by decide)]; exact hX.2.1.2.1 i hi
  have x16 : X' 16 i = gl0 (I 15 i) := by rw [ex 16 i (by decide) (by decide) (by decide)]; exact hX.2.1.2.2.2.2.2.1 i
  unfold sxAct2
  rw [e17, ez, x11, x16, hcl]
  have mo : ∀ b : Int32, m_open (-1) b = 1 := fun b => if_pos rfl
  have m1 : ¬ (1 : Int32) = 0 := by decide
  cases hg : P 2 i with
  | zero =>
    have x12 : X' 12 i = (-1) := by rw [x12, hg]; rfl
    have kz : zS J P i Iz 16 i = m_brN (m_open (I 15 i) (Iz 16 i)) (m_hot (J 1 (P 1 i)) (J 2 (P 1 i)) (I 15 i)) (Iz 16 i) := by
      simp only [zS, up2]
      rw [ez, hg]
      simp
    rw [kz, if_pos x12]
    rcases hgl with q | q
    · rw [q, mo, if_neg m1]
      unfold m_brN
      rw [if_neg m1, mo]
      exact ⟨rfl, h16⟩
    · have q1 : ¬ I 15 i = (-1) := fun h => by rw [h, im1] at q; omega
      have g1 : gl0 (I 15 i) = I 15 i := if_neg q1
      have mb : ∀ b : Int32, m_open (I 15 i) b = if b = 0 then 0 else 1 := fun b => if_neg q1
      rw [g1, hot_eq hw q]
      unfold m_brN
      rcases h16 with h | h
      · rw [h, mb 0, if_pos rfl, if_pos rfl, if_pos rfl]
        by_cases c : m_hot (J 1 (P 1 i)) (J 2 (P 1 i)) (I 15 i) = 0
        · rw [if_pos c, if_pos c, mb, if_pos rfl]
          exact ⟨rfl, Or.inl rfl⟩
        · rw [if_neg c, if_neg c, mb, if_neg m1]
          exact ⟨rfl, Or.inr rfl⟩
      · rw [h, mb 1, if_neg m1, if_neg m1, if_neg m1, mb, if_neg m1]
        exact ⟨rfl, Or.inr rfl⟩
  | succ g =>
    have x12 : X' 12 i = nI g := by rw [x12, hg]; rfl
    obtain ⟨t1, t2, t3, t4⟩ := hN g (by omega)
    have hwg := wa_eq (hR.1 g) (hR.2.1 g) t1
    have hcg : (nI g).toNatClampNeg = g := nI_clamp (by omega)
    have g1000 : g < 1000 := by omega
    have kz : zS J P i Iz 16 i = m_brS (m_open (I 15 i) (Iz 16 i)) (m_hot (J 1 (P 1 i)) (J 2 (P 1 i)) (I 15 i)) (m_hot (J 1 g) (J 2 g) (I 15 i)) (Iz 16 i) := by
      simp only [zS, up2]
      rw [ez, hg]
      simp
    rw [kz, x12, if_neg (nI_m1 g1000), hcg]
    rcases hgl with q | q
    · rw [q, mo, if_neg m1]
      unfold m_brS
      rw [if_neg m1, mo]
      exact ⟨rfl, h16⟩
    · have q1 : ¬ I 15 i = (-1) := fun h => by rw [h, im1] at q; omega
      have g1 : gl0 (I 15 i) = I 15 i := if_neg q1
      have mb : ∀ b : Int32, m_open (I 15 i) b = if b = 0 then 0 else 1 := fun b => if_neg q1
      rw [g1, hot_eq hw q, hot_eq hwg q]
      unfold m_brS
      rcases h16 with h | h
      · rw [h, mb 0, if_pos rfl, if_pos rfl, if_pos rfl]
        by_cases c : m_hot (J 1 (P 1 i)) (J 2 (P 1 i)) (I 15 i) = 0
        · rw [if_pos c, if_pos c]
          by_cases c2 : m_hot (J 1 g) (J 2 g) (I 15 i) = 0
          · rw [if_pos c2, if_pos c2, mb, if_pos rfl]
            exact ⟨rfl, Or.inl rfl⟩
          · rw [if_neg c2, if_neg c2, mb, if_neg m1]
            exact ⟨rfl, Or.inr rfl⟩
        · rw [if_neg c, if_neg c, mb, if_neg m1]
          exact ⟨rfl, Or.inr rfl⟩
      · rw [h, mb 1, if_neg m1, if_neg m1, if_neg m1, mb, if_neg m1]
        exact ⟨rfl, Or.inr rfl⟩
theorem act2_sim (hX : XR n I P X) (hC : CInv n P) (hN : NB 2000000 B n J) (hR : RJ J Y) (hgl : ∀ o, o < n 1 → I 15 o = (-1) ∨ 1 ≤ (I 15 o).toInt) : ∀ (k i : Nat) (Iz X' : I2), i + k = n 1 → (∀ o, o < n 1 → Iz 16 o = 0 ∨ Iz 16 o = 1) → (∀ o, n 1 ≤ o → Iz 16 o = 0) → (∀ o, Iz 15 o = I 15 o) → (∀ a b, a ≠ 8 → a ≠ 9 → a ≠ 17 → X' a b = X a b) → (∀ o, X' 17 o = m_open (Iz 15 o) (Iz 16 o)) →
    (lAct2 k i (X', Y)).2 = Y ∧ (∀ o, o < n 1 → zL J P k i Iz 16 o = 0 ∨ zL J P k i Iz 16 o = 1) ∧ (∀ o, n 1 ≤ o → zL J P k i Iz 16 o = 0) ∧ (∀ a b, a ≠ 16 → zL J P k i Iz a b = Iz a b) ∧ (∀ a b, a ≠ 17 → (lAct2 k i (X', Y)).1 a b = X' a b) ∧ (∀ o, (lAct2 k i (X', Y)).1 17 o = m_open (zL J P k i Iz 15 o) (zL J P k i Iz 16 o)) := by
  intro k
  induction k with
  | zero =>
    intro i Iz X' hi h16 h160 ez ex e17
    exact ⟨rfl, h16, h160, fun _ _ _ => rfl, fun _ _ _ => rfl, e17⟩
  | succ k ih =>
    intro i Iz X' hi h16 h160 ez ex e17
    have hin : i < n 1 := by omega
    obtain ⟨k1, k2⟩ := act2_step (z := fun _ => 0) hX hC hN hR hin (hgl i hin) (h16 i hin) (ez i) ex (e17 i)
    have oz : ∀ a b, ¬ (a = 16 ∧ b = i) → zS J P i Iz a b = Iz a b := fun a b h => up2_ne _ _ _ _ h
    have := ih (i + 1) (zS J P i Iz) (up2 X' 17 i (m_open (I 15 i) (zS J P i Iz 16 i))) (by omega)
      (fun r hr => by
        by_cases e : r = i
        · subst e; exact k2
        · rw [oz 16 r (by omega)]; exact h16 r hr)
      (fun r hr => by rw [oz 16 r (by omega)]; exact h160 r hr)
      (fun o => by rw [oz 15 o (by omega)]; exact ez o)
      (fun a b h8 h9 h17 => by simp only [up2]; simp [h17]; exact ex a b h8 h9 h17)
      (fun r => by
        by_cases e : r = i
        · subst e; rw [oz 15 r (by omega), ez]; simp [up2]
        · rw [oz 16 r (by omega), oz 15 r (by omega)]; simp [up2, e, e17])
    rw [← k1] at this
    obtain ⟨a1, a2, a3, a4, a5, a6⟩ := this
    refine ⟨a1, a2, a3, fun a b h => (a4 a b h).trans (oz a b (by omega)), fun a b h => (a5 a b h).trans ?_, a6⟩
    show sxAct2 (fun _ => 0) i X' Y a b = X' a b
    rw [k1]
    simp [up2, h]
theorem tdiv_bd {d s : Int} (hs : 1 ≤ s) : (0 ≤ d → 0 ≤ d.tdiv s ∧ d.tdiv s ≤ d) ∧ (d ≤ 0 → d ≤ d.tdiv s ∧ d.tdiv s ≤ 0) := by
  have key : ∀ x : Int, 0 ≤ x → 0 ≤ x.tdiv s ∧ x.tdiv s ≤ x := fun x hx => by
    rw [Int.tdiv_eq_ediv_of_nonneg hx]
    exact ⟨Int.ediv_nonneg hx (by omega), Int.ediv_le_self s hx⟩
  refine ⟨key d, fun h => ?_⟩
  have := key (-d) (by omega)
  rw [Int.neg_tdiv] at this
  omega
theorem te_eq {w : Int64} {sc te : Int32} (w0 : 0 ≤ w.toInt) (w1 : w.toInt ≤ 3000000) (hs : 1 ≤ sc.toInt) (ht : 0 ≤ te.toInt) : Int32.toInt64 (te + Int64.toInt32 ((w - Int32.toInt64 te) / Int32.toInt64 sc)) = Int32.toInt64 te + (w - Int32.toInt64 te) / Int32.toInt64 sc ∧ 0 ≤ (te + Int64.toInt32 ((w - Int32.toInt64 te) / Int32.toInt64 sc)).toInt := by
  have ht2 := te.toInt_lt
  have e1 : (w - Int32.toInt64 te).toInt = w.toInt - te.toInt := by rw [L_sub (by rw [W_l]; omega) (by rw [W_l]; omega), W_l]
  have hq := tdiv_bd (d := w.toInt - te.toInt) hs
  have e2 : ((w - Int32.toInt64 te) / Int32.toInt64 sc).toInt = (w.toInt - te.toInt).tdiv sc.toInt := by
    rw [Int64.toInt_div, e1, W_l]
    rcases Int.le_total 0 (w.toInt - te.toInt) with q | q
    · have := hq.1 q
      exact Int.bmod_eq_of_le (by omega) (by omega)
    · have := hq.2 q
      exact Int.bmod_eq_of_le (by omega) (by omega)
  have hb : -te.toInt ≤ (w.toInt - te.toInt).tdiv sc.toInt ∧ te.toInt + (w.toInt - te.toInt).tdiv sc.toInt < 2147483648 ∧ (w.toInt - te.toInt).tdiv sc.toInt ≤ 3000000 := by
    rcases Int.le_total 0 (w.toInt - te.toInt) with q | q
    · have := hq.1 q
      omega
    · have := hq.2 q
      omega
  generalize (w - Int32.toInt64 te) / Int32.toInt64 sc = d at *
  generalize (w.toInt - te.toInt).tdiv sc.toInt = q at *
  have e3 : (Int64.toInt32 d).toInt = q := by
    rw [Int64.toInt_toInt32, e2]
    exact Int.bmod_eq_of_le (by omega) (by omega)
  have e4 : (te + Int64.toInt32 d).toInt = te.toInt + q := by rw [I_add (by rw [e3]; omega) (by rw [e3]; omega), e3]
  refine ⟨L_ext ?_, by rw [e4]; omega⟩
  rw [W_l, e4, L_add (by rw [W_l, e2]; omega) (by rw [W_l, e2]; omega), W_l, e2]
theorem act3_sim {X' : I2} (hC : CInv n P) (hS : SB n I P) (hB : 0 ≤ B ∧ B ≤ 3000000) (hN : NB 2000000 B n J) (x32 : ∀ i, X' 32 i = nI (P 5 i)) (x33 : ∀ i, X' 33 i = I 41 i) : ∀ (k i : Nat) (It : I2) (Y' : J2), i + k = n 4 → (∀ b, Y' 5 b = J 1 b) → (∀ b, Y' 6 b = J 2 b) → (∀ m, 0 ≤ (It 42 m).toInt) → (∀ m, n 4 ≤ m → It 42 m = 0) → (∀ m, It 41 m = I 41 m) → (∀ m, Y' 34 m = Int32.toInt64 (It 42 m)) →
    (lAct3 k i (X', Y')).1 = X' ∧ (∀ m, 0 ≤ (tL J P k i It 42 m).toInt) ∧ (∀ m, n 4 ≤ m → tL J P k i It 42 m = 0) ∧ (∀ a b, a ≠ 42 → tL J P k i It a b = It a b) ∧ (∀ a b, a ≠ 34 → (lAct3 k i (X', Y')).2 a b = Y' a b) ∧ (∀ m, (lAct3 k i (X', Y')).2 34 m = Int32.toInt64 (tL J P k i It 42 m)) := by
  intro k
  induction k with
  | zero =>
    intro i It Y' hi y5 y6 h42 h420 e41 e34
    exact ⟨rfl, h42, h420, fun _ _ _ => rfl, fun _ _ _ => rfl, e34⟩
  | succ k ih =>
    intro i It Y' hi y5 y6 h42 h420 e41 e34
    have hin : i < n 4 := by omega
    have h10 : n 0 ≤ 10 := hC.1 0 (by decide)
    have p5 := hC.2.2.2.2.1 i hin
    have hsc := hS.2.2.2.2 i hin
    have hcl : (nI (P 5 i)).toNatClampNeg = P 5 i := nI_clamp (by omega)
    have hw := wa_eq (Y := Y') (y5 (P 5 i)) (y6 (P 5 i)) (hN (P 5 i) p5).1
    have hb := wa_bd hN hB.1 p5
    obtain ⟨t1, t2⟩ := te_eq (w := m_warmth (J 1 (P 5 i)) (J 2 (P 5 i))) (sc := I 41 i) (te := It 42 i) hb.1 (by omega) hsc.1 (h42 i)
    have ot : ∀ a b, ¬ (a = 42 ∧ b = i) → tS J P i It a b = It a b := fun a b h => up2_ne _ _ _ _ h
    have kt : tS J P i It 42 i = It 42 i + Int64.toInt32 ((m_warmth (J 1 (P 5 i)) (J 2 (P 5 i)) - Int32.toInt64 (It 42 i)) / Int32.toInt64 (I 41 i)) := by
      simp only [tS, up2, m_te]
      rw [e41, if_neg (show ¬ I 41 i ≤ 0 by rw [I_le, i0]; omega)]
      simp
    have ky : syAct3 (fun _ => 0) i X' Y' = up2 Y' 34 i (Int32.toInt64 (tS J P i It 42 i)) := by
      unfold syAct3
      rw [x32, x33, hcl, hw, e34, kt, t1]
    have := ih (i + 1) (tS J P i It) (up2 Y' 34 i (Int32.toInt64 (tS J P i It 42 i))) (by omega)
      (fun b => by simp [up2, y5]) (fun b => by simp [up2, y6])
      (fun m => by
        by_cases e : m = i
        · subst e; rw [kt]; exact t2
        · rw [ot 42 m (by omega)]; exact h42 m)
      (fun m hm => by rw [ot 42 m (by omega)]; exact h420 m hm)
      (fun m => by rw [ot 41 m (by omega)]; exact e41 m)
      (fun m => by
        by_cases e : m = i
        · subst e; simp [up2]
        · rw [ot 42 m (by omega)]; simp [up2, e, e34])
    rw [← ky] at this
    obtain ⟨a1, a2, a3, a4, a5, a6⟩ := this
    refine ⟨a1, a2, a3, fun a b h => (a4 a b h).trans (ot a b (by omega)), fun a b h => (a5 a b h).trans ?_, a6⟩
    rw [ky]
    simp [up2, h]
end ACT
