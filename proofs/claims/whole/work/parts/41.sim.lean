def PV (n : Nat → Nat) (p : Int32) : Prop := p = (-1) ∨ ∃ r, r < n 0 ∧ p = nI r
section BRE
variable {n : Nat → Nat} {It Xq : I2} {P : P2} {J Yq : J2} {T : Nat}
theorem isR_room {r : Nat} (hr : r < n 0) (h10 : n 0 ≤ 10) : ¬ m_isR (n 0) (nI r) = 0 := by
  unfold m_isR
  rw [if_neg (nI_pos (by omega)), if_neg (nI_ge hr (by omega))]
  decide
theorem isR_out : m_isR (n 0) (-1) = 0 := by
  unfold m_isR
  rw [if_pos (by decide)]
/-- the persons' loop: what holds ahead of person i -/
def BI (n : Nat → Nat) (It Xq : I2) (P : P2) (J Yq : J2) (T i : Nat) (Iw : I2) (Jw : J2) (Pw : P2) (Xb : I2) (Yb : J2) : Prop :=
  (∀ a b, a ≠ 50 → Iw a b = It a b) ∧ (∀ a b, a ≠ 50 → a ≠ 51 → Jw a b = J a b) ∧ (∀ a b, a ≠ 7 → Pw a b = P a b) ∧ (∀ a b, a ≠ 36 → a ≠ 38 → a ≠ 40 → Xb a b = Xq a b) ∧ (∀ a b, a ≠ 37 → Yb a b = Yq a b) ∧
  (∀ p, Xb 36 p = Iw 50 p) ∧ (∀ p, Int32.toInt64 (Xb 38 p) = Jw 51 p) ∧ (∀ p, Xb 40 p = nI (Pw 7 p)) ∧ (∀ p, Yb 37 p = Jw 50 p) ∧
  CInv n Pw ∧ (∀ p, p < n 5 → PV n (Iw 50 p)) ∧ (∀ p, 0 ≤ (Xb 38 p).toInt ∧ (Xb 38 p).toInt ≤ if p < i then (T : Int) + 1 else T) ∧ (∀ p, n 5 ≤ p → Jw 50 p = 0 ∧ Jw 51 p = 0 ∧ Pw 7 p = 0)
theorem brea_walk {i : Nat} {z : Nat → Nat} {Iw Xb : I2} {Jw Yb : J2} {Pw : P2} (b1 : Xq 1 0 = It 99 0) (b39 : ∀ p, Xq 39 p = nI (P 6 p)) (b41 : ∀ p q, p < n 5 → q < P 6 p → Xq 41 (20 * p + q) = It (100 + p) q ∧ Xq 42 (20 * p + q) = It (200 + p) q) (hv : ∀ p q, p < n 5 → q < P 6 p → PV n (It (200 + p) q)) (hi : i < n 5) (h : BI n It Xq P J Yq T i Iw Jw Pw Xb Yb) :
    ∃ d', wP Iw Pw i = up2 Pw 7 i d' ∧ PV n (wPl Iw Pw i) ∧ d' ≤ P 6 i ∧
    sxBrea z i Xb Yb = (if wPl Iw Pw i = (-1) then up2 (up2 Xb 36 i (wPl Iw Pw i)) 40 i (nI d') else if 18 ≤ mo_cl Xb Yb (wPl Iw Pw i).toNatClampNeg then up2 (up2 Xb 36 i (wPl Iw Pw i)) 40 i (nI d') else up2 (up2 (up2 Xb 36 i (wPl Iw Pw i)) 40 i (nI d')) 38 i (Xb 38 i + 1)) ∧
    syBrea z i Xb Yb = (if wPl Iw Pw i = (-1) then Yb else if 18 ≤ mo_cl Xb Yb (wPl Iw Pw i).toNatClampNeg then Yb else up2 Yb 37 i (Yb 37 i + (mo_wa Yb (wPl Iw Pw i).toNatClampNeg + 1))) := by
  obtain ⟨eI, eJ, eP, eX, eY, e36, e38, e40, e37, hC, hpl, hbr, hdf⟩ := h
  have h9 : n 5 ≤ 9 := hC.1 5 (by decide)
  obtain ⟨c6, c7⟩ := hC.2.2.2.2.2 i hi
  have p6 : Pw 6 i = P 6 i := eP 6 i (by decide)
  have x39 : Xb 39 i = nI (P 6 i) := by rw [eX 39 i (by decide) (by decide) (by decide)]; exact b39 i
  have x40 := e40 i
  have x1 : Xb 1 0 = It 99 0 := by rw [eX 1 0 (by decide) (by decide) (by decide)]; exact b1
  have hd : (nI (Pw 7 i)).toNatClampNeg = Pw 7 i := nI_clamp (by omega)
  have hg : Int32.toNatClampNeg ((20 : Int32) * nI i + Xb 40 i) = 20 * i + Pw 7 i := gx_cl x40 (by omega) (by omega)
  have i99 : Iw 99 0 = It 99 0 := eI 99 0 (by decide)
  unfold wPl wP m_wpl m_wk7 sxBrea syBrea
  rw [p6, hd, hg, x39, x1, i99, e36]
  have f100 : Iw (100 + i) = It (100 + i) := funext fun b => eI (100 + i) b (by omega)
  have f200 : Iw (200 + i) = It (200 + i) := funext fun b => eI (200 + i) b (by omega)
  rw [f100, f200, x40]
  by_cases c : nI (P 6 i) ≤ nI (Pw 7 i)
  · rw [if_pos c, if_pos c, if_pos c, if_pos c]
    have eW : up2 (up2 Xb 36 i (Iw 50 i)) 40 i (nI (Pw 7 i)) = Xb := by
      rw [← e36, up2_id, ← e40, up2_id]
    exact ⟨Pw 7 i, rfl, hpl i hi, by omega, by rw [eW], rfl⟩
  · have hlt : Pw 7 i < P 6 i := by
      rcases Nat.lt_or_ge (Pw 7 i) (P 6 i) with q | q
      · exact q
      · exact absurd (nI_le q (by omega)) c
    obtain ⟨q41, q42⟩ := b41 i (Pw 7 i) hi hlt
    have x41 : Xb 41 (20 * i + Pw 7 i) = It (100 + i) (Pw 7 i) := by rw [eX 41 _ (by decide) (by decide) (by decide)]; exact q41
    have x42 : Xb 42 (20 * i + Pw 7 i) = It (200 + i) (Pw 7 i) := by rw [eX 42 _ (by decide) (by decide) (by decide)]; exact q42
    rw [if_neg c, if_neg c, if_neg c, if_neg c, x41, x42, nI_1]
    by_cases c2 : It (100 + i) (Pw 7 i) = It 99 0
    · rw [if_pos c2, if_pos c2, if_pos c2, if_pos c2]
      exact ⟨Pw 7 i + 1, rfl, hv i (Pw 7 i) hi hlt, by omega, rfl, rfl⟩
    · rw [if_neg c2, if_neg c2, if_neg c2, if_neg c2]
      have eW : up2 (up2 Xb 36 i (Iw 50 i)) 40 i (nI (Pw 7 i)) = Xb := by
        rw [← e36, up2_id, ← e40, up2_id]
      exact ⟨Pw 7 i, rfl, hpl i hi, by omega, by rw [eW], rfl⟩
theorem brea_step {i : Nat} {z : Nat → Nat} {Iw Xb : I2} {Jw Yb : J2} {Pw : P2} (hT : T ≤ 100000) (b1 : Xq 1 0 = It 99 0) (b39 : ∀ p, Xq 39 p = nI (P 6 p)) (b41 : ∀ p q, p < n 5 → q < P 6 p → Xq 41 (20 * p + q) = It (100 + p) q ∧ Xq 42 (20 * p + q) = It (200 + p) q) (hv : ∀ p q, p < n 5 → q < P 6 p → PV n (It (200 + p) q)) (hcl : ∀ r, r < n 0 → mo_cl Xq Yq r = m_clear (It 0 r) (It 1 r) (J 1 r)) (hwa : ∀ r, r < n 0 → mo_wa Yq r = m_warmth (J 1 r) (J 2 r)) (hi : i < n 5) (h : BI n It Xq P J Yq T i Iw Jw Pw Xb Yb) :
    BI n It Xq P J Yq T (i + 1) (wI Iw Pw i) (wJ n Iw Jw Pw i) (wP Iw Pw i) (sxBrea z i Xb Yb) (syBrea z i Xb Yb) := by
  obtain ⟨d', w1, w2, w3, w4, w5⟩ := brea_walk (z := z) b1 b39 b41 hv hi h
  obtain ⟨eI, eJ, eP, eX, eY, e36, e38, e40, e37, hC, hpl, hbr, hdf⟩ := h
  have h10 : n 0 ≤ 10 := hC.1 0 (by decide)
  have hCn : CInv n (wP Iw Pw i) := wP_inv hC hi
  have hb0 := hbr i
  rw [if_neg (by omega)] at hb0
  rw [w4, w5]
  have kI : wI Iw Pw i = up2 Iw 50 i (wPl Iw Pw i) := rfl
  rw [w1] at hCn ⊢
  rw [kI]
  generalize hpe : wPl Iw Pw i = pl at *
  -- what holds whether it breathes or not
  have cI : ∀ a b, a ≠ 50 → up2 Iw 50 i pl a b = It a b := fun a b h => by rw [up2_ne _ _ _ _ (by omega)]; exact eI a b h
  have cP : ∀ a b, a ≠ 7 → up2 Pw 7 i d' a b = P a b := fun a b h => by rw [up2_ne _ _ _ _ (by omega)]; exact eP a b h
  have cX : ∀ a b, a ≠ 36 → a ≠ 38 → a ≠ 40 → up2 (up2 Xb 36 i pl) 40 i (nI d') a b = Xq a b := fun a b h1 h2 h3 => by rw [up2_ne _ _ _ _ (by omega), up2_ne _ _ _ _ (by omega)]; exact eX a b h1 h2 h3
  have c36 : ∀ p, up2 (up2 Xb 36 i pl) 40 i (nI d') 36 p = up2 Iw 50 i pl 50 p := fun p => by
    by_cases e : p = i
    · subst e; simp [up2]
    · simp [up2, e, e36]
  have c40 : ∀ p, up2 (up2 Xb 36 i pl) 40 i (nI d') 40 p = nI (up2 Pw 7 i d' 7 p) := fun p => by
    by_cases e : p = i
    · subst e; simp [up2]
    · simp [up2, e, e40]
  have c38 : ∀ p, up2 (up2 Xb 36 i pl) 40 i (nI d') 38 p = Xb 38 p := fun p => by simp [up2]
  have cpl : ∀ p, p < n 5 → PV n (up2 Iw 50 i pl 50 p) := fun p hp => by
    by_cases e : p = i
    · subst e; rw [up2_at]; exact w2
    · rw [up2_ne _ _ _ _ (by omega)]; exact hpl p hp
  have c7 : ∀ p, n 5 ≤ p → up2 Pw 7 i d' 7 p = 0 := fun p hp => by
    rw [up2_ne _ _ _ _ (by omega)]; exact (hdf p hp).2.2
  have cbr : ∀ p, 0 ≤ (Xb 38 p).toInt ∧ (Xb 38 p).toInt ≤ if p < i + 1 then (T : Int) + 1 else T := fun p => by
    have := hbr p
    split
    · split at this <;> omega
    · rw [if_neg (by omega)] at this; exact this
  have stay : wJ n Iw Jw Pw i = Jw → BI n It Xq P J Yq T (i + 1) (up2 Iw 50 i pl) (wJ n Iw Jw Pw i) (up2 Pw 7 i d') (up2 (up2 Xb 36 i pl) 40 i (nI d')) Yb := fun ej => by
    rw [ej]
    exact ⟨cI, eJ, cP, cX, eY, c36, fun p => by rw [c38]; exact e38 p, c40, e37, hCn, cpl, fun p => by rw [c38]; exact cbr p, fun p hp => ⟨(hdf p hp).1, (hdf p hp).2.1, c7 p hp⟩⟩
  rcases w2 with q | ⟨r, hr, q⟩
  · rw [if_pos q, if_pos q]
    refine stay ?_
    unfold wJ
    rw [hpe, q, if_pos isR_out]
  · have q1 : ¬ pl = (-1) := by rw [q]; exact nI_m1 (by omega)
    have hcr : pl.toNatClampNeg = r := by rw [q]; exact nI_clamp (by omega)
    have hclr : mo_cl Xb Yb r = m_clear (It 0 r) (It 1 r) (J 1 r) := by
      rw [← hcl r hr]
      unfold mo_cl
      rw [eX 3 r (by decide) (by decide) (by decide), eX 4 r (by decide) (by decide) (by decide), eY 5 r (by decide)]
    have hwar : mo_wa Yb r = m_warmth (J 1 r) (J 2 r) := by
      rw [← hwa r hr]
      unfold mo_wa
      rw [eY 5 r (by decide), eY 6 r (by decide)]
    have kJ : wJ n Iw Jw Pw i = up2 (up2 Jw 50 i (m_dz (m_low (It 0 r) (It 1 r) (J 1 r)) (J 1 r) (J 2 r) (Jw 50 i))) 51 i (m_be (m_low (It 0 r) (It 1 r) (J 1 r)) (Jw 51 i)) := by
      unfold wJ
      rw [hpe, q, if_neg (isR_room hr h10), ← q, hcr, eI 0 r (by decide), eI 1 r (by decide), eJ 1 r (by decide) (by decide), eJ 2 r (by decide) (by decide)]
    rw [if_neg q1, if_neg q1, hcr, hclr, hwar]
    by_cases c : 18 ≤ m_clear (It 0 r) (It 1 r) (J 1 r)
    · rw [if_pos c, if_pos c]
      refine stay ?_
      rw [kJ]
      unfold m_dz m_be m_low
      rw [if_pos c, if_pos rfl, if_pos rfl]
      rw [up2_id]
      exact up2_id Jw 51 i
    · rw [if_neg c, if_neg c, kJ]
      have m1 : ¬ (1 : Int32) = 0 := by decide
      unfold m_dz m_be m_low
      rw [if_neg c, if_neg m1, if_neg m1]
      have k38 : (Xb 38 i + 1).toInt = (Xb 38 i).toInt + 1 := by rw [I_add (by rw [i1]; omega) (by rw [i1]; omega), i1]
      refine ⟨cI, fun a b h1 h2 => ?_, cP, fun a b h1 h2 h3 => ?_, fun a b h => ?_, fun p => ?_, fun p => ?_, fun p => ?_, fun p => ?_, hCn, cpl, fun p => ?_, fun p hp => ?_⟩
      · rw [up2_ne _ _ _ _ (by omega), up2_ne _ _ _ _ (by omega)]; exact eJ a b h1 h2
      · rw [up2_ne _ _ _ _ (by omega)]; exact cX a b h1 h2 h3
      · rw [up2_ne _ _ _ _ (by omega)]; exact eY a b h
      · rw [up2_ne _ _ _ _ (by omega)]; exact c36 p
      · by_cases e : p = i
        · subst e
          rw [up2_at, up2_at, ← e38]
          apply L_ext
          rw [W_l, k38, L_add (by rw [W_l, l1]; omega) (by rw [W_l, l1]; omega), W_l, l1]
        · rw [up2_ne _ _ _ _ (by omega), c38, up2_ne _ _ _ _ (by omega), up2_ne _ _ _ _ (by omega)]; exact e38 p
      · rw [up2_ne _ _ _ _ (by omega)]; exact c40 p
      · by_cases e : p = i
        · subst e
          rw [up2_at, up2_ne _ _ _ _ (by omega), up2_at, e37]
        · rw [up2_ne _ _ _ _ (by omega), up2_ne _ _ _ _ (by omega), up2_ne _ _ _ _ (by omega)]; exact e37 p
      · by_cases e : p = i
        · subst e
          rw [up2_at, k38, if_pos (by omega)]
          omega
        · rw [up2_ne _ _ _ _ (by omega), c38]; exact cbr p
      · rw [up2_ne _ _ _ _ (by omega), up2_ne _ _ _ _ (by omega), up2_ne _ _ _ _ (by omega), up2_ne _ _ _ _ (by omega)]
        exact ⟨(hdf p hp).1, (hdf p hp).2.1, c7 p hp⟩
theorem brea_sim (hT : T ≤ 100000) (b1 : Xq 1 0 = It 99 0) (b39 : ∀ p, Xq 39 p = nI (P 6 p)) (b41 : ∀ p q, p < n 5 → q < P 6 p → Xq 41 (20 * p + q) = It (100 + p) q ∧ Xq 42 (20 * p + q) = It (200 + p) q) (hv : ∀ p q, p < n 5 → q < P 6 p → PV n (It (200 + p) q)) (hcl : ∀ r, r < n 0 → mo_cl Xq Yq r = m_clear (It 0 r) (It 1 r) (J 1 r)) (hwa : ∀ r, r < n 0 → mo_wa Yq r = m_warmth (J 1 r) (J 2 r)) : ∀ (k i : Nat) (x : St3) (q : I2 × J2), i + k = n 5 → BI n It Xq P J Yq T i x.1 x.2.1 x.2.2 q.1 q.2 → BI n It Xq P J Yq T (n 5) (wL n k i x).1 (wL n k i x).2.1 (wL n k i x).2.2 (lBrea k i q).1 (lBrea k i q).2 := by
  intro k
  induction k with
  | zero =>
    intro i x q hi h
    have e : i = n 5 := by omega
    subst e
    exact h
  | succ k ih =>
    intro i x q hi h
    exact ih (i + 1) (wS n i x) (sxBrea (fun _ => 0) i q.1 q.2, syBrea (fun _ => 0) i q.1 q.2) (by omega) (brea_step (z := fun _ => 0) hT b1 b39 b41 hv hcl hwa (show i < n 5 by omega) h)
end BRE
