/-! an operation, whole: the model's code is the class's, the answers are the same, the relation goes on -/
def LI (ct : Nat → ClassId) (AD : Nat → Nat → Nat) (L : List Nat) (f : Nat → va_E) (X : I2) (Y : J2) : Prop := ∃ (n : Nat → Nat) (I : I2) (J : J2) (P : P2) (T : Nat), CW ct AD L n I J P f ∧ SIMt n I J P X Y T
section SO
variable {ct : Nat → ClassId} {AD : Nat → Nat → Nat} {L : List Nat} {f : Nat → va_E} {n : Nat → Nat} {I X : I2} {P : P2} {J Y : J2} {T : Nat}
theorem SIMt.cap (h : SIMt n I J P X Y T) : ∀ k, k ≤ 5 → n k ≤ cap k := h.2.2.2.1.1
theorem SIMt.x1 (h : SIMt n I J P X Y T) : X 1 0 = I 99 0 := h.2.1.2.2.2.2.2.2.1
theorem SIMt.x2 (h : SIMt n I J P X Y T) : X 2 0 = nI (n 0) := h.2.1.2.2.2.2.2.2.2.1
theorem SIMt.x10 (h : SIMt n I J P X Y T) : X 10 0 = nI (n 1) := h.2.1.2.2.2.2.2.2.2.2.1
theorem SIMt.x21 (h : SIMt n I J P X Y T) : X 21 0 = nI (n 2) := h.2.1.2.2.2.2.2.2.2.2.2.1
theorem SIMt.x27 (h : SIMt n I J P X Y T) : X 27 0 = nI (n 3) := h.2.1.2.2.2.2.2.2.2.2.2.2.1
theorem SIMt.x31 (h : SIMt n I J P X Y T) : X 31 0 = nI (n 4) := h.2.1.2.2.2.2.2.2.2.2.2.2.2.1
theorem SIMt.x35 (h : SIMt n I J P X Y T) : X 35 0 = nI (n 5) := h.2.1.2.2.2.2.2.2.2.2.2.2.2.2
theorem rg {v a b : Int32} {x y : Int} (h : a ≤ v ∧ v ≤ b) (ha : a.toInt = x) (hb : b.toInt = y) : x ≤ v.toInt ∧ v.toInt ≤ y := by
  rw [← ha, ← hb]
  exact ⟨I_le.mp h.1, I_le.mp h.2⟩
theorem so_bad {kd : Int32} {X' : I2} (hCW : CW ct AD L n I J P f) (h : SIMt n I J P X Y T) (e : X' = up2 X 0 0 kd) {u : CSt} (hu : u = (AD, L, f)) : LI ct u.1 u.2.1 u.2.2 X' Y := by
  subst hu
  rw [e]
  exact ⟨n, I, J, P, T, hCW, h.code _⟩
theorem so_room (hCW : CW ct AD L n I J P f) (h : SIMt n I J P X Y T) (p1 p2 : Int32) : xMroom X Y p1 p2 0 0 = kdRoom n p1 p2 ∧ (kdRoom n p1 p2 = 0 → vMroom X Y p1 p2 = nI (n 0)) ∧ ∀ u : CSt, (kdRoom n p1 p2 = 0 → CW ct u.1 u.2.1 (va_up n 0 (n 0 + 1)) (nwRoI I (n 0) p1 p2) (nwRoJ J (n 0) p1 p2) P u.2.2) → (¬ kdRoom n p1 p2 = 0 → u = (AD, L, f)) → LI ct u.1 u.2.1 u.2.2 (xMroom X Y p1 p2) Y := by
  have x := x_room (Y := Y) h.x2 (h.cap 0 (by decide)) p1 p2
  by_cases k : kdRoom n p1 p2 = 0
  · obtain ⟨a1, a2, a3, a4, a5⟩ := x.1 k
    refine ⟨by rw [a4, k]; simp [up2], fun _ => a5, fun u hu _ => ⟨_, _, _, _, T, hu k, ?_⟩⟩
    rw [a4]
    exact op_room h (rg a1 (by decide) (by decide)) (rg a2 (by decide) (by decide)) a3 (hu k).2.2
  · exact ⟨by rw [x.2 k]; exact up2_at _ _ _ _, fun q => absurd q k, fun u _ hu => so_bad hCW h (x.2 k) (hu k)⟩
theorem so_steel (hCW : CW ct AD L n I J P f) (h : SIMt n I J P X Y T) (p1 p2 : Int32) : xMsteel X Y p1 p2 0 0 = kdSteel n p1 p2 ∧ (kdSteel n p1 p2 = 0 → vMsteel X Y p1 p2 = nI (n 4)) ∧ ∀ u : CSt, (kdSteel n p1 p2 = 0 → CW ct u.1 u.2.1 (va_up n 4 (n 4 + 1)) (nwStI I (n 4) p2) J (up2 P 5 (n 4) p1.toNatClampNeg) u.2.2) → (¬ kdSteel n p1 p2 = 0 → u = (AD, L, f)) → LI ct u.1 u.2.1 u.2.2 (xMsteel X Y p1 p2) Y := by
  have h10 : n 0 ≤ 10 := h.cap 0 (by decide)
  have x := x_steel (Y := Y) h.x2 h10 h.x31 (h.cap 4 (by decide)) p1 p2
  by_cases k : kdSteel n p1 p2 = 0
  · obtain ⟨a1, a2, a3, a4, a5⟩ := x.1 k
    refine ⟨by rw [a4, k]; simp [up2], fun _ => a5, fun u hu _ => ⟨_, _, _, _, T, hu k, ?_⟩⟩
    rw [a4]
    obtain ⟨e, hr⟩ := num_in (by omega) a1
    generalize p1.toNatClampNeg = r at *
    subst e
    exact op_steel h (rg a2 (by decide) (by decide)) (hu k).2.2
  · exact ⟨by rw [x.2 k]; exact up2_at _ _ _ _, fun q => absurd q k, fun u _ hu => so_bad hCW h (x.2 k) (hu k)⟩
theorem so_fan (hCW : CW ct AD L n I J P f) (h : SIMt n I J P X Y T) (p1 p2 p3 : Int32) : xMfan X Y p1 p2 p3 0 0 = kdFan n I p1 p2 p3 ∧ (kdFan n I p1 p2 p3 = 0 → vMfan X Y p1 p2 p3 = nI (n 3)) ∧ ∀ u : CSt, (kdFan n I p1 p2 p3 = 0 → CW ct u.1 u.2.1 (va_up n 3 (n 3 + 1)) (nwFaI I (n 3) p2 p3) J (up2 P 4 (n 3) p1.toNatClampNeg) u.2.2) → (¬ kdFan n I p1 p2 p3 = 0 → u = (AD, L, f)) → LI ct u.1 u.2.1 u.2.2 (xMfan X Y p1 p2 p3) Y := by
  have h10 : n 0 ≤ 10 := h.cap 0 (by decide)
  have x := x_fan (Y := Y) h.x1 h.x2 h10 h.x27 (h.cap 3 (by decide)) p1 p2 p3
  by_cases k : kdFan n I p1 p2 p3 = 0
  · obtain ⟨a1, a2, a3, a4, a5⟩ := x.1 k
    refine ⟨by rw [a4, k]; simp [up2], fun _ => a5, fun u hu _ => ⟨_, _, _, _, T, hu k, ?_⟩⟩
    rw [a4]
    obtain ⟨e, hr⟩ := num_in (by omega) a1
    generalize p1.toNatClampNeg = r at *
    subst e
    exact op_fan h (rg a2 (by decide) (by decide)) (hu k).2.2
  · exact ⟨by rw [x.2 k]; exact up2_at _ _ _ _, fun q => absurd q k, fun u _ hu => so_bad hCW h (x.2 k) (hu k)⟩
theorem so_fire (hCW : CW ct AD L n I J P f) (h : SIMt n I J P X Y T) (p1 p2 p3 p4 p5 : Int32) : xMfire X Y p1 p2 p3 p4 p5 0 0 = kdFire n I p1 p2 p3 p4 p5 ∧ (kdFire n I p1 p2 p3 p4 p5 = 0 → vMfire X Y p1 p2 p3 p4 p5 = nI (n 2)) ∧ ∀ u : CSt, (kdFire n I p1 p2 p3 p4 p5 = 0 → CW ct u.1 u.2.1 (va_up n 2 (n 2 + 1)) (nwFiI I (n 2) p2 p3 p4 p5) J (up2 P 3 (n 2) p1.toNatClampNeg) u.2.2) → (¬ kdFire n I p1 p2 p3 p4 p5 = 0 → u = (AD, L, f)) → LI ct u.1 u.2.1 u.2.2 (xMfire X Y p1 p2 p3 p4 p5) Y := by
  have h10 : n 0 ≤ 10 := h.cap 0 (by decide)
  have x := x_fire (Y := Y) h.x1 h.x2 h10 h.x21 (h.cap 2 (by decide)) p1 p2 p3 p4 p5
  by_cases k : kdFire n I p1 p2 p3 p4 p5 = 0
  · obtain ⟨a1, b1, b2, b3, b4, a3, a4, a5⟩ := x.1 k
    refine ⟨by rw [a4, k]; simp [up2], fun _ => a5, fun u hu _ => ⟨_, _, _, _, T, hu k, ?_⟩⟩
    rw [a4]
    obtain ⟨e, hr⟩ := num_in (by omega) a1
    generalize p1.toNatClampNeg = r at *
    subst e
    have hT := h.1
    have b1' := rg b1 (show (I 99 0).toInt = (T : Int) by rw [hT.2]; exact nI_toInt (by omega)) (show (100000 : Int32).toInt = 100000 by decide)
    exact op_fire h ⟨by omega, b1'.2⟩ (rg b2 (by decide) (by decide)) (rg b3 (by decide) (by decide)) (rg b4 (by decide) (by decide)) (hu k).2.2
  · exact ⟨by rw [x.2 k]; exact up2_at _ _ _ _, fun q => absurd q k, fun u _ hu => so_bad hCW h (x.2 k) (hu k)⟩
theorem so_spr (hCW : CW ct AD L n I J P f) (h : SIMt n I J P X Y T) (p1 p2 : Int32) : xMspr X Y p1 p2 0 0 = kdSpr n I p1 p2 ∧ ∀ u : CSt, (kdSpr n I p1 p2 = 0 → CW ct u.1 u.2.1 n (up2 I 2 p1.toNatClampNeg p2) J P u.2.2) → (¬ kdSpr n I p1 p2 = 0 → u = (AD, L, f)) → LI ct u.1 u.2.1 u.2.2 (xMspr X Y p1 p2) Y := by
  have h10 : n 0 ≤ 10 := h.cap 0 (by decide)
  have x := x_spr (Y := Y) h.x2 h10 h.2.1.1.2.2.1 (fun o ho => (h.2.2.2.2.2.2.2.2.2.2.2.1.1 o ho).1) p1 p2
  by_cases k : kdSpr n I p1 p2 = 0
  · obtain ⟨a1, a2, a3, a4⟩ := x.1 k
    refine ⟨by rw [a4, k]; simp [up2], fun u hu _ => ⟨_, _, _, _, T, hu k, ?_⟩⟩
    rw [a4]
    exact op_spr h (num_in (by omega) a1).2 (rg a2 (by decide) (by decide))
  · exact ⟨by rw [x.2 k]; exact up2_at _ _ _ _, fun u _ hu => so_bad hCW h (x.2 k) (hu k)⟩
theorem so_glass (hCW : CW ct AD L n I J P f) (h : SIMt n I J P X Y T) (p1 p2 : Int32) : xMglass X Y p1 p2 0 0 = kdGlass n I p1 p2 ∧ ∀ u : CSt, (kdGlass n I p1 p2 = 0 → CW ct u.1 u.2.1 n (up2 I 15 p1.toNatClampNeg p2) J P u.2.2) → (¬ kdGlass n I p1 p2 = 0 → u = (AD, L, f)) → LI ct u.1 u.2.1 u.2.2 (xMglass X Y p1 p2) Y := by
  have h15 : n 1 ≤ 15 := h.cap 1 (by decide)
  have x := x_glass (Y := Y) h.x10 h15 h.2.1.2.1.2.2.2.2.2.1 (fun o ho => (h.2.2.2.2.2.2.2.2.2.2.2.1.2.1 o ho).1.imp (fun e => e.1) id) p1 p2
  by_cases k : kdGlass n I p1 p2 = 0
  · obtain ⟨a1, a2, a3, a4⟩ := x.1 k
    refine ⟨by rw [a4, k]; simp [up2], fun u hu _ => ⟨_, _, _, _, T, hu k, ?_⟩⟩
    rw [a4]
    exact op_glass h (num_in (by omega) a1).2 (rg a2 (by decide) (by decide)) a3
  · exact ⟨by rw [x.2 k]; exact up2_at _ _ _ _, fun u _ hu => so_bad hCW h (x.2 k) (hu k)⟩
theorem pv_of {p : Int32} (h10 : n 0 ≤ 10) (h : p = (-1) ∨ ¬ m_isR (n 0) p = 0) : PV n p := by
  rcases h with h | h
  · exact Or.inl h
  · have : 0 ≤ p ∧ p < nI (n 0) := by
      unfold m_isR at h
      by_cases q : p < 0
      · rw [if_pos q] at h; exact absurd rfl h
      · rw [if_neg q] at h
        by_cases w : nI (n 0) ≤ p
        · rw [if_pos w] at h; exact absurd rfl h
        · exact ⟨Int32.not_lt.mp q, Int32.not_le.mp w⟩
    obtain ⟨e, hr⟩ := num_in (by omega) this
    exact Or.inr ⟨_, hr, e⟩
theorem so_pers (hCW : CW ct AD L n I J P f) (h : SIMt n I J P X Y T) (p1 : Int32) : xMpers X Y p1 0 0 = kdPers n p1 ∧ (kdPers n p1 = 0 → vMpers X Y p1 = nI (n 5)) ∧ ∀ u : CSt, (kdPers n p1 = 0 → CW ct u.1 u.2.1 (va_up n 5 (n 5 + 1)) (nwPeI I (n 5) p1) (nwPeJ J (n 5)) (nwPeP P (n 5)) u.2.2) → (¬ kdPers n p1 = 0 → u = (AD, L, f)) → LI ct u.1 u.2.1 u.2.2 (xMpers X Y p1) Y := by
  have h10 : n 0 ≤ 10 := h.cap 0 (by decide)
  have x := x_pers (Y := Y) h.x2 h10 h.x35 (h.cap 5 (by decide)) p1
  by_cases k : kdPers n p1 = 0
  · obtain ⟨a1, a3, a4, a5⟩ := x.1 k
    refine ⟨by rw [a4, k]; simp [up2], fun _ => a5, fun u hu _ => ⟨_, _, _, _, T, hu k, ?_⟩⟩
    rw [a4]
    exact op_pers h (pv_of h10 a1) (hu k).2.2
  · exact ⟨by rw [x.2 k]; exact up2_at _ _ _ _, fun q => absurd q k, fun u _ hu => so_bad hCW h (x.2 k) (hu k)⟩
theorem so_go (hCW : CW ct AD L n I J P f) (h : SIMt n I J P X Y T) (p1 p2 p3 : Int32) : xMgo X Y p1 p2 p3 0 0 = kdGo n I P p1 p2 p3 ∧ ∀ u : CSt, (kdGo n I P p1 p2 p3 = 0 → CW ct u.1 u.2.1 n (nwGoI I P p1.toNatClampNeg p2 p3) J (nwGoP P p1.toNatClampNeg) u.2.2) → (¬ kdGo n I P p1 p2 p3 = 0 → u = (AD, L, f)) → LI ct u.1 u.2.1 u.2.2 (xMgo X Y p1 p2 p3) Y := by
  have h10 : n 0 ≤ 10 := h.cap 0 (by decide)
  have h9 : n 5 ≤ 9 := h.cap 5 (by decide)
  have x := x_go h p1 p2 p3
  by_cases k : kdGo n I P p1 p2 p3 = 0
  · obtain ⟨a1, a2, a3, a4⟩ := x.1 k
    refine ⟨by rw [a4, k]; simp [up2], fun u hu _ => ⟨_, _, _, _, T, hu k, ?_⟩⟩
    rw [a4]
    exact op_go h (num_in (by omega) a1).2 (pv_of h10 a2) a3 (hu k).2.2
  · exact ⟨by rw [x.2 k]; exact up2_at _ _ _ _, fun u _ hu => so_bad hCW h (x.2 k) (hu k)⟩
theorem so_open (hCW : CW ct AD L n I J P f) (h : SIMt n I J P X Y T) (p1 p2 p3 p4 p5 : Int32) : xMopen X Y p1 p2 p3 p4 p5 0 0 = kdOpen n I p1 p2 p3 p4 p5 ∧ (kdOpen n I p1 p2 p3 p4 p5 = 0 → vMopen X Y p1 p2 p3 p4 p5 = nI (n 1)) ∧ ∀ u : CSt, (kdOpen n I p1 p2 p3 p4 p5 = 0 → CW ct u.1 u.2.1 (va_up n 1 (n 1 + 1)) (nwOpI I (n 1) p3 p4 p5) (nwOpJ J (n 1)) (nwOpP P (n 1) p1.toNatClampNeg (farIx p2)) u.2.2) → (¬ kdOpen n I p1 p2 p3 p4 p5 = 0 → u = (AD, L, f)) → LI ct u.1 u.2.1 u.2.2 (xMopen X Y p1 p2 p3 p4 p5) Y := by
  have h10 : n 0 ≤ 10 := h.cap 0 (by decide)
  have x := x_open (Y := Y) h.x2 h10 h.x10 (h.cap 1 (by decide)) h.2.1.1.2.1 p1 p2 p3 p4 p5
  by_cases k : kdOpen n I p1 p2 p3 p4 p5 = 0
  · obtain ⟨a1, a2, _, b1, b2, b3, a3, a4, a5⟩ := x.1 k
    refine ⟨by rw [a4, k]; simp [up2], fun _ => a5, fun u hu _ => ⟨_, _, _, _, T, hu k, ?_⟩⟩
    rw [a4]
    have hfar : p2 = farN (farIx p2) ∧ ∀ k, farIx p2 = k + 1 → p5.toInt ≤ (I 1 k).toInt := by
      unfold farIx
      rcases pv_of h10 a2 with e | ⟨g, hg, e⟩
      · rw [if_pos e]
        exact ⟨e, fun k hk => by omega⟩
      · have hne : ¬ p2 = (-1) := by rw [e]; exact nI_m1 (by omega)
        have hc : p2.toNatClampNeg = g := by rw [e]; exact nI_clamp (by omega)
        rw [if_neg hne, hc]
        refine ⟨e, fun k hk => ?_⟩
        rcases b3 with q | q
        · exact absurd q hne
        · rw [hc] at q
          obtain rfl : g = k := by omega
          exact q
    have hC' := (hu k).2.2
    obtain ⟨e, hr⟩ := num_in (by omega) a1
    generalize p1.toNatClampNeg = r at *
    subst e
    exact op_open h hr hfar.1 b1 b2 hfar.2 hC'
  · exact ⟨by rw [x.2 k]; exact up2_at _ _ _ _, fun q => absurd q k, fun u _ hu => so_bad hCW h (x.2 k) (hu k)⟩
theorem so_read {kd : Int32} {X' : I2} (hCW : CW ct AD L n I J P f) (h : SIMt n I J P X Y T) (e : X' = up2 X 0 0 kd) : X' 0 0 = kd ∧ ∀ u : CSt, (kd = 0 → CW ct u.1 u.2.1 n I J P u.2.2) → (¬ kd = 0 → u = (AD, L, f)) → LI ct u.1 u.2.1 u.2.2 X' Y := by
  subst e
  refine ⟨up2_at _ _ _ _, fun u h1 h2 => ?_⟩
  by_cases k : kd = 0
  · exact ⟨n, I, J, P, T, h1 k, h.code _⟩
  · exact so_bad hCW h rfl (h2 k)
theorem kdNB_x {X : I2} {c j : Nat} {p1 p2 hi : Int32} (hj : X j 0 = nI c) (hc : c ≤ 100) : (if (m_in p1 0 ((X j 0) - 1)) = 0 then up2 X 0 0 1 else (if (m_in p2 0 hi) = 0 then up2 X 0 0 1 else up2 X 0 0 0)) = up2 X 0 0 (kdNB c p1 p2 hi) := by
  unfold kdNB
  simp only [hj, min_n hc, min_z]
  by_cases c1 : 0 ≤ p1 ∧ p1 < nI c
  · by_cases c2 : 0 ≤ p2 ∧ p2 ≤ hi
    · simp [c1, c2]
    · simp [c1, c2]
  · simp [c1]
theorem kdNB_v {X : I2} {c j : Nat} {p1 p2 hi : Int32} (hj : X j 0 = nI c) (hc : c ≤ 100) (k : kdNB c p1 p2 hi = 0) : ¬ m_in p1 0 ((X j 0) - 1) = 0 ∧ ¬ m_in p2 0 hi = 0 ∧ p1.toNatClampNeg < c := by
  unfold kdNB at k
  simp only [hj, min_n hc, min_z]
  by_cases c1 : 0 ≤ p1 ∧ p1 < nI c
  · by_cases c2 : 0 ≤ p2 ∧ p2 ≤ hi
    · exact ⟨fun q => q c1, fun q => q c2, (num_in hc c1).2⟩
    · rw [if_pos c1, if_neg c2] at k; exact absurd k (by decide)
  · rw [if_neg c1] at k; exact absurd k (by decide)
theorem so_roomAt (hCW : CW ct AD L n I J P f) (h : SIMt n I J P X Y T) (p1 p2 : Int32) : xMroomAt X Y p1 p2 0 0 = kdNB (n 0) p1 p2 6 ∧ (kdNB (n 0) p1 p2 6 = 0 → vMroomAt X Y p1 p2 = vRoom I J p1 p2) ∧ ∀ u : CSt, (kdNB (n 0) p1 p2 6 = 0 → CW ct u.1 u.2.1 n I J P u.2.2) → (¬ kdNB (n 0) p1 p2 6 = 0 → u = (AD, L, f)) → LI ct u.1 u.2.1 u.2.2 (xMroomAt X Y p1 p2) Y := by
  have h10 : n 0 ≤ 10 := h.cap 0 (by decide)
  have r := so_read hCW h (kdNB_x (p1 := p1) (p2 := p2) (hi := 6) h.x2 (by omega))
  refine ⟨r.1, fun k => ?_, r.2⟩
  obtain ⟨k1, k2, k3⟩ := kdNB_v h.x2 (by omega) k
  obtain ⟨hT, hX, hS, hC, hRJ, hDZ, hHO, hNB, hle, h34, h38, hDI, hDF⟩ := h
  unfold vMroomAt vRoom
  rw [if_neg k1, if_neg k2]
  generalize p1.toNatClampNeg = r at *
  obtain ⟨n1, n2, n3, n4⟩ := hNB r k3
  obtain ⟨s1, s2, s3, s4⟩ := hS.1 r k3
  rw [wa_eq (hRJ.1 r) (hRJ.2.1 r) n1, (cl_eq hX hS k3 (hRJ.1 r) n1 (by omega)).1, hRJ.1 r, hRJ.2.1 r, hX.1.1 r, hX.1.2.2.2.1 r, hX.1.2.2.2.2 r]
  have e : m_depth (I 0 r) (J 1 r) = J 1 r / Int32.toInt64 (I 0 r) := by
    unfold m_depth
    rw [if_pos (by rw [I_le, i1]; omega)]
  rw [e]
theorem so_openAt (hCW : CW ct AD L n I J P f) (h : SIMt n I J P X Y T) (p1 p2 : Int32) : xMopenAt X Y p1 p2 0 0 = kdNB (n 1) p1 p2 2 ∧ (kdNB (n 1) p1 p2 2 = 0 → vMopenAt X Y p1 p2 = vOpen I J p1 p2) ∧ ∀ u : CSt, (kdNB (n 1) p1 p2 2 = 0 → CW ct u.1 u.2.1 n I J P u.2.2) → (¬ kdNB (n 1) p1 p2 2 = 0 → u = (AD, L, f)) → LI ct u.1 u.2.1 u.2.2 (xMopenAt X Y p1 p2) Y := by
  have h15 : n 1 ≤ 15 := h.cap 1 (by decide)
  have r := so_read hCW h (kdNB_x (p1 := p1) (p2 := p2) (hi := 2) h.x10 (by omega))
  refine ⟨r.1, fun k => ?_, r.2⟩
  obtain ⟨k1, k2, k3⟩ := kdNB_v h.x10 (by omega) k
  unfold vMopenAt vOpen
  rw [if_neg k1, if_neg k2, h.2.1.2.1.2.2.2.2.2.2, h.2.2.2.2.1.2.2.1, h.2.2.2.2.1.2.2.2.2.1]
theorem so_persAt (hCW : CW ct AD L n I J P f) (h : SIMt n I J P X Y T) (p1 p2 : Int32) : xMpersAt X Y p1 p2 0 0 = kdNB (n 5) p1 p2 2 ∧ (kdNB (n 5) p1 p2 2 = 0 → vMpersAt X Y p1 p2 = vPers I J p1 p2) ∧ ∀ u : CSt, (kdNB (n 5) p1 p2 2 = 0 → CW ct u.1 u.2.1 n I J P u.2.2) → (¬ kdNB (n 5) p1 p2 2 = 0 → u = (AD, L, f)) → LI ct u.1 u.2.1 u.2.2 (xMpersAt X Y p1 p2) Y := by
  have h9 : n 5 ≤ 9 := h.cap 5 (by decide)
  have r := so_read hCW h (kdNB_x (p1 := p1) (p2 := p2) (hi := 2) h.x35 (by omega))
  refine ⟨r.1, fun k => ?_, r.2⟩
  obtain ⟨k1, k2, k3⟩ := kdNB_v h.x35 (by omega) k
  unfold vMpersAt vPers
  rw [if_neg k1, if_neg k2, h.2.1.2.2.2.2.2.1.1, h.2.2.2.2.1.2.2.2.2.2.1, h.2.2.2.2.2.2.2.2.2.2.1]
theorem so_steelAt (hCW : CW ct AD L n I J P f) (h : SIMt n I J P X Y T) (p1 : Int32) : xMsteelAt X Y p1 0 0 = kdN (n 4) p1 ∧ (kdN (n 4) p1 = 0 → vMsteelAt X Y p1 = I 42 p1.toNatClampNeg) ∧ ∀ u : CSt, (kdN (n 4) p1 = 0 → CW ct u.1 u.2.1 n I J P u.2.2) → (¬ kdN (n 4) p1 = 0 → u = (AD, L, f)) → LI ct u.1 u.2.1 u.2.2 (xMsteelAt X Y p1) Y := by
  have h9 : n 4 ≤ 9 := h.cap 4 (by decide)
  have e : xMsteelAt X Y p1 = up2 X 0 0 (kdN (n 4) p1) := by
    unfold xMsteelAt kdN
    simp only [h.x31, min_n (show n 4 ≤ 100 by omega)]
    by_cases c1 : 0 ≤ p1 ∧ p1 < nI (n 4)
    · simp [c1]
    · simp [c1]
  have r := so_read hCW h e
  refine ⟨r.1, fun k => ?_, r.2⟩
  unfold vMsteelAt
  unfold kdN at k
  have c1 : 0 ≤ p1 ∧ p1 < nI (n 4) := Classical.byContradiction fun q => by rw [if_neg q] at k; exact absurd k (by decide)
  rw [if_neg (fun q => (min_n (show n 4 ≤ 100 by omega)).mp (by rw [← h.x31]; exact q) c1), h.2.2.2.2.2.2.2.2.2.1]
  exact Int32.toInt32_toInt64 _
theorem here_eq {J Y : J2} (hy : ∀ i, Y 5 i = J 1 i) : ∀ (k i : Nat) (a : Int64), mhere Y k i a = smS J k i a := by
  intro k
  induction k with
  | zero => intro i a; rfl
  | succ k ih =>
    intro i a
    show mhere Y k (i + 1) (a + Y 5 i) = smS J k (i + 1) (a + J 1 i)
    rw [hy i]
    exact ih _ _
theorem so_bal (hCW : CW ct AD L n I J P f) (h : SIMt n I J P X Y T) (p1 : Int32) : (up2 X 0 0 (if m_in p1 0 4 = 0 then 1 else 0)) 0 0 = kdB p1 4 ∧ (kdB p1 4 = 0 → vMbal n X Y p1 = vBal n J p1) ∧ ∀ u : CSt, (kdB p1 4 = 0 → CW ct u.1 u.2.1 n I J P u.2.2) → (¬ kdB p1 4 = 0 → u = (AD, L, f)) → LI ct u.1 u.2.1 u.2.2 (up2 X 0 0 (if m_in p1 0 4 = 0 then 1 else 0)) Y := by
  have e : (if m_in p1 0 4 = 0 then (1 : Int32) else 0) = kdB p1 4 := by
    unfold kdB
    simp only [min_z]
    by_cases c1 : 0 ≤ p1 ∧ p1 ≤ 4
    · simp [c1]
    · simp [c1]
  have r := so_read hCW h (X' := up2 X 0 0 (if m_in p1 0 4 = 0 then 1 else 0)) (by rw [e])
  refine ⟨r.1, fun k => ?_, r.2⟩
  rw [← e] at k
  have c1 : ¬ m_in p1 0 4 = 0 := fun q => by rw [if_pos q] at k; exact absurd k (by decide)
  obtain ⟨y5, y6, y18, y19, y20, y37, y43, y44, y45, y46⟩ := h.2.2.2.2.1
  unfold vMbal vBal
  rw [if_neg c1, here_eq y5, y43, y44, y45, y46]
theorem run_kd (h : SIMt n I J P X Y T) (p1 : Int32) : kdMrun X p1 = kdRun I p1 ∧ (kdRun I p1 = 0 → T + p1.toNatClampNeg ≤ 100000) := by
  obtain ⟨hT, hnow⟩ := h.1
  unfold kdMrun kdRun
  simp only [min_z, h.x1]
  by_cases c1 : 1 ≤ p1 ∧ p1 ≤ 500
  · have r := rg c1 (show (1 : Int32).toInt = 1 by decide) (show (500 : Int32).toInt = 500 by decide)
    have e1 : (I 99 0).toInt = (T : Int) := by rw [hnow]; exact nI_toInt (by omega)
    have e : (I 99 0 + p1).toInt = (T : Int) + p1.toInt := by rw [I_add (by omega) (by omega), e1]
    have m : (100000 : Int32).toInt = 100000 := by decide
    have hp : (p1.toNatClampNeg : Int) = p1.toInt := by
      obtain ⟨q, hq, e⟩ := nI_of (show ¬ p1 < 0 by rw [I_lt, i0]; omega)
      rw [e, nI_clamp hq, nI_toInt hq]
    by_cases c2 : 100000 < I 99 0 + p1
    · rw [if_neg (not_not_intro c1), if_pos c1, if_pos c2, if_neg (Int32.not_le.mpr c2)]
      exact ⟨rfl, fun q => absurd q (by decide)⟩
    · rw [if_neg (not_not_intro c1), if_pos c1, if_neg c2, if_pos (Int32.not_lt.mp c2)]
      refine ⟨rfl, fun _ => ?_⟩
      rw [I_lt, e, m] at c2
      omega
  · rw [if_pos (show ¬ (1 ≤ p1 ∧ p1 ≤ 500) from c1), if_neg c1]
    exact ⟨rfl, fun q => absurd q (by decide)⟩
theorem so_run0 (h : SIMt n I J P X Y T) (p1 : Int32) : kdMrun X p1 = 0 → ∀ j, j < p1.toNatClampNeg → MOK n (msecL n j (up2 X 0 0 0, Y)) := fun k => by
  obtain ⟨e, hk⟩ := run_kd h p1
  exact (SIMt.runs p1.toNatClampNeg (I, J, P) (up2 X 0 0 0, Y) T (h.code 0) (hk (e ▸ k))).1
theorem so_run (hCW : CW ct AD L n I J P f) (h : SIMt n I J P X Y T) (p1 : Int32) : (qMrun n X Y p1).1 0 0 = kdRun I p1 ∧ (kdRun I p1 = 0 → vMrun n X Y p1 = (secL n p1.toNatClampNeg (I, J, P)).1 99 0) ∧ ∀ u : CSt, (kdRun I p1 = 0 → CW ct u.1 u.2.1 n (secL n p1.toNatClampNeg (I, J, P)).1 (secL n p1.toNatClampNeg (I, J, P)).2.1 (secL n p1.toNatClampNeg (I, J, P)).2.2 u.2.2) → (¬ kdRun I p1 = 0 → u = (AD, L, f)) → LI ct u.1 u.2.1 u.2.2 (qMrun n X Y p1).1 (qMrun n X Y p1).2 := by
  obtain ⟨e, hk⟩ := run_kd h p1
  by_cases k : kdRun I p1 = 0
  · obtain ⟨r1, r2, r3⟩ := SIMt.runs p1.toNatClampNeg (I, J, P) (up2 X 0 0 0, Y) T (h.code 0) (hk k)
    have q : qMrun n X Y p1 = msecL n p1.toNatClampNeg (up2 X 0 0 0, Y) := by
      unfold qMrun
      rw [if_pos (e.trans k)]
    refine ⟨by rw [q, r3, k]; exact up2_at X 0 0 0, fun _ => ?_, fun u hu _ => ⟨_, _, _, _, _, hu k, by rw [q]; exact r2⟩⟩
    unfold vMrun
    rw [if_pos (e.trans k), q]
    exact r2.x1
  · have q : qMrun n X Y p1 = (up2 X 0 0 (kdRun I p1), Y) := by
      unfold qMrun
      rw [if_neg (fun w => k (e ▸ w)), e]
    rw [q]
    exact ⟨up2_at X 0 0 _, fun w => absurd w k, fun u _ hu => so_bad hCW h rfl (hu k)⟩
end SO
theorem SIMt.start : SIMt (fun _ => 0) (fun _ _ => 0) (fun _ _ => 0) (fun _ _ => 0) (fun _ _ => 0) (fun _ _ => 0) 0 := by
  refine ⟨⟨by omega, rfl⟩, ⟨⟨?_, ?_, ?_, ?_, ?_⟩, ⟨?_, ?_, ?_, ?_, ?_, ?_, ?_⟩, ⟨?_, ?_, ?_, ?_, ?_⟩, ⟨?_, ?_, ?_⟩, ⟨?_, ?_⟩, ⟨?_, ?_, ?_, ?_⟩, ?_, ?_, ?_, ?_, ?_, ?_, ?_⟩, ⟨?_, ?_, ?_, ?_, ?_⟩, ⟨?_, ?_, ?_, ?_, ?_, ?_⟩, ⟨?_, ?_, ?_, ?_, ?_, ?_, ?_, ?_, ?_, ?_⟩, ⟨?_, ?_, ?_⟩, ?_, ?_, ?_, ?_, ?_, ⟨?_, ?_, ?_, ?_, ?_⟩, ⟨?_, ?_, ?_, ?_⟩⟩
  all_goals first | rfl | (intro _; rfl) | (intro _ h; exact absurd h (Nat.not_lt_zero _)) | (intro _ _ h; exact absurd h (Nat.not_lt_zero _)) | (intro _ _; exact Nat.zero_le _) | (intro _ _; exact ⟨rfl, rfl⟩) | (intro _ _; exact ⟨rfl, rfl, rfl⟩) | (intro _ _; rfl) | (intro _; show (0 : Int) ≤ (0 : Int32).toInt; decide) | (intro _; show (0 : Int) ≤ (0 : Int32).toInt ∧ (0 : Int32).toInt ≤ ((0 : Nat) : Int); decide)
