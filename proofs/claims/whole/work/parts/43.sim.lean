theorem zL_keep {J : J2} {P : P2} {o : Nat} : ∀ (k i : Nat) (Iz : I2), Iz 15 o = (-1) → zL J P k i Iz 16 o = Iz 16 o := by
  intro k
  induction k with
  | zero => intro i Iz h; rfl
  | succ k ih =>
    intro i Iz h
    have h1 : zS J P i Iz 15 o = (-1) := (up2_ne _ _ _ _ (by omega)).trans h
    refine (ih (i + 1) (zS J P i Iz) h1).trans ?_
    by_cases e : o = i
    · subst e
      simp only [zS, up2]
      have m1 : m_open (Iz 15 o) (Iz 16 o) = 1 := by rw [h]; exact if_pos rfl
      rw [m1]
      cases hg : P 2 o with
      | zero => simp [m_brN]
      | succ g => simp [m_brS]
    · exact up2_ne _ _ _ _ (by omega)
section SECB
variable {n : Nat → Nat} {I X : I2} {P : P2} {J Y : J2} {T : Nat}
theorem SIMt.sec (h : SIMt n I J P X Y T) (hT9 : T < 100000) : MOK n (X, Y) ∧ SIMt n (secS n (I, J, P)).1 (secS n (I, J, P)).2.1 (secS n (I, J, P)).2.2 (msec n (X, Y)).1 (msec n (X, Y)).2 (T + 1) ∧ (msec n (X, Y)).1 0 0 = X 0 0 := by
  have hMI := h.mi
  obtain ⟨a1, a2, a3, a4, a5, a6, a7, a8⟩ := sec_a h hT9
  obtain ⟨⟨hT, hnow⟩, hX, hS, hC, hRJ, hDZ, hHO, hNB, hle, h34, h38, ⟨di1, di2, di3, di4, di5⟩, df1, df2, df3, df4⟩ := h
  have h10 : n 0 ≤ 10 := hC.1 0 (by decide)
  have hX0 := hX
  obtain ⟨⟨x3, x4, x7, x8, x9⟩, ⟨x11, x12, x13, x14, x15, x16, x17⟩, ⟨x22, x23, x24, x25, x26⟩, ⟨x28, x29, x30⟩, ⟨x32, x33⟩, ⟨x36, x39, x40, x41⟩, x1, x2, x10, x21, x27, x31, x35⟩ := hX
  generalize hJ4 : sJ4 n (I, J, P) = J4 at *
  have e4 : mq4 n (X, Y) = (X, (mq4 n (X, Y)).2) := Prod.ext a5 rfl
  generalize hY4 : (mq4 n (X, Y)).2 = Y4 at *
  have hN2 : NB 2000000 (1000 + 24 * ((T + 1 : Nat) : Int)) n J4 := a7.mono (by omega) (by omega)
  obtain ⟨b1, b2, b3, b4, b5, b6, b7, b8⟩ := act1_sim (Y := Y4) hX0 hS hN2 a6.1 (fun r hr => (di1 r hr).1) (n 0) 0 I I X (by omega) (fun r hr => (di1 r hr).2) (fun r hr => (df1 r hr).2) (fun _ _ _ => rfl) (fun _ _ _ => rfl) (fun _ _ _ _ => rfl) x8 x9
  have eA : lAct1 (n 0) 0 (X, Y4) = ((lAct1 (n 0) 0 (X, Y4)).1, Y4) := Prod.ext rfl b1
  generalize hXa : (lAct1 (n 0) 0 (X, Y4)).1 = Xa at *
  generalize hIa : aL J4 (n 0) 0 I = Ia at *
  generalize hIn : nL J4 (n 0) 0 I = In at *
  obtain ⟨c1, c2, c3, c4, c5, c6⟩ := act2_sim (Y := Y4) hX0 hC hN2 a6.1 (fun o ho => (di2 o ho).1.imp And.left id) (n 1) 0 Ia Xa (by omega) (fun o ho => by rw [b4 16 o (by decide)]; exact (di2 o ho).2) (fun o ho => by rw [b4 16 o (by decide)]; exact (df2 o ho).2) (fun o => b4 15 o (by decide)) (fun a b h8 h9 _ => b6 a b h8 h9) (fun o => by rw [b6 17 o (by decide) (by decide), b4 15 o (by decide), b4 16 o (by decide)]; exact x17 o)
  have eB : lAct2 (n 1) 0 (Xa, Y4) = ((lAct2 (n 1) 0 (Xa, Y4)).1, Y4) := Prod.ext rfl c1
  generalize hXz : (lAct2 (n 1) 0 (Xa, Y4)).1 = Xz at *
  generalize hIz : zL J4 P (n 1) 0 Ia = Iz at *
  have kXz : ∀ a b, a ≠ 8 → a ≠ 9 → a ≠ 17 → Xz a b = X a b := fun a b h1 h2 h3 => (c5 a b h3).trans (b6 a b h1 h2)
  have kIz : ∀ a b, a ≠ 3 → a ≠ 16 → Iz a b = I a b := fun a b h1 h2 => (c4 a b h2).trans (b4 a b h1)
  obtain ⟨d1, d2, d3, d4, d5, d6⟩ := act3_sim (X' := Xz) hC hS (B := 1000 + 24 * ((T + 1 : Nat) : Int)) (by omega) hN2 (fun i => by rw [kXz 32 i (by decide) (by decide) (by decide)]; exact x32 i) (fun i => by rw [kXz 33 i (by decide) (by decide) (by decide)]; exact x33 i) (n 4) 0 Iz Y4 (by omega) a6.1.1 a6.1.2.1 (fun m => by rw [kIz 42 m (by decide) (by decide)]; exact di3 m) (fun m hm => by rw [kIz 42 m (by decide) (by decide)]; exact df3 m hm) (fun m => kIz 41 m (by decide) (by decide)) (fun m => by rw [kIz 42 m (by decide) (by decide), a6.2.2.2 m]; exact h34 m)
  have e5 : mq5 n (X, Y) = (Xz, (lAct3 (n 4) 0 (Xz, Y4)).2) := by
    unfold mq5
    rw [e4, eA, eB]
    exact Prod.ext d1 rfl
  have hIt : sI1 n (I, J, P) = tL J4 P (n 4) 0 Iz := by
    unfold sI1
    simp only []
    rw [hJ4, hIa, hIz]
  generalize hYq : (lAct3 (n 4) 0 (Xz, Y4)).2 = Yq at *
  generalize hItt : tL J4 P (n 4) 0 Iz = It at *
  have kIt : ∀ a b, a ≠ 3 → a ≠ 16 → a ≠ 42 → It a b = I a b := fun a b h1 h2 h3 => (d4 a b h3).trans (kIz a b h1 h2)
  have hcl : ∀ r, r < n 0 → mo_cl Xz Yq r = m_clear (It 0 r) (It 1 r) (J4 1 r) := fun r hr => by
    have := (cl_eq (Y := Y4) hX0 hS hr (a6.1.1 r) (hN2 r hr).1 (hN2 r hr).2.1).1
    rw [kIt 0 r (by decide) (by decide) (by decide), kIt 1 r (by decide) (by decide) (by decide), ← this]
    unfold mo_cl
    rw [kXz 3 r (by decide) (by decide) (by decide), kXz 4 r (by decide) (by decide) (by decide), d5 5 r (by decide)]
  have hwa : ∀ r, r < n 0 → mo_wa Yq r = m_warmth (J4 1 r) (J4 2 r) := fun r hr => wa_eq ((d5 5 r (by decide)).trans (a6.1.1 r)) ((d5 6 r (by decide)).trans (a6.1.2.1 r)) (hN2 r hr).1
  have frJ : ∀ a i, a ≠ 1 → a ≠ 2 → a ≠ 10 → a ≠ 11 → a ≠ 12 → a ≠ 99 → J4 a i = J a i := a6.2.2.1
  have hBI0 : BI n It Xz P J4 Yq T 0 It J4 P Xz Yq := by
    refine ⟨fun _ _ _ => rfl, fun _ _ _ _ => rfl, fun _ _ _ => rfl, fun _ _ _ _ _ => rfl, fun _ _ _ => rfl, fun p => ?_, fun p => ?_, fun p => ?_, fun p => ?_, hC, fun p hp => ?_, fun p => ?_, fun p hp => ?_⟩
    · rw [kXz 36 p (by decide) (by decide) (by decide), kIt 50 p (by decide) (by decide) (by decide)]; exact x36 p
    · rw [kXz 38 p (by decide) (by decide) (by decide), frJ 51 p (by decide) (by decide) (by decide) (by decide) (by decide) (by decide)]; exact h38 p
    · rw [kXz 40 p (by decide) (by decide) (by decide)]; exact x40 p
    · rw [d5 37 p (by decide)]; exact a6.1.2.2.2.2.2.1 p
    · rw [kIt 50 p (by decide) (by decide) (by decide)]; exact (di5 p hp).1
    · rw [kXz 38 p (by decide) (by decide) (by decide), if_neg (by omega)]; exact di4 p
    · exact ⟨(a6.2.1.2.2 p hp).1, (a6.2.1.2.2 p hp).2, (df4 p hp).2⟩
  have hBI := brea_sim (x := (It, J4, P)) (q := (Xz, Yq)) hT (by rw [kXz 1 0 (by decide) (by decide) (by decide), kIt 99 0 (by decide) (by decide) (by decide)]; exact x1) (fun p => by rw [kXz 39 p (by decide) (by decide) (by decide)]; exact x39 p) (fun p q hp hq => by
      rw [kXz 41 _ (by decide) (by decide) (by decide), kXz 42 _ (by decide) (by decide) (by decide), kIt (100 + p) q (by omega) (by omega) (by omega), kIt (200 + p) q (by omega) (by omega) (by omega)]
      exact x41 p q hp hq) (fun p q hp hq => by rw [kIt (200 + p) q (by omega) (by omega) (by omega)]; exact (di5 p hp).2.1 q hq) hcl hwa (n 5) 0 (by omega) hBI0
  have e6 : mq6 n (X, Y) = lBrea (n 5) 0 (Xz, Yq) := by
    unfold mq6
    rw [e5]
  have hsW : sW n (I, J, P) = wL n (n 5) 0 (It, J4, P) := by
    unfold sW
    rw [hIt, hJ4]
  generalize hq6 : lBrea (n 5) 0 (Xz, Yq) = q6 at *
  generalize hx6 : wL n (n 5) 0 (It, J4, P) = x6 at *
  obtain ⟨w1, w2, w3, w4, w5, w6, w7, w8, w9, w10, w11, w12, w13⟩ := hBI
  have hI3 : ∀ b, sI3 n (I, J, P) 4 b = In 4 b := fun b => by
    unfold sI3
    rw [hsW, ← hIn]
    exact nL_row (fun b => w2 1 b (by decide) (by decide)) (n 0) 0 I x6.1 (fun b => by rw [w1 0 b (by decide)]; exact kIt 0 b (by decide) (by decide) (by decide)) (fun b => by rw [w1 1 b (by decide)]; exact kIt 1 b (by decide) (by decide) (by decide)) (fun b => by rw [w1 4 b (by decide)]; exact kIt 4 b (by decide) (by decide) (by decide)) (by rw [w1 99 0 (by decide)]; exact kIt 99 0 (by decide) (by decide) (by decide)) b
  have hI3o : ∀ a b, a ≠ 4 → sI3 n (I, J, P) a b = x6.1 a b := fun a b h => by
    unfold sI3
    rw [hsW]
    exact nL_oth (n 0) 0 _ a b h
  have h99 : sI3 n (I, J, P) 99 0 = nI T := by
    rw [hI3o 99 0 (by decide), w1 99 0 (by decide), kIt 99 0 (by decide) (by decide) (by decide)]; exact hnow
  have q1 : q6.1 1 0 = nI T := by
    rw [w4 1 0 (by decide) (by decide) (by decide), kXz 1 0 (by decide) (by decide) (by decide), x1]; exact hnow
  have eI : (secS n (I, J, P)).1 = up2 (sI3 n (I, J, P)) 99 0 (nI (T + 1)) := by
    show up2 (sI3 n (I, J, P)) 99 0 (sI3 n (I, J, P) 99 0 + 1) = _
    rw [h99, nI_1]
  have eJ : (secS n (I, J, P)).2.1 = x6.2.1 := by
    show (sW n (I, J, P)).2.1 = _
    rw [hsW]
  have eP : (secS n (I, J, P)).2.2 = x6.2.2 := by
    show (sW n (I, J, P)).2.2 = _
    rw [hsW]
  have eX : (msec n (X, Y)).1 = up2 q6.1 1 0 (nI (T + 1)) := by
    show up2 (mq6 n (X, Y)).1 1 0 ((mq6 n (X, Y)).1 1 0 + 1) = _
    rw [e6, q1, nI_1]
  have eY : (msec n (X, Y)).2 = q6.2 := by
    show (mq6 n (X, Y)).2 = _
    rw [e6]
  rw [eI, eJ, eP, eX, eY]
  -- the rows of the new state
  have fI : ∀ a b, a ≠ 3 → a ≠ 16 → a ≠ 42 → a ≠ 50 → a ≠ 4 → a ≠ 99 → up2 (sI3 n (I, J, P)) 99 0 (nI (T + 1)) a b = I a b := fun a b h1 h2 h3 h4 h5 h6 => by
    rw [up2_ne _ _ _ _ (by omega), hI3o a b h5, w1 a b h4]; exact kIt a b h1 h2 h3
  have fX : ∀ a b, a ≠ 8 → a ≠ 9 → a ≠ 17 → a ≠ 36 → a ≠ 38 → a ≠ 40 → a ≠ 1 → up2 q6.1 1 0 (nI (T + 1)) a b = X a b := fun a b h1 h2 h3 h4 h5 h6 h7 => by
    rw [up2_ne _ _ _ _ (by omega), w4 a b h4 h5 h6]; exact kXz a b h1 h2 h3
  have fI' : ∀ a b, a ≠ 4 → a ≠ 50 → a ≠ 99 → up2 (sI3 n (I, J, P)) 99 0 (nI (T + 1)) a b = It a b := fun a b h1 h2 h3 => by
    rw [up2_ne _ _ _ _ (by omega), hI3o a b h1, w1 a b h2]
  have fX' : ∀ a b, a ≠ 36 → a ≠ 38 → a ≠ 40 → a ≠ 1 → up2 q6.1 1 0 (nI (T + 1)) a b = Xz a b := fun a b h1 h2 h3 h4 => by
    rw [up2_ne _ _ _ _ (by omega), w4 a b h1 h2 h3]
  generalize hI' : up2 (sI3 n (I, J, P)) 99 0 (nI (T + 1)) = I' at *
  generalize hX' : up2 q6.1 1 0 (nI (T + 1)) = X' at *
  have g3 : ∀ b, I' 3 b = Ia 3 b := fun b => by rw [fI' 3 b (by decide) (by decide) (by decide), d4 3 b (by decide), c4 3 b (by decide)]
  have g4 : ∀ b, I' 4 b = In 4 b := fun b => by rw [← hI', up2_ne _ _ _ _ (by omega), hI3]
  have g16 : ∀ b, I' 16 b = Iz 16 b := fun b => by rw [fI' 16 b (by decide) (by decide) (by decide), d4 16 b (by decide)]
  have g42 : ∀ b, I' 42 b = It 42 b := fun b => fI' 42 b (by decide) (by decide) (by decide)
  have g50 : ∀ b, I' 50 b = x6.1 50 b := fun b => by rw [← hI', up2_ne _ _ _ _ (by omega), hI3o 50 b (by decide)]
  have g99 : I' 99 0 = nI (T + 1) := by rw [← hI', up2_at]
  have k8 : ∀ b, X' 8 b = I' 3 b := fun b => by rw [fX' 8 b (by decide) (by decide) (by decide) (by decide), c5 8 b (by decide), b7, g3]
  have k9 : ∀ b, X' 9 b = I' 4 b := fun b => by rw [fX' 9 b (by decide) (by decide) (by decide) (by decide), c5 9 b (by decide), b8, g4]
  have k17 : ∀ b, X' 17 b = m_open (I' 15 b) (I' 16 b) := fun b => by
    rw [fX' 17 b (by decide) (by decide) (by decide) (by decide), c6, g16, fI' 15 b (by decide) (by decide) (by decide), d4 15 b (by decide)]
  have k36 : ∀ b, X' 36 b = I' 50 b := fun b => by rw [← hX', up2_ne _ _ _ _ (by omega), g50, w6]
  have k38 : ∀ b, X' 38 b = q6.1 38 b := fun b => by rw [← hX', up2_ne _ _ _ _ (by omega)]
  have k40 : ∀ b, X' 40 b = nI (x6.2.2 7 b) := fun b => by rw [← hX', up2_ne _ _ _ _ (by omega), w8]
  have k1 : X' 1 0 = I' 99 0 := by rw [← hX', up2_at, g99]
  have sX : ∀ a b, a ≠ 8 → a ≠ 9 → a ≠ 17 → a ≠ 36 → a ≠ 38 → a ≠ 40 → a ≠ 1 → X' a b = X a b := fX
  have sI : ∀ a b, a ≠ 3 → a ≠ 16 → a ≠ 42 → a ≠ 50 → a ≠ 4 → a ≠ 99 → I' a b = I a b := fI
  have sP : ∀ a b, a ≠ 7 → x6.2.2 a b = P a b := w3
  have rI : ∀ a, a ≠ 3 → a ≠ 16 → a ≠ 42 → a ≠ 50 → a ≠ 4 → a ≠ 99 → I' a = I a := fun a h1 h2 h3 h4 h5 h6 => funext fun b => sI a b h1 h2 h3 h4 h5 h6
  have rX : ∀ a, a ≠ 8 → a ≠ 9 → a ≠ 17 → a ≠ 36 → a ≠ 38 → a ≠ 40 → a ≠ 1 → X' a = X a := fun a h1 h2 h3 h4 h5 h6 h7 => funext fun b => sX a b h1 h2 h3 h4 h5 h6 h7
  have rP : ∀ a, a ≠ 7 → x6.2.2 a = P a := fun a h => funext fun b => sP a b h
  refine ⟨?_, ?_, ?_⟩
  · have m1 : MI n (mq1 n (X, Y)).1 := by rw [a1]; exact hMI
    have m2 : MI n (mq2 n (X, Y)).1 := by rw [a3]; exact hMI
    have m3 : MI n (mq3 n (X, Y)).1 := by rw [a4]; exact hMI
    have m4 : MI n (mq4 n (X, Y)).1 := by rw [a5]; exact hMI
    refine ⟨hMI, m1, a2, m2, m3, fun r hr => ?_, m4, ?_, ?_⟩
    · rw [a4, x3, x4, ← hHO r hr, L_le, l0]
      have := hHO.bd hS hr
      omega
    · rw [e5]
      exact hMI.fr kXz
    · rw [e6, w4 0 0 (by decide) (by decide) (by decide)]
      exact kXz 0 0 (by decide) (by decide) (by decide)
  · refine ⟨⟨by omega, g99⟩, ?_, ?_, w10, ?_, ?_, ?_, ?_, ?_, ?_, ?_, ?_, ?_⟩
    · refine ⟨⟨fun i => ?_, fun i => ?_, fun i => ?_, k8, k9⟩, ⟨fun i => ?_, fun i hi => ?_, fun i => ?_, fun i => ?_, fun i => ?_, fun i => ?_, k17⟩, ⟨fun i => ?_, fun i => ?_, fun i => ?_, fun i => ?_, fun i => ?_⟩, ⟨fun i => ?_, fun i => ?_, fun i => ?_⟩, ⟨fun i => ?_, fun i => ?_⟩, ⟨k36, fun i => ?_, k40, fun p q hp hq => ?_⟩, k1, ?_, ?_, ?_, ?_, ?_, ?_⟩
      · rw [rX 3 (by decide) (by decide) (by decide) (by decide) (by decide) (by decide) (by decide), rI 0 (by decide) (by decide) (by decide) (by decide) (by decide) (by decide)]; exact x3 i
      · rw [rX 4 (by decide) (by decide) (by decide) (by decide) (by decide) (by decide) (by decide), rI 1 (by decide) (by decide) (by decide) (by decide) (by decide) (by decide)]; exact x4 i
      · rw [rX 7 (by decide) (by decide) (by decide) (by decide) (by decide) (by decide) (by decide), rI 2 (by decide) (by decide) (by decide) (by decide) (by decide) (by decide)]; exact x7 i
      · rw [rX 11 (by decide) (by decide) (by decide) (by decide) (by decide) (by decide) (by decide), rP 1 (by decide)]; exact x11 i
      · rw [rX 12 (by decide) (by decide) (by decide) (by decide) (by decide) (by decide) (by decide), rP 2 (by decide)]; exact x12 i hi
      · rw [rX 13 (by decide) (by decide) (by decide) (by decide) (by decide) (by decide) (by decide), rI 12 (by decide) (by decide) (by decide) (by decide) (by decide) (by decide)]; exact x13 i
      · rw [rX 14 (by decide) (by decide) (by decide) (by decide) (by decide) (by decide) (by decide), rI 13 (by decide) (by decide) (by decide) (by decide) (by decide) (by decide)]; exact x14 i
      · rw [rX 15 (by decide) (by decide) (by decide) (by decide) (by decide) (by decide) (by decide), rI 14 (by decide) (by decide) (by decide) (by decide) (by decide) (by decide)]; exact x15 i
      · rw [rX 16 (by decide) (by decide) (by decide) (by decide) (by decide) (by decide) (by decide), rI 15 (by decide) (by decide) (by decide) (by decide) (by decide) (by decide)]; exact x16 i
      · rw [rX 22 (by decide) (by decide) (by decide) (by decide) (by decide) (by decide) (by decide), rP 3 (by decide)]; exact x22 i
      · rw [rX 23 (by decide) (by decide) (by decide) (by decide) (by decide) (by decide) (by decide), rI 21 (by decide) (by decide) (by decide) (by decide) (by decide) (by decide)]; exact x23 i
      · rw [rX 24 (by decide) (by decide) (by decide) (by decide) (by decide) (by decide) (by decide), rI 22 (by decide) (by decide) (by decide) (by decide) (by decide) (by decide)]; exact x24 i
      · rw [rX 25 (by decide) (by decide) (by decide) (by decide) (by decide) (by decide) (by decide), rI 23 (by decide) (by decide) (by decide) (by decide) (by decide) (by decide)]; exact x25 i
      · rw [rX 26 (by decide) (by decide) (by decide) (by decide) (by decide) (by decide) (by decide), rI 24 (by decide) (by decide) (by decide) (by decide) (by decide) (by decide)]; exact x26 i
      · rw [rX 28 (by decide) (by decide) (by decide) (by decide) (by decide) (by decide) (by decide), rP 4 (by decide)]; exact x28 i
      · rw [rX 29 (by decide) (by decide) (by decide) (by decide) (by decide) (by decide) (by decide), rI 31 (by decide) (by decide) (by decide) (by decide) (by decide) (by decide)]; exact x29 i
      · rw [rX 30 (by decide) (by decide) (by decide) (by decide) (by decide) (by decide) (by decide), rI 32 (by decide) (by decide) (by decide) (by decide) (by decide) (by decide)]; exact x30 i
      · rw [rX 32 (by decide) (by decide) (by decide) (by decide) (by decide) (by decide) (by decide), rP 5 (by decide)]; exact x32 i
      · rw [rX 33 (by decide) (by decide) (by decide) (by decide) (by decide) (by decide) (by decide), rI 41 (by decide) (by decide) (by decide) (by decide) (by decide) (by decide)]; exact x33 i
      · rw [rX 39 (by decide) (by decide) (by decide) (by decide) (by decide) (by decide) (by decide), rP 6 (by decide)]; exact x39 i
      · rw [rP 6 (by decide)] at hq
        rw [rX 41 (by decide) (by decide) (by decide) (by decide) (by decide) (by decide) (by decide), rX 42 (by decide) (by decide) (by decide) (by decide) (by decide) (by decide) (by decide), rI (100 + p) (by omega) (by omega) (by omega) (by omega) (by omega) (by have := hC.1 5 (by decide); simp only [cap] at this; omega), rI (200 + p) (by omega) (by omega) (by omega) (by omega) (by omega) (by omega)]; exact x41 p q hp hq
      · rw [rX 2 (by decide) (by decide) (by decide) (by decide) (by decide) (by decide) (by decide)]; exact x2
      · rw [rX 10 (by decide) (by decide) (by decide) (by decide) (by decide) (by decide) (by decide)]; exact x10
      · rw [rX 21 (by decide) (by decide) (by decide) (by decide) (by decide) (by decide) (by decide)]; exact x21
      · rw [rX 27 (by decide) (by decide) (by decide) (by decide) (by decide) (by decide) (by decide)]; exact x27
      · rw [rX 31 (by decide) (by decide) (by decide) (by decide) (by decide) (by decide) (by decide)]; exact x31
      · rw [rX 35 (by decide) (by decide) (by decide) (by decide) (by decide) (by decide) (by decide)]; exact x35
    · unfold SB at hS ⊢
      rw [rI 0 (by decide) (by decide) (by decide) (by decide) (by decide) (by decide), rI 1 (by decide) (by decide) (by decide) (by decide) (by decide) (by decide), rI 12 (by decide) (by decide) (by decide) (by decide) (by decide) (by decide), rI 13 (by decide) (by decide) (by decide) (by decide) (by decide) (by decide), rI 14 (by decide) (by decide) (by decide) (by decide) (by decide) (by decide), rI 21 (by decide) (by decide) (by decide) (by decide) (by decide) (by decide), rI 22 (by decide) (by decide) (by decide) (by decide) (by decide) (by decide), rI 23 (by decide) (by decide) (by decide) (by decide) (by decide) (by decide), rI 24 (by decide) (by decide) (by decide) (by decide) (by decide) (by decide), rI 32 (by decide) (by decide) (by decide) (by decide) (by decide) (by decide), rI 41 (by decide) (by decide) (by decide) (by decide) (by decide) (by decide), rP 1 (by decide), rP 2 (by decide)]
      exact hS
    · obtain ⟨y1, y2, y3, y4, y5, y6, y7, y8, y9, y10⟩ := a6.1
      refine ⟨fun i => ?_, fun i => ?_, fun i => ?_, fun i => ?_, fun i => ?_, w9, ?_, ?_, ?_, ?_⟩
      · rw [w5 5 i (by decide), d5 5 i (by decide), w2 1 i (by decide) (by decide)]; exact y1 i
      · rw [w5 6 i (by decide), d5 6 i (by decide), w2 2 i (by decide) (by decide)]; exact y2 i
      · rw [w5 18 i (by decide), d5 18 i (by decide), w2 10 i (by decide) (by decide)]; exact y3 i
      · rw [w5 19 i (by decide), d5 19 i (by decide), w2 11 i (by decide) (by decide)]; exact y4 i
      · rw [w5 20 i (by decide), d5 20 i (by decide), w2 12 i (by decide) (by decide)]; exact y5 i
      · rw [w5 43 0 (by decide), d5 43 0 (by decide), w2 99 0 (by decide) (by decide)]; exact y7
      · rw [w5 44 0 (by decide), d5 44 0 (by decide), w2 99 1 (by decide) (by decide)]; exact y8
      · rw [w5 45 0 (by decide), d5 45 0 (by decide), w2 99 2 (by decide) (by decide)]; exact y9
      · rw [w5 46 0 (by decide), d5 46 0 (by decide), w2 99 3 (by decide) (by decide)]; exact y10
    · obtain ⟨z1, z2, z3⟩ := a6.2.1
      refine ⟨fun r hr => ?_, fun o ho => ?_, fun p hp => ⟨(w13 p hp).1, (w13 p hp).2.1⟩⟩
      · rw [w2 1 r (by decide) (by decide), w2 2 r (by decide) (by decide)]; exact z1 r hr
      · rw [w2 10 o (by decide) (by decide), w2 11 o (by decide) (by decide), w2 12 o (by decide) (by decide)]; exact z2 o ho
    · intro r hr
      rw [w2 0 r (by decide) (by decide), frJ 0 r (by decide) (by decide) (by decide) (by decide) (by decide) (by decide), sI 0 r (by decide) (by decide) (by decide) (by decide) (by decide) (by decide), sI 1 r (by decide) (by decide) (by decide) (by decide) (by decide) (by decide)]
      exact hHO r hr
    · intro r hr
      rw [w2 1 r (by decide) (by decide), w2 2 r (by decide) (by decide)]
      exact a7 r hr
    · intro r hr
      rw [w2 1 r (by decide) (by decide), w2 0 r (by decide) (by decide), frJ 0 r (by decide) (by decide) (by decide) (by decide) (by decide) (by decide)]
      exact a8 r hr
    · intro m
      rw [w5 34 m (by decide), d6 m, g42]
    · intro p
      rw [k38]
      exact w7 p
    · refine ⟨fun r hr => ⟨?_, ?_⟩, fun o ho => ⟨?_, ?_⟩, fun m => ?_, fun p => ?_, fun p hp => ⟨?_, fun q hq => ?_, fun h0 => ?_, fun k hk => ?_⟩⟩
      · rw [sI 2 r (by decide) (by decide) (by decide) (by decide) (by decide) (by decide)]; exact (di1 r hr).1
      · rw [g3]; exact b2 r hr
      · rw [sI 15 o (by decide) (by decide) (by decide) (by decide) (by decide) (by decide), g16]
        rcases (di2 o ho).1 with ⟨q1, q2⟩ | q
        · refine Or.inl ⟨q1, ?_⟩
          rw [← hIz, zL_keep (n 1) 0 Ia (by rw [b4 15 o (by decide)]; exact q1), b4 16 o (by decide)]
          exact q2
        · exact Or.inr q
      · rw [g16]; exact c2 o ho
      · rw [g42]; exact d2 m
      · rw [k38]
        have := w12 p
        split at this <;> omega
      · rw [g50]; exact w11 p hp
      · rw [rP 6 (by decide)] at hq
        rw [sI (200 + p) q (by omega) (by omega) (by omega) (by omega) (by omega) (by omega)]; exact (di5 p hp).2.1 q hq
      · rw [rP 6 (by decide)] at h0
        rw [sI 52 p (by decide) (by decide) (by decide) (by decide) (by decide) (by decide)]; exact (di5 p hp).2.2.1 h0
      · rw [rP 6 (by decide)] at hk
        rw [sI 52 p (by decide) (by decide) (by decide) (by decide) (by decide) (by decide), sI (100 + p) k (by omega) (by omega) (by omega) (by omega) (by omega) (by omega)]; exact (di5 p hp).2.2.2 k hk
    · refine ⟨fun r hr => ⟨?_, ?_⟩, fun o ho => ⟨?_, ?_⟩, fun m hm => ?_, fun p hp => ⟨?_, (w13 p hp).2.2⟩⟩
      · rw [sI 2 r (by decide) (by decide) (by decide) (by decide) (by decide) (by decide)]; exact (df1 r hr).1
      · rw [g3]; exact b3 r hr
      · rw [sI 15 o (by decide) (by decide) (by decide) (by decide) (by decide) (by decide)]; exact (df2 o ho).1
      · rw [g16]; exact c3 o ho
      · rw [g42]; exact d3 m hm
      · rw [rP 6 (by decide)]; exact (df4 p hp).1
  · rw [sX 0 0 (by decide) (by decide) (by decide) (by decide) (by decide) (by decide) (by decide)]
theorem SIMt.runs : ∀ (k : Nat) (x : St3) (q : I2 × J2) (T : Nat), SIMt n x.1 x.2.1 x.2.2 q.1 q.2 T → T + k ≤ 100000 → (∀ j, j < k → MOK n (msecL n j q)) ∧ SIMt n (secL n k x).1 (secL n k x).2.1 (secL n k x).2.2 (msecL n k q).1 (msecL n k q).2 (T + k) ∧ (msecL n k q).1 0 0 = q.1 0 0 := by
  intro k
  induction k with
  | zero => intro x q T h hT; exact ⟨fun j hj => absurd hj (by omega), h, rfl⟩
  | succ k ih =>
    intro x q T h hT
    obtain ⟨h1, h2, h3⟩ := SIMt.sec (I := x.1) (J := x.2.1) (P := x.2.2) (X := q.1) (Y := q.2) h (by omega)
    obtain ⟨g1, g2, g3⟩ := ih (secS n x) (msec n q) (T + 1) h2 (by omega)
    refine ⟨fun j hj => ?_, by rw [show T + (k + 1) = T + 1 + k by omega]; exact g2, g3.trans h3⟩
    cases j with
    | zero => exact h1
    | succ j => exact g1 j (by omega)
end SECB
