/-! a second's steps over the class's own state -/
def sRo (J : Nat → Nat → Int64) (r : Nat) (sm ht : Int64) : Nat → Nat → Int64 := up2 (up2 J 1 r sm) 2 r ht
theorem sRo_hJ {J : Nat → Nat → Int64} {r : Nat} {sm ht : Int64} : ∀ a i, ¬ (a ≤ 2 ∧ i = r) → sRo J r sm ht a i = J a i := by
  intro a i h
  unfold sRo
  rw [up2_ne _ _ _ _ (by omega), up2_ne _ _ _ _ (by omega)]
theorem t99_hJ {J : Nat → Nat → Int64} {q : Nat} {x : Int64} : ∀ a i, ¬ (a = 99) → up2 J 99 q x a i = J a i := fun a i h => up2_ne _ _ _ _ (by omega)
def bS (I : Nat → Nat → Int32) (P : Nat → Nat → Nat) (i : Nat) (J : Nat → Nat → Int64) : Nat → Nat → Int64 :=
  up2 (sRo J (P 3 i) (m_fsm (I 21 i) (I 99 0) (I 22 i) (I 23 i) (I 3 (P 3 i)) (J 1 (P 3 i))) (m_fht (I 21 i) (I 99 0) (I 22 i) (I 23 i) (I 24 i) (I 3 (P 3 i)) (J 2 (P 3 i)))) 99 0 (J 99 0 + m_fout (I 21 i) (I 99 0) (I 22 i) (I 23 i) (I 3 (P 3 i)))
def bL (I : Nat → Nat → Int32) (P : Nat → Nat → Nat) : Nat → Nat → (Nat → Nat → Int64) → (Nat → Nat → Int64)
  | 0, _, J => J
  | k + 1, i, J => bL I P k (i + 1) (bS I P i J)
def fS (I : Nat → Nat → Int32) (P : Nat → Nat → Nat) (i : Nat) (J : Nat → Nat → Int64) : Nat → Nat → Int64 :=
  up2 (sRo J (P 4 i) (m_bsm (I 31 i) (I 99 0) (I 32 i) (J 1 (P 4 i))) (m_bht (I 31 i) (I 99 0) (I 32 i) (J 1 (P 4 i)) (J 2 (P 4 i)))) 99 2 (J 99 2 + m_bout (I 31 i) (I 99 0) (I 32 i) (J 1 (P 4 i)))
def fL (I : Nat → Nat → Int32) (P : Nat → Nat → Nat) : Nat → Nat → (Nat → Nat → Int64) → (Nat → Nat → Int64)
  | 0, _, J => J
  | k + 1, i, J => fL I P k (i + 1) (fS I P i J)
def pS (i : Nat) (J : Nat → Nat → Int64) : Nat → Nat → Int64 :=
  up2 (sRo J i (m_psm (J 0 i) (J 1 i)) (m_pht (J 0 i) (J 1 i) (J 2 i))) 99 3 (J 99 3 + m_pout (J 0 i) (J 1 i))
def pL : Nat → Nat → (Nat → Nat → Int64) → (Nat → Nat → Int64)
  | 0, _, J => J
  | k + 1, i, J => pL k (i + 1) (pS i J)
def nS (J : Nat → Nat → Int64) (i : Nat) (I : Nat → Nat → Int32) : Nat → Nat → Int32 := up2 I 4 i (m_fl (I 0 i) (I 1 i) (J 1 i) (I 4 i) (I 99 0))
def nL (J : Nat → Nat → Int64) : Nat → Nat → (Nat → Nat → Int32) → (Nat → Nat → Int32)
  | 0, _, I => I
  | k + 1, i, I => nL J k (i + 1) (nS J i I)
def aS (J : Nat → Nat → Int64) (i : Nat) (I : Nat → Nat → Int32) : Nat → Nat → Int32 := up2 I 3 i (m_act (J 1 i) (J 2 i) (I 2 i) (I 3 i))
def aL (J : Nat → Nat → Int64) : Nat → Nat → (Nat → Nat → Int32) → (Nat → Nat → Int32)
  | 0, _, I => I
  | k + 1, i, I => aL J k (i + 1) (aS J i I)
def cvR (I : Nat → Nat → Int32) (J : Nat → Nat → Int64) (i r : Nat) : Int64 := m_cov (I 0 r) (I 1 r) (J 1 r) (I 13 i) (I 14 i)
def mFl (I : Nat → Nat → Int32) (P : Nat → Nat → Nat) (i : Nat) (J : Nat → Nat → Int64) : Int64 := match P 2 i with
  | 0 => m_flN (m_open (I 15 i) (I 16 i)) (I 12 i) (cvR I J i (P 1 i)) (J 1 (P 1 i))
  | g + 1 => m_flS (m_open (I 15 i) (I 16 i)) (I 12 i) (cvR I J i (P 1 i)) (cvR I J i g) (J 1 (P 1 i)) (J 1 g)
def mHt (I : Nat → Nat → Int32) (P : Nat → Nat → Nat) (i : Nat) (J : Nat → Nat → Int64) : Int64 := match P 2 i with
  | 0 => m_fhN (m_open (I 15 i) (I 16 i)) (I 12 i) (cvR I J i (P 1 i)) (J 1 (P 1 i)) (J 2 (P 1 i))
  | g + 1 => m_fhS (m_open (I 15 i) (I 16 i)) (I 12 i) (cvR I J i (P 1 i)) (cvR I J i g) (J 1 (P 1 i)) (J 2 (P 1 i)) (J 1 g) (J 2 g)
def mS (I : Nat → Nat → Int32) (P : Nat → Nat → Nat) (i : Nat) (J : Nat → Nat → Int64) : Nat → Nat → Int64 := up2 (up2 J 10 i (mFl I P i J)) 11 i (mHt I P i J)
def mL (I : Nat → Nat → Int32) (P : Nat → Nat → Nat) : Nat → Nat → (Nat → Nat → Int64) → (Nat → Nat → Int64)
  | 0, _, J => J
  | k + 1, i, J => mL I P k (i + 1) (mS I P i J)
def vS (P : Nat → Nat → Nat) (i : Nat) (J : Nat → Nat → Int64) : Nat → Nat → Int64 := match P 2 i with
  | 0 => up2 (sRo (up2 J 12 i (J 12 i + m_abs (J 10 i))) (P 1 i) (J 1 (P 1 i) + -(J 10 i)) (J 2 (P 1 i) + m_nh (J 10 i) (J 11 i))) 99 1 (J 99 1 + J 10 i)
  | g + 1 => up2 (sRo (sRo (up2 J 12 i (J 12 i + m_abs (J 10 i))) (P 1 i) (J 1 (P 1 i) + -(J 10 i)) (J 2 (P 1 i) + m_nh (J 10 i) (J 11 i))) g (J 1 g + J 10 i) (J 2 g + m_fh (J 10 i) (J 11 i))) 99 1 (J 99 1 + 0)
def vL (P : Nat → Nat → Nat) : Nat → Nat → (Nat → Nat → Int64) → (Nat → Nat → Int64)
  | 0, _, J => J
  | k + 1, i, J => vL P k (i + 1) (vS P i J)
def zS (J : Nat → Nat → Int64) (P : Nat → Nat → Nat) (i : Nat) (I : Nat → Nat → Int32) : Nat → Nat → Int32 := up2 I 16 i (match P 2 i with
  | 0 => m_brN (m_open (I 15 i) (I 16 i)) (m_hot (J 1 (P 1 i)) (J 2 (P 1 i)) (I 15 i)) (I 16 i)
  | g + 1 => m_brS (m_open (I 15 i) (I 16 i)) (m_hot (J 1 (P 1 i)) (J 2 (P 1 i)) (I 15 i)) (m_hot (J 1 g) (J 2 g) (I 15 i)) (I 16 i))
def zL (J : Nat → Nat → Int64) (P : Nat → Nat → Nat) : Nat → Nat → (Nat → Nat → Int32) → (Nat → Nat → Int32)
  | 0, _, I => I
  | k + 1, i, I => zL J P k (i + 1) (zS J P i I)
def tS (J : Nat → Nat → Int64) (P : Nat → Nat → Nat) (i : Nat) (I : Nat → Nat → Int32) : Nat → Nat → Int32 := up2 I 42 i (m_te (J 1 (P 5 i)) (J 2 (P 5 i)) (I 41 i) (I 42 i))
def tL (J : Nat → Nat → Int64) (P : Nat → Nat → Nat) : Nat → Nat → (Nat → Nat → Int32) → (Nat → Nat → Int32)
  | 0, _, I => I
  | k + 1, i, I => tL J P k (i + 1) (tS J P i I)
theorem up_hO {α : Type} {g : Nat → Nat → α} {k i : Nat} {v : α} : ∀ a b, ¬ (a = k ∧ b = i) → up2 g k i v a b = g a b := fun _ _ h => up2_ne _ _ _ _ h
theorem mS_hJ {J : Nat → Nat → Int64} {i : Nat} {x y : Int64} : ∀ a b, ¬ (10 ≤ a ∧ a ≤ 12 ∧ b = i) → up2 (up2 J 10 i x) 11 i y a b = J a b := fun a b h => by
  rw [up2_ne _ _ _ _ (by omega), up2_ne _ _ _ _ (by omega)]

set_option maxHeartbeats 4000000 in
set_option maxRecDepth 100000 in
theorem c_Sz_burnFires {l : Launch} {D : va_G} {ct : Nat → ClassId} {AD : Nat → Nat → Nat} {L : List Nat} {f : Nat → va_E} {sz : Nat} {n : Nat → Nat} {I : Nat → Nat → Int32} {J : Nat → Nat → Int64} {P : Nat → Nat → Nat} (hCW : CW ct AD L n I J P f) : Met l y_Sz_burnFires (WS y_Sz_burnFires b_Sz_burnFires 2 none) { frames := 2, cells := 0, slots := 0, locals := 49 } (va_Pc [.ref (AD 9 0)] (WP D (TYS ct) L f sz)) (Xs D (TYS ct) L (AA L f sz) (fun f' => CW ct AD L n I (bL I P (n 2) 0 J) P f')) 0 0 (AA L f sz) := by
  refine Met.ofW (cc := b_Sz_burnFires) (maxL := 2) (ret := none) (by decide) rfl ?_
  intro p e s m args below meth c s₁ B hml hv
  obtain ⟨rfl, hsz, hP, hK, hD0⟩ := hv
  subst hsz
  have hx := B.exec
  have hb := B.bytes
  have hret := B.returns
  have hts := atoms_spec (ws := WS y_Sz_burnFires b_Sz_burnFires 2 none) B.pre
  have hG : ∀ w ∈ GW, w.before _ s = true := fun w h => hts w (List.mem_cons_of_mem _ h)
  have hown : s.vm.findClass "SmokeZones" = some m.cls := findClass_of_methodNamed B.named
  have hlocks := B.notSynchronized
  have hD : va_D (AA L f s.heap.size) (va_pl L f) := hD0.self (sz := s.heap.size)
  generalize hAe : AA L f s.heap.size = A at hD ⊢
  have hA : ∀ q : Nat, s.heap.size ≤ q → A q := fun q h => by rw [← hAe]; exact Or.inr h
  have hS : va_S A s.heap s.heap [] := va_S.rf
  have hl := lv_entry ([.ref (AD 9 0)]) (n := 2) (Nat.le_of_ble_eq_true rfl)
  rw [lg_entry_eq]
  generalize (lg_sl ([.ref (AD 9 0)]) ++ List.replicate (2 - (lg_sl ([.ref (AD 9 0)])).length) Slot.unset).toArray = ls at hl ⊢
  have hl : lv_has ls 2 [(0, .ref (AD 9 0))] := hl
  refine lv_iconst (v := 0) hx hb d_Sz_burnFires_0 (by decide) ?_
  refine lv_istore_n (lv' := [(1, .int 0), (0, .ref (AD 9 0))]) hx hb d_Sz_burnFires_1 rfl hl (by decide) rfl (fun ls hl => ?_)
  have lp0 : ∀ (k i : Nat) (J1 : Nat → Nat → Int64) (f1 : Nat → va_E) (H : Heap) (locs : List Loc) (ls : Array Slot), i + k = n 2 → CW ct AD L n I J1 P f1 → va_P D vwCl (va_pl L f1) H → va_D A (va_pl L f1) → va_S A s.heap H locs → lv_has ls 2 [(1, .int (nI i)), (0, .ref (AD 9 0))] → bL I P k i J1 = bL I P (n 2) 0 J → W p l e (headSpec (WS y_Sz_burnFires b_Sz_burnFires 2 none) { frames := 2, cells := 0, slots := 0, locals := 49 }).room s m [.ref (AD 9 0)].toArray below meth c H locs 0 0 (MQ below (Xs D (TYS ct) L A (fun f' => CW ct AD L n I (bL I P (n 2) 0 J) P f')) [.ref (AD 9 0)].toArray s 0 0 A) (F0 m 2 ls []) := by
    intro k
    induction k with
    | zero =>
      intro i J1 f1 H locs ls hik0 hC0 hP hD hS hl hfin0
      have hcap := hC0.cap2
      obtain ⟨g_1L, g_1E⟩ := hC0.ma
      refine lv_iload_n hx hb d_Sz_burnFires_2 rfl (lv_at hl 0 rfl) ?_
      refine lv_aload_n hx hb d_Sz_burnFires_3 rfl (lv_at hl 1 rfl) ?_
      refine pg_get (C := "SmokeZones") (T := T_Sz) (N := 17) hx hb hG in_Sz hown hK hP g_1L g_1E rfl 8 (by decide) (hG _ k43) (fun _ h9 => h9) rfl d_Sz_burnFires_4 ?_
      refine lv_icmp_ge (tgt := 38) hx hb d_Sz_burnFires_7 (by decide) (fun c_2 => ?_) (fun c_2 => ?_)
      · have q0 : J1 = bL I P (n 2) 0 J := hfin0
        have hN : CW ct AD L n I J1 P f1 := hC0
        rw [q0] at hN
        exact W.vret hx hb hret (fun t ht hW => ⟨⟨f1, rfl, hN, by rw [ht]; exact hP, va_K.moved hW.alike hK, hD⟩, hS.F ht⟩) hS.2.2 d_Sz_burnFires_38
      · exact (ge_yes (by omega) (by omega) c_2).elim
    | succ k ih0 =>
      intro i J1 f1 H locs ls hik0 hC0 hP hD hS hl hfin0
      have hcap := hC0.cap2
      obtain ⟨g_3L, g_3E⟩ := hC0.ma
      have hi : i < n 2 := by omega
      refine lv_iload_n hx hb d_Sz_burnFires_2 rfl (lv_at hl 0 rfl) ?_
      refine lv_aload_n hx hb d_Sz_burnFires_3 rfl (lv_at hl 1 rfl) ?_
      refine pg_get (C := "SmokeZones") (T := T_Sz) (N := 17) hx hb hG in_Sz hown hK hP g_3L g_3E rfl 8 (by decide) (hG _ k43) (fun _ h9 => h9) rfl d_Sz_burnFires_4 ?_
      refine lv_icmp_ge (tgt := 38) hx hb d_Sz_burnFires_7 (by decide) (fun c_4 => ?_) (fun c_4 => ?_)
      · exact (ge_no hi (by omega) c_4).elim
      · have hr : P 3 i < n 0 := hC0.2.2.2.2.1 i hi
        have hc0 := hC0.cap0
        obtain ⟨g_5L, g_5E⟩ := hC0.fi hi
        obtain ⟨g_6L, g_6E⟩ := hC0.ro hr
        obtain ⟨g_7L, g_7E⟩ := hC0.a2
        have ne_AD_9_0_AD_2_i : AD 9 0 ≠ AD 2 i := hC0.ne (k := 9) (i := 0) (k' := 2) (i' := i) (lv9) (lv0 (by decide) hi) (by omega)
        have ne_AD_9_0_AD_0_P_3_i : AD 9 0 ≠ AD 0 (P 3 i) := hC0.ne (k := 9) (i := 0) (k' := 0) (i' := (P 3 i)) (lv9) (lv0 (by decide) hr) (by omega)
        have ne_AD_9_0_AD_8_2 : AD 9 0 ≠ AD 8 2 := hC0.ne (k := 9) (i := 0) (k' := 8) (i' := 2) (lv9) (lv8 (by decide)) (by omega)
        have ne_AD_2_i_AD_9_0 : AD 2 i ≠ AD 9 0 := hC0.ne (k := 2) (i := i) (k' := 9) (i' := 0) (lv0 (by decide) hi) (lv9) (by omega)
        have ne_AD_2_i_AD_0_P_3_i : AD 2 i ≠ AD 0 (P 3 i) := hC0.ne (k := 2) (i := i) (k' := 0) (i' := (P 3 i)) (lv0 (by decide) hi) (lv0 (by decide) hr) (by omega)
        have ne_AD_2_i_AD_8_2 : AD 2 i ≠ AD 8 2 := hC0.ne (k := 2) (i := i) (k' := 8) (i' := 2) (lv0 (by decide) hi) (lv8 (by decide)) (by omega)
        have ne_AD_0_P_3_i_AD_9_0 : AD 0 (P 3 i) ≠ AD 9 0 := hC0.ne (k := 0) (i := (P 3 i)) (k' := 9) (i' := 0) (lv0 (by decide) hr) (lv9) (by omega)
        have ne_AD_0_P_3_i_AD_2_i : AD 0 (P 3 i) ≠ AD 2 i := hC0.ne (k := 0) (i := (P 3 i)) (k' := 2) (i' := i) (lv0 (by decide) hr) (lv0 (by decide) hi) (by omega)
        have ne_AD_0_P_3_i_AD_8_2 : AD 0 (P 3 i) ≠ AD 8 2 := hC0.ne (k := 0) (i := (P 3 i)) (k' := 8) (i' := 2) (lv0 (by decide) hr) (lv8 (by decide)) (by omega)
        have ne_AD_8_2_AD_9_0 : AD 8 2 ≠ AD 9 0 := hC0.ne (k := 8) (i := 2) (k' := 9) (i' := 0) (lv8 (by decide)) (lv9) (by omega)
        have ne_AD_8_2_AD_2_i : AD 8 2 ≠ AD 2 i := hC0.ne (k := 8) (i := 2) (k' := 2) (i' := i) (lv8 (by decide)) (lv0 (by decide) hi) (by omega)
        have ne_AD_8_2_AD_0_P_3_i : AD 8 2 ≠ AD 0 (P 3 i) := hC0.ne (k := 8) (i := 2) (k' := 0) (i' := (P 3 i)) (lv8 (by decide)) (lv0 (by decide) hr) (by omega)
        refine lv_aload_n hx hb d_Sz_burnFires_10 rfl (lv_at hl 1 rfl) ?_
        refine lv_dup hx hb d_Sz_burnFires_11 rfl ?_
        refine pg_get (C := "SmokeZones") (T := T_Sz) (N := 17) hx hb hG in_Sz hown hK hP g_3L g_3E rfl 13 (by decide) (hG _ k48) (fun _ h9 => h9) rfl d_Sz_burnFires_12 ?_
        refine lv_aload_n hx hb d_Sz_burnFires_15 rfl (lv_at hl 1 rfl) ?_
        refine pg_get (C := "SmokeZones") (T := T_Sz) (N := 17) hx hb hG in_Sz hown hK hP g_3L g_3E rfl 2 (by decide) (hG _ k37) (fun _ h9 => h9) rfl d_Sz_burnFires_16 ?_
        refine lv_iload_n hx hb d_Sz_burnFires_19 rfl (lv_at hl 0 rfl) ?_
        refine pg_ald hx hb hK hP 2 g_7L g_7E rfl (vp_in_nI (by omega) (by decide)) (rf_at hi (by omega)) d_Sz_burnFires_20 ?_
        refine lv_aload_n hx hb d_Sz_burnFires_21 rfl (lv_at hl 1 rfl) ?_
        refine pg_get (C := "SmokeZones") (T := T_Sz) (N := 17) hx hb hG in_Sz hown hK hP g_3L g_3E rfl 12 (by decide) (hG _ k47) (fun _ h9 => h9) rfl d_Sz_burnFires_22 ?_
        refine kV_wl (f' := va_up f1 (AD 0 (P 3 i)) (.inr (0, [.int (I 0 (P 3 i)), .int (I 1 (P 3 i)), .long (J1 0 (P 3 i)), .long (m_fsm (I 21 i) (I 99 0) (I 22 i) (I 23 i) (I 3 (P 3 i)) (J1 1 (P 3 i))), .long (m_fht (I 21 i) (I 99 0) (I 22 i) (I 23 i) (I 24 i) (I 3 (P 3 i)) (J1 2 (P 3 i))), .int (I 2 (P 3 i)), .int (I 3 (P 3 i)), .int (I 4 (P 3 i))]))) ⟨hx, hb, hml, hown, hG⟩ (c_Fi_burn g_5L g_5E g_6L g_6E) (cwV 1 hG (gV k442 k443 k444 k10 k445) rfl rfl rfl hd_Fi_burn ⟨Nat.le_of_ble_eq_true rfl, Nat.le_of_ble_eq_true rfl⟩) hK hP hD hS hA g_5L g_5E rfl rfl hl.1 rfl (Nat.le_of_ble_eq_true rfl) ⟨Nat.le_of_ble_eq_true rfl, Nat.le_of_ble_eq_true rfl⟩ d_Sz_burnFires_25 (fun H locs hP hD hS => ?_)
        have e_8 : (va_up f1 (AD 0 (P 3 i)) (.inr (0, [.int (I 0 (P 3 i)), .int (I 1 (P 3 i)), .long (J1 0 (P 3 i)), .long (m_fsm (I 21 i) (I 99 0) (I 22 i) (I 23 i) (I 3 (P 3 i)) (J1 1 (P 3 i))), .long (m_fht (I 21 i) (I 99 0) (I 22 i) (I 23 i) (I 24 i) (I 3 (P 3 i)) (J1 2 (P 3 i))), .int (I 2 (P 3 i)), .int (I 3 (P 3 i)), .int (I 4 (P 3 i))]))) (AD 0 (P 3 i)) = .inr (0, [.int (I 0 (P 3 i)), .int (I 1 (P 3 i)), .long (J1 0 (P 3 i)), .long (m_fsm (I 21 i) (I 99 0) (I 22 i) (I 23 i) (I 3 (P 3 i)) (J1 1 (P 3 i))), .long (m_fht (I 21 i) (I 99 0) (I 22 i) (I 23 i) (I 24 i) (I 3 (P 3 i)) (J1 2 (P 3 i))), .int (I 2 (P 3 i)), .int (I 3 (P 3 i)), .int (I 4 (P 3 i))]) := va_up_self _ _ _
        have e_9 : (va_up f1 (AD 0 (P 3 i)) (.inr (0, [.int (I 0 (P 3 i)), .int (I 1 (P 3 i)), .long (J1 0 (P 3 i)), .long (m_fsm (I 21 i) (I 99 0) (I 22 i) (I 23 i) (I 3 (P 3 i)) (J1 1 (P 3 i))), .long (m_fht (I 21 i) (I 99 0) (I 22 i) (I 23 i) (I 24 i) (I 3 (P 3 i)) (J1 2 (P 3 i))), .int (I 2 (P 3 i)), .int (I 3 (P 3 i)), .int (I 4 (P 3 i))]))) (AD 9 0) = .inr (6, [.ref (AD 8 0), .ref (AD 8 1), .ref (AD 8 2), .ref (AD 8 3), .ref (AD 8 4), .ref (AD 8 5), .int (nI (n 0)), .int (nI (n 1)), .int (nI (n 2)), .int (nI (n 3)), .int (nI (n 4)), .int (nI (n 5)), .int (I 99 0), .long (J1 99 0), .long (J1 99 1), .long (J1 99 2), .long (J1 99 3)]) := (va_up_ne _ _ ne_AD_9_0_AD_0_P_3_i).trans g_3E
        have e_10 : (va_up f1 (AD 0 (P 3 i)) (.inr (0, [.int (I 0 (P 3 i)), .int (I 1 (P 3 i)), .long (J1 0 (P 3 i)), .long (m_fsm (I 21 i) (I 99 0) (I 22 i) (I 23 i) (I 3 (P 3 i)) (J1 1 (P 3 i))), .long (m_fht (I 21 i) (I 99 0) (I 22 i) (I 23 i) (I 24 i) (I 3 (P 3 i)) (J1 2 (P 3 i))), .int (I 2 (P 3 i)), .int (I 3 (P 3 i)), .int (I 4 (P 3 i))]))) (AD 2 i) = .inr (2, [.ref (AD 0 (P 3 i)), .int (I 21 i), .int (I 22 i), .int (I 23 i), .int (I 24 i)]) := (va_up_ne _ _ ne_AD_2_i_AD_0_P_3_i).trans g_5E
        have e_11 : (va_up f1 (AD 0 (P 3 i)) (.inr (0, [.int (I 0 (P 3 i)), .int (I 1 (P 3 i)), .long (J1 0 (P 3 i)), .long (m_fsm (I 21 i) (I 99 0) (I 22 i) (I 23 i) (I 3 (P 3 i)) (J1 1 (P 3 i))), .long (m_fht (I 21 i) (I 99 0) (I 22 i) (I 23 i) (I 24 i) (I 3 (P 3 i)) (J1 2 (P 3 i))), .int (I 2 (P 3 i)), .int (I 3 (P 3 i)), .int (I 4 (P 3 i))]))) (AD 8 2) = .inl (ct 2, 5, .inr (.inr (.inr (.inr (fun j => if j < n 2 then some (AD 2 j) else none))))) := (va_up_ne _ _ ne_AD_8_2_AD_0_P_3_i).trans g_7E
        refine lv_ladd hx hb d_Sz_burnFires_28 ?_
        refine pg_put (C := "SmokeZones") (T := T_Sz) (N := 17) (ty := .long) hx hb hG in_Sz ty_Sz ok_Sz nm_Sz hown hK hP hD hS g_3L e_9 rfl 13 (by decide) (hG _ k48) (fun _ h9 => h9) rfl (by decide +kernel) rfl rfl (Nat.le_of_ble_eq_true rfl) d_Sz_burnFires_29 (fun H locs hP hD hS => ?_)
        have hP : va_P D vwCl (va_pl (L) (va_up (va_up f1 (AD 0 (P 3 i)) (.inr (0, [.int (I 0 (P 3 i)), .int (I 1 (P 3 i)), .long (J1 0 (P 3 i)), .long (m_fsm (I 21 i) (I 99 0) (I 22 i) (I 23 i) (I 3 (P 3 i)) (J1 1 (P 3 i))), .long (m_fht (I 21 i) (I 99 0) (I 22 i) (I 23 i) (I 24 i) (I 3 (P 3 i)) (J1 2 (P 3 i))), .int (I 2 (P 3 i)), .int (I 3 (P 3 i)), .int (I 4 (P 3 i))]))) (AD 9 0) (.inr (6, [.ref (AD 8 0), .ref (AD 8 1), .ref (AD 8 2), .ref (AD 8 3), .ref (AD 8 4), .ref (AD 8 5), .int (nI (n 0)), .int (nI (n 1)), .int (nI (n 2)), .int (nI (n 3)), .int (nI (n 4)), .int (nI (n 5)), .int (I 99 0), .long ((J1 99 0) + (m_fout (I 21 i) (I 99 0) (I 22 i) (I 23 i) (I 3 (P 3 i)))), .long (J1 99 1), .long (J1 99 2), .long (J1 99 3)])))) H := hP
        have hD : va_D A (va_pl (L) (va_up (va_up f1 (AD 0 (P 3 i)) (.inr (0, [.int (I 0 (P 3 i)), .int (I 1 (P 3 i)), .long (J1 0 (P 3 i)), .long (m_fsm (I 21 i) (I 99 0) (I 22 i) (I 23 i) (I 3 (P 3 i)) (J1 1 (P 3 i))), .long (m_fht (I 21 i) (I 99 0) (I 22 i) (I 23 i) (I 24 i) (I 3 (P 3 i)) (J1 2 (P 3 i))), .int (I 2 (P 3 i)), .int (I 3 (P 3 i)), .int (I 4 (P 3 i))]))) (AD 9 0) (.inr (6, [.ref (AD 8 0), .ref (AD 8 1), .ref (AD 8 2), .ref (AD 8 3), .ref (AD 8 4), .ref (AD 8 5), .int (nI (n 0)), .int (nI (n 1)), .int (nI (n 2)), .int (nI (n 3)), .int (nI (n 4)), .int (nI (n 5)), .int (I 99 0), .long ((J1 99 0) + (m_fout (I 21 i) (I 99 0) (I 22 i) (I 23 i) (I 3 (P 3 i)))), .long (J1 99 1), .long (J1 99 2), .long (J1 99 3)])))) := hD
        have e_12 : (va_up (va_up f1 (AD 0 (P 3 i)) (.inr (0, [.int (I 0 (P 3 i)), .int (I 1 (P 3 i)), .long (J1 0 (P 3 i)), .long (m_fsm (I 21 i) (I 99 0) (I 22 i) (I 23 i) (I 3 (P 3 i)) (J1 1 (P 3 i))), .long (m_fht (I 21 i) (I 99 0) (I 22 i) (I 23 i) (I 24 i) (I 3 (P 3 i)) (J1 2 (P 3 i))), .int (I 2 (P 3 i)), .int (I 3 (P 3 i)), .int (I 4 (P 3 i))]))) (AD 9 0) (.inr (6, [.ref (AD 8 0), .ref (AD 8 1), .ref (AD 8 2), .ref (AD 8 3), .ref (AD 8 4), .ref (AD 8 5), .int (nI (n 0)), .int (nI (n 1)), .int (nI (n 2)), .int (nI (n 3)), .int (nI (n 4)), .int (nI (n 5)), .int (I 99 0), .long ((J1 99 0) + (m_fout (I 21 i) (I 99 0) (I 22 i) (I 23 i) (I 3 (P 3 i)))), .long (J1 99 1), .long (J1 99 2), .long (J1 99 3)]))) (AD 9 0) = .inr (6, [.ref (AD 8 0), .ref (AD 8 1), .ref (AD 8 2), .ref (AD 8 3), .ref (AD 8 4), .ref (AD 8 5), .int (nI (n 0)), .int (nI (n 1)), .int (nI (n 2)), .int (nI (n 3)), .int (nI (n 4)), .int (nI (n 5)), .int (I 99 0), .long ((J1 99 0) + (m_fout (I 21 i) (I 99 0) (I 22 i) (I 23 i) (I 3 (P 3 i)))), .long (J1 99 1), .long (J1 99 2), .long (J1 99 3)]) := va_up_self _ _ _
        have e_13 : (va_up (va_up f1 (AD 0 (P 3 i)) (.inr (0, [.int (I 0 (P 3 i)), .int (I 1 (P 3 i)), .long (J1 0 (P 3 i)), .long (m_fsm (I 21 i) (I 99 0) (I 22 i) (I 23 i) (I 3 (P 3 i)) (J1 1 (P 3 i))), .long (m_fht (I 21 i) (I 99 0) (I 22 i) (I 23 i) (I 24 i) (I 3 (P 3 i)) (J1 2 (P 3 i))), .int (I 2 (P 3 i)), .int (I 3 (P 3 i)), .int (I 4 (P 3 i))]))) (AD 9 0) (.inr (6, [.ref (AD 8 0), .ref (AD 8 1), .ref (AD 8 2), .ref (AD 8 3), .ref (AD 8 4), .ref (AD 8 5), .int (nI (n 0)), .int (nI (n 1)), .int (nI (n 2)), .int (nI (n 3)), .int (nI (n 4)), .int (nI (n 5)), .int (I 99 0), .long ((J1 99 0) + (m_fout (I 21 i) (I 99 0) (I 22 i) (I 23 i) (I 3 (P 3 i)))), .long (J1 99 1), .long (J1 99 2), .long (J1 99 3)]))) (AD 2 i) = .inr (2, [.ref (AD 0 (P 3 i)), .int (I 21 i), .int (I 22 i), .int (I 23 i), .int (I 24 i)]) := (va_up_ne _ _ ne_AD_2_i_AD_9_0).trans e_10
        have e_14 : (va_up (va_up f1 (AD 0 (P 3 i)) (.inr (0, [.int (I 0 (P 3 i)), .int (I 1 (P 3 i)), .long (J1 0 (P 3 i)), .long (m_fsm (I 21 i) (I 99 0) (I 22 i) (I 23 i) (I 3 (P 3 i)) (J1 1 (P 3 i))), .long (m_fht (I 21 i) (I 99 0) (I 22 i) (I 23 i) (I 24 i) (I 3 (P 3 i)) (J1 2 (P 3 i))), .int (I 2 (P 3 i)), .int (I 3 (P 3 i)), .int (I 4 (P 3 i))]))) (AD 9 0) (.inr (6, [.ref (AD 8 0), .ref (AD 8 1), .ref (AD 8 2), .ref (AD 8 3), .ref (AD 8 4), .ref (AD 8 5), .int (nI (n 0)), .int (nI (n 1)), .int (nI (n 2)), .int (nI (n 3)), .int (nI (n 4)), .int (nI (n 5)), .int (I 99 0), .long ((J1 99 0) + (m_fout (I 21 i) (I 99 0) (I 22 i) (I 23 i) (I 3 (P 3 i)))), .long (J1 99 1), .long (J1 99 2), .long (J1 99 3)]))) (AD 0 (P 3 i)) = .inr (0, [.int (I 0 (P 3 i)), .int (I 1 (P 3 i)), .long (J1 0 (P 3 i)), .long (m_fsm (I 21 i) (I 99 0) (I 22 i) (I 23 i) (I 3 (P 3 i)) (J1 1 (P 3 i))), .long (m_fht (I 21 i) (I 99 0) (I 22 i) (I 23 i) (I 24 i) (I 3 (P 3 i)) (J1 2 (P 3 i))), .int (I 2 (P 3 i)), .int (I 3 (P 3 i)), .int (I 4 (P 3 i))]) := (va_up_ne _ _ ne_AD_0_P_3_i_AD_9_0).trans e_8
        have e_15 : (va_up (va_up f1 (AD 0 (P 3 i)) (.inr (0, [.int (I 0 (P 3 i)), .int (I 1 (P 3 i)), .long (J1 0 (P 3 i)), .long (m_fsm (I 21 i) (I 99 0) (I 22 i) (I 23 i) (I 3 (P 3 i)) (J1 1 (P 3 i))), .long (m_fht (I 21 i) (I 99 0) (I 22 i) (I 23 i) (I 24 i) (I 3 (P 3 i)) (J1 2 (P 3 i))), .int (I 2 (P 3 i)), .int (I 3 (P 3 i)), .int (I 4 (P 3 i))]))) (AD 9 0) (.inr (6, [.ref (AD 8 0), .ref (AD 8 1), .ref (AD 8 2), .ref (AD 8 3), .ref (AD 8 4), .ref (AD 8 5), .int (nI (n 0)), .int (nI (n 1)), .int (nI (n 2)), .int (nI (n 3)), .int (nI (n 4)), .int (nI (n 5)), .int (I 99 0), .long ((J1 99 0) + (m_fout (I 21 i) (I 99 0) (I 22 i) (I 23 i) (I 3 (P 3 i)))), .long (J1 99 1), .long (J1 99 2), .long (J1 99 3)]))) (AD 8 2) = .inl (ct 2, 5, .inr (.inr (.inr (.inr (fun j => if j < n 2 then some (AD 2 j) else none))))) := (va_up_ne _ _ ne_AD_8_2_AD_9_0).trans e_11
        refine lv_iinc (v := nI (i + 1)) (lv' := [(1, .int (nI (i + 1))), (0, .ref (AD 9 0))]) hx hb d_Sz_burnFires_32 hl (k := 0) rfl (nI_1 i) (by decide) rfl (fun ls hl => ?_)
        refine lv_goto (tgt := 2) hx hb d_Sz_burnFires_35 (by decide) ?_
        have hN0 : CW ct AD L n I (sRo J1 (P 3 i) (m_fsm (I 21 i) (I 99 0) (I 22 i) (I 23 i) (I 3 (P 3 i)) (J1 1 (P 3 i))) (m_fht (I 21 i) (I 99 0) (I 22 i) (I 23 i) (I 24 i) (I 3 (P 3 i)) (J1 2 (P 3 i)))) P _ := hC0.set (k := 0) (i := (P 3 i)) (lv0 (by decide) hr) (co_ro (fun _ _ _ => rfl) sRo_hJ) hC0.2.2
        have hN1 : CW ct AD L n I (bS I P i J1) P _ := hN0.set (k := 9) (i := 0) (lv9) (co_ma (fun _ _ _ => rfl) t99_hJ) hC0.2.2
        have hN : CW ct AD L n I (bS I P i J1) P (va_up (va_up f1 (AD 0 (P 3 i)) (.inr (0, [.int (I 0 (P 3 i)), .int (I 1 (P 3 i)), .long (J1 0 (P 3 i)), .long (m_fsm (I 21 i) (I 99 0) (I 22 i) (I 23 i) (I 3 (P 3 i)) (J1 1 (P 3 i))), .long (m_fht (I 21 i) (I 99 0) (I 22 i) (I 23 i) (I 24 i) (I 3 (P 3 i)) (J1 2 (P 3 i))), .int (I 2 (P 3 i)), .int (I 3 (P 3 i)), .int (I 4 (P 3 i))]))) (AD 9 0) (.inr (6, [.ref (AD 8 0), .ref (AD 8 1), .ref (AD 8 2), .ref (AD 8 3), .ref (AD 8 4), .ref (AD 8 5), .int (nI (n 0)), .int (nI (n 1)), .int (nI (n 2)), .int (nI (n 3)), .int (nI (n 4)), .int (nI (n 5)), .int (I 99 0), .long ((J1 99 0) + (m_fout (I 21 i) (I 99 0) (I 22 i) (I 23 i) (I 3 (P 3 i)))), .long (J1 99 1), .long (J1 99 2), .long (J1 99 3)]))) := by
          refine cast (congrArg (CW ct AD L n I (bS I P i J1) P) ?_) hN1
          simp [cellOf, roomE, mainE, openE, steelE, farV, up2, sRo, bS]
        exact ih0 (i + 1) _ _ _ _ _ (by omega) hN hP hD hS (lv_sub hl [0, 1] rfl) hfin0
  exact lp0 (n 2) 0 J f _ _ _ (by omega) hCW hP hD hS (lv_sub hl [0, 1] rfl) rfl

set_option maxHeartbeats 4000000 in
set_option maxRecDepth 100000 in
theorem c_Sz_blowFans {l : Launch} {D : va_G} {ct : Nat → ClassId} {AD : Nat → Nat → Nat} {L : List Nat} {f : Nat → va_E} {sz : Nat} {n : Nat → Nat} {I : Nat → Nat → Int32} {J : Nat → Nat → Int64} {P : Nat → Nat → Nat} (hCW : CW ct AD L n I J P f) : Met l y_Sz_blowFans (WS y_Sz_blowFans b_Sz_blowFans 2 none) { frames := 2, cells := 0, slots := 0, locals := 47 } (va_Pc [.ref (AD 9 0)] (WP D (TYS ct) L f sz)) (Xs D (TYS ct) L (AA L f sz) (fun f' => CW ct AD L n I (fL I P (n 3) 0 J) P f')) 0 0 (AA L f sz) := by
  refine Met.ofW (cc := b_Sz_blowFans) (maxL := 2) (ret := none) (by decide) rfl ?_
  intro p e s m args below meth c s₁ B hml hv
  obtain ⟨rfl, hsz, hP, hK, hD0⟩ := hv
  subst hsz
  have hx := B.exec
  have hb := B.bytes
  have hret := B.returns
  have hts := atoms_spec (ws := WS y_Sz_blowFans b_Sz_blowFans 2 none) B.pre
  have hG : ∀ w ∈ GW, w.before _ s = true := fun w h => hts w (List.mem_cons_of_mem _ h)
  have hown : s.vm.findClass "SmokeZones" = some m.cls := findClass_of_methodNamed B.named
  have hlocks := B.notSynchronized
  have hD : va_D (AA L f s.heap.size) (va_pl L f) := hD0.self (sz := s.heap.size)
  generalize hAe : AA L f s.heap.size = A at hD ⊢
  have hA : ∀ q : Nat, s.heap.size ≤ q → A q := fun q h => by rw [← hAe]; exact Or.inr h
  have hS : va_S A s.heap s.heap [] := va_S.rf
  have hl := lv_entry ([.ref (AD 9 0)]) (n := 2) (Nat.le_of_ble_eq_true rfl)
  rw [lg_entry_eq]
  generalize (lg_sl ([.ref (AD 9 0)]) ++ List.replicate (2 - (lg_sl ([.ref (AD 9 0)])).length) Slot.unset).toArray = ls at hl ⊢
  have hl : lv_has ls 2 [(0, .ref (AD 9 0))] := hl
  refine lv_iconst (v := 0) hx hb d_Sz_blowFans_0 (by decide) ?_
  refine lv_istore_n (lv' := [(1, .int 0), (0, .ref (AD 9 0))]) hx hb d_Sz_blowFans_1 rfl hl (by decide) rfl (fun ls hl => ?_)
  have lp0 : ∀ (k i : Nat) (J1 : Nat → Nat → Int64) (f1 : Nat → va_E) (H : Heap) (locs : List Loc) (ls : Array Slot), i + k = n 3 → CW ct AD L n I J1 P f1 → va_P D vwCl (va_pl L f1) H → va_D A (va_pl L f1) → va_S A s.heap H locs → lv_has ls 2 [(1, .int (nI i)), (0, .ref (AD 9 0))] → fL I P k i J1 = fL I P (n 3) 0 J → W p l e (headSpec (WS y_Sz_blowFans b_Sz_blowFans 2 none) { frames := 2, cells := 0, slots := 0, locals := 47 }).room s m [.ref (AD 9 0)].toArray below meth c H locs 0 0 (MQ below (Xs D (TYS ct) L A (fun f' => CW ct AD L n I (fL I P (n 3) 0 J) P f')) [.ref (AD 9 0)].toArray s 0 0 A) (F0 m 2 ls []) := by
    intro k
    induction k with
    | zero =>
      intro i J1 f1 H locs ls hik0 hC0 hP hD hS hl hfin0
      have hcap := hC0.cap3
      obtain ⟨g_1L, g_1E⟩ := hC0.ma
      refine lv_iload_n hx hb d_Sz_blowFans_2 rfl (lv_at hl 0 rfl) ?_
      refine lv_aload_n hx hb d_Sz_blowFans_3 rfl (lv_at hl 1 rfl) ?_
      refine pg_get (C := "SmokeZones") (T := T_Sz) (N := 17) hx hb hG in_Sz hown hK hP g_1L g_1E rfl 9 (by decide) (hG _ k44) (fun _ h9 => h9) rfl d_Sz_blowFans_4 ?_
      refine lv_icmp_ge (tgt := 38) hx hb d_Sz_blowFans_7 (by decide) (fun c_2 => ?_) (fun c_2 => ?_)
      · have q0 : J1 = fL I P (n 3) 0 J := hfin0
        have hN : CW ct AD L n I J1 P f1 := hC0
        rw [q0] at hN
        exact W.vret hx hb hret (fun t ht hW => ⟨⟨f1, rfl, hN, by rw [ht]; exact hP, va_K.moved hW.alike hK, hD⟩, hS.F ht⟩) hS.2.2 d_Sz_blowFans_38
      · exact (ge_yes (by omega) (by omega) c_2).elim
    | succ k ih0 =>
      intro i J1 f1 H locs ls hik0 hC0 hP hD hS hl hfin0
      have hcap := hC0.cap3
      obtain ⟨g_3L, g_3E⟩ := hC0.ma
      have hi : i < n 3 := by omega
      refine lv_iload_n hx hb d_Sz_blowFans_2 rfl (lv_at hl 0 rfl) ?_
      refine lv_aload_n hx hb d_Sz_blowFans_3 rfl (lv_at hl 1 rfl) ?_
      refine pg_get (C := "SmokeZones") (T := T_Sz) (N := 17) hx hb hG in_Sz hown hK hP g_3L g_3E rfl 9 (by decide) (hG _ k44) (fun _ h9 => h9) rfl d_Sz_blowFans_4 ?_
      refine lv_icmp_ge (tgt := 38) hx hb d_Sz_blowFans_7 (by decide) (fun c_4 => ?_) (fun c_4 => ?_)
      · exact (ge_no hi (by omega) c_4).elim
      · have hr : P 4 i < n 0 := hC0.2.2.2.2.2.1 i hi
        have hc0 := hC0.cap0
        obtain ⟨g_5L, g_5E⟩ := hC0.fa hi
        obtain ⟨g_6L, g_6E⟩ := hC0.ro hr
        obtain ⟨g_7L, g_7E⟩ := hC0.a3
        have ne_AD_9_0_AD_3_i : AD 9 0 ≠ AD 3 i := hC0.ne (k := 9) (i := 0) (k' := 3) (i' := i) (lv9) (lv0 (by decide) hi) (by omega)
        have ne_AD_9_0_AD_0_P_4_i : AD 9 0 ≠ AD 0 (P 4 i) := hC0.ne (k := 9) (i := 0) (k' := 0) (i' := (P 4 i)) (lv9) (lv0 (by decide) hr) (by omega)
        have ne_AD_9_0_AD_8_3 : AD 9 0 ≠ AD 8 3 := hC0.ne (k := 9) (i := 0) (k' := 8) (i' := 3) (lv9) (lv8 (by decide)) (by omega)
        have ne_AD_3_i_AD_9_0 : AD 3 i ≠ AD 9 0 := hC0.ne (k := 3) (i := i) (k' := 9) (i' := 0) (lv0 (by decide) hi) (lv9) (by omega)
        have ne_AD_3_i_AD_0_P_4_i : AD 3 i ≠ AD 0 (P 4 i) := hC0.ne (k := 3) (i := i) (k' := 0) (i' := (P 4 i)) (lv0 (by decide) hi) (lv0 (by decide) hr) (by omega)
        have ne_AD_3_i_AD_8_3 : AD 3 i ≠ AD 8 3 := hC0.ne (k := 3) (i := i) (k' := 8) (i' := 3) (lv0 (by decide) hi) (lv8 (by decide)) (by omega)
        have ne_AD_0_P_4_i_AD_9_0 : AD 0 (P 4 i) ≠ AD 9 0 := hC0.ne (k := 0) (i := (P 4 i)) (k' := 9) (i' := 0) (lv0 (by decide) hr) (lv9) (by omega)
        have ne_AD_0_P_4_i_AD_3_i : AD 0 (P 4 i) ≠ AD 3 i := hC0.ne (k := 0) (i := (P 4 i)) (k' := 3) (i' := i) (lv0 (by decide) hr) (lv0 (by decide) hi) (by omega)
        have ne_AD_0_P_4_i_AD_8_3 : AD 0 (P 4 i) ≠ AD 8 3 := hC0.ne (k := 0) (i := (P 4 i)) (k' := 8) (i' := 3) (lv0 (by decide) hr) (lv8 (by decide)) (by omega)
        have ne_AD_8_3_AD_9_0 : AD 8 3 ≠ AD 9 0 := hC0.ne (k := 8) (i := 3) (k' := 9) (i' := 0) (lv8 (by decide)) (lv9) (by omega)
        have ne_AD_8_3_AD_3_i : AD 8 3 ≠ AD 3 i := hC0.ne (k := 8) (i := 3) (k' := 3) (i' := i) (lv8 (by decide)) (lv0 (by decide) hi) (by omega)
        have ne_AD_8_3_AD_0_P_4_i : AD 8 3 ≠ AD 0 (P 4 i) := hC0.ne (k := 8) (i := 3) (k' := 0) (i' := (P 4 i)) (lv8 (by decide)) (lv0 (by decide) hr) (by omega)
        refine lv_aload_n hx hb d_Sz_blowFans_10 rfl (lv_at hl 1 rfl) ?_
        refine lv_dup hx hb d_Sz_blowFans_11 rfl ?_
        refine pg_get (C := "SmokeZones") (T := T_Sz) (N := 17) hx hb hG in_Sz hown hK hP g_3L g_3E rfl 15 (by decide) (hG _ k50) (fun _ h9 => h9) rfl d_Sz_blowFans_12 ?_
        refine lv_aload_n hx hb d_Sz_blowFans_15 rfl (lv_at hl 1 rfl) ?_
        refine pg_get (C := "SmokeZones") (T := T_Sz) (N := 17) hx hb hG in_Sz hown hK hP g_3L g_3E rfl 3 (by decide) (hG _ k38) (fun _ h9 => h9) rfl d_Sz_blowFans_16 ?_
        refine lv_iload_n hx hb d_Sz_blowFans_19 rfl (lv_at hl 0 rfl) ?_
        refine pg_ald hx hb hK hP 3 g_7L g_7E rfl (vp_in_nI (by omega) (by decide)) (rf_at hi (by omega)) d_Sz_blowFans_20 ?_
        refine lv_aload_n hx hb d_Sz_blowFans_21 rfl (lv_at hl 1 rfl) ?_
        refine pg_get (C := "SmokeZones") (T := T_Sz) (N := 17) hx hb hG in_Sz hown hK hP g_3L g_3E rfl 12 (by decide) (hG _ k47) (fun _ h9 => h9) rfl d_Sz_blowFans_22 ?_
        refine kV_wl (f' := va_up f1 (AD 0 (P 4 i)) (.inr (0, [.int (I 0 (P 4 i)), .int (I 1 (P 4 i)), .long (J1 0 (P 4 i)), .long (m_bsm (I 31 i) (I 99 0) (I 32 i) (J1 1 (P 4 i))), .long (m_bht (I 31 i) (I 99 0) (I 32 i) (J1 1 (P 4 i)) (J1 2 (P 4 i))), .int (I 2 (P 4 i)), .int (I 3 (P 4 i)), .int (I 4 (P 4 i))]))) ⟨hx, hb, hml, hown, hG⟩ (c_Fa_blow g_5L g_5E g_6L g_6E) (cwV 1 hG (gV k503 k504 k505 k11 k506) rfl rfl rfl hd_Fa_blow ⟨Nat.le_of_ble_eq_true rfl, Nat.le_of_ble_eq_true rfl⟩) hK hP hD hS hA g_5L g_5E rfl rfl hl.1 rfl (Nat.le_of_ble_eq_true rfl) ⟨Nat.le_of_ble_eq_true rfl, Nat.le_of_ble_eq_true rfl⟩ d_Sz_blowFans_25 (fun H locs hP hD hS => ?_)
        have e_8 : (va_up f1 (AD 0 (P 4 i)) (.inr (0, [.int (I 0 (P 4 i)), .int (I 1 (P 4 i)), .long (J1 0 (P 4 i)), .long (m_bsm (I 31 i) (I 99 0) (I 32 i) (J1 1 (P 4 i))), .long (m_bht (I 31 i) (I 99 0) (I 32 i) (J1 1 (P 4 i)) (J1 2 (P 4 i))), .int (I 2 (P 4 i)), .int (I 3 (P 4 i)), .int (I 4 (P 4 i))]))) (AD 0 (P 4 i)) = .inr (0, [.int (I 0 (P 4 i)), .int (I 1 (P 4 i)), .long (J1 0 (P 4 i)), .long (m_bsm (I 31 i) (I 99 0) (I 32 i) (J1 1 (P 4 i))), .long (m_bht (I 31 i) (I 99 0) (I 32 i) (J1 1 (P 4 i)) (J1 2 (P 4 i))), .int (I 2 (P 4 i)), .int (I 3 (P 4 i)), .int (I 4 (P 4 i))]) := va_up_self _ _ _
        have e_9 : (va_up f1 (AD 0 (P 4 i)) (.inr (0, [.int (I 0 (P 4 i)), .int (I 1 (P 4 i)), .long (J1 0 (P 4 i)), .long (m_bsm (I 31 i) (I 99 0) (I 32 i) (J1 1 (P 4 i))), .long (m_bht (I 31 i) (I 99 0) (I 32 i) (J1 1 (P 4 i)) (J1 2 (P 4 i))), .int (I 2 (P 4 i)), .int (I 3 (P 4 i)), .int (I 4 (P 4 i))]))) (AD 9 0) = .inr (6, [.ref (AD 8 0), .ref (AD 8 1), .ref (AD 8 2), .ref (AD 8 3), .ref (AD 8 4), .ref (AD 8 5), .int (nI (n 0)), .int (nI (n 1)), .int (nI (n 2)), .int (nI (n 3)), .int (nI (n 4)), .int (nI (n 5)), .int (I 99 0), .long (J1 99 0), .long (J1 99 1), .long (J1 99 2), .long (J1 99 3)]) := (va_up_ne _ _ ne_AD_9_0_AD_0_P_4_i).trans g_3E
        have e_10 : (va_up f1 (AD 0 (P 4 i)) (.inr (0, [.int (I 0 (P 4 i)), .int (I 1 (P 4 i)), .long (J1 0 (P 4 i)), .long (m_bsm (I 31 i) (I 99 0) (I 32 i) (J1 1 (P 4 i))), .long (m_bht (I 31 i) (I 99 0) (I 32 i) (J1 1 (P 4 i)) (J1 2 (P 4 i))), .int (I 2 (P 4 i)), .int (I 3 (P 4 i)), .int (I 4 (P 4 i))]))) (AD 3 i) = .inr (3, [.ref (AD 0 (P 4 i)), .int (I 31 i), .int (I 32 i)]) := (va_up_ne _ _ ne_AD_3_i_AD_0_P_4_i).trans g_5E
        have e_11 : (va_up f1 (AD 0 (P 4 i)) (.inr (0, [.int (I 0 (P 4 i)), .int (I 1 (P 4 i)), .long (J1 0 (P 4 i)), .long (m_bsm (I 31 i) (I 99 0) (I 32 i) (J1 1 (P 4 i))), .long (m_bht (I 31 i) (I 99 0) (I 32 i) (J1 1 (P 4 i)) (J1 2 (P 4 i))), .int (I 2 (P 4 i)), .int (I 3 (P 4 i)), .int (I 4 (P 4 i))]))) (AD 8 3) = .inl (ct 3, 9, .inr (.inr (.inr (.inr (fun j => if j < n 3 then some (AD 3 j) else none))))) := (va_up_ne _ _ ne_AD_8_3_AD_0_P_4_i).trans g_7E
        refine lv_ladd hx hb d_Sz_blowFans_28 ?_
        refine pg_put (C := "SmokeZones") (T := T_Sz) (N := 17) (ty := .long) hx hb hG in_Sz ty_Sz ok_Sz nm_Sz hown hK hP hD hS g_3L e_9 rfl 15 (by decide) (hG _ k50) (fun _ h9 => h9) rfl (by decide +kernel) rfl rfl (Nat.le_of_ble_eq_true rfl) d_Sz_blowFans_29 (fun H locs hP hD hS => ?_)
        have hP : va_P D vwCl (va_pl (L) (va_up (va_up f1 (AD 0 (P 4 i)) (.inr (0, [.int (I 0 (P 4 i)), .int (I 1 (P 4 i)), .long (J1 0 (P 4 i)), .long (m_bsm (I 31 i) (I 99 0) (I 32 i) (J1 1 (P 4 i))), .long (m_bht (I 31 i) (I 99 0) (I 32 i) (J1 1 (P 4 i)) (J1 2 (P 4 i))), .int (I 2 (P 4 i)), .int (I 3 (P 4 i)), .int (I 4 (P 4 i))]))) (AD 9 0) (.inr (6, [.ref (AD 8 0), .ref (AD 8 1), .ref (AD 8 2), .ref (AD 8 3), .ref (AD 8 4), .ref (AD 8 5), .int (nI (n 0)), .int (nI (n 1)), .int (nI (n 2)), .int (nI (n 3)), .int (nI (n 4)), .int (nI (n 5)), .int (I 99 0), .long (J1 99 0), .long (J1 99 1), .long ((J1 99 2) + (m_bout (I 31 i) (I 99 0) (I 32 i) (J1 1 (P 4 i)))), .long (J1 99 3)])))) H := hP
        have hD : va_D A (va_pl (L) (va_up (va_up f1 (AD 0 (P 4 i)) (.inr (0, [.int (I 0 (P 4 i)), .int (I 1 (P 4 i)), .long (J1 0 (P 4 i)), .long (m_bsm (I 31 i) (I 99 0) (I 32 i) (J1 1 (P 4 i))), .long (m_bht (I 31 i) (I 99 0) (I 32 i) (J1 1 (P 4 i)) (J1 2 (P 4 i))), .int (I 2 (P 4 i)), .int (I 3 (P 4 i)), .int (I 4 (P 4 i))]))) (AD 9 0) (.inr (6, [.ref (AD 8 0), .ref (AD 8 1), .ref (AD 8 2), .ref (AD 8 3), .ref (AD 8 4), .ref (AD 8 5), .int (nI (n 0)), .int (nI (n 1)), .int (nI (n 2)), .int (nI (n 3)), .int (nI (n 4)), .int (nI (n 5)), .int (I 99 0), .long (J1 99 0), .long (J1 99 1), .long ((J1 99 2) + (m_bout (I 31 i) (I 99 0) (I 32 i) (J1 1 (P 4 i)))), .long (J1 99 3)])))) := hD
        have e_12 : (va_up (va_up f1 (AD 0 (P 4 i)) (.inr (0, [.int (I 0 (P 4 i)), .int (I 1 (P 4 i)), .long (J1 0 (P 4 i)), .long (m_bsm (I 31 i) (I 99 0) (I 32 i) (J1 1 (P 4 i))), .long (m_bht (I 31 i) (I 99 0) (I 32 i) (J1 1 (P 4 i)) (J1 2 (P 4 i))), .int (I 2 (P 4 i)), .int (I 3 (P 4 i)), .int (I 4 (P 4 i))]))) (AD 9 0) (.inr (6, [.ref (AD 8 0), .ref (AD 8 1), .ref (AD 8 2), .ref (AD 8 3), .ref (AD 8 4), .ref (AD 8 5), .int (nI (n 0)), .int (nI (n 1)), .int (nI (n 2)), .int (nI (n 3)), .int (nI (n 4)), .int (nI (n 5)), .int (I 99 0), .long (J1 99 0), .long (J1 99 1), .long ((J1 99 2) + (m_bout (I 31 i) (I 99 0) (I 32 i) (J1 1 (P 4 i)))), .long (J1 99 3)]))) (AD 9 0) = .inr (6, [.ref (AD 8 0), .ref (AD 8 1), .ref (AD 8 2), .ref (AD 8 3), .ref (AD 8 4), .ref (AD 8 5), .int (nI (n 0)), .int (nI (n 1)), .int (nI (n 2)), .int (nI (n 3)), .int (nI (n 4)), .int (nI (n 5)), .int (I 99 0), .long (J1 99 0), .long (J1 99 1), .long ((J1 99 2) + (m_bout (I 31 i) (I 99 0) (I 32 i) (J1 1 (P 4 i)))), .long (J1 99 3)]) := va_up_self _ _ _
        have e_13 : (va_up (va_up f1 (AD 0 (P 4 i)) (.inr (0, [.int (I 0 (P 4 i)), .int (I 1 (P 4 i)), .long (J1 0 (P 4 i)), .long (m_bsm (I 31 i) (I 99 0) (I 32 i) (J1 1 (P 4 i))), .long (m_bht (I 31 i) (I 99 0) (I 32 i) (J1 1 (P 4 i)) (J1 2 (P 4 i))), .int (I 2 (P 4 i)), .int (I 3 (P 4 i)), .int (I 4 (P 4 i))]))) (AD 9 0) (.inr (6, [.ref (AD 8 0), .ref (AD 8 1), .ref (AD 8 2), .ref (AD 8 3), .ref (AD 8 4), .ref (AD 8 5), .int (nI (n 0)), .int (nI (n 1)), .int (nI (n 2)), .int (nI (n 3)), .int (nI (n 4)), .int (nI (n 5)), .int (I 99 0), .long (J1 99 0), .long (J1 99 1), .long ((J1 99 2) + (m_bout (I 31 i) (I 99 0) (I 32 i) (J1 1 (P 4 i)))), .long (J1 99 3)]))) (AD 3 i) = .inr (3, [.ref (AD 0 (P 4 i)), .int (I 31 i), .int (I 32 i)]) := (va_up_ne _ _ ne_AD_3_i_AD_9_0).trans e_10
        have e_14 : (va_up (va_up f1 (AD 0 (P 4 i)) (.inr (0, [.int (I 0 (P 4 i)), .int (I 1 (P 4 i)), .long (J1 0 (P 4 i)), .long (m_bsm (I 31 i) (I 99 0) (I 32 i) (J1 1 (P 4 i))), .long (m_bht (I 31 i) (I 99 0) (I 32 i) (J1 1 (P 4 i)) (J1 2 (P 4 i))), .int (I 2 (P 4 i)), .int (I 3 (P 4 i)), .int (I 4 (P 4 i))]))) (AD 9 0) (.inr (6, [.ref (AD 8 0), .ref (AD 8 1), .ref (AD 8 2), .ref (AD 8 3), .ref (AD 8 4), .ref (AD 8 5), .int (nI (n 0)), .int (nI (n 1)), .int (nI (n 2)), .int (nI (n 3)), .int (nI (n 4)), .int (nI (n 5)), .int (I 99 0), .long (J1 99 0), .long (J1 99 1), .long ((J1 99 2) + (m_bout (I 31 i) (I 99 0) (I 32 i) (J1 1 (P 4 i)))), .long (J1 99 3)]))) (AD 0 (P 4 i)) = .inr (0, [.int (I 0 (P 4 i)), .int (I 1 (P 4 i)), .long (J1 0 (P 4 i)), .long (m_bsm (I 31 i) (I 99 0) (I 32 i) (J1 1 (P 4 i))), .long (m_bht (I 31 i) (I 99 0) (I 32 i) (J1 1 (P 4 i)) (J1 2 (P 4 i))), .int (I 2 (P 4 i)), .int (I 3 (P 4 i)), .int (I 4 (P 4 i))]) := (va_up_ne _ _ ne_AD_0_P_4_i_AD_9_0).trans e_8
        have e_15 : (va_up (va_up f1 (AD 0 (P 4 i)) (.inr (0, [.int (I 0 (P 4 i)), .int (I 1 (P 4 i)), .long (J1 0 (P 4 i)), .long (m_bsm (I 31 i) (I 99 0) (I 32 i) (J1 1 (P 4 i))), .long (m_bht (I 31 i) (I 99 0) (I 32 i) (J1 1 (P 4 i)) (J1 2 (P 4 i))), .int (I 2 (P 4 i)), .int (I 3 (P 4 i)), .int (I 4 (P 4 i))]))) (AD 9 0) (.inr (6, [.ref (AD 8 0), .ref (AD 8 1), .ref (AD 8 2), .ref (AD 8 3), .ref (AD 8 4), .ref (AD 8 5), .int (nI (n 0)), .int (nI (n 1)), .int (nI (n 2)), .int (nI (n 3)), .int (nI (n 4)), .int (nI (n 5)), .int (I 99 0), .long (J1 99 0), .long (J1 99 1), .long ((J1 99 2) + (m_bout (I 31 i) (I 99 0) (I 32 i) (J1 1 (P 4 i)))), .long (J1 99 3)]))) (AD 8 3) = .inl (ct 3, 9, .inr (.inr (.inr (.inr (fun j => if j < n 3 then some (AD 3 j) else none))))) := (va_up_ne _ _ ne_AD_8_3_AD_9_0).trans e_11
        refine lv_iinc (v := nI (i + 1)) (lv' := [(1, .int (nI (i + 1))), (0, .ref (AD 9 0))]) hx hb d_Sz_blowFans_32 hl (k := 0) rfl (nI_1 i) (by decide) rfl (fun ls hl => ?_)
        refine lv_goto (tgt := 2) hx hb d_Sz_blowFans_35 (by decide) ?_
        have hN0 : CW ct AD L n I (sRo J1 (P 4 i) (m_bsm (I 31 i) (I 99 0) (I 32 i) (J1 1 (P 4 i))) (m_bht (I 31 i) (I 99 0) (I 32 i) (J1 1 (P 4 i)) (J1 2 (P 4 i)))) P _ := hC0.set (k := 0) (i := (P 4 i)) (lv0 (by decide) hr) (co_ro (fun _ _ _ => rfl) sRo_hJ) hC0.2.2
        have hN1 : CW ct AD L n I (fS I P i J1) P _ := hN0.set (k := 9) (i := 0) (lv9) (co_ma (fun _ _ _ => rfl) t99_hJ) hC0.2.2
        have hN : CW ct AD L n I (fS I P i J1) P (va_up (va_up f1 (AD 0 (P 4 i)) (.inr (0, [.int (I 0 (P 4 i)), .int (I 1 (P 4 i)), .long (J1 0 (P 4 i)), .long (m_bsm (I 31 i) (I 99 0) (I 32 i) (J1 1 (P 4 i))), .long (m_bht (I 31 i) (I 99 0) (I 32 i) (J1 1 (P 4 i)) (J1 2 (P 4 i))), .int (I 2 (P 4 i)), .int (I 3 (P 4 i)), .int (I 4 (P 4 i))]))) (AD 9 0) (.inr (6, [.ref (AD 8 0), .ref (AD 8 1), .ref (AD 8 2), .ref (AD 8 3), .ref (AD 8 4), .ref (AD 8 5), .int (nI (n 0)), .int (nI (n 1)), .int (nI (n 2)), .int (nI (n 3)), .int (nI (n 4)), .int (nI (n 5)), .int (I 99 0), .long (J1 99 0), .long (J1 99 1), .long ((J1 99 2) + (m_bout (I 31 i) (I 99 0) (I 32 i) (J1 1 (P 4 i)))), .long (J1 99 3)]))) := by
          refine cast (congrArg (CW ct AD L n I (fS I P i J1) P) ?_) hN1
          simp [cellOf, roomE, mainE, openE, steelE, farV, up2, sRo, fS]
        exact ih0 (i + 1) _ _ _ _ _ (by omega) hN hP hD hS (lv_sub hl [0, 1] rfl) hfin0
  exact lp0 (n 3) 0 J f _ _ _ (by omega) hCW hP hD hS (lv_sub hl [0, 1] rfl) rfl

set_option maxHeartbeats 4000000 in
set_option maxRecDepth 100000 in
theorem c_Sz_pressOutOfRooms {l : Launch} {D : va_G} {ct : Nat → ClassId} {AD : Nat → Nat → Nat} {L : List Nat} {f : Nat → va_E} {sz : Nat} {n : Nat → Nat} {I : Nat → Nat → Int32} {J : Nat → Nat → Int64} {P : Nat → Nat → Nat} (hCW : CW ct AD L n I J P f) : Met l y_Sz_pressOutOfRooms (WS y_Sz_pressOutOfRooms b_Sz_pressOutOfRooms 2 none) { frames := 2, cells := 0, slots := 0, locals := 44 } (va_Pc [.ref (AD 9 0)] (WP D (TYS ct) L f sz)) (Xs D (TYS ct) L (AA L f sz) (fun f' => CW ct AD L n I (pL (n 0) 0 J) P f')) 0 0 (AA L f sz) := by
  refine Met.ofW (cc := b_Sz_pressOutOfRooms) (maxL := 2) (ret := none) (by decide) rfl ?_
  intro p e s m args below meth c s₁ B hml hv
  obtain ⟨rfl, hsz, hP, hK, hD0⟩ := hv
  subst hsz
  have hx := B.exec
  have hb := B.bytes
  have hret := B.returns
  have hts := atoms_spec (ws := WS y_Sz_pressOutOfRooms b_Sz_pressOutOfRooms 2 none) B.pre
  have hG : ∀ w ∈ GW, w.before _ s = true := fun w h => hts w (List.mem_cons_of_mem _ h)
  have hown : s.vm.findClass "SmokeZones" = some m.cls := findClass_of_methodNamed B.named
  have hlocks := B.notSynchronized
  have hD : va_D (AA L f s.heap.size) (va_pl L f) := hD0.self (sz := s.heap.size)
  generalize hAe : AA L f s.heap.size = A at hD ⊢
  have hA : ∀ q : Nat, s.heap.size ≤ q → A q := fun q h => by rw [← hAe]; exact Or.inr h
  have hS : va_S A s.heap s.heap [] := va_S.rf
  have hl := lv_entry ([.ref (AD 9 0)]) (n := 2) (Nat.le_of_ble_eq_true rfl)
  rw [lg_entry_eq]
  generalize (lg_sl ([.ref (AD 9 0)]) ++ List.replicate (2 - (lg_sl ([.ref (AD 9 0)])).length) Slot.unset).toArray = ls at hl ⊢
  have hl : lv_has ls 2 [(0, .ref (AD 9 0))] := hl
  refine lv_iconst (v := 0) hx hb d_Sz_pressOutOfRooms_0 (by decide) ?_
  refine lv_istore_n (lv' := [(1, .int 0), (0, .ref (AD 9 0))]) hx hb d_Sz_pressOutOfRooms_1 rfl hl (by decide) rfl (fun ls hl => ?_)
  have lp0 : ∀ (k i : Nat) (J1 : Nat → Nat → Int64) (f1 : Nat → va_E) (H : Heap) (locs : List Loc) (ls : Array Slot), i + k = n 0 → CW ct AD L n I J1 P f1 → va_P D vwCl (va_pl L f1) H → va_D A (va_pl L f1) → va_S A s.heap H locs → lv_has ls 2 [(1, .int (nI i)), (0, .ref (AD 9 0))] → pL k i J1 = pL (n 0) 0 J → W p l e (headSpec (WS y_Sz_pressOutOfRooms b_Sz_pressOutOfRooms 2 none) { frames := 2, cells := 0, slots := 0, locals := 44 }).room s m [.ref (AD 9 0)].toArray below meth c H locs 0 0 (MQ below (Xs D (TYS ct) L A (fun f' => CW ct AD L n I (pL (n 0) 0 J) P f')) [.ref (AD 9 0)].toArray s 0 0 A) (F0 m 2 ls []) := by
    intro k
    induction k with
    | zero =>
      intro i J1 f1 H locs ls hik0 hC0 hP hD hS hl hfin0
      have hcap := hC0.cap0
      obtain ⟨g_1L, g_1E⟩ := hC0.ma
      refine lv_iload_n hx hb d_Sz_pressOutOfRooms_2 rfl (lv_at hl 0 rfl) ?_
      refine lv_aload_n hx hb d_Sz_pressOutOfRooms_3 rfl (lv_at hl 1 rfl) ?_
      refine pg_get (C := "SmokeZones") (T := T_Sz) (N := 17) hx hb hG in_Sz hown hK hP g_1L g_1E rfl 6 (by decide) (hG _ k41) (fun _ h9 => h9) rfl d_Sz_pressOutOfRooms_4 ?_
      refine lv_icmp_ge (tgt := 34) hx hb d_Sz_pressOutOfRooms_7 (by decide) (fun c_2 => ?_) (fun c_2 => ?_)
      · have q0 : J1 = pL (n 0) 0 J := hfin0
        have hN : CW ct AD L n I J1 P f1 := hC0
        rw [q0] at hN
        exact W.vret hx hb hret (fun t ht hW => ⟨⟨f1, rfl, hN, by rw [ht]; exact hP, va_K.moved hW.alike hK, hD⟩, hS.F ht⟩) hS.2.2 d_Sz_pressOutOfRooms_34
      · exact (ge_yes (by omega) (by omega) c_2).elim
    | succ k ih0 =>
      intro i J1 f1 H locs ls hik0 hC0 hP hD hS hl hfin0
      have hcap := hC0.cap0
      obtain ⟨g_3L, g_3E⟩ := hC0.ma
      have hi : i < n 0 := by omega
      refine lv_iload_n hx hb d_Sz_pressOutOfRooms_2 rfl (lv_at hl 0 rfl) ?_
      refine lv_aload_n hx hb d_Sz_pressOutOfRooms_3 rfl (lv_at hl 1 rfl) ?_
      refine pg_get (C := "SmokeZones") (T := T_Sz) (N := 17) hx hb hG in_Sz hown hK hP g_3L g_3E rfl 6 (by decide) (hG _ k41) (fun _ h9 => h9) rfl d_Sz_pressOutOfRooms_4 ?_
      refine lv_icmp_ge (tgt := 34) hx hb d_Sz_pressOutOfRooms_7 (by decide) (fun c_4 => ?_) (fun c_4 => ?_)
      · exact (ge_no hi (by omega) c_4).elim
      · obtain ⟨g_5L, g_5E⟩ := hC0.ro hi
        obtain ⟨g_6L, g_6E⟩ := hC0.a0
        have ne_AD_9_0_AD_0_i : AD 9 0 ≠ AD 0 i := hC0.ne (k := 9) (i := 0) (k' := 0) (i' := i) (lv9) (lv0 (by decide) hi) (by omega)
        have ne_AD_9_0_AD_8_0 : AD 9 0 ≠ AD 8 0 := hC0.ne (k := 9) (i := 0) (k' := 8) (i' := 0) (lv9) (lv8 (by decide)) (by omega)
        have ne_AD_0_i_AD_9_0 : AD 0 i ≠ AD 9 0 := hC0.ne (k := 0) (i := i) (k' := 9) (i' := 0) (lv0 (by decide) hi) (lv9) (by omega)
        have ne_AD_0_i_AD_8_0 : AD 0 i ≠ AD 8 0 := hC0.ne (k := 0) (i := i) (k' := 8) (i' := 0) (lv0 (by decide) hi) (lv8 (by decide)) (by omega)
        have ne_AD_8_0_AD_9_0 : AD 8 0 ≠ AD 9 0 := hC0.ne (k := 8) (i := 0) (k' := 9) (i' := 0) (lv8 (by decide)) (lv9) (by omega)
        have ne_AD_8_0_AD_0_i : AD 8 0 ≠ AD 0 i := hC0.ne (k := 8) (i := 0) (k' := 0) (i' := i) (lv8 (by decide)) (lv0 (by decide) hi) (by omega)
        refine lv_aload_n hx hb d_Sz_pressOutOfRooms_10 rfl (lv_at hl 1 rfl) ?_
        refine lv_dup hx hb d_Sz_pressOutOfRooms_11 rfl ?_
        refine pg_get (C := "SmokeZones") (T := T_Sz) (N := 17) hx hb hG in_Sz hown hK hP g_3L g_3E rfl 16 (by decide) (hG _ k51) (fun _ h9 => h9) rfl d_Sz_pressOutOfRooms_12 ?_
        refine lv_aload_n hx hb d_Sz_pressOutOfRooms_15 rfl (lv_at hl 1 rfl) ?_
        refine pg_get (C := "SmokeZones") (T := T_Sz) (N := 17) hx hb hG in_Sz hown hK hP g_3L g_3E rfl 0 (by decide) (hG _ k35) (fun _ h9 => h9) rfl d_Sz_pressOutOfRooms_16 ?_
        refine lv_iload_n hx hb d_Sz_pressOutOfRooms_19 rfl (lv_at hl 0 rfl) ?_
        refine pg_ald hx hb hK hP 0 g_6L g_6E rfl (vp_in_nI (by omega) (by decide)) (rf_at hi (by omega)) d_Sz_pressOutOfRooms_20 ?_
        refine kV_wl (f' := va_up f1 (AD 0 i) (.inr (0, [.int (I 0 i), .int (I 1 i), .long (J1 0 i), .long (m_psm (J1 0 i) (J1 1 i)), .long (m_pht (J1 0 i) (J1 1 i) (J1 2 i)), .int (I 2 i), .int (I 3 i), .int (I 4 i)]))) ⟨hx, hb, hml, hown, hG⟩ (c_Ro_pressOut g_5L g_5E) (cwV 0 hG (gV k514 k515 k516 k8 k517) rfl rfl rfl hd_Ro_pressOut ⟨Nat.le_of_ble_eq_true rfl, Nat.le_of_ble_eq_true rfl⟩) hK hP hD hS hA g_5L g_5E rfl rfl hl.1 rfl (Nat.le_of_ble_eq_true rfl) ⟨Nat.le_of_ble_eq_true rfl, Nat.le_of_ble_eq_true rfl⟩ d_Sz_pressOutOfRooms_21 (fun H locs hP hD hS => ?_)
        have e_7 : (va_up f1 (AD 0 i) (.inr (0, [.int (I 0 i), .int (I 1 i), .long (J1 0 i), .long (m_psm (J1 0 i) (J1 1 i)), .long (m_pht (J1 0 i) (J1 1 i) (J1 2 i)), .int (I 2 i), .int (I 3 i), .int (I 4 i)]))) (AD 0 i) = .inr (0, [.int (I 0 i), .int (I 1 i), .long (J1 0 i), .long (m_psm (J1 0 i) (J1 1 i)), .long (m_pht (J1 0 i) (J1 1 i) (J1 2 i)), .int (I 2 i), .int (I 3 i), .int (I 4 i)]) := va_up_self _ _ _
        have e_8 : (va_up f1 (AD 0 i) (.inr (0, [.int (I 0 i), .int (I 1 i), .long (J1 0 i), .long (m_psm (J1 0 i) (J1 1 i)), .long (m_pht (J1 0 i) (J1 1 i) (J1 2 i)), .int (I 2 i), .int (I 3 i), .int (I 4 i)]))) (AD 9 0) = .inr (6, [.ref (AD 8 0), .ref (AD 8 1), .ref (AD 8 2), .ref (AD 8 3), .ref (AD 8 4), .ref (AD 8 5), .int (nI (n 0)), .int (nI (n 1)), .int (nI (n 2)), .int (nI (n 3)), .int (nI (n 4)), .int (nI (n 5)), .int (I 99 0), .long (J1 99 0), .long (J1 99 1), .long (J1 99 2), .long (J1 99 3)]) := (va_up_ne _ _ ne_AD_9_0_AD_0_i).trans g_3E
        have e_9 : (va_up f1 (AD 0 i) (.inr (0, [.int (I 0 i), .int (I 1 i), .long (J1 0 i), .long (m_psm (J1 0 i) (J1 1 i)), .long (m_pht (J1 0 i) (J1 1 i) (J1 2 i)), .int (I 2 i), .int (I 3 i), .int (I 4 i)]))) (AD 8 0) = .inl (ct 0, 10, .inr (.inr (.inr (.inr (fun j => if j < n 0 then some (AD 0 j) else none))))) := (va_up_ne _ _ ne_AD_8_0_AD_0_i).trans g_6E
        refine lv_ladd hx hb d_Sz_pressOutOfRooms_24 ?_
        refine pg_put (C := "SmokeZones") (T := T_Sz) (N := 17) (ty := .long) hx hb hG in_Sz ty_Sz ok_Sz nm_Sz hown hK hP hD hS g_3L e_8 rfl 16 (by decide) (hG _ k51) (fun _ h9 => h9) rfl (by decide +kernel) rfl rfl (Nat.le_of_ble_eq_true rfl) d_Sz_pressOutOfRooms_25 (fun H locs hP hD hS => ?_)
        have hP : va_P D vwCl (va_pl (L) (va_up (va_up f1 (AD 0 i) (.inr (0, [.int (I 0 i), .int (I 1 i), .long (J1 0 i), .long (m_psm (J1 0 i) (J1 1 i)), .long (m_pht (J1 0 i) (J1 1 i) (J1 2 i)), .int (I 2 i), .int (I 3 i), .int (I 4 i)]))) (AD 9 0) (.inr (6, [.ref (AD 8 0), .ref (AD 8 1), .ref (AD 8 2), .ref (AD 8 3), .ref (AD 8 4), .ref (AD 8 5), .int (nI (n 0)), .int (nI (n 1)), .int (nI (n 2)), .int (nI (n 3)), .int (nI (n 4)), .int (nI (n 5)), .int (I 99 0), .long (J1 99 0), .long (J1 99 1), .long (J1 99 2), .long ((J1 99 3) + (m_pout (J1 0 i) (J1 1 i)))])))) H := hP
        have hD : va_D A (va_pl (L) (va_up (va_up f1 (AD 0 i) (.inr (0, [.int (I 0 i), .int (I 1 i), .long (J1 0 i), .long (m_psm (J1 0 i) (J1 1 i)), .long (m_pht (J1 0 i) (J1 1 i) (J1 2 i)), .int (I 2 i), .int (I 3 i), .int (I 4 i)]))) (AD 9 0) (.inr (6, [.ref (AD 8 0), .ref (AD 8 1), .ref (AD 8 2), .ref (AD 8 3), .ref (AD 8 4), .ref (AD 8 5), .int (nI (n 0)), .int (nI (n 1)), .int (nI (n 2)), .int (nI (n 3)), .int (nI (n 4)), .int (nI (n 5)), .int (I 99 0), .long (J1 99 0), .long (J1 99 1), .long (J1 99 2), .long ((J1 99 3) + (m_pout (J1 0 i) (J1 1 i)))])))) := hD
        have e_10 : (va_up (va_up f1 (AD 0 i) (.inr (0, [.int (I 0 i), .int (I 1 i), .long (J1 0 i), .long (m_psm (J1 0 i) (J1 1 i)), .long (m_pht (J1 0 i) (J1 1 i) (J1 2 i)), .int (I 2 i), .int (I 3 i), .int (I 4 i)]))) (AD 9 0) (.inr (6, [.ref (AD 8 0), .ref (AD 8 1), .ref (AD 8 2), .ref (AD 8 3), .ref (AD 8 4), .ref (AD 8 5), .int (nI (n 0)), .int (nI (n 1)), .int (nI (n 2)), .int (nI (n 3)), .int (nI (n 4)), .int (nI (n 5)), .int (I 99 0), .long (J1 99 0), .long (J1 99 1), .long (J1 99 2), .long ((J1 99 3) + (m_pout (J1 0 i) (J1 1 i)))]))) (AD 9 0) = .inr (6, [.ref (AD 8 0), .ref (AD 8 1), .ref (AD 8 2), .ref (AD 8 3), .ref (AD 8 4), .ref (AD 8 5), .int (nI (n 0)), .int (nI (n 1)), .int (nI (n 2)), .int (nI (n 3)), .int (nI (n 4)), .int (nI (n 5)), .int (I 99 0), .long (J1 99 0), .long (J1 99 1), .long (J1 99 2), .long ((J1 99 3) + (m_pout (J1 0 i) (J1 1 i)))]) := va_up_self _ _ _
        have e_11 : (va_up (va_up f1 (AD 0 i) (.inr (0, [.int (I 0 i), .int (I 1 i), .long (J1 0 i), .long (m_psm (J1 0 i) (J1 1 i)), .long (m_pht (J1 0 i) (J1 1 i) (J1 2 i)), .int (I 2 i), .int (I 3 i), .int (I 4 i)]))) (AD 9 0) (.inr (6, [.ref (AD 8 0), .ref (AD 8 1), .ref (AD 8 2), .ref (AD 8 3), .ref (AD 8 4), .ref (AD 8 5), .int (nI (n 0)), .int (nI (n 1)), .int (nI (n 2)), .int (nI (n 3)), .int (nI (n 4)), .int (nI (n 5)), .int (I 99 0), .long (J1 99 0), .long (J1 99 1), .long (J1 99 2), .long ((J1 99 3) + (m_pout (J1 0 i) (J1 1 i)))]))) (AD 0 i) = .inr (0, [.int (I 0 i), .int (I 1 i), .long (J1 0 i), .long (m_psm (J1 0 i) (J1 1 i)), .long (m_pht (J1 0 i) (J1 1 i) (J1 2 i)), .int (I 2 i), .int (I 3 i), .int (I 4 i)]) := (va_up_ne _ _ ne_AD_0_i_AD_9_0).trans e_7
        have e_12 : (va_up (va_up f1 (AD 0 i) (.inr (0, [.int (I 0 i), .int (I 1 i), .long (J1 0 i), .long (m_psm (J1 0 i) (J1 1 i)), .long (m_pht (J1 0 i) (J1 1 i) (J1 2 i)), .int (I 2 i), .int (I 3 i), .int (I 4 i)]))) (AD 9 0) (.inr (6, [.ref (AD 8 0), .ref (AD 8 1), .ref (AD 8 2), .ref (AD 8 3), .ref (AD 8 4), .ref (AD 8 5), .int (nI (n 0)), .int (nI (n 1)), .int (nI (n 2)), .int (nI (n 3)), .int (nI (n 4)), .int (nI (n 5)), .int (I 99 0), .long (J1 99 0), .long (J1 99 1), .long (J1 99 2), .long ((J1 99 3) + (m_pout (J1 0 i) (J1 1 i)))]))) (AD 8 0) = .inl (ct 0, 10, .inr (.inr (.inr (.inr (fun j => if j < n 0 then some (AD 0 j) else none))))) := (va_up_ne _ _ ne_AD_8_0_AD_9_0).trans e_9
        refine lv_iinc (v := nI (i + 1)) (lv' := [(1, .int (nI (i + 1))), (0, .ref (AD 9 0))]) hx hb d_Sz_pressOutOfRooms_28 hl (k := 0) rfl (nI_1 i) (by decide) rfl (fun ls hl => ?_)
        refine lv_goto (tgt := 2) hx hb d_Sz_pressOutOfRooms_31 (by decide) ?_
        have hN0 : CW ct AD L n I (sRo J1 i (m_psm (J1 0 i) (J1 1 i)) (m_pht (J1 0 i) (J1 1 i) (J1 2 i))) P _ := hC0.set (k := 0) (i := i) (lv0 (by decide) hi) (co_ro (fun _ _ _ => rfl) sRo_hJ) hC0.2.2
        have hN1 : CW ct AD L n I (pS i J1) P _ := hN0.set (k := 9) (i := 0) (lv9) (co_ma (fun _ _ _ => rfl) t99_hJ) hC0.2.2
        have hN : CW ct AD L n I (pS i J1) P (va_up (va_up f1 (AD 0 i) (.inr (0, [.int (I 0 i), .int (I 1 i), .long (J1 0 i), .long (m_psm (J1 0 i) (J1 1 i)), .long (m_pht (J1 0 i) (J1 1 i) (J1 2 i)), .int (I 2 i), .int (I 3 i), .int (I 4 i)]))) (AD 9 0) (.inr (6, [.ref (AD 8 0), .ref (AD 8 1), .ref (AD 8 2), .ref (AD 8 3), .ref (AD 8 4), .ref (AD 8 5), .int (nI (n 0)), .int (nI (n 1)), .int (nI (n 2)), .int (nI (n 3)), .int (nI (n 4)), .int (nI (n 5)), .int (I 99 0), .long (J1 99 0), .long (J1 99 1), .long (J1 99 2), .long ((J1 99 3) + (m_pout (J1 0 i) (J1 1 i)))]))) := by
          refine cast (congrArg (CW ct AD L n I (pS i J1) P) ?_) hN1
          simp [cellOf, roomE, mainE, openE, steelE, farV, up2, sRo, pS]
        exact ih0 (i + 1) _ _ _ _ _ (by omega) hN hP hD hS (lv_sub hl [0, 1] rfl) hfin0
  exact lp0 (n 0) 0 J f _ _ _ (by omega) hCW hP hD hS (lv_sub hl [0, 1] rfl) rfl

set_option maxHeartbeats 4000000 in
set_option maxRecDepth 100000 in
theorem c_Sz_noteLowRooms {l : Launch} {D : va_G} {ct : Nat → ClassId} {AD : Nat → Nat → Nat} {L : List Nat} {f : Nat → va_E} {sz : Nat} {n : Nat → Nat} {I : Nat → Nat → Int32} {J : Nat → Nat → Int64} {P : Nat → Nat → Nat} (hCW : CW ct AD L n I J P f) : Met l y_Sz_noteLowRooms (WS y_Sz_noteLowRooms b_Sz_noteLowRooms 2 none) { frames := 4, cells := 0, slots := 0, locals := 81 } (va_Pc [.ref (AD 9 0)] (WP D (TYS ct) L f sz)) (Xs D (TYS ct) L (AA L f sz) (fun f' => CW ct AD L n (nL J (n 0) 0 I) J P f')) 0 0 (AA L f sz) := by
  refine Met.ofW (cc := b_Sz_noteLowRooms) (maxL := 2) (ret := none) (by decide) rfl ?_
  intro p e s m args below meth c s₁ B hml hv
  obtain ⟨rfl, hsz, hP, hK, hD0⟩ := hv
  subst hsz
  have hx := B.exec
  have hb := B.bytes
  have hret := B.returns
  have hts := atoms_spec (ws := WS y_Sz_noteLowRooms b_Sz_noteLowRooms 2 none) B.pre
  have hG : ∀ w ∈ GW, w.before _ s = true := fun w h => hts w (List.mem_cons_of_mem _ h)
  have hown : s.vm.findClass "SmokeZones" = some m.cls := findClass_of_methodNamed B.named
  have hlocks := B.notSynchronized
  have hD : va_D (AA L f s.heap.size) (va_pl L f) := hD0.self (sz := s.heap.size)
  generalize hAe : AA L f s.heap.size = A at hD ⊢
  have hA : ∀ q : Nat, s.heap.size ≤ q → A q := fun q h => by rw [← hAe]; exact Or.inr h
  have hS : va_S A s.heap s.heap [] := va_S.rf
  have hl := lv_entry ([.ref (AD 9 0)]) (n := 2) (Nat.le_of_ble_eq_true rfl)
  rw [lg_entry_eq]
  generalize (lg_sl ([.ref (AD 9 0)]) ++ List.replicate (2 - (lg_sl ([.ref (AD 9 0)])).length) Slot.unset).toArray = ls at hl ⊢
  have hl : lv_has ls 2 [(0, .ref (AD 9 0))] := hl
  refine lv_iconst (v := 0) hx hb d_Sz_noteLowRooms_0 (by decide) ?_
  refine lv_istore_n (lv' := [(1, .int 0), (0, .ref (AD 9 0))]) hx hb d_Sz_noteLowRooms_1 rfl hl (by decide) rfl (fun ls hl => ?_)
  have lp0 : ∀ (k i : Nat) (I1 : Nat → Nat → Int32) (f1 : Nat → va_E) (H : Heap) (locs : List Loc) (ls : Array Slot), i + k = n 0 → CW ct AD L n I1 J P f1 → va_P D vwCl (va_pl L f1) H → va_D A (va_pl L f1) → va_S A s.heap H locs → lv_has ls 2 [(1, .int (nI i)), (0, .ref (AD 9 0))] → nL J k i I1 = nL J (n 0) 0 I → W p l e (headSpec (WS y_Sz_noteLowRooms b_Sz_noteLowRooms 2 none) { frames := 4, cells := 0, slots := 0, locals := 81 }).room s m [.ref (AD 9 0)].toArray below meth c H locs 0 0 (MQ below (Xs D (TYS ct) L A (fun f' => CW ct AD L n (nL J (n 0) 0 I) J P f')) [.ref (AD 9 0)].toArray s 0 0 A) (F0 m 2 ls []) := by
    intro k
    induction k with
    | zero =>
      intro i I1 f1 H locs ls hik0 hC0 hP hD hS hl hfin0
      have hcap := hC0.cap0
      obtain ⟨g_1L, g_1E⟩ := hC0.ma
      refine lv_iload_n hx hb d_Sz_noteLowRooms_2 rfl (lv_at hl 0 rfl) ?_
      refine lv_aload_n hx hb d_Sz_noteLowRooms_3 rfl (lv_at hl 1 rfl) ?_
      refine pg_get (C := "SmokeZones") (T := T_Sz) (N := 17) hx hb hG in_Sz hown hK hP g_1L g_1E rfl 6 (by decide) (hG _ k41) (fun _ h9 => h9) rfl d_Sz_noteLowRooms_4 ?_
      refine lv_icmp_ge (tgt := 29) hx hb d_Sz_noteLowRooms_7 (by decide) (fun c_2 => ?_) (fun c_2 => ?_)
      · have q0 : I1 = nL J (n 0) 0 I := hfin0
        have hN : CW ct AD L n I1 J P f1 := hC0
        rw [q0] at hN
        exact W.vret hx hb hret (fun t ht hW => ⟨⟨f1, rfl, hN, by rw [ht]; exact hP, va_K.moved hW.alike hK, hD⟩, hS.F ht⟩) hS.2.2 d_Sz_noteLowRooms_29
      · exact (ge_yes (by omega) (by omega) c_2).elim
    | succ k ih0 =>
      intro i I1 f1 H locs ls hik0 hC0 hP hD hS hl hfin0
      have hcap := hC0.cap0
      obtain ⟨g_3L, g_3E⟩ := hC0.ma
      have hi : i < n 0 := by omega
      refine lv_iload_n hx hb d_Sz_noteLowRooms_2 rfl (lv_at hl 0 rfl) ?_
      refine lv_aload_n hx hb d_Sz_noteLowRooms_3 rfl (lv_at hl 1 rfl) ?_
      refine pg_get (C := "SmokeZones") (T := T_Sz) (N := 17) hx hb hG in_Sz hown hK hP g_3L g_3E rfl 6 (by decide) (hG _ k41) (fun _ h9 => h9) rfl d_Sz_noteLowRooms_4 ?_
      refine lv_icmp_ge (tgt := 29) hx hb d_Sz_noteLowRooms_7 (by decide) (fun c_4 => ?_) (fun c_4 => ?_)
      · exact (ge_no hi (by omega) c_4).elim
      · obtain ⟨g_5L, g_5E⟩ := hC0.ro hi
        obtain ⟨g_6L, g_6E⟩ := hC0.a0
        have ne_AD_9_0_AD_0_i : AD 9 0 ≠ AD 0 i := hC0.ne (k := 9) (i := 0) (k' := 0) (i' := i) (lv9) (lv0 (by decide) hi) (by omega)
        have ne_AD_9_0_AD_8_0 : AD 9 0 ≠ AD 8 0 := hC0.ne (k := 9) (i := 0) (k' := 8) (i' := 0) (lv9) (lv8 (by decide)) (by omega)
        have ne_AD_0_i_AD_9_0 : AD 0 i ≠ AD 9 0 := hC0.ne (k := 0) (i := i) (k' := 9) (i' := 0) (lv0 (by decide) hi) (lv9) (by omega)
        have ne_AD_0_i_AD_8_0 : AD 0 i ≠ AD 8 0 := hC0.ne (k := 0) (i := i) (k' := 8) (i' := 0) (lv0 (by decide) hi) (lv8 (by decide)) (by omega)
        have ne_AD_8_0_AD_9_0 : AD 8 0 ≠ AD 9 0 := hC0.ne (k := 8) (i := 0) (k' := 9) (i' := 0) (lv8 (by decide)) (lv9) (by omega)
        have ne_AD_8_0_AD_0_i : AD 8 0 ≠ AD 0 i := hC0.ne (k := 8) (i := 0) (k' := 0) (i' := i) (lv8 (by decide)) (lv0 (by decide) hi) (by omega)
        refine lv_aload_n hx hb d_Sz_noteLowRooms_10 rfl (lv_at hl 1 rfl) ?_
        refine pg_get (C := "SmokeZones") (T := T_Sz) (N := 17) hx hb hG in_Sz hown hK hP g_3L g_3E rfl 0 (by decide) (hG _ k35) (fun _ h9 => h9) rfl d_Sz_noteLowRooms_11 ?_
        refine lv_iload_n hx hb d_Sz_noteLowRooms_14 rfl (lv_at hl 0 rfl) ?_
        refine pg_ald hx hb hK hP 0 g_6L g_6E rfl (vp_in_nI (by omega) (by decide)) (rf_at hi (by omega)) d_Sz_noteLowRooms_15 ?_
        refine lv_aload_n hx hb d_Sz_noteLowRooms_16 rfl (lv_at hl 1 rfl) ?_
        refine pg_get (C := "SmokeZones") (T := T_Sz) (N := 17) hx hb hG in_Sz hown hK hP g_3L g_3E rfl 12 (by decide) (hG _ k47) (fun _ h9 => h9) rfl d_Sz_noteLowRooms_17 ?_
        refine kV_wv (f' := va_up f1 (AD 0 i) (.inr (0, [.int (I1 0 i), .int (I1 1 i), .long (J 0 i), .long (J 1 i), .long (J 2 i), .int (I1 2 i), .int (I1 3 i), .int (m_fl (I1 0 i) (I1 1 i) (J 1 i) (I1 4 i) (I1 99 0))]))) ⟨hx, hb, hml, hown, hG⟩ (c_Ro_noteIfLow g_5L g_5E) (cwV 1 hG (gV k567 k568 k569 k8 k570) rfl rfl rfl hd_Ro_noteIfLow ⟨Nat.le_of_ble_eq_true rfl, Nat.le_of_ble_eq_true rfl⟩) hK hP hD hS hA g_5L g_5E rfl rfl hl.1 rfl (Nat.le_of_ble_eq_true rfl) ⟨Nat.le_of_ble_eq_true rfl, Nat.le_of_ble_eq_true rfl⟩ d_Sz_noteLowRooms_20 (fun H locs hP hD hS => ?_)
        have e_7 : (va_up f1 (AD 0 i) (.inr (0, [.int (I1 0 i), .int (I1 1 i), .long (J 0 i), .long (J 1 i), .long (J 2 i), .int (I1 2 i), .int (I1 3 i), .int (m_fl (I1 0 i) (I1 1 i) (J 1 i) (I1 4 i) (I1 99 0))]))) (AD 0 i) = .inr (0, [.int (I1 0 i), .int (I1 1 i), .long (J 0 i), .long (J 1 i), .long (J 2 i), .int (I1 2 i), .int (I1 3 i), .int (m_fl (I1 0 i) (I1 1 i) (J 1 i) (I1 4 i) (I1 99 0))]) := va_up_self _ _ _
        have e_8 : (va_up f1 (AD 0 i) (.inr (0, [.int (I1 0 i), .int (I1 1 i), .long (J 0 i), .long (J 1 i), .long (J 2 i), .int (I1 2 i), .int (I1 3 i), .int (m_fl (I1 0 i) (I1 1 i) (J 1 i) (I1 4 i) (I1 99 0))]))) (AD 9 0) = .inr (6, [.ref (AD 8 0), .ref (AD 8 1), .ref (AD 8 2), .ref (AD 8 3), .ref (AD 8 4), .ref (AD 8 5), .int (nI (n 0)), .int (nI (n 1)), .int (nI (n 2)), .int (nI (n 3)), .int (nI (n 4)), .int (nI (n 5)), .int (I1 99 0), .long (J 99 0), .long (J 99 1), .long (J 99 2), .long (J 99 3)]) := (va_up_ne _ _ ne_AD_9_0_AD_0_i).trans g_3E
        have e_9 : (va_up f1 (AD 0 i) (.inr (0, [.int (I1 0 i), .int (I1 1 i), .long (J 0 i), .long (J 1 i), .long (J 2 i), .int (I1 2 i), .int (I1 3 i), .int (m_fl (I1 0 i) (I1 1 i) (J 1 i) (I1 4 i) (I1 99 0))]))) (AD 8 0) = .inl (ct 0, 10, .inr (.inr (.inr (.inr (fun j => if j < n 0 then some (AD 0 j) else none))))) := (va_up_ne _ _ ne_AD_8_0_AD_0_i).trans g_6E
        refine lv_iinc (v := nI (i + 1)) (lv' := [(1, .int (nI (i + 1))), (0, .ref (AD 9 0))]) hx hb d_Sz_noteLowRooms_23 hl (k := 0) rfl (nI_1 i) (by decide) rfl (fun ls hl => ?_)
        refine lv_goto (tgt := 2) hx hb d_Sz_noteLowRooms_26 (by decide) ?_
        have hN0 : CW ct AD L n (nS J i I1) J P _ := hC0.set (k := 0) (i := i) (lv0 (by decide) hi) (co_ro (fun a i h => up_hO a i (by omega)) (fun _ _ _ => rfl)) hC0.2.2
        have hN : CW ct AD L n (nS J i I1) J P (va_up f1 (AD 0 i) (.inr (0, [.int (I1 0 i), .int (I1 1 i), .long (J 0 i), .long (J 1 i), .long (J 2 i), .int (I1 2 i), .int (I1 3 i), .int (m_fl (I1 0 i) (I1 1 i) (J 1 i) (I1 4 i) (I1 99 0))]))) := by
          refine cast (congrArg (CW ct AD L n (nS J i I1) J P) ?_) hN0
          simp [cellOf, roomE, mainE, openE, steelE, farV, up2, nS]
        exact ih0 (i + 1) _ _ _ _ _ (by omega) hN hP hD hS (lv_sub hl [0, 1] rfl) hfin0
  exact lp0 (n 0) 0 I f _ _ _ (by omega) hCW hP hD hS (lv_sub hl [0, 1] rfl) rfl

set_option maxHeartbeats 4000000 in
set_option maxRecDepth 100000 in
theorem c_Sz_flowThroughOpenings {l : Launch} {D : va_G} {ct : Nat → ClassId} {AD : Nat → Nat → Nat} {L : List Nat} {f : Nat → va_E} {sz : Nat} {n : Nat → Nat} {I : Nat → Nat → Int32} {J : Nat → Nat → Int64} {P : Nat → Nat → Nat} (hCW : CW ct AD L n I J P f) : Met l y_Sz_flowThroughOpenings (WS y_Sz_flowThroughOpenings b_Sz_flowThroughOpenings 2 none) { frames := 4, cells := 0, slots := 0, locals := 88 } (va_Pc [.ref (AD 9 0)] (WP D (TYS ct) L f sz)) (Xs D (TYS ct) L (AA L f sz) (fun f' => CW ct AD L n I (vL P (n 1) 0 (mL I P (n 1) 0 J)) P f')) 0 0 (AA L f sz) := by
  refine Met.ofW (cc := b_Sz_flowThroughOpenings) (maxL := 2) (ret := none) (by decide) rfl ?_
  intro p e s m args below meth c s₁ B hml hv
  obtain ⟨rfl, hsz, hP, hK, hD0⟩ := hv
  subst hsz
  have hx := B.exec
  have hb := B.bytes
  have hret := B.returns
  have hts := atoms_spec (ws := WS y_Sz_flowThroughOpenings b_Sz_flowThroughOpenings 2 none) B.pre
  have hG : ∀ w ∈ GW, w.before _ s = true := fun w h => hts w (List.mem_cons_of_mem _ h)
  have hown : s.vm.findClass "SmokeZones" = some m.cls := findClass_of_methodNamed B.named
  have hlocks := B.notSynchronized
  have hD : va_D (AA L f s.heap.size) (va_pl L f) := hD0.self (sz := s.heap.size)
  generalize hAe : AA L f s.heap.size = A at hD ⊢
  have hA : ∀ q : Nat, s.heap.size ≤ q → A q := fun q h => by rw [← hAe]; exact Or.inr h
  have hS : va_S A s.heap s.heap [] := va_S.rf
  have hl := lv_entry ([.ref (AD 9 0)]) (n := 2) (Nat.le_of_ble_eq_true rfl)
  rw [lg_entry_eq]
  generalize (lg_sl ([.ref (AD 9 0)]) ++ List.replicate (2 - (lg_sl ([.ref (AD 9 0)])).length) Slot.unset).toArray = ls at hl ⊢
  have hl : lv_has ls 2 [(0, .ref (AD 9 0))] := hl
  refine lv_iconst (v := 0) hx hb d_Sz_flowThroughOpenings_0 (by decide) ?_
  refine lv_istore_n (lv' := [(1, .int 0), (0, .ref (AD 9 0))]) hx hb d_Sz_flowThroughOpenings_1 rfl hl (by decide) rfl (fun ls hl => ?_)
  have lp0 : ∀ (k i : Nat) (J1 : Nat → Nat → Int64) (f1 : Nat → va_E) (H : Heap) (locs : List Loc) (ls : Array Slot), i + k = n 1 → CW ct AD L n I J1 P f1 → va_P D vwCl (va_pl L f1) H → va_D A (va_pl L f1) → va_S A s.heap H locs → lv_has ls 2 [(1, .int (nI i)), (0, .ref (AD 9 0))] → mL I P k i J1 = mL I P (n 1) 0 J → W p l e (headSpec (WS y_Sz_flowThroughOpenings b_Sz_flowThroughOpenings 2 none) { frames := 4, cells := 0, slots := 0, locals := 88 }).room s m [.ref (AD 9 0)].toArray below meth c H locs 0 0 (MQ below (Xs D (TYS ct) L A (fun f' => CW ct AD L n I (vL P (n 1) 0 (mL I P (n 1) 0 J)) P f')) [.ref (AD 9 0)].toArray s 0 0 A) (F0 m 2 ls []) := by
    intro k
    induction k with
    | zero =>
      intro i J1 f1 H locs ls hik0 hC0 hP hD hS hl hfin0
      have hcap := hC0.cap1
      obtain ⟨g_1L, g_1E⟩ := hC0.ma
      refine lv_iload_n hx hb d_Sz_flowThroughOpenings_2 rfl (lv_at hl 0 rfl) ?_
      refine lv_aload_n hx hb d_Sz_flowThroughOpenings_3 rfl (lv_at hl 1 rfl) ?_
      refine pg_get (C := "SmokeZones") (T := T_Sz) (N := 17) hx hb hG in_Sz hown hK hP g_1L g_1E rfl 7 (by decide) (hG _ k42) (fun _ h9 => h9) rfl d_Sz_flowThroughOpenings_4 ?_
      refine lv_icmp_ge (tgt := 25) hx hb d_Sz_flowThroughOpenings_7 (by decide) (fun c_2 => ?_) (fun c_2 => ?_)
      · refine lv_iconst (v := 0) hx hb d_Sz_flowThroughOpenings_25 (by decide) ?_
        refine lv_istore_n (lv' := [(1, .int 0), (0, .ref (AD 9 0))]) hx hb d_Sz_flowThroughOpenings_26 rfl hl (by decide) rfl (fun ls hl => ?_)
        have lp1 : ∀ (k i : Nat) (J2 : Nat → Nat → Int64) (f2 : Nat → va_E) (H : Heap) (locs : List Loc) (ls : Array Slot), i + k = n 1 → CW ct AD L n I J2 P f2 → va_P D vwCl (va_pl L f2) H → va_D A (va_pl L f2) → va_S A s.heap H locs → lv_has ls 2 [(1, .int (nI i)), (0, .ref (AD 9 0))] → vL P k i J2 = vL P (n 1) 0 J1 → W p l e (headSpec (WS y_Sz_flowThroughOpenings b_Sz_flowThroughOpenings 2 none) { frames := 4, cells := 0, slots := 0, locals := 88 }).room s m [.ref (AD 9 0)].toArray below meth c H locs 0 0 (MQ below (Xs D (TYS ct) L A (fun f' => CW ct AD L n I (vL P (n 1) 0 (mL I P (n 1) 0 J)) P f')) [.ref (AD 9 0)].toArray s 0 0 A) (F0 m 27 ls []) := by
          intro k
          induction k with
          | zero =>
            intro i J2 f2 H locs ls hik1 hC1 hP hD hS hl hfin1
            have hcap := hC1.cap1
            obtain ⟨g_3L, g_3E⟩ := hC1.ma
            refine lv_iload_n hx hb d_Sz_flowThroughOpenings_27 rfl (lv_at hl 0 rfl) ?_
            refine lv_aload_n hx hb d_Sz_flowThroughOpenings_28 rfl (lv_at hl 1 rfl) ?_
            refine pg_get (C := "SmokeZones") (T := T_Sz) (N := 17) hx hb hG in_Sz hown hK hP g_3L g_3E rfl 7 (by decide) (hG _ k42) (fun _ h9 => h9) rfl d_Sz_flowThroughOpenings_29 ?_
            refine lv_icmp_ge (tgt := 59) hx hb d_Sz_flowThroughOpenings_32 (by decide) (fun c_4 => ?_) (fun c_4 => ?_)
            · have q0 : J1 = mL I P (n 1) 0 J := hfin0
              have q1 : J2 = vL P (n 1) 0 J1 := hfin1
              have hN : CW ct AD L n I J2 P f2 := hC1
              rw [q1, q0] at hN
              exact W.vret hx hb hret (fun t ht hW => ⟨⟨f2, rfl, hN, by rw [ht]; exact hP, va_K.moved hW.alike hK, hD⟩, hS.F ht⟩) hS.2.2 d_Sz_flowThroughOpenings_59
            · exact (ge_yes (by omega) (by omega) c_4).elim
          | succ k ih1 =>
            intro i J2 f2 H locs ls hik1 hC1 hP hD hS hl hfin1
            have hcap := hC1.cap1
            obtain ⟨g_5L, g_5E⟩ := hC1.ma
            have hi : i < n 1 := by omega
            refine lv_iload_n hx hb d_Sz_flowThroughOpenings_27 rfl (lv_at hl 0 rfl) ?_
            refine lv_aload_n hx hb d_Sz_flowThroughOpenings_28 rfl (lv_at hl 1 rfl) ?_
            refine pg_get (C := "SmokeZones") (T := T_Sz) (N := 17) hx hb hG in_Sz hown hK hP g_5L g_5E rfl 7 (by decide) (hG _ k42) (fun _ h9 => h9) rfl d_Sz_flowThroughOpenings_29 ?_
            refine lv_icmp_ge (tgt := 59) hx hb d_Sz_flowThroughOpenings_32 (by decide) (fun c_6 => ?_) (fun c_6 => ?_)
            · exact (ge_no hi (by omega) c_6).elim
            · obtain ⟨hr, hg2, hgr⟩ := hC1.2.2.2.1 i hi
              have hc0 := hC1.cap0
              obtain ⟨g_7L, g_7E0⟩ := hC1.op hi
              rcases hp2 : P 2 i with _ | g
              · have g_7E : f2 (AD 1 i) = .inr (1, [.ref (AD 0 (P 1 i)), .null, .int (I 12 i), .int (I 13 i), .int (I 14 i), .int (I 15 i), .int (I 16 i), .long (J2 10 i), .long (J2 11 i), .long (J2 12 i)]) := by rw [g_7E0, hp2]; rfl
                obtain ⟨g_8L, g_8E⟩ := hC1.ro hr
                obtain ⟨g_9L, g_9E⟩ := hC1.a1
                have ne_AD_9_0_AD_1_i : AD 9 0 ≠ AD 1 i := hC1.ne (k := 9) (i := 0) (k' := 1) (i' := i) (lv9) (lv0 (by decide) hi) (by omega)
                have ne_AD_9_0_AD_0_P_1_i : AD 9 0 ≠ AD 0 (P 1 i) := hC1.ne (k := 9) (i := 0) (k' := 0) (i' := (P 1 i)) (lv9) (lv0 (by decide) hr) (by omega)
                have ne_AD_9_0_AD_8_1 : AD 9 0 ≠ AD 8 1 := hC1.ne (k := 9) (i := 0) (k' := 8) (i' := 1) (lv9) (lv8 (by decide)) (by omega)
                have ne_AD_1_i_AD_9_0 : AD 1 i ≠ AD 9 0 := hC1.ne (k := 1) (i := i) (k' := 9) (i' := 0) (lv0 (by decide) hi) (lv9) (by omega)
                have ne_AD_1_i_AD_0_P_1_i : AD 1 i ≠ AD 0 (P 1 i) := hC1.ne (k := 1) (i := i) (k' := 0) (i' := (P 1 i)) (lv0 (by decide) hi) (lv0 (by decide) hr) (by omega)
                have ne_AD_1_i_AD_8_1 : AD 1 i ≠ AD 8 1 := hC1.ne (k := 1) (i := i) (k' := 8) (i' := 1) (lv0 (by decide) hi) (lv8 (by decide)) (by omega)
                have ne_AD_0_P_1_i_AD_9_0 : AD 0 (P 1 i) ≠ AD 9 0 := hC1.ne (k := 0) (i := (P 1 i)) (k' := 9) (i' := 0) (lv0 (by decide) hr) (lv9) (by omega)
                have ne_AD_0_P_1_i_AD_1_i : AD 0 (P 1 i) ≠ AD 1 i := hC1.ne (k := 0) (i := (P 1 i)) (k' := 1) (i' := i) (lv0 (by decide) hr) (lv0 (by decide) hi) (by omega)
                have ne_AD_0_P_1_i_AD_8_1 : AD 0 (P 1 i) ≠ AD 8 1 := hC1.ne (k := 0) (i := (P 1 i)) (k' := 8) (i' := 1) (lv0 (by decide) hr) (lv8 (by decide)) (by omega)
                have ne_AD_8_1_AD_9_0 : AD 8 1 ≠ AD 9 0 := hC1.ne (k := 8) (i := 1) (k' := 9) (i' := 0) (lv8 (by decide)) (lv9) (by omega)
                have ne_AD_8_1_AD_1_i : AD 8 1 ≠ AD 1 i := hC1.ne (k := 8) (i := 1) (k' := 1) (i' := i) (lv8 (by decide)) (lv0 (by decide) hi) (by omega)
                have ne_AD_8_1_AD_0_P_1_i : AD 8 1 ≠ AD 0 (P 1 i) := hC1.ne (k := 8) (i := 1) (k' := 0) (i' := (P 1 i)) (lv8 (by decide)) (lv0 (by decide) hr) (by omega)
                refine lv_aload_n hx hb d_Sz_flowThroughOpenings_35 rfl (lv_at hl 1 rfl) ?_
                refine lv_dup hx hb d_Sz_flowThroughOpenings_36 rfl ?_
                refine pg_get (C := "SmokeZones") (T := T_Sz) (N := 17) hx hb hG in_Sz hown hK hP g_5L g_5E rfl 14 (by decide) (hG _ k49) (fun _ h9 => h9) rfl d_Sz_flowThroughOpenings_37 ?_
                refine lv_aload_n hx hb d_Sz_flowThroughOpenings_40 rfl (lv_at hl 1 rfl) ?_
                refine pg_get (C := "SmokeZones") (T := T_Sz) (N := 17) hx hb hG in_Sz hown hK hP g_5L g_5E rfl 1 (by decide) (hG _ k36) (fun _ h9 => h9) rfl d_Sz_flowThroughOpenings_41 ?_
                refine lv_iload_n hx hb d_Sz_flowThroughOpenings_44 rfl (lv_at hl 0 rfl) ?_
                refine pg_ald hx hb hK hP 1 g_9L g_9E rfl (vp_in_nI (by omega) (by decide)) (rf_at hi (by omega)) d_Sz_flowThroughOpenings_45 ?_
                refine kV_wl (f' := va_up (va_up f2 (AD 1 i) (.inr (1, [.ref (AD 0 (P 1 i)), .null, .int (I 12 i), .int (I 13 i), .int (I 14 i), .int (I 15 i), .int (I 16 i), .long (J2 10 i), .long (J2 11 i), .long ((J2 12 i) + m_abs (J2 10 i))]))) (AD 0 (P 1 i)) (.inr (0, [.int (I 0 (P 1 i)), .int (I 1 (P 1 i)), .long (J2 0 (P 1 i)), .long ((J2 1 (P 1 i)) + -(J2 10 i)), .long ((J2 2 (P 1 i)) + m_nh (J2 10 i) (J2 11 i)), .int (I 2 (P 1 i)), .int (I 3 (P 1 i)), .int (I 4 (P 1 i))]))) ⟨hx, hb, hml, hown, hG⟩ (c_Op_moveFlow_n g_7L g_7E g_8L g_8E) (cwV 0 hG (gV k491 k492 k493 k9 k494) rfl rfl rfl hd_Op_moveFlow ⟨Nat.le_of_ble_eq_true rfl, Nat.le_of_ble_eq_true rfl⟩) hK hP hD hS hA g_7L g_7E rfl rfl hl.1 rfl (Nat.le_of_ble_eq_true rfl) ⟨Nat.le_of_ble_eq_true rfl, Nat.le_of_ble_eq_true rfl⟩ d_Sz_flowThroughOpenings_46 (fun H locs hP hD hS => ?_)
                have e_10 : (va_up f2 (AD 1 i) (.inr (1, [.ref (AD 0 (P 1 i)), .null, .int (I 12 i), .int (I 13 i), .int (I 14 i), .int (I 15 i), .int (I 16 i), .long (J2 10 i), .long (J2 11 i), .long ((J2 12 i) + m_abs (J2 10 i))]))) (AD 1 i) = .inr (1, [.ref (AD 0 (P 1 i)), .null, .int (I 12 i), .int (I 13 i), .int (I 14 i), .int (I 15 i), .int (I 16 i), .long (J2 10 i), .long (J2 11 i), .long ((J2 12 i) + m_abs (J2 10 i))]) := va_up_self _ _ _
                have e_11 : (va_up f2 (AD 1 i) (.inr (1, [.ref (AD 0 (P 1 i)), .null, .int (I 12 i), .int (I 13 i), .int (I 14 i), .int (I 15 i), .int (I 16 i), .long (J2 10 i), .long (J2 11 i), .long ((J2 12 i) + m_abs (J2 10 i))]))) (AD 9 0) = .inr (6, [.ref (AD 8 0), .ref (AD 8 1), .ref (AD 8 2), .ref (AD 8 3), .ref (AD 8 4), .ref (AD 8 5), .int (nI (n 0)), .int (nI (n 1)), .int (nI (n 2)), .int (nI (n 3)), .int (nI (n 4)), .int (nI (n 5)), .int (I 99 0), .long (J2 99 0), .long (J2 99 1), .long (J2 99 2), .long (J2 99 3)]) := (va_up_ne _ _ ne_AD_9_0_AD_1_i).trans g_5E
                have e_12 : (va_up f2 (AD 1 i) (.inr (1, [.ref (AD 0 (P 1 i)), .null, .int (I 12 i), .int (I 13 i), .int (I 14 i), .int (I 15 i), .int (I 16 i), .long (J2 10 i), .long (J2 11 i), .long ((J2 12 i) + m_abs (J2 10 i))]))) (AD 0 (P 1 i)) = .inr (0, [.int (I 0 (P 1 i)), .int (I 1 (P 1 i)), .long (J2 0 (P 1 i)), .long (J2 1 (P 1 i)), .long (J2 2 (P 1 i)), .int (I 2 (P 1 i)), .int (I 3 (P 1 i)), .int (I 4 (P 1 i))]) := (va_up_ne _ _ ne_AD_0_P_1_i_AD_1_i).trans g_8E
                have e_13 : (va_up f2 (AD 1 i) (.inr (1, [.ref (AD 0 (P 1 i)), .null, .int (I 12 i), .int (I 13 i), .int (I 14 i), .int (I 15 i), .int (I 16 i), .long (J2 10 i), .long (J2 11 i), .long ((J2 12 i) + m_abs (J2 10 i))]))) (AD 8 1) = .inl (ct 1, 15, .inr (.inr (.inr (.inr (fun j => if j < n 1 then some (AD 1 j) else none))))) := (va_up_ne _ _ ne_AD_8_1_AD_1_i).trans g_9E
                have e_14 : (va_up (va_up f2 (AD 1 i) (.inr (1, [.ref (AD 0 (P 1 i)), .null, .int (I 12 i), .int (I 13 i), .int (I 14 i), .int (I 15 i), .int (I 16 i), .long (J2 10 i), .long (J2 11 i), .long ((J2 12 i) + m_abs (J2 10 i))]))) (AD 0 (P 1 i)) (.inr (0, [.int (I 0 (P 1 i)), .int (I 1 (P 1 i)), .long (J2 0 (P 1 i)), .long ((J2 1 (P 1 i)) + -(J2 10 i)), .long ((J2 2 (P 1 i)) + m_nh (J2 10 i) (J2 11 i)), .int (I 2 (P 1 i)), .int (I 3 (P 1 i)), .int (I 4 (P 1 i))]))) (AD 0 (P 1 i)) = .inr (0, [.int (I 0 (P 1 i)), .int (I 1 (P 1 i)), .long (J2 0 (P 1 i)), .long ((J2 1 (P 1 i)) + -(J2 10 i)), .long ((J2 2 (P 1 i)) + m_nh (J2 10 i) (J2 11 i)), .int (I 2 (P 1 i)), .int (I 3 (P 1 i)), .int (I 4 (P 1 i))]) := va_up_self _ _ _
                have e_15 : (va_up (va_up f2 (AD 1 i) (.inr (1, [.ref (AD 0 (P 1 i)), .null, .int (I 12 i), .int (I 13 i), .int (I 14 i), .int (I 15 i), .int (I 16 i), .long (J2 10 i), .long (J2 11 i), .long ((J2 12 i) + m_abs (J2 10 i))]))) (AD 0 (P 1 i)) (.inr (0, [.int (I 0 (P 1 i)), .int (I 1 (P 1 i)), .long (J2 0 (P 1 i)), .long ((J2 1 (P 1 i)) + -(J2 10 i)), .long ((J2 2 (P 1 i)) + m_nh (J2 10 i) (J2 11 i)), .int (I 2 (P 1 i)), .int (I 3 (P 1 i)), .int (I 4 (P 1 i))]))) (AD 9 0) = .inr (6, [.ref (AD 8 0), .ref (AD 8 1), .ref (AD 8 2), .ref (AD 8 3), .ref (AD 8 4), .ref (AD 8 5), .int (nI (n 0)), .int (nI (n 1)), .int (nI (n 2)), .int (nI (n 3)), .int (nI (n 4)), .int (nI (n 5)), .int (I 99 0), .long (J2 99 0), .long (J2 99 1), .long (J2 99 2), .long (J2 99 3)]) := (va_up_ne _ _ ne_AD_9_0_AD_0_P_1_i).trans e_11
                have e_16 : (va_up (va_up f2 (AD 1 i) (.inr (1, [.ref (AD 0 (P 1 i)), .null, .int (I 12 i), .int (I 13 i), .int (I 14 i), .int (I 15 i), .int (I 16 i), .long (J2 10 i), .long (J2 11 i), .long ((J2 12 i) + m_abs (J2 10 i))]))) (AD 0 (P 1 i)) (.inr (0, [.int (I 0 (P 1 i)), .int (I 1 (P 1 i)), .long (J2 0 (P 1 i)), .long ((J2 1 (P 1 i)) + -(J2 10 i)), .long ((J2 2 (P 1 i)) + m_nh (J2 10 i) (J2 11 i)), .int (I 2 (P 1 i)), .int (I 3 (P 1 i)), .int (I 4 (P 1 i))]))) (AD 1 i) = .inr (1, [.ref (AD 0 (P 1 i)), .null, .int (I 12 i), .int (I 13 i), .int (I 14 i), .int (I 15 i), .int (I 16 i), .long (J2 10 i), .long (J2 11 i), .long ((J2 12 i) + m_abs (J2 10 i))]) := (va_up_ne _ _ ne_AD_1_i_AD_0_P_1_i).trans e_10
                have e_17 : (va_up (va_up f2 (AD 1 i) (.inr (1, [.ref (AD 0 (P 1 i)), .null, .int (I 12 i), .int (I 13 i), .int (I 14 i), .int (I 15 i), .int (I 16 i), .long (J2 10 i), .long (J2 11 i), .long ((J2 12 i) + m_abs (J2 10 i))]))) (AD 0 (P 1 i)) (.inr (0, [.int (I 0 (P 1 i)), .int (I 1 (P 1 i)), .long (J2 0 (P 1 i)), .long ((J2 1 (P 1 i)) + -(J2 10 i)), .long ((J2 2 (P 1 i)) + m_nh (J2 10 i) (J2 11 i)), .int (I 2 (P 1 i)), .int (I 3 (P 1 i)), .int (I 4 (P 1 i))]))) (AD 8 1) = .inl (ct 1, 15, .inr (.inr (.inr (.inr (fun j => if j < n 1 then some (AD 1 j) else none))))) := (va_up_ne _ _ ne_AD_8_1_AD_0_P_1_i).trans e_13
                refine lv_ladd hx hb d_Sz_flowThroughOpenings_49 ?_
                refine pg_put (C := "SmokeZones") (T := T_Sz) (N := 17) (ty := .long) hx hb hG in_Sz ty_Sz ok_Sz nm_Sz hown hK hP hD hS g_5L e_15 rfl 14 (by decide) (hG _ k49) (fun _ h9 => h9) rfl (by decide +kernel) rfl rfl (Nat.le_of_ble_eq_true rfl) d_Sz_flowThroughOpenings_50 (fun H locs hP hD hS => ?_)
                have hP : va_P D vwCl (va_pl (L) (va_up (va_up (va_up f2 (AD 1 i) (.inr (1, [.ref (AD 0 (P 1 i)), .null, .int (I 12 i), .int (I 13 i), .int (I 14 i), .int (I 15 i), .int (I 16 i), .long (J2 10 i), .long (J2 11 i), .long ((J2 12 i) + m_abs (J2 10 i))]))) (AD 0 (P 1 i)) (.inr (0, [.int (I 0 (P 1 i)), .int (I 1 (P 1 i)), .long (J2 0 (P 1 i)), .long ((J2 1 (P 1 i)) + -(J2 10 i)), .long ((J2 2 (P 1 i)) + m_nh (J2 10 i) (J2 11 i)), .int (I 2 (P 1 i)), .int (I 3 (P 1 i)), .int (I 4 (P 1 i))]))) (AD 9 0) (.inr (6, [.ref (AD 8 0), .ref (AD 8 1), .ref (AD 8 2), .ref (AD 8 3), .ref (AD 8 4), .ref (AD 8 5), .int (nI (n 0)), .int (nI (n 1)), .int (nI (n 2)), .int (nI (n 3)), .int (nI (n 4)), .int (nI (n 5)), .int (I 99 0), .long (J2 99 0), .long ((J2 99 1) + (J2 10 i)), .long (J2 99 2), .long (J2 99 3)])))) H := hP
                have hD : va_D A (va_pl (L) (va_up (va_up (va_up f2 (AD 1 i) (.inr (1, [.ref (AD 0 (P 1 i)), .null, .int (I 12 i), .int (I 13 i), .int (I 14 i), .int (I 15 i), .int (I 16 i), .long (J2 10 i), .long (J2 11 i), .long ((J2 12 i) + m_abs (J2 10 i))]))) (AD 0 (P 1 i)) (.inr (0, [.int (I 0 (P 1 i)), .int (I 1 (P 1 i)), .long (J2 0 (P 1 i)), .long ((J2 1 (P 1 i)) + -(J2 10 i)), .long ((J2 2 (P 1 i)) + m_nh (J2 10 i) (J2 11 i)), .int (I 2 (P 1 i)), .int (I 3 (P 1 i)), .int (I 4 (P 1 i))]))) (AD 9 0) (.inr (6, [.ref (AD 8 0), .ref (AD 8 1), .ref (AD 8 2), .ref (AD 8 3), .ref (AD 8 4), .ref (AD 8 5), .int (nI (n 0)), .int (nI (n 1)), .int (nI (n 2)), .int (nI (n 3)), .int (nI (n 4)), .int (nI (n 5)), .int (I 99 0), .long (J2 99 0), .long ((J2 99 1) + (J2 10 i)), .long (J2 99 2), .long (J2 99 3)])))) := hD
                have e_18 : (va_up (va_up (va_up f2 (AD 1 i) (.inr (1, [.ref (AD 0 (P 1 i)), .null, .int (I 12 i), .int (I 13 i), .int (I 14 i), .int (I 15 i), .int (I 16 i), .long (J2 10 i), .long (J2 11 i), .long ((J2 12 i) + m_abs (J2 10 i))]))) (AD 0 (P 1 i)) (.inr (0, [.int (I 0 (P 1 i)), .int (I 1 (P 1 i)), .long (J2 0 (P 1 i)), .long ((J2 1 (P 1 i)) + -(J2 10 i)), .long ((J2 2 (P 1 i)) + m_nh (J2 10 i) (J2 11 i)), .int (I 2 (P 1 i)), .int (I 3 (P 1 i)), .int (I 4 (P 1 i))]))) (AD 9 0) (.inr (6, [.ref (AD 8 0), .ref (AD 8 1), .ref (AD 8 2), .ref (AD 8 3), .ref (AD 8 4), .ref (AD 8 5), .int (nI (n 0)), .int (nI (n 1)), .int (nI (n 2)), .int (nI (n 3)), .int (nI (n 4)), .int (nI (n 5)), .int (I 99 0), .long (J2 99 0), .long ((J2 99 1) + (J2 10 i)), .long (J2 99 2), .long (J2 99 3)]))) (AD 9 0) = .inr (6, [.ref (AD 8 0), .ref (AD 8 1), .ref (AD 8 2), .ref (AD 8 3), .ref (AD 8 4), .ref (AD 8 5), .int (nI (n 0)), .int (nI (n 1)), .int (nI (n 2)), .int (nI (n 3)), .int (nI (n 4)), .int (nI (n 5)), .int (I 99 0), .long (J2 99 0), .long ((J2 99 1) + (J2 10 i)), .long (J2 99 2), .long (J2 99 3)]) := va_up_self _ _ _
                have e_19 : (va_up (va_up (va_up f2 (AD 1 i) (.inr (1, [.ref (AD 0 (P 1 i)), .null, .int (I 12 i), .int (I 13 i), .int (I 14 i), .int (I 15 i), .int (I 16 i), .long (J2 10 i), .long (J2 11 i), .long ((J2 12 i) + m_abs (J2 10 i))]))) (AD 0 (P 1 i)) (.inr (0, [.int (I 0 (P 1 i)), .int (I 1 (P 1 i)), .long (J2 0 (P 1 i)), .long ((J2 1 (P 1 i)) + -(J2 10 i)), .long ((J2 2 (P 1 i)) + m_nh (J2 10 i) (J2 11 i)), .int (I 2 (P 1 i)), .int (I 3 (P 1 i)), .int (I 4 (P 1 i))]))) (AD 9 0) (.inr (6, [.ref (AD 8 0), .ref (AD 8 1), .ref (AD 8 2), .ref (AD 8 3), .ref (AD 8 4), .ref (AD 8 5), .int (nI (n 0)), .int (nI (n 1)), .int (nI (n 2)), .int (nI (n 3)), .int (nI (n 4)), .int (nI (n 5)), .int (I 99 0), .long (J2 99 0), .long ((J2 99 1) + (J2 10 i)), .long (J2 99 2), .long (J2 99 3)]))) (AD 1 i) = .inr (1, [.ref (AD 0 (P 1 i)), .null, .int (I 12 i), .int (I 13 i), .int (I 14 i), .int (I 15 i), .int (I 16 i), .long (J2 10 i), .long (J2 11 i), .long ((J2 12 i) + m_abs (J2 10 i))]) := (va_up_ne _ _ ne_AD_1_i_AD_9_0).trans e_16
                have e_20 : (va_up (va_up (va_up f2 (AD 1 i) (.inr (1, [.ref (AD 0 (P 1 i)), .null, .int (I 12 i), .int (I 13 i), .int (I 14 i), .int (I 15 i), .int (I 16 i), .long (J2 10 i), .long (J2 11 i), .long ((J2 12 i) + m_abs (J2 10 i))]))) (AD 0 (P 1 i)) (.inr (0, [.int (I 0 (P 1 i)), .int (I 1 (P 1 i)), .long (J2 0 (P 1 i)), .long ((J2 1 (P 1 i)) + -(J2 10 i)), .long ((J2 2 (P 1 i)) + m_nh (J2 10 i) (J2 11 i)), .int (I 2 (P 1 i)), .int (I 3 (P 1 i)), .int (I 4 (P 1 i))]))) (AD 9 0) (.inr (6, [.ref (AD 8 0), .ref (AD 8 1), .ref (AD 8 2), .ref (AD 8 3), .ref (AD 8 4), .ref (AD 8 5), .int (nI (n 0)), .int (nI (n 1)), .int (nI (n 2)), .int (nI (n 3)), .int (nI (n 4)), .int (nI (n 5)), .int (I 99 0), .long (J2 99 0), .long ((J2 99 1) + (J2 10 i)), .long (J2 99 2), .long (J2 99 3)]))) (AD 0 (P 1 i)) = .inr (0, [.int (I 0 (P 1 i)), .int (I 1 (P 1 i)), .long (J2 0 (P 1 i)), .long ((J2 1 (P 1 i)) + -(J2 10 i)), .long ((J2 2 (P 1 i)) + m_nh (J2 10 i) (J2 11 i)), .int (I 2 (P 1 i)), .int (I 3 (P 1 i)), .int (I 4 (P 1 i))]) := (va_up_ne _ _ ne_AD_0_P_1_i_AD_9_0).trans e_14
                have e_21 : (va_up (va_up (va_up f2 (AD 1 i) (.inr (1, [.ref (AD 0 (P 1 i)), .null, .int (I 12 i), .int (I 13 i), .int (I 14 i), .int (I 15 i), .int (I 16 i), .long (J2 10 i), .long (J2 11 i), .long ((J2 12 i) + m_abs (J2 10 i))]))) (AD 0 (P 1 i)) (.inr (0, [.int (I 0 (P 1 i)), .int (I 1 (P 1 i)), .long (J2 0 (P 1 i)), .long ((J2 1 (P 1 i)) + -(J2 10 i)), .long ((J2 2 (P 1 i)) + m_nh (J2 10 i) (J2 11 i)), .int (I 2 (P 1 i)), .int (I 3 (P 1 i)), .int (I 4 (P 1 i))]))) (AD 9 0) (.inr (6, [.ref (AD 8 0), .ref (AD 8 1), .ref (AD 8 2), .ref (AD 8 3), .ref (AD 8 4), .ref (AD 8 5), .int (nI (n 0)), .int (nI (n 1)), .int (nI (n 2)), .int (nI (n 3)), .int (nI (n 4)), .int (nI (n 5)), .int (I 99 0), .long (J2 99 0), .long ((J2 99 1) + (J2 10 i)), .long (J2 99 2), .long (J2 99 3)]))) (AD 8 1) = .inl (ct 1, 15, .inr (.inr (.inr (.inr (fun j => if j < n 1 then some (AD 1 j) else none))))) := (va_up_ne _ _ ne_AD_8_1_AD_9_0).trans e_17
                refine lv_iinc (v := nI (i + 1)) (lv' := [(1, .int (nI (i + 1))), (0, .ref (AD 9 0))]) hx hb d_Sz_flowThroughOpenings_53 hl (k := 0) rfl (nI_1 i) (by decide) rfl (fun ls hl => ?_)
                refine lv_goto (tgt := 27) hx hb d_Sz_flowThroughOpenings_56 (by decide) ?_
                have hvs : vS P i J2 = up2 (sRo (up2 J2 12 i (J2 12 i + m_abs (J2 10 i))) (P 1 i) (J2 1 (P 1 i) + -(J2 10 i)) (J2 2 (P 1 i) + m_nh (J2 10 i) (J2 11 i))) 99 1 (J2 99 1 + J2 10 i) := by simp only [vS, hp2]
                have hN0 : CW ct AD L n I (up2 J2 12 i (J2 12 i + m_abs (J2 10 i))) P _ := hC1.set (k := 1) (i := i) (lv0 (by decide) hi) (co_op (fun _ _ _ => rfl) (fun a b h => up_hO a b (by omega))) hC1.2.2
                have hN1 : CW ct AD L n I (sRo (up2 J2 12 i (J2 12 i + m_abs (J2 10 i))) (P 1 i) (J2 1 (P 1 i) + -(J2 10 i)) (J2 2 (P 1 i) + m_nh (J2 10 i) (J2 11 i))) P _ := hN0.set (k := 0) (i := (P 1 i)) (lv0 (by decide) hr) (co_ro (fun _ _ _ => rfl) sRo_hJ) hC1.2.2
                have hN2 : CW ct AD L n I (up2 (sRo (up2 J2 12 i (J2 12 i + m_abs (J2 10 i))) (P 1 i) (J2 1 (P 1 i) + -(J2 10 i)) (J2 2 (P 1 i) + m_nh (J2 10 i) (J2 11 i))) 99 1 (J2 99 1 + J2 10 i)) P _ := hN1.set (k := 9) (i := 0) (lv9) (co_ma (fun _ _ _ => rfl) t99_hJ) hC1.2.2
                have hN : CW ct AD L n I (up2 (sRo (up2 J2 12 i (J2 12 i + m_abs (J2 10 i))) (P 1 i) (J2 1 (P 1 i) + -(J2 10 i)) (J2 2 (P 1 i) + m_nh (J2 10 i) (J2 11 i))) 99 1 (J2 99 1 + J2 10 i)) P (va_up (va_up (va_up f2 (AD 1 i) (.inr (1, [.ref (AD 0 (P 1 i)), .null, .int (I 12 i), .int (I 13 i), .int (I 14 i), .int (I 15 i), .int (I 16 i), .long (J2 10 i), .long (J2 11 i), .long ((J2 12 i) + m_abs (J2 10 i))]))) (AD 0 (P 1 i)) (.inr (0, [.int (I 0 (P 1 i)), .int (I 1 (P 1 i)), .long (J2 0 (P 1 i)), .long ((J2 1 (P 1 i)) + -(J2 10 i)), .long ((J2 2 (P 1 i)) + m_nh (J2 10 i) (J2 11 i)), .int (I 2 (P 1 i)), .int (I 3 (P 1 i)), .int (I 4 (P 1 i))]))) (AD 9 0) (.inr (6, [.ref (AD 8 0), .ref (AD 8 1), .ref (AD 8 2), .ref (AD 8 3), .ref (AD 8 4), .ref (AD 8 5), .int (nI (n 0)), .int (nI (n 1)), .int (nI (n 2)), .int (nI (n 3)), .int (nI (n 4)), .int (nI (n 5)), .int (I 99 0), .long (J2 99 0), .long ((J2 99 1) + (J2 10 i)), .long (J2 99 2), .long (J2 99 3)]))) := by
                  refine cast (congrArg (CW ct AD L n I (up2 (sRo (up2 J2 12 i (J2 12 i + m_abs (J2 10 i))) (P 1 i) (J2 1 (P 1 i) + -(J2 10 i)) (J2 2 (P 1 i) + m_nh (J2 10 i) (J2 11 i))) 99 1 (J2 99 1 + J2 10 i)) P) ?_) hN2
                  simp [cellOf, roomE, mainE, openE, steelE, farV, up2, sRo, hp2]
                rw [← hvs] at hN
                exact ih1 (i + 1) _ _ _ _ _ (by omega) hN hP hD hS (lv_sub hl [0, 1] rfl) hfin1
              · have g_7E : f2 (AD 1 i) = .inr (1, [.ref (AD 0 (P 1 i)), .ref (AD 0 g), .int (I 12 i), .int (I 13 i), .int (I 14 i), .int (I 15 i), .int (I 16 i), .long (J2 10 i), .long (J2 11 i), .long (J2 12 i)]) := by rw [g_7E0, hp2]; rfl
                obtain ⟨g_22L, g_22E⟩ := hC1.ro hr
                have hg : g < n 0 := by omega
                obtain ⟨g_23L, g_23E⟩ := hC1.ro hg
                obtain ⟨g_24L, g_24E⟩ := hC1.a1
                have ne_AD_9_0_AD_1_i : AD 9 0 ≠ AD 1 i := hC1.ne (k := 9) (i := 0) (k' := 1) (i' := i) (lv9) (lv0 (by decide) hi) (by omega)
                have ne_AD_9_0_AD_0_P_1_i : AD 9 0 ≠ AD 0 (P 1 i) := hC1.ne (k := 9) (i := 0) (k' := 0) (i' := (P 1 i)) (lv9) (lv0 (by decide) hr) (by omega)
                have ne_AD_9_0_AD_0_g : AD 9 0 ≠ AD 0 g := hC1.ne (k := 9) (i := 0) (k' := 0) (i' := g) (lv9) (lv0 (by decide) hg) (by omega)
                have ne_AD_9_0_AD_8_1 : AD 9 0 ≠ AD 8 1 := hC1.ne (k := 9) (i := 0) (k' := 8) (i' := 1) (lv9) (lv8 (by decide)) (by omega)
                have ne_AD_1_i_AD_9_0 : AD 1 i ≠ AD 9 0 := hC1.ne (k := 1) (i := i) (k' := 9) (i' := 0) (lv0 (by decide) hi) (lv9) (by omega)
                have ne_AD_1_i_AD_0_P_1_i : AD 1 i ≠ AD 0 (P 1 i) := hC1.ne (k := 1) (i := i) (k' := 0) (i' := (P 1 i)) (lv0 (by decide) hi) (lv0 (by decide) hr) (by omega)
                have ne_AD_1_i_AD_0_g : AD 1 i ≠ AD 0 g := hC1.ne (k := 1) (i := i) (k' := 0) (i' := g) (lv0 (by decide) hi) (lv0 (by decide) hg) (by omega)
                have ne_AD_1_i_AD_8_1 : AD 1 i ≠ AD 8 1 := hC1.ne (k := 1) (i := i) (k' := 8) (i' := 1) (lv0 (by decide) hi) (lv8 (by decide)) (by omega)
                have ne_AD_0_P_1_i_AD_9_0 : AD 0 (P 1 i) ≠ AD 9 0 := hC1.ne (k := 0) (i := (P 1 i)) (k' := 9) (i' := 0) (lv0 (by decide) hr) (lv9) (by omega)
                have ne_AD_0_P_1_i_AD_1_i : AD 0 (P 1 i) ≠ AD 1 i := hC1.ne (k := 0) (i := (P 1 i)) (k' := 1) (i' := i) (lv0 (by decide) hr) (lv0 (by decide) hi) (by omega)
                have ne_AD_0_P_1_i_AD_0_g : AD 0 (P 1 i) ≠ AD 0 g := hC1.ne (k := 0) (i := (P 1 i)) (k' := 0) (i' := g) (lv0 (by decide) hr) (lv0 (by decide) hg) (by omega)
                have ne_AD_0_P_1_i_AD_8_1 : AD 0 (P 1 i) ≠ AD 8 1 := hC1.ne (k := 0) (i := (P 1 i)) (k' := 8) (i' := 1) (lv0 (by decide) hr) (lv8 (by decide)) (by omega)
                have ne_AD_0_g_AD_9_0 : AD 0 g ≠ AD 9 0 := hC1.ne (k := 0) (i := g) (k' := 9) (i' := 0) (lv0 (by decide) hg) (lv9) (by omega)
                have ne_AD_0_g_AD_1_i : AD 0 g ≠ AD 1 i := hC1.ne (k := 0) (i := g) (k' := 1) (i' := i) (lv0 (by decide) hg) (lv0 (by decide) hi) (by omega)
                have ne_AD_0_g_AD_0_P_1_i : AD 0 g ≠ AD 0 (P 1 i) := hC1.ne (k := 0) (i := g) (k' := 0) (i' := (P 1 i)) (lv0 (by decide) hg) (lv0 (by decide) hr) (by omega)
                have ne_AD_0_g_AD_8_1 : AD 0 g ≠ AD 8 1 := hC1.ne (k := 0) (i := g) (k' := 8) (i' := 1) (lv0 (by decide) hg) (lv8 (by decide)) (by omega)
                have ne_AD_8_1_AD_9_0 : AD 8 1 ≠ AD 9 0 := hC1.ne (k := 8) (i := 1) (k' := 9) (i' := 0) (lv8 (by decide)) (lv9) (by omega)
                have ne_AD_8_1_AD_1_i : AD 8 1 ≠ AD 1 i := hC1.ne (k := 8) (i := 1) (k' := 1) (i' := i) (lv8 (by decide)) (lv0 (by decide) hi) (by omega)
                have ne_AD_8_1_AD_0_P_1_i : AD 8 1 ≠ AD 0 (P 1 i) := hC1.ne (k := 8) (i := 1) (k' := 0) (i' := (P 1 i)) (lv8 (by decide)) (lv0 (by decide) hr) (by omega)
                have ne_AD_8_1_AD_0_g : AD 8 1 ≠ AD 0 g := hC1.ne (k := 8) (i := 1) (k' := 0) (i' := g) (lv8 (by decide)) (lv0 (by decide) hg) (by omega)
                refine lv_aload_n hx hb d_Sz_flowThroughOpenings_35 rfl (lv_at hl 1 rfl) ?_
                refine lv_dup hx hb d_Sz_flowThroughOpenings_36 rfl ?_
                refine pg_get (C := "SmokeZones") (T := T_Sz) (N := 17) hx hb hG in_Sz hown hK hP g_5L g_5E rfl 14 (by decide) (hG _ k49) (fun _ h9 => h9) rfl d_Sz_flowThroughOpenings_37 ?_
                refine lv_aload_n hx hb d_Sz_flowThroughOpenings_40 rfl (lv_at hl 1 rfl) ?_
                refine pg_get (C := "SmokeZones") (T := T_Sz) (N := 17) hx hb hG in_Sz hown hK hP g_5L g_5E rfl 1 (by decide) (hG _ k36) (fun _ h9 => h9) rfl d_Sz_flowThroughOpenings_41 ?_
                refine lv_iload_n hx hb d_Sz_flowThroughOpenings_44 rfl (lv_at hl 0 rfl) ?_
                refine pg_ald hx hb hK hP 1 g_24L g_24E rfl (vp_in_nI (by omega) (by decide)) (rf_at hi (by omega)) d_Sz_flowThroughOpenings_45 ?_
                refine kV_wl (f' := va_up (va_up (va_up f2 (AD 1 i) (.inr (1, [.ref (AD 0 (P 1 i)), .ref (AD 0 g), .int (I 12 i), .int (I 13 i), .int (I 14 i), .int (I 15 i), .int (I 16 i), .long (J2 10 i), .long (J2 11 i), .long ((J2 12 i) + m_abs (J2 10 i))]))) (AD 0 (P 1 i)) (.inr (0, [.int (I 0 (P 1 i)), .int (I 1 (P 1 i)), .long (J2 0 (P 1 i)), .long ((J2 1 (P 1 i)) + -(J2 10 i)), .long ((J2 2 (P 1 i)) + m_nh (J2 10 i) (J2 11 i)), .int (I 2 (P 1 i)), .int (I 3 (P 1 i)), .int (I 4 (P 1 i))]))) (AD 0 g) (.inr (0, [.int (I 0 g), .int (I 1 g), .long (J2 0 g), .long ((J2 1 g) + (J2 10 i)), .long ((J2 2 g) + m_fh (J2 10 i) (J2 11 i)), .int (I 2 g), .int (I 3 g), .int (I 4 g)]))) ⟨hx, hb, hml, hown, hG⟩ (c_Op_moveFlow_s g_7L g_7E g_22L g_22E g_23L g_23E ne_AD_0_P_1_i_AD_0_g) (cwV 0 hG (gV k491 k492 k493 k9 k494) rfl rfl rfl hd_Op_moveFlow ⟨Nat.le_of_ble_eq_true rfl, Nat.le_of_ble_eq_true rfl⟩) hK hP hD hS hA g_7L g_7E rfl rfl hl.1 rfl (Nat.le_of_ble_eq_true rfl) ⟨Nat.le_of_ble_eq_true rfl, Nat.le_of_ble_eq_true rfl⟩ d_Sz_flowThroughOpenings_46 (fun H locs hP hD hS => ?_)
                have e_25 : (va_up f2 (AD 1 i) (.inr (1, [.ref (AD 0 (P 1 i)), .ref (AD 0 g), .int (I 12 i), .int (I 13 i), .int (I 14 i), .int (I 15 i), .int (I 16 i), .long (J2 10 i), .long (J2 11 i), .long ((J2 12 i) + m_abs (J2 10 i))]))) (AD 1 i) = .inr (1, [.ref (AD 0 (P 1 i)), .ref (AD 0 g), .int (I 12 i), .int (I 13 i), .int (I 14 i), .int (I 15 i), .int (I 16 i), .long (J2 10 i), .long (J2 11 i), .long ((J2 12 i) + m_abs (J2 10 i))]) := va_up_self _ _ _
                have e_26 : (va_up f2 (AD 1 i) (.inr (1, [.ref (AD 0 (P 1 i)), .ref (AD 0 g), .int (I 12 i), .int (I 13 i), .int (I 14 i), .int (I 15 i), .int (I 16 i), .long (J2 10 i), .long (J2 11 i), .long ((J2 12 i) + m_abs (J2 10 i))]))) (AD 9 0) = .inr (6, [.ref (AD 8 0), .ref (AD 8 1), .ref (AD 8 2), .ref (AD 8 3), .ref (AD 8 4), .ref (AD 8 5), .int (nI (n 0)), .int (nI (n 1)), .int (nI (n 2)), .int (nI (n 3)), .int (nI (n 4)), .int (nI (n 5)), .int (I 99 0), .long (J2 99 0), .long (J2 99 1), .long (J2 99 2), .long (J2 99 3)]) := (va_up_ne _ _ ne_AD_9_0_AD_1_i).trans g_5E
                have e_27 : (va_up f2 (AD 1 i) (.inr (1, [.ref (AD 0 (P 1 i)), .ref (AD 0 g), .int (I 12 i), .int (I 13 i), .int (I 14 i), .int (I 15 i), .int (I 16 i), .long (J2 10 i), .long (J2 11 i), .long ((J2 12 i) + m_abs (J2 10 i))]))) (AD 0 (P 1 i)) = .inr (0, [.int (I 0 (P 1 i)), .int (I 1 (P 1 i)), .long (J2 0 (P 1 i)), .long (J2 1 (P 1 i)), .long (J2 2 (P 1 i)), .int (I 2 (P 1 i)), .int (I 3 (P 1 i)), .int (I 4 (P 1 i))]) := (va_up_ne _ _ ne_AD_0_P_1_i_AD_1_i).trans g_22E
                have e_28 : (va_up f2 (AD 1 i) (.inr (1, [.ref (AD 0 (P 1 i)), .ref (AD 0 g), .int (I 12 i), .int (I 13 i), .int (I 14 i), .int (I 15 i), .int (I 16 i), .long (J2 10 i), .long (J2 11 i), .long ((J2 12 i) + m_abs (J2 10 i))]))) (AD 0 g) = .inr (0, [.int (I 0 g), .int (I 1 g), .long (J2 0 g), .long (J2 1 g), .long (J2 2 g), .int (I 2 g), .int (I 3 g), .int (I 4 g)]) := (va_up_ne _ _ ne_AD_0_g_AD_1_i).trans g_23E
                have e_29 : (va_up f2 (AD 1 i) (.inr (1, [.ref (AD 0 (P 1 i)), .ref (AD 0 g), .int (I 12 i), .int (I 13 i), .int (I 14 i), .int (I 15 i), .int (I 16 i), .long (J2 10 i), .long (J2 11 i), .long ((J2 12 i) + m_abs (J2 10 i))]))) (AD 8 1) = .inl (ct 1, 15, .inr (.inr (.inr (.inr (fun j => if j < n 1 then some (AD 1 j) else none))))) := (va_up_ne _ _ ne_AD_8_1_AD_1_i).trans g_24E
                have e_30 : (va_up (va_up f2 (AD 1 i) (.inr (1, [.ref (AD 0 (P 1 i)), .ref (AD 0 g), .int (I 12 i), .int (I 13 i), .int (I 14 i), .int (I 15 i), .int (I 16 i), .long (J2 10 i), .long (J2 11 i), .long ((J2 12 i) + m_abs (J2 10 i))]))) (AD 0 (P 1 i)) (.inr (0, [.int (I 0 (P 1 i)), .int (I 1 (P 1 i)), .long (J2 0 (P 1 i)), .long ((J2 1 (P 1 i)) + -(J2 10 i)), .long ((J2 2 (P 1 i)) + m_nh (J2 10 i) (J2 11 i)), .int (I 2 (P 1 i)), .int (I 3 (P 1 i)), .int (I 4 (P 1 i))]))) (AD 0 (P 1 i)) = .inr (0, [.int (I 0 (P 1 i)), .int (I 1 (P 1 i)), .long (J2 0 (P 1 i)), .long ((J2 1 (P 1 i)) + -(J2 10 i)), .long ((J2 2 (P 1 i)) + m_nh (J2 10 i) (J2 11 i)), .int (I 2 (P 1 i)), .int (I 3 (P 1 i)), .int (I 4 (P 1 i))]) := va_up_self _ _ _
                have e_31 : (va_up (va_up f2 (AD 1 i) (.inr (1, [.ref (AD 0 (P 1 i)), .ref (AD 0 g), .int (I 12 i), .int (I 13 i), .int (I 14 i), .int (I 15 i), .int (I 16 i), .long (J2 10 i), .long (J2 11 i), .long ((J2 12 i) + m_abs (J2 10 i))]))) (AD 0 (P 1 i)) (.inr (0, [.int (I 0 (P 1 i)), .int (I 1 (P 1 i)), .long (J2 0 (P 1 i)), .long ((J2 1 (P 1 i)) + -(J2 10 i)), .long ((J2 2 (P 1 i)) + m_nh (J2 10 i) (J2 11 i)), .int (I 2 (P 1 i)), .int (I 3 (P 1 i)), .int (I 4 (P 1 i))]))) (AD 9 0) = .inr (6, [.ref (AD 8 0), .ref (AD 8 1), .ref (AD 8 2), .ref (AD 8 3), .ref (AD 8 4), .ref (AD 8 5), .int (nI (n 0)), .int (nI (n 1)), .int (nI (n 2)), .int (nI (n 3)), .int (nI (n 4)), .int (nI (n 5)), .int (I 99 0), .long (J2 99 0), .long (J2 99 1), .long (J2 99 2), .long (J2 99 3)]) := (va_up_ne _ _ ne_AD_9_0_AD_0_P_1_i).trans e_26
                have e_32 : (va_up (va_up f2 (AD 1 i) (.inr (1, [.ref (AD 0 (P 1 i)), .ref (AD 0 g), .int (I 12 i), .int (I 13 i), .int (I 14 i), .int (I 15 i), .int (I 16 i), .long (J2 10 i), .long (J2 11 i), .long ((J2 12 i) + m_abs (J2 10 i))]))) (AD 0 (P 1 i)) (.inr (0, [.int (I 0 (P 1 i)), .int (I 1 (P 1 i)), .long (J2 0 (P 1 i)), .long ((J2 1 (P 1 i)) + -(J2 10 i)), .long ((J2 2 (P 1 i)) + m_nh (J2 10 i) (J2 11 i)), .int (I 2 (P 1 i)), .int (I 3 (P 1 i)), .int (I 4 (P 1 i))]))) (AD 1 i) = .inr (1, [.ref (AD 0 (P 1 i)), .ref (AD 0 g), .int (I 12 i), .int (I 13 i), .int (I 14 i), .int (I 15 i), .int (I 16 i), .long (J2 10 i), .long (J2 11 i), .long ((J2 12 i) + m_abs (J2 10 i))]) := (va_up_ne _ _ ne_AD_1_i_AD_0_P_1_i).trans e_25
                have e_33 : (va_up (va_up f2 (AD 1 i) (.inr (1, [.ref (AD 0 (P 1 i)), .ref (AD 0 g), .int (I 12 i), .int (I 13 i), .int (I 14 i), .int (I 15 i), .int (I 16 i), .long (J2 10 i), .long (J2 11 i), .long ((J2 12 i) + m_abs (J2 10 i))]))) (AD 0 (P 1 i)) (.inr (0, [.int (I 0 (P 1 i)), .int (I 1 (P 1 i)), .long (J2 0 (P 1 i)), .long ((J2 1 (P 1 i)) + -(J2 10 i)), .long ((J2 2 (P 1 i)) + m_nh (J2 10 i) (J2 11 i)), .int (I 2 (P 1 i)), .int (I 3 (P 1 i)), .int (I 4 (P 1 i))]))) (AD 0 g) = .inr (0, [.int (I 0 g), .int (I 1 g), .long (J2 0 g), .long (J2 1 g), .long (J2 2 g), .int (I 2 g), .int (I 3 g), .int (I 4 g)]) := (va_up_ne _ _ ne_AD_0_g_AD_0_P_1_i).trans e_28
                have e_34 : (va_up (va_up f2 (AD 1 i) (.inr (1, [.ref (AD 0 (P 1 i)), .ref (AD 0 g), .int (I 12 i), .int (I 13 i), .int (I 14 i), .int (I 15 i), .int (I 16 i), .long (J2 10 i), .long (J2 11 i), .long ((J2 12 i) + m_abs (J2 10 i))]))) (AD 0 (P 1 i)) (.inr (0, [.int (I 0 (P 1 i)), .int (I 1 (P 1 i)), .long (J2 0 (P 1 i)), .long ((J2 1 (P 1 i)) + -(J2 10 i)), .long ((J2 2 (P 1 i)) + m_nh (J2 10 i) (J2 11 i)), .int (I 2 (P 1 i)), .int (I 3 (P 1 i)), .int (I 4 (P 1 i))]))) (AD 8 1) = .inl (ct 1, 15, .inr (.inr (.inr (.inr (fun j => if j < n 1 then some (AD 1 j) else none))))) := (va_up_ne _ _ ne_AD_8_1_AD_0_P_1_i).trans e_29
                have e_35 : (va_up (va_up (va_up f2 (AD 1 i) (.inr (1, [.ref (AD 0 (P 1 i)), .ref (AD 0 g), .int (I 12 i), .int (I 13 i), .int (I 14 i), .int (I 15 i), .int (I 16 i), .long (J2 10 i), .long (J2 11 i), .long ((J2 12 i) + m_abs (J2 10 i))]))) (AD 0 (P 1 i)) (.inr (0, [.int (I 0 (P 1 i)), .int (I 1 (P 1 i)), .long (J2 0 (P 1 i)), .long ((J2 1 (P 1 i)) + -(J2 10 i)), .long ((J2 2 (P 1 i)) + m_nh (J2 10 i) (J2 11 i)), .int (I 2 (P 1 i)), .int (I 3 (P 1 i)), .int (I 4 (P 1 i))]))) (AD 0 g) (.inr (0, [.int (I 0 g), .int (I 1 g), .long (J2 0 g), .long ((J2 1 g) + (J2 10 i)), .long ((J2 2 g) + m_fh (J2 10 i) (J2 11 i)), .int (I 2 g), .int (I 3 g), .int (I 4 g)]))) (AD 0 g) = .inr (0, [.int (I 0 g), .int (I 1 g), .long (J2 0 g), .long ((J2 1 g) + (J2 10 i)), .long ((J2 2 g) + m_fh (J2 10 i) (J2 11 i)), .int (I 2 g), .int (I 3 g), .int (I 4 g)]) := va_up_self _ _ _
                have e_36 : (va_up (va_up (va_up f2 (AD 1 i) (.inr (1, [.ref (AD 0 (P 1 i)), .ref (AD 0 g), .int (I 12 i), .int (I 13 i), .int (I 14 i), .int (I 15 i), .int (I 16 i), .long (J2 10 i), .long (J2 11 i), .long ((J2 12 i) + m_abs (J2 10 i))]))) (AD 0 (P 1 i)) (.inr (0, [.int (I 0 (P 1 i)), .int (I 1 (P 1 i)), .long (J2 0 (P 1 i)), .long ((J2 1 (P 1 i)) + -(J2 10 i)), .long ((J2 2 (P 1 i)) + m_nh (J2 10 i) (J2 11 i)), .int (I 2 (P 1 i)), .int (I 3 (P 1 i)), .int (I 4 (P 1 i))]))) (AD 0 g) (.inr (0, [.int (I 0 g), .int (I 1 g), .long (J2 0 g), .long ((J2 1 g) + (J2 10 i)), .long ((J2 2 g) + m_fh (J2 10 i) (J2 11 i)), .int (I 2 g), .int (I 3 g), .int (I 4 g)]))) (AD 9 0) = .inr (6, [.ref (AD 8 0), .ref (AD 8 1), .ref (AD 8 2), .ref (AD 8 3), .ref (AD 8 4), .ref (AD 8 5), .int (nI (n 0)), .int (nI (n 1)), .int (nI (n 2)), .int (nI (n 3)), .int (nI (n 4)), .int (nI (n 5)), .int (I 99 0), .long (J2 99 0), .long (J2 99 1), .long (J2 99 2), .long (J2 99 3)]) := (va_up_ne _ _ ne_AD_9_0_AD_0_g).trans e_31
                have e_37 : (va_up (va_up (va_up f2 (AD 1 i) (.inr (1, [.ref (AD 0 (P 1 i)), .ref (AD 0 g), .int (I 12 i), .int (I 13 i), .int (I 14 i), .int (I 15 i), .int (I 16 i), .long (J2 10 i), .long (J2 11 i), .long ((J2 12 i) + m_abs (J2 10 i))]))) (AD 0 (P 1 i)) (.inr (0, [.int (I 0 (P 1 i)), .int (I 1 (P 1 i)), .long (J2 0 (P 1 i)), .long ((J2 1 (P 1 i)) + -(J2 10 i)), .long ((J2 2 (P 1 i)) + m_nh (J2 10 i) (J2 11 i)), .int (I 2 (P 1 i)), .int (I 3 (P 1 i)), .int (I 4 (P 1 i))]))) (AD 0 g) (.inr (0, [.int (I 0 g), .int (I 1 g), .long (J2 0 g), .long ((J2 1 g) + (J2 10 i)), .long ((J2 2 g) + m_fh (J2 10 i) (J2 11 i)), .int (I 2 g), .int (I 3 g), .int (I 4 g)]))) (AD 1 i) = .inr (1, [.ref (AD 0 (P 1 i)), .ref (AD 0 g), .int (I 12 i), .int (I 13 i), .int (I 14 i), .int (I 15 i), .int (I 16 i), .long (J2 10 i), .long (J2 11 i), .long ((J2 12 i) + m_abs (J2 10 i))]) := (va_up_ne _ _ ne_AD_1_i_AD_0_g).trans e_32
                have e_38 : (va_up (va_up (va_up f2 (AD 1 i) (.inr (1, [.ref (AD 0 (P 1 i)), .ref (AD 0 g), .int (I 12 i), .int (I 13 i), .int (I 14 i), .int (I 15 i), .int (I 16 i), .long (J2 10 i), .long (J2 11 i), .long ((J2 12 i) + m_abs (J2 10 i))]))) (AD 0 (P 1 i)) (.inr (0, [.int (I 0 (P 1 i)), .int (I 1 (P 1 i)), .long (J2 0 (P 1 i)), .long ((J2 1 (P 1 i)) + -(J2 10 i)), .long ((J2 2 (P 1 i)) + m_nh (J2 10 i) (J2 11 i)), .int (I 2 (P 1 i)), .int (I 3 (P 1 i)), .int (I 4 (P 1 i))]))) (AD 0 g) (.inr (0, [.int (I 0 g), .int (I 1 g), .long (J2 0 g), .long ((J2 1 g) + (J2 10 i)), .long ((J2 2 g) + m_fh (J2 10 i) (J2 11 i)), .int (I 2 g), .int (I 3 g), .int (I 4 g)]))) (AD 0 (P 1 i)) = .inr (0, [.int (I 0 (P 1 i)), .int (I 1 (P 1 i)), .long (J2 0 (P 1 i)), .long ((J2 1 (P 1 i)) + -(J2 10 i)), .long ((J2 2 (P 1 i)) + m_nh (J2 10 i) (J2 11 i)), .int (I 2 (P 1 i)), .int (I 3 (P 1 i)), .int (I 4 (P 1 i))]) := (va_up_ne _ _ ne_AD_0_P_1_i_AD_0_g).trans e_30
                have e_39 : (va_up (va_up (va_up f2 (AD 1 i) (.inr (1, [.ref (AD 0 (P 1 i)), .ref (AD 0 g), .int (I 12 i), .int (I 13 i), .int (I 14 i), .int (I 15 i), .int (I 16 i), .long (J2 10 i), .long (J2 11 i), .long ((J2 12 i) + m_abs (J2 10 i))]))) (AD 0 (P 1 i)) (.inr (0, [.int (I 0 (P 1 i)), .int (I 1 (P 1 i)), .long (J2 0 (P 1 i)), .long ((J2 1 (P 1 i)) + -(J2 10 i)), .long ((J2 2 (P 1 i)) + m_nh (J2 10 i) (J2 11 i)), .int (I 2 (P 1 i)), .int (I 3 (P 1 i)), .int (I 4 (P 1 i))]))) (AD 0 g) (.inr (0, [.int (I 0 g), .int (I 1 g), .long (J2 0 g), .long ((J2 1 g) + (J2 10 i)), .long ((J2 2 g) + m_fh (J2 10 i) (J2 11 i)), .int (I 2 g), .int (I 3 g), .int (I 4 g)]))) (AD 8 1) = .inl (ct 1, 15, .inr (.inr (.inr (.inr (fun j => if j < n 1 then some (AD 1 j) else none))))) := (va_up_ne _ _ ne_AD_8_1_AD_0_g).trans e_34
                refine lv_ladd hx hb d_Sz_flowThroughOpenings_49 ?_
                refine pg_put (C := "SmokeZones") (T := T_Sz) (N := 17) (ty := .long) hx hb hG in_Sz ty_Sz ok_Sz nm_Sz hown hK hP hD hS g_5L e_36 rfl 14 (by decide) (hG _ k49) (fun _ h9 => h9) rfl (by decide +kernel) rfl rfl (Nat.le_of_ble_eq_true rfl) d_Sz_flowThroughOpenings_50 (fun H locs hP hD hS => ?_)
                have hP : va_P D vwCl (va_pl (L) (va_up (va_up (va_up (va_up f2 (AD 1 i) (.inr (1, [.ref (AD 0 (P 1 i)), .ref (AD 0 g), .int (I 12 i), .int (I 13 i), .int (I 14 i), .int (I 15 i), .int (I 16 i), .long (J2 10 i), .long (J2 11 i), .long ((J2 12 i) + m_abs (J2 10 i))]))) (AD 0 (P 1 i)) (.inr (0, [.int (I 0 (P 1 i)), .int (I 1 (P 1 i)), .long (J2 0 (P 1 i)), .long ((J2 1 (P 1 i)) + -(J2 10 i)), .long ((J2 2 (P 1 i)) + m_nh (J2 10 i) (J2 11 i)), .int (I 2 (P 1 i)), .int (I 3 (P 1 i)), .int (I 4 (P 1 i))]))) (AD 0 g) (.inr (0, [.int (I 0 g), .int (I 1 g), .long (J2 0 g), .long ((J2 1 g) + (J2 10 i)), .long ((J2 2 g) + m_fh (J2 10 i) (J2 11 i)), .int (I 2 g), .int (I 3 g), .int (I 4 g)]))) (AD 9 0) (.inr (6, [.ref (AD 8 0), .ref (AD 8 1), .ref (AD 8 2), .ref (AD 8 3), .ref (AD 8 4), .ref (AD 8 5), .int (nI (n 0)), .int (nI (n 1)), .int (nI (n 2)), .int (nI (n 3)), .int (nI (n 4)), .int (nI (n 5)), .int (I 99 0), .long (J2 99 0), .long ((J2 99 1) + 0), .long (J2 99 2), .long (J2 99 3)])))) H := hP
                have hD : va_D A (va_pl (L) (va_up (va_up (va_up (va_up f2 (AD 1 i) (.inr (1, [.ref (AD 0 (P 1 i)), .ref (AD 0 g), .int (I 12 i), .int (I 13 i), .int (I 14 i), .int (I 15 i), .int (I 16 i), .long (J2 10 i), .long (J2 11 i), .long ((J2 12 i) + m_abs (J2 10 i))]))) (AD 0 (P 1 i)) (.inr (0, [.int (I 0 (P 1 i)), .int (I 1 (P 1 i)), .long (J2 0 (P 1 i)), .long ((J2 1 (P 1 i)) + -(J2 10 i)), .long ((J2 2 (P 1 i)) + m_nh (J2 10 i) (J2 11 i)), .int (I 2 (P 1 i)), .int (I 3 (P 1 i)), .int (I 4 (P 1 i))]))) (AD 0 g) (.inr (0, [.int (I 0 g), .int (I 1 g), .long (J2 0 g), .long ((J2 1 g) + (J2 10 i)), .long ((J2 2 g) + m_fh (J2 10 i) (J2 11 i)), .int (I 2 g), .int (I 3 g), .int (I 4 g)]))) (AD 9 0) (.inr (6, [.ref (AD 8 0), .ref (AD 8 1), .ref (AD 8 2), .ref (AD 8 3), .ref (AD 8 4), .ref (AD 8 5), .int (nI (n 0)), .int (nI (n 1)), .int (nI (n 2)), .int (nI (n 3)), .int (nI (n 4)), .int (nI (n 5)), .int (I 99 0), .long (J2 99 0), .long ((J2 99 1) + 0), .long (J2 99 2), .long (J2 99 3)])))) := hD
                have e_40 : (va_up (va_up (va_up (va_up f2 (AD 1 i) (.inr (1, [.ref (AD 0 (P 1 i)), .ref (AD 0 g), .int (I 12 i), .int (I 13 i), .int (I 14 i), .int (I 15 i), .int (I 16 i), .long (J2 10 i), .long (J2 11 i), .long ((J2 12 i) + m_abs (J2 10 i))]))) (AD 0 (P 1 i)) (.inr (0, [.int (I 0 (P 1 i)), .int (I 1 (P 1 i)), .long (J2 0 (P 1 i)), .long ((J2 1 (P 1 i)) + -(J2 10 i)), .long ((J2 2 (P 1 i)) + m_nh (J2 10 i) (J2 11 i)), .int (I 2 (P 1 i)), .int (I 3 (P 1 i)), .int (I 4 (P 1 i))]))) (AD 0 g) (.inr (0, [.int (I 0 g), .int (I 1 g), .long (J2 0 g), .long ((J2 1 g) + (J2 10 i)), .long ((J2 2 g) + m_fh (J2 10 i) (J2 11 i)), .int (I 2 g), .int (I 3 g), .int (I 4 g)]))) (AD 9 0) (.inr (6, [.ref (AD 8 0), .ref (AD 8 1), .ref (AD 8 2), .ref (AD 8 3), .ref (AD 8 4), .ref (AD 8 5), .int (nI (n 0)), .int (nI (n 1)), .int (nI (n 2)), .int (nI (n 3)), .int (nI (n 4)), .int (nI (n 5)), .int (I 99 0), .long (J2 99 0), .long ((J2 99 1) + 0), .long (J2 99 2), .long (J2 99 3)]))) (AD 9 0) = .inr (6, [.ref (AD 8 0), .ref (AD 8 1), .ref (AD 8 2), .ref (AD 8 3), .ref (AD 8 4), .ref (AD 8 5), .int (nI (n 0)), .int (nI (n 1)), .int (nI (n 2)), .int (nI (n 3)), .int (nI (n 4)), .int (nI (n 5)), .int (I 99 0), .long (J2 99 0), .long ((J2 99 1) + 0), .long (J2 99 2), .long (J2 99 3)]) := va_up_self _ _ _
                have e_41 : (va_up (va_up (va_up (va_up f2 (AD 1 i) (.inr (1, [.ref (AD 0 (P 1 i)), .ref (AD 0 g), .int (I 12 i), .int (I 13 i), .int (I 14 i), .int (I 15 i), .int (I 16 i), .long (J2 10 i), .long (J2 11 i), .long ((J2 12 i) + m_abs (J2 10 i))]))) (AD 0 (P 1 i)) (.inr (0, [.int (I 0 (P 1 i)), .int (I 1 (P 1 i)), .long (J2 0 (P 1 i)), .long ((J2 1 (P 1 i)) + -(J2 10 i)), .long ((J2 2 (P 1 i)) + m_nh (J2 10 i) (J2 11 i)), .int (I 2 (P 1 i)), .int (I 3 (P 1 i)), .int (I 4 (P 1 i))]))) (AD 0 g) (.inr (0, [.int (I 0 g), .int (I 1 g), .long (J2 0 g), .long ((J2 1 g) + (J2 10 i)), .long ((J2 2 g) + m_fh (J2 10 i) (J2 11 i)), .int (I 2 g), .int (I 3 g), .int (I 4 g)]))) (AD 9 0) (.inr (6, [.ref (AD 8 0), .ref (AD 8 1), .ref (AD 8 2), .ref (AD 8 3), .ref (AD 8 4), .ref (AD 8 5), .int (nI (n 0)), .int (nI (n 1)), .int (nI (n 2)), .int (nI (n 3)), .int (nI (n 4)), .int (nI (n 5)), .int (I 99 0), .long (J2 99 0), .long ((J2 99 1) + 0), .long (J2 99 2), .long (J2 99 3)]))) (AD 1 i) = .inr (1, [.ref (AD 0 (P 1 i)), .ref (AD 0 g), .int (I 12 i), .int (I 13 i), .int (I 14 i), .int (I 15 i), .int (I 16 i), .long (J2 10 i), .long (J2 11 i), .long ((J2 12 i) + m_abs (J2 10 i))]) := (va_up_ne _ _ ne_AD_1_i_AD_9_0).trans e_37
                have e_42 : (va_up (va_up (va_up (va_up f2 (AD 1 i) (.inr (1, [.ref (AD 0 (P 1 i)), .ref (AD 0 g), .int (I 12 i), .int (I 13 i), .int (I 14 i), .int (I 15 i), .int (I 16 i), .long (J2 10 i), .long (J2 11 i), .long ((J2 12 i) + m_abs (J2 10 i))]))) (AD 0 (P 1 i)) (.inr (0, [.int (I 0 (P 1 i)), .int (I 1 (P 1 i)), .long (J2 0 (P 1 i)), .long ((J2 1 (P 1 i)) + -(J2 10 i)), .long ((J2 2 (P 1 i)) + m_nh (J2 10 i) (J2 11 i)), .int (I 2 (P 1 i)), .int (I 3 (P 1 i)), .int (I 4 (P 1 i))]))) (AD 0 g) (.inr (0, [.int (I 0 g), .int (I 1 g), .long (J2 0 g), .long ((J2 1 g) + (J2 10 i)), .long ((J2 2 g) + m_fh (J2 10 i) (J2 11 i)), .int (I 2 g), .int (I 3 g), .int (I 4 g)]))) (AD 9 0) (.inr (6, [.ref (AD 8 0), .ref (AD 8 1), .ref (AD 8 2), .ref (AD 8 3), .ref (AD 8 4), .ref (AD 8 5), .int (nI (n 0)), .int (nI (n 1)), .int (nI (n 2)), .int (nI (n 3)), .int (nI (n 4)), .int (nI (n 5)), .int (I 99 0), .long (J2 99 0), .long ((J2 99 1) + 0), .long (J2 99 2), .long (J2 99 3)]))) (AD 0 (P 1 i)) = .inr (0, [.int (I 0 (P 1 i)), .int (I 1 (P 1 i)), .long (J2 0 (P 1 i)), .long ((J2 1 (P 1 i)) + -(J2 10 i)), .long ((J2 2 (P 1 i)) + m_nh (J2 10 i) (J2 11 i)), .int (I 2 (P 1 i)), .int (I 3 (P 1 i)), .int (I 4 (P 1 i))]) := (va_up_ne _ _ ne_AD_0_P_1_i_AD_9_0).trans e_38
                have e_43 : (va_up (va_up (va_up (va_up f2 (AD 1 i) (.inr (1, [.ref (AD 0 (P 1 i)), .ref (AD 0 g), .int (I 12 i), .int (I 13 i), .int (I 14 i), .int (I 15 i), .int (I 16 i), .long (J2 10 i), .long (J2 11 i), .long ((J2 12 i) + m_abs (J2 10 i))]))) (AD 0 (P 1 i)) (.inr (0, [.int (I 0 (P 1 i)), .int (I 1 (P 1 i)), .long (J2 0 (P 1 i)), .long ((J2 1 (P 1 i)) + -(J2 10 i)), .long ((J2 2 (P 1 i)) + m_nh (J2 10 i) (J2 11 i)), .int (I 2 (P 1 i)), .int (I 3 (P 1 i)), .int (I 4 (P 1 i))]))) (AD 0 g) (.inr (0, [.int (I 0 g), .int (I 1 g), .long (J2 0 g), .long ((J2 1 g) + (J2 10 i)), .long ((J2 2 g) + m_fh (J2 10 i) (J2 11 i)), .int (I 2 g), .int (I 3 g), .int (I 4 g)]))) (AD 9 0) (.inr (6, [.ref (AD 8 0), .ref (AD 8 1), .ref (AD 8 2), .ref (AD 8 3), .ref (AD 8 4), .ref (AD 8 5), .int (nI (n 0)), .int (nI (n 1)), .int (nI (n 2)), .int (nI (n 3)), .int (nI (n 4)), .int (nI (n 5)), .int (I 99 0), .long (J2 99 0), .long ((J2 99 1) + 0), .long (J2 99 2), .long (J2 99 3)]))) (AD 0 g) = .inr (0, [.int (I 0 g), .int (I 1 g), .long (J2 0 g), .long ((J2 1 g) + (J2 10 i)), .long ((J2 2 g) + m_fh (J2 10 i) (J2 11 i)), .int (I 2 g), .int (I 3 g), .int (I 4 g)]) := (va_up_ne _ _ ne_AD_0_g_AD_9_0).trans e_35
                have e_44 : (va_up (va_up (va_up (va_up f2 (AD 1 i) (.inr (1, [.ref (AD 0 (P 1 i)), .ref (AD 0 g), .int (I 12 i), .int (I 13 i), .int (I 14 i), .int (I 15 i), .int (I 16 i), .long (J2 10 i), .long (J2 11 i), .long ((J2 12 i) + m_abs (J2 10 i))]))) (AD 0 (P 1 i)) (.inr (0, [.int (I 0 (P 1 i)), .int (I 1 (P 1 i)), .long (J2 0 (P 1 i)), .long ((J2 1 (P 1 i)) + -(J2 10 i)), .long ((J2 2 (P 1 i)) + m_nh (J2 10 i) (J2 11 i)), .int (I 2 (P 1 i)), .int (I 3 (P 1 i)), .int (I 4 (P 1 i))]))) (AD 0 g) (.inr (0, [.int (I 0 g), .int (I 1 g), .long (J2 0 g), .long ((J2 1 g) + (J2 10 i)), .long ((J2 2 g) + m_fh (J2 10 i) (J2 11 i)), .int (I 2 g), .int (I 3 g), .int (I 4 g)]))) (AD 9 0) (.inr (6, [.ref (AD 8 0), .ref (AD 8 1), .ref (AD 8 2), .ref (AD 8 3), .ref (AD 8 4), .ref (AD 8 5), .int (nI (n 0)), .int (nI (n 1)), .int (nI (n 2)), .int (nI (n 3)), .int (nI (n 4)), .int (nI (n 5)), .int (I 99 0), .long (J2 99 0), .long ((J2 99 1) + 0), .long (J2 99 2), .long (J2 99 3)]))) (AD 8 1) = .inl (ct 1, 15, .inr (.inr (.inr (.inr (fun j => if j < n 1 then some (AD 1 j) else none))))) := (va_up_ne _ _ ne_AD_8_1_AD_9_0).trans e_39
                refine lv_iinc (v := nI (i + 1)) (lv' := [(1, .int (nI (i + 1))), (0, .ref (AD 9 0))]) hx hb d_Sz_flowThroughOpenings_53 hl (k := 0) rfl (nI_1 i) (by decide) rfl (fun ls hl => ?_)
                refine lv_goto (tgt := 27) hx hb d_Sz_flowThroughOpenings_56 (by decide) ?_
                have hvs : vS P i J2 = up2 (sRo (sRo (up2 J2 12 i (J2 12 i + m_abs (J2 10 i))) (P 1 i) (J2 1 (P 1 i) + -(J2 10 i)) (J2 2 (P 1 i) + m_nh (J2 10 i) (J2 11 i))) g (J2 1 g + J2 10 i) (J2 2 g + m_fh (J2 10 i) (J2 11 i))) 99 1 (J2 99 1 + 0) := by simp only [vS, hp2]
                have hgr2 : g ≠ P 1 i := by omega
                have hgr3 : P 1 i ≠ g := by omega
                have hN0 : CW ct AD L n I (up2 J2 12 i (J2 12 i + m_abs (J2 10 i))) P _ := hC1.set (k := 1) (i := i) (lv0 (by decide) hi) (co_op (fun _ _ _ => rfl) (fun a b h => up_hO a b (by omega))) hC1.2.2
                have hN1 : CW ct AD L n I (sRo (up2 J2 12 i (J2 12 i + m_abs (J2 10 i))) (P 1 i) (J2 1 (P 1 i) + -(J2 10 i)) (J2 2 (P 1 i) + m_nh (J2 10 i) (J2 11 i))) P _ := hN0.set (k := 0) (i := (P 1 i)) (lv0 (by decide) hr) (co_ro (fun _ _ _ => rfl) sRo_hJ) hC1.2.2
                have hN2 : CW ct AD L n I (sRo (sRo (up2 J2 12 i (J2 12 i + m_abs (J2 10 i))) (P 1 i) (J2 1 (P 1 i) + -(J2 10 i)) (J2 2 (P 1 i) + m_nh (J2 10 i) (J2 11 i))) g (J2 1 g + J2 10 i) (J2 2 g + m_fh (J2 10 i) (J2 11 i))) P _ := hN1.set (k := 0) (i := g) (lv0 (by decide) hg) (co_ro (fun _ _ _ => rfl) sRo_hJ) hC1.2.2
                have hN3 : CW ct AD L n I (up2 (sRo (sRo (up2 J2 12 i (J2 12 i + m_abs (J2 10 i))) (P 1 i) (J2 1 (P 1 i) + -(J2 10 i)) (J2 2 (P 1 i) + m_nh (J2 10 i) (J2 11 i))) g (J2 1 g + J2 10 i) (J2 2 g + m_fh (J2 10 i) (J2 11 i))) 99 1 (J2 99 1 + 0)) P _ := hN2.set (k := 9) (i := 0) (lv9) (co_ma (fun _ _ _ => rfl) t99_hJ) hC1.2.2
                have hN : CW ct AD L n I (up2 (sRo (sRo (up2 J2 12 i (J2 12 i + m_abs (J2 10 i))) (P 1 i) (J2 1 (P 1 i) + -(J2 10 i)) (J2 2 (P 1 i) + m_nh (J2 10 i) (J2 11 i))) g (J2 1 g + J2 10 i) (J2 2 g + m_fh (J2 10 i) (J2 11 i))) 99 1 (J2 99 1 + 0)) P (va_up (va_up (va_up (va_up f2 (AD 1 i) (.inr (1, [.ref (AD 0 (P 1 i)), .ref (AD 0 g), .int (I 12 i), .int (I 13 i), .int (I 14 i), .int (I 15 i), .int (I 16 i), .long (J2 10 i), .long (J2 11 i), .long ((J2 12 i) + m_abs (J2 10 i))]))) (AD 0 (P 1 i)) (.inr (0, [.int (I 0 (P 1 i)), .int (I 1 (P 1 i)), .long (J2 0 (P 1 i)), .long ((J2 1 (P 1 i)) + -(J2 10 i)), .long ((J2 2 (P 1 i)) + m_nh (J2 10 i) (J2 11 i)), .int (I 2 (P 1 i)), .int (I 3 (P 1 i)), .int (I 4 (P 1 i))]))) (AD 0 g) (.inr (0, [.int (I 0 g), .int (I 1 g), .long (J2 0 g), .long ((J2 1 g) + (J2 10 i)), .long ((J2 2 g) + m_fh (J2 10 i) (J2 11 i)), .int (I 2 g), .int (I 3 g), .int (I 4 g)]))) (AD 9 0) (.inr (6, [.ref (AD 8 0), .ref (AD 8 1), .ref (AD 8 2), .ref (AD 8 3), .ref (AD 8 4), .ref (AD 8 5), .int (nI (n 0)), .int (nI (n 1)), .int (nI (n 2)), .int (nI (n 3)), .int (nI (n 4)), .int (nI (n 5)), .int (I 99 0), .long (J2 99 0), .long ((J2 99 1) + 0), .long (J2 99 2), .long (J2 99 3)]))) := by
                  refine cast (congrArg (CW ct AD L n I (up2 (sRo (sRo (up2 J2 12 i (J2 12 i + m_abs (J2 10 i))) (P 1 i) (J2 1 (P 1 i) + -(J2 10 i)) (J2 2 (P 1 i) + m_nh (J2 10 i) (J2 11 i))) g (J2 1 g + J2 10 i) (J2 2 g + m_fh (J2 10 i) (J2 11 i))) 99 1 (J2 99 1 + 0)) P) ?_) hN3
                  simp [cellOf, roomE, mainE, openE, steelE, farV, up2, sRo, hp2, hgr2, hgr3]
                rw [← hvs] at hN
                exact ih1 (i + 1) _ _ _ _ _ (by omega) hN hP hD hS (lv_sub hl [0, 1] rfl) hfin1
        exact lp1 (n 1) 0 J1 f1 _ _ _ (by omega) hC0 hP hD hS (lv_sub hl [0, 1] rfl) rfl
      · exact (ge_yes (by omega) (by omega) c_2).elim
    | succ k ih0 =>
      intro i J1 f1 H locs ls hik0 hC0 hP hD hS hl hfin0
      have hcap := hC0.cap1
      obtain ⟨g_45L, g_45E⟩ := hC0.ma
      have hi : i < n 1 := by omega
      refine lv_iload_n hx hb d_Sz_flowThroughOpenings_2 rfl (lv_at hl 0 rfl) ?_
      refine lv_aload_n hx hb d_Sz_flowThroughOpenings_3 rfl (lv_at hl 1 rfl) ?_
      refine pg_get (C := "SmokeZones") (T := T_Sz) (N := 17) hx hb hG in_Sz hown hK hP g_45L g_45E rfl 7 (by decide) (hG _ k42) (fun _ h9 => h9) rfl d_Sz_flowThroughOpenings_4 ?_
      refine lv_icmp_ge (tgt := 25) hx hb d_Sz_flowThroughOpenings_7 (by decide) (fun c_46 => ?_) (fun c_46 => ?_)
      · exact (ge_no hi (by omega) c_46).elim
      · obtain ⟨hr, hg2, hgr⟩ := hC0.2.2.2.1 i hi
        have hc0 := hC0.cap0
        obtain ⟨g_47L, g_47E0⟩ := hC0.op hi
        rcases hp2 : P 2 i with _ | g
        · have g_47E : f1 (AD 1 i) = .inr (1, [.ref (AD 0 (P 1 i)), .null, .int (I 12 i), .int (I 13 i), .int (I 14 i), .int (I 15 i), .int (I 16 i), .long (J1 10 i), .long (J1 11 i), .long (J1 12 i)]) := by rw [g_47E0, hp2]; rfl
          obtain ⟨g_48L, g_48E⟩ := hC0.ro hr
          obtain ⟨g_49L, g_49E⟩ := hC0.a1
          have ne_AD_9_0_AD_1_i : AD 9 0 ≠ AD 1 i := hC0.ne (k := 9) (i := 0) (k' := 1) (i' := i) (lv9) (lv0 (by decide) hi) (by omega)
          have ne_AD_9_0_AD_0_P_1_i : AD 9 0 ≠ AD 0 (P 1 i) := hC0.ne (k := 9) (i := 0) (k' := 0) (i' := (P 1 i)) (lv9) (lv0 (by decide) hr) (by omega)
          have ne_AD_9_0_AD_8_1 : AD 9 0 ≠ AD 8 1 := hC0.ne (k := 9) (i := 0) (k' := 8) (i' := 1) (lv9) (lv8 (by decide)) (by omega)
          have ne_AD_1_i_AD_9_0 : AD 1 i ≠ AD 9 0 := hC0.ne (k := 1) (i := i) (k' := 9) (i' := 0) (lv0 (by decide) hi) (lv9) (by omega)
          have ne_AD_1_i_AD_0_P_1_i : AD 1 i ≠ AD 0 (P 1 i) := hC0.ne (k := 1) (i := i) (k' := 0) (i' := (P 1 i)) (lv0 (by decide) hi) (lv0 (by decide) hr) (by omega)
          have ne_AD_1_i_AD_8_1 : AD 1 i ≠ AD 8 1 := hC0.ne (k := 1) (i := i) (k' := 8) (i' := 1) (lv0 (by decide) hi) (lv8 (by decide)) (by omega)
          have ne_AD_0_P_1_i_AD_9_0 : AD 0 (P 1 i) ≠ AD 9 0 := hC0.ne (k := 0) (i := (P 1 i)) (k' := 9) (i' := 0) (lv0 (by decide) hr) (lv9) (by omega)
          have ne_AD_0_P_1_i_AD_1_i : AD 0 (P 1 i) ≠ AD 1 i := hC0.ne (k := 0) (i := (P 1 i)) (k' := 1) (i' := i) (lv0 (by decide) hr) (lv0 (by decide) hi) (by omega)
          have ne_AD_0_P_1_i_AD_8_1 : AD 0 (P 1 i) ≠ AD 8 1 := hC0.ne (k := 0) (i := (P 1 i)) (k' := 8) (i' := 1) (lv0 (by decide) hr) (lv8 (by decide)) (by omega)
          have ne_AD_8_1_AD_9_0 : AD 8 1 ≠ AD 9 0 := hC0.ne (k := 8) (i := 1) (k' := 9) (i' := 0) (lv8 (by decide)) (lv9) (by omega)
          have ne_AD_8_1_AD_1_i : AD 8 1 ≠ AD 1 i := hC0.ne (k := 8) (i := 1) (k' := 1) (i' := i) (lv8 (by decide)) (lv0 (by decide) hi) (by omega)
          have ne_AD_8_1_AD_0_P_1_i : AD 8 1 ≠ AD 0 (P 1 i) := hC0.ne (k := 8) (i := 1) (k' := 0) (i' := (P 1 i)) (lv8 (by decide)) (lv0 (by decide) hr) (by omega)
          refine lv_aload_n hx hb d_Sz_flowThroughOpenings_10 rfl (lv_at hl 1 rfl) ?_
          refine pg_get (C := "SmokeZones") (T := T_Sz) (N := 17) hx hb hG in_Sz hown hK hP g_45L g_45E rfl 1 (by decide) (hG _ k36) (fun _ h9 => h9) rfl d_Sz_flowThroughOpenings_11 ?_
          refine lv_iload_n hx hb d_Sz_flowThroughOpenings_14 rfl (lv_at hl 0 rfl) ?_
          refine pg_ald hx hb hK hP 1 g_49L g_49E rfl (vp_in_nI (by omega) (by decide)) (rf_at hi (by omega)) d_Sz_flowThroughOpenings_15 ?_
          refine kV_wv (f' := va_up f1 (AD 1 i) (.inr (1, [.ref (AD 0 (P 1 i)), .null, .int (I 12 i), .int (I 13 i), .int (I 14 i), .int (I 15 i), .int (I 16 i), .long (m_flN (m_open (I 15 i) (I 16 i)) (I 12 i) (m_cov (I 0 (P 1 i)) (I 1 (P 1 i)) (J1 1 (P 1 i)) (I 13 i) (I 14 i)) (J1 1 (P 1 i))), .long (m_fhN (m_open (I 15 i) (I 16 i)) (I 12 i) (m_cov (I 0 (P 1 i)) (I 1 (P 1 i)) (J1 1 (P 1 i)) (I 13 i) (I 14 i)) (J1 1 (P 1 i)) (J1 2 (P 1 i))), .long (J1 12 i)]))) ⟨hx, hb, hml, hown, hG⟩ (c_Op_measureFlow_n g_47L g_47E g_48L g_48E) (cwV 0 hG (gV k458 k459 k460 k9 k461) rfl rfl rfl hd_Op_measureFlow ⟨Nat.le_of_ble_eq_true rfl, Nat.le_of_ble_eq_true rfl⟩) hK hP hD hS hA g_47L g_47E rfl rfl hl.1 rfl (Nat.le_of_ble_eq_true rfl) ⟨Nat.le_of_ble_eq_true rfl, Nat.le_of_ble_eq_true rfl⟩ d_Sz_flowThroughOpenings_16 (fun H locs hP hD hS => ?_)
          have e_50 : (va_up f1 (AD 1 i) (.inr (1, [.ref (AD 0 (P 1 i)), .null, .int (I 12 i), .int (I 13 i), .int (I 14 i), .int (I 15 i), .int (I 16 i), .long (m_flN (m_open (I 15 i) (I 16 i)) (I 12 i) (m_cov (I 0 (P 1 i)) (I 1 (P 1 i)) (J1 1 (P 1 i)) (I 13 i) (I 14 i)) (J1 1 (P 1 i))), .long (m_fhN (m_open (I 15 i) (I 16 i)) (I 12 i) (m_cov (I 0 (P 1 i)) (I 1 (P 1 i)) (J1 1 (P 1 i)) (I 13 i) (I 14 i)) (J1 1 (P 1 i)) (J1 2 (P 1 i))), .long (J1 12 i)]))) (AD 1 i) = .inr (1, [.ref (AD 0 (P 1 i)), .null, .int (I 12 i), .int (I 13 i), .int (I 14 i), .int (I 15 i), .int (I 16 i), .long (m_flN (m_open (I 15 i) (I 16 i)) (I 12 i) (m_cov (I 0 (P 1 i)) (I 1 (P 1 i)) (J1 1 (P 1 i)) (I 13 i) (I 14 i)) (J1 1 (P 1 i))), .long (m_fhN (m_open (I 15 i) (I 16 i)) (I 12 i) (m_cov (I 0 (P 1 i)) (I 1 (P 1 i)) (J1 1 (P 1 i)) (I 13 i) (I 14 i)) (J1 1 (P 1 i)) (J1 2 (P 1 i))), .long (J1 12 i)]) := va_up_self _ _ _
          have e_51 : (va_up f1 (AD 1 i) (.inr (1, [.ref (AD 0 (P 1 i)), .null, .int (I 12 i), .int (I 13 i), .int (I 14 i), .int (I 15 i), .int (I 16 i), .long (m_flN (m_open (I 15 i) (I 16 i)) (I 12 i) (m_cov (I 0 (P 1 i)) (I 1 (P 1 i)) (J1 1 (P 1 i)) (I 13 i) (I 14 i)) (J1 1 (P 1 i))), .long (m_fhN (m_open (I 15 i) (I 16 i)) (I 12 i) (m_cov (I 0 (P 1 i)) (I 1 (P 1 i)) (J1 1 (P 1 i)) (I 13 i) (I 14 i)) (J1 1 (P 1 i)) (J1 2 (P 1 i))), .long (J1 12 i)]))) (AD 9 0) = .inr (6, [.ref (AD 8 0), .ref (AD 8 1), .ref (AD 8 2), .ref (AD 8 3), .ref (AD 8 4), .ref (AD 8 5), .int (nI (n 0)), .int (nI (n 1)), .int (nI (n 2)), .int (nI (n 3)), .int (nI (n 4)), .int (nI (n 5)), .int (I 99 0), .long (J1 99 0), .long (J1 99 1), .long (J1 99 2), .long (J1 99 3)]) := (va_up_ne _ _ ne_AD_9_0_AD_1_i).trans g_45E
          have e_52 : (va_up f1 (AD 1 i) (.inr (1, [.ref (AD 0 (P 1 i)), .null, .int (I 12 i), .int (I 13 i), .int (I 14 i), .int (I 15 i), .int (I 16 i), .long (m_flN (m_open (I 15 i) (I 16 i)) (I 12 i) (m_cov (I 0 (P 1 i)) (I 1 (P 1 i)) (J1 1 (P 1 i)) (I 13 i) (I 14 i)) (J1 1 (P 1 i))), .long (m_fhN (m_open (I 15 i) (I 16 i)) (I 12 i) (m_cov (I 0 (P 1 i)) (I 1 (P 1 i)) (J1 1 (P 1 i)) (I 13 i) (I 14 i)) (J1 1 (P 1 i)) (J1 2 (P 1 i))), .long (J1 12 i)]))) (AD 0 (P 1 i)) = .inr (0, [.int (I 0 (P 1 i)), .int (I 1 (P 1 i)), .long (J1 0 (P 1 i)), .long (J1 1 (P 1 i)), .long (J1 2 (P 1 i)), .int (I 2 (P 1 i)), .int (I 3 (P 1 i)), .int (I 4 (P 1 i))]) := (va_up_ne _ _ ne_AD_0_P_1_i_AD_1_i).trans g_48E
          have e_53 : (va_up f1 (AD 1 i) (.inr (1, [.ref (AD 0 (P 1 i)), .null, .int (I 12 i), .int (I 13 i), .int (I 14 i), .int (I 15 i), .int (I 16 i), .long (m_flN (m_open (I 15 i) (I 16 i)) (I 12 i) (m_cov (I 0 (P 1 i)) (I 1 (P 1 i)) (J1 1 (P 1 i)) (I 13 i) (I 14 i)) (J1 1 (P 1 i))), .long (m_fhN (m_open (I 15 i) (I 16 i)) (I 12 i) (m_cov (I 0 (P 1 i)) (I 1 (P 1 i)) (J1 1 (P 1 i)) (I 13 i) (I 14 i)) (J1 1 (P 1 i)) (J1 2 (P 1 i))), .long (J1 12 i)]))) (AD 8 1) = .inl (ct 1, 15, .inr (.inr (.inr (.inr (fun j => if j < n 1 then some (AD 1 j) else none))))) := (va_up_ne _ _ ne_AD_8_1_AD_1_i).trans g_49E
          refine lv_iinc (v := nI (i + 1)) (lv' := [(1, .int (nI (i + 1))), (0, .ref (AD 9 0))]) hx hb d_Sz_flowThroughOpenings_19 hl (k := 0) rfl (nI_1 i) (by decide) rfl (fun ls hl => ?_)
          refine lv_goto (tgt := 2) hx hb d_Sz_flowThroughOpenings_22 (by decide) ?_
          have hN0 : CW ct AD L n I (mS I P i J1) P _ := hC0.set (k := 1) (i := i) (lv0 (by decide) hi) (co_op (fun _ _ _ => rfl) mS_hJ) hC0.2.2
          have hN : CW ct AD L n I (mS I P i J1) P (va_up f1 (AD 1 i) (.inr (1, [.ref (AD 0 (P 1 i)), .null, .int (I 12 i), .int (I 13 i), .int (I 14 i), .int (I 15 i), .int (I 16 i), .long (m_flN (m_open (I 15 i) (I 16 i)) (I 12 i) (m_cov (I 0 (P 1 i)) (I 1 (P 1 i)) (J1 1 (P 1 i)) (I 13 i) (I 14 i)) (J1 1 (P 1 i))), .long (m_fhN (m_open (I 15 i) (I 16 i)) (I 12 i) (m_cov (I 0 (P 1 i)) (I 1 (P 1 i)) (J1 1 (P 1 i)) (I 13 i) (I 14 i)) (J1 1 (P 1 i)) (J1 2 (P 1 i))), .long (J1 12 i)]))) := by
            refine cast (congrArg (CW ct AD L n I (mS I P i J1) P) ?_) hN0
            simp [cellOf, roomE, mainE, openE, steelE, farV, up2, mS, mFl, mHt, cvR, hp2]
          exact ih0 (i + 1) _ _ _ _ _ (by omega) hN hP hD hS (lv_sub hl [0, 1] rfl) hfin0
        · have g_47E : f1 (AD 1 i) = .inr (1, [.ref (AD 0 (P 1 i)), .ref (AD 0 g), .int (I 12 i), .int (I 13 i), .int (I 14 i), .int (I 15 i), .int (I 16 i), .long (J1 10 i), .long (J1 11 i), .long (J1 12 i)]) := by rw [g_47E0, hp2]; rfl
          obtain ⟨g_54L, g_54E⟩ := hC0.ro hr
          have hg : g < n 0 := by omega
          obtain ⟨g_55L, g_55E⟩ := hC0.ro hg
          obtain ⟨g_56L, g_56E⟩ := hC0.a1
          have ne_AD_9_0_AD_1_i : AD 9 0 ≠ AD 1 i := hC0.ne (k := 9) (i := 0) (k' := 1) (i' := i) (lv9) (lv0 (by decide) hi) (by omega)
          have ne_AD_9_0_AD_0_P_1_i : AD 9 0 ≠ AD 0 (P 1 i) := hC0.ne (k := 9) (i := 0) (k' := 0) (i' := (P 1 i)) (lv9) (lv0 (by decide) hr) (by omega)
          have ne_AD_9_0_AD_0_g : AD 9 0 ≠ AD 0 g := hC0.ne (k := 9) (i := 0) (k' := 0) (i' := g) (lv9) (lv0 (by decide) hg) (by omega)
          have ne_AD_9_0_AD_8_1 : AD 9 0 ≠ AD 8 1 := hC0.ne (k := 9) (i := 0) (k' := 8) (i' := 1) (lv9) (lv8 (by decide)) (by omega)
          have ne_AD_1_i_AD_9_0 : AD 1 i ≠ AD 9 0 := hC0.ne (k := 1) (i := i) (k' := 9) (i' := 0) (lv0 (by decide) hi) (lv9) (by omega)
          have ne_AD_1_i_AD_0_P_1_i : AD 1 i ≠ AD 0 (P 1 i) := hC0.ne (k := 1) (i := i) (k' := 0) (i' := (P 1 i)) (lv0 (by decide) hi) (lv0 (by decide) hr) (by omega)
          have ne_AD_1_i_AD_0_g : AD 1 i ≠ AD 0 g := hC0.ne (k := 1) (i := i) (k' := 0) (i' := g) (lv0 (by decide) hi) (lv0 (by decide) hg) (by omega)
          have ne_AD_1_i_AD_8_1 : AD 1 i ≠ AD 8 1 := hC0.ne (k := 1) (i := i) (k' := 8) (i' := 1) (lv0 (by decide) hi) (lv8 (by decide)) (by omega)
          have ne_AD_0_P_1_i_AD_9_0 : AD 0 (P 1 i) ≠ AD 9 0 := hC0.ne (k := 0) (i := (P 1 i)) (k' := 9) (i' := 0) (lv0 (by decide) hr) (lv9) (by omega)
          have ne_AD_0_P_1_i_AD_1_i : AD 0 (P 1 i) ≠ AD 1 i := hC0.ne (k := 0) (i := (P 1 i)) (k' := 1) (i' := i) (lv0 (by decide) hr) (lv0 (by decide) hi) (by omega)
          have ne_AD_0_P_1_i_AD_0_g : AD 0 (P 1 i) ≠ AD 0 g := hC0.ne (k := 0) (i := (P 1 i)) (k' := 0) (i' := g) (lv0 (by decide) hr) (lv0 (by decide) hg) (by omega)
          have ne_AD_0_P_1_i_AD_8_1 : AD 0 (P 1 i) ≠ AD 8 1 := hC0.ne (k := 0) (i := (P 1 i)) (k' := 8) (i' := 1) (lv0 (by decide) hr) (lv8 (by decide)) (by omega)
          have ne_AD_0_g_AD_9_0 : AD 0 g ≠ AD 9 0 := hC0.ne (k := 0) (i := g) (k' := 9) (i' := 0) (lv0 (by decide) hg) (lv9) (by omega)
          have ne_AD_0_g_AD_1_i : AD 0 g ≠ AD 1 i := hC0.ne (k := 0) (i := g) (k' := 1) (i' := i) (lv0 (by decide) hg) (lv0 (by decide) hi) (by omega)
          have ne_AD_0_g_AD_0_P_1_i : AD 0 g ≠ AD 0 (P 1 i) := hC0.ne (k := 0) (i := g) (k' := 0) (i' := (P 1 i)) (lv0 (by decide) hg) (lv0 (by decide) hr) (by omega)
          have ne_AD_0_g_AD_8_1 : AD 0 g ≠ AD 8 1 := hC0.ne (k := 0) (i := g) (k' := 8) (i' := 1) (lv0 (by decide) hg) (lv8 (by decide)) (by omega)
          have ne_AD_8_1_AD_9_0 : AD 8 1 ≠ AD 9 0 := hC0.ne (k := 8) (i := 1) (k' := 9) (i' := 0) (lv8 (by decide)) (lv9) (by omega)
          have ne_AD_8_1_AD_1_i : AD 8 1 ≠ AD 1 i := hC0.ne (k := 8) (i := 1) (k' := 1) (i' := i) (lv8 (by decide)) (lv0 (by decide) hi) (by omega)
          have ne_AD_8_1_AD_0_P_1_i : AD 8 1 ≠ AD 0 (P 1 i) := hC0.ne (k := 8) (i := 1) (k' := 0) (i' := (P 1 i)) (lv8 (by decide)) (lv0 (by decide) hr) (by omega)
          have ne_AD_8_1_AD_0_g : AD 8 1 ≠ AD 0 g := hC0.ne (k := 8) (i := 1) (k' := 0) (i' := g) (lv8 (by decide)) (lv0 (by decide) hg) (by omega)
          refine lv_aload_n hx hb d_Sz_flowThroughOpenings_10 rfl (lv_at hl 1 rfl) ?_
          refine pg_get (C := "SmokeZones") (T := T_Sz) (N := 17) hx hb hG in_Sz hown hK hP g_45L g_45E rfl 1 (by decide) (hG _ k36) (fun _ h9 => h9) rfl d_Sz_flowThroughOpenings_11 ?_
          refine lv_iload_n hx hb d_Sz_flowThroughOpenings_14 rfl (lv_at hl 0 rfl) ?_
          refine pg_ald hx hb hK hP 1 g_56L g_56E rfl (vp_in_nI (by omega) (by decide)) (rf_at hi (by omega)) d_Sz_flowThroughOpenings_15 ?_
          refine kV_wv (f' := va_up f1 (AD 1 i) (.inr (1, [.ref (AD 0 (P 1 i)), .ref (AD 0 g), .int (I 12 i), .int (I 13 i), .int (I 14 i), .int (I 15 i), .int (I 16 i), .long (m_flS (m_open (I 15 i) (I 16 i)) (I 12 i) (m_cov (I 0 (P 1 i)) (I 1 (P 1 i)) (J1 1 (P 1 i)) (I 13 i) (I 14 i)) (m_cov (I 0 g) (I 1 g) (J1 1 g) (I 13 i) (I 14 i)) (J1 1 (P 1 i)) (J1 1 g)), .long (m_fhS (m_open (I 15 i) (I 16 i)) (I 12 i) (m_cov (I 0 (P 1 i)) (I 1 (P 1 i)) (J1 1 (P 1 i)) (I 13 i) (I 14 i)) (m_cov (I 0 g) (I 1 g) (J1 1 g) (I 13 i) (I 14 i)) (J1 1 (P 1 i)) (J1 2 (P 1 i)) (J1 1 g) (J1 2 g)), .long (J1 12 i)]))) ⟨hx, hb, hml, hown, hG⟩ (c_Op_measureFlow_s g_47L g_47E g_54L g_54E g_55L g_55E) (cwV 0 hG (gV k458 k459 k460 k9 k461) rfl rfl rfl hd_Op_measureFlow ⟨Nat.le_of_ble_eq_true rfl, Nat.le_of_ble_eq_true rfl⟩) hK hP hD hS hA g_47L g_47E rfl rfl hl.1 rfl (Nat.le_of_ble_eq_true rfl) ⟨Nat.le_of_ble_eq_true rfl, Nat.le_of_ble_eq_true rfl⟩ d_Sz_flowThroughOpenings_16 (fun H locs hP hD hS => ?_)
          have e_57 : (va_up f1 (AD 1 i) (.inr (1, [.ref (AD 0 (P 1 i)), .ref (AD 0 g), .int (I 12 i), .int (I 13 i), .int (I 14 i), .int (I 15 i), .int (I 16 i), .long (m_flS (m_open (I 15 i) (I 16 i)) (I 12 i) (m_cov (I 0 (P 1 i)) (I 1 (P 1 i)) (J1 1 (P 1 i)) (I 13 i) (I 14 i)) (m_cov (I 0 g) (I 1 g) (J1 1 g) (I 13 i) (I 14 i)) (J1 1 (P 1 i)) (J1 1 g)), .long (m_fhS (m_open (I 15 i) (I 16 i)) (I 12 i) (m_cov (I 0 (P 1 i)) (I 1 (P 1 i)) (J1 1 (P 1 i)) (I 13 i) (I 14 i)) (m_cov (I 0 g) (I 1 g) (J1 1 g) (I 13 i) (I 14 i)) (J1 1 (P 1 i)) (J1 2 (P 1 i)) (J1 1 g) (J1 2 g)), .long (J1 12 i)]))) (AD 1 i) = .inr (1, [.ref (AD 0 (P 1 i)), .ref (AD 0 g), .int (I 12 i), .int (I 13 i), .int (I 14 i), .int (I 15 i), .int (I 16 i), .long (m_flS (m_open (I 15 i) (I 16 i)) (I 12 i) (m_cov (I 0 (P 1 i)) (I 1 (P 1 i)) (J1 1 (P 1 i)) (I 13 i) (I 14 i)) (m_cov (I 0 g) (I 1 g) (J1 1 g) (I 13 i) (I 14 i)) (J1 1 (P 1 i)) (J1 1 g)), .long (m_fhS (m_open (I 15 i) (I 16 i)) (I 12 i) (m_cov (I 0 (P 1 i)) (I 1 (P 1 i)) (J1 1 (P 1 i)) (I 13 i) (I 14 i)) (m_cov (I 0 g) (I 1 g) (J1 1 g) (I 13 i) (I 14 i)) (J1 1 (P 1 i)) (J1 2 (P 1 i)) (J1 1 g) (J1 2 g)), .long (J1 12 i)]) := va_up_self _ _ _
          have e_58 : (va_up f1 (AD 1 i) (.inr (1, [.ref (AD 0 (P 1 i)), .ref (AD 0 g), .int (I 12 i), .int (I 13 i), .int (I 14 i), .int (I 15 i), .int (I 16 i), .long (m_flS (m_open (I 15 i) (I 16 i)) (I 12 i) (m_cov (I 0 (P 1 i)) (I 1 (P 1 i)) (J1 1 (P 1 i)) (I 13 i) (I 14 i)) (m_cov (I 0 g) (I 1 g) (J1 1 g) (I 13 i) (I 14 i)) (J1 1 (P 1 i)) (J1 1 g)), .long (m_fhS (m_open (I 15 i) (I 16 i)) (I 12 i) (m_cov (I 0 (P 1 i)) (I 1 (P 1 i)) (J1 1 (P 1 i)) (I 13 i) (I 14 i)) (m_cov (I 0 g) (I 1 g) (J1 1 g) (I 13 i) (I 14 i)) (J1 1 (P 1 i)) (J1 2 (P 1 i)) (J1 1 g) (J1 2 g)), .long (J1 12 i)]))) (AD 9 0) = .inr (6, [.ref (AD 8 0), .ref (AD 8 1), .ref (AD 8 2), .ref (AD 8 3), .ref (AD 8 4), .ref (AD 8 5), .int (nI (n 0)), .int (nI (n 1)), .int (nI (n 2)), .int (nI (n 3)), .int (nI (n 4)), .int (nI (n 5)), .int (I 99 0), .long (J1 99 0), .long (J1 99 1), .long (J1 99 2), .long (J1 99 3)]) := (va_up_ne _ _ ne_AD_9_0_AD_1_i).trans g_45E
          have e_59 : (va_up f1 (AD 1 i) (.inr (1, [.ref (AD 0 (P 1 i)), .ref (AD 0 g), .int (I 12 i), .int (I 13 i), .int (I 14 i), .int (I 15 i), .int (I 16 i), .long (m_flS (m_open (I 15 i) (I 16 i)) (I 12 i) (m_cov (I 0 (P 1 i)) (I 1 (P 1 i)) (J1 1 (P 1 i)) (I 13 i) (I 14 i)) (m_cov (I 0 g) (I 1 g) (J1 1 g) (I 13 i) (I 14 i)) (J1 1 (P 1 i)) (J1 1 g)), .long (m_fhS (m_open (I 15 i) (I 16 i)) (I 12 i) (m_cov (I 0 (P 1 i)) (I 1 (P 1 i)) (J1 1 (P 1 i)) (I 13 i) (I 14 i)) (m_cov (I 0 g) (I 1 g) (J1 1 g) (I 13 i) (I 14 i)) (J1 1 (P 1 i)) (J1 2 (P 1 i)) (J1 1 g) (J1 2 g)), .long (J1 12 i)]))) (AD 0 (P 1 i)) = .inr (0, [.int (I 0 (P 1 i)), .int (I 1 (P 1 i)), .long (J1 0 (P 1 i)), .long (J1 1 (P 1 i)), .long (J1 2 (P 1 i)), .int (I 2 (P 1 i)), .int (I 3 (P 1 i)), .int (I 4 (P 1 i))]) := (va_up_ne _ _ ne_AD_0_P_1_i_AD_1_i).trans g_54E
          have e_60 : (va_up f1 (AD 1 i) (.inr (1, [.ref (AD 0 (P 1 i)), .ref (AD 0 g), .int (I 12 i), .int (I 13 i), .int (I 14 i), .int (I 15 i), .int (I 16 i), .long (m_flS (m_open (I 15 i) (I 16 i)) (I 12 i) (m_cov (I 0 (P 1 i)) (I 1 (P 1 i)) (J1 1 (P 1 i)) (I 13 i) (I 14 i)) (m_cov (I 0 g) (I 1 g) (J1 1 g) (I 13 i) (I 14 i)) (J1 1 (P 1 i)) (J1 1 g)), .long (m_fhS (m_open (I 15 i) (I 16 i)) (I 12 i) (m_cov (I 0 (P 1 i)) (I 1 (P 1 i)) (J1 1 (P 1 i)) (I 13 i) (I 14 i)) (m_cov (I 0 g) (I 1 g) (J1 1 g) (I 13 i) (I 14 i)) (J1 1 (P 1 i)) (J1 2 (P 1 i)) (J1 1 g) (J1 2 g)), .long (J1 12 i)]))) (AD 0 g) = .inr (0, [.int (I 0 g), .int (I 1 g), .long (J1 0 g), .long (J1 1 g), .long (J1 2 g), .int (I 2 g), .int (I 3 g), .int (I 4 g)]) := (va_up_ne _ _ ne_AD_0_g_AD_1_i).trans g_55E
          have e_61 : (va_up f1 (AD 1 i) (.inr (1, [.ref (AD 0 (P 1 i)), .ref (AD 0 g), .int (I 12 i), .int (I 13 i), .int (I 14 i), .int (I 15 i), .int (I 16 i), .long (m_flS (m_open (I 15 i) (I 16 i)) (I 12 i) (m_cov (I 0 (P 1 i)) (I 1 (P 1 i)) (J1 1 (P 1 i)) (I 13 i) (I 14 i)) (m_cov (I 0 g) (I 1 g) (J1 1 g) (I 13 i) (I 14 i)) (J1 1 (P 1 i)) (J1 1 g)), .long (m_fhS (m_open (I 15 i) (I 16 i)) (I 12 i) (m_cov (I 0 (P 1 i)) (I 1 (P 1 i)) (J1 1 (P 1 i)) (I 13 i) (I 14 i)) (m_cov (I 0 g) (I 1 g) (J1 1 g) (I 13 i) (I 14 i)) (J1 1 (P 1 i)) (J1 2 (P 1 i)) (J1 1 g) (J1 2 g)), .long (J1 12 i)]))) (AD 8 1) = .inl (ct 1, 15, .inr (.inr (.inr (.inr (fun j => if j < n 1 then some (AD 1 j) else none))))) := (va_up_ne _ _ ne_AD_8_1_AD_1_i).trans g_56E
          refine lv_iinc (v := nI (i + 1)) (lv' := [(1, .int (nI (i + 1))), (0, .ref (AD 9 0))]) hx hb d_Sz_flowThroughOpenings_19 hl (k := 0) rfl (nI_1 i) (by decide) rfl (fun ls hl => ?_)
          refine lv_goto (tgt := 2) hx hb d_Sz_flowThroughOpenings_22 (by decide) ?_
          have hN0 : CW ct AD L n I (mS I P i J1) P _ := hC0.set (k := 1) (i := i) (lv0 (by decide) hi) (co_op (fun _ _ _ => rfl) mS_hJ) hC0.2.2
          have hN : CW ct AD L n I (mS I P i J1) P (va_up f1 (AD 1 i) (.inr (1, [.ref (AD 0 (P 1 i)), .ref (AD 0 g), .int (I 12 i), .int (I 13 i), .int (I 14 i), .int (I 15 i), .int (I 16 i), .long (m_flS (m_open (I 15 i) (I 16 i)) (I 12 i) (m_cov (I 0 (P 1 i)) (I 1 (P 1 i)) (J1 1 (P 1 i)) (I 13 i) (I 14 i)) (m_cov (I 0 g) (I 1 g) (J1 1 g) (I 13 i) (I 14 i)) (J1 1 (P 1 i)) (J1 1 g)), .long (m_fhS (m_open (I 15 i) (I 16 i)) (I 12 i) (m_cov (I 0 (P 1 i)) (I 1 (P 1 i)) (J1 1 (P 1 i)) (I 13 i) (I 14 i)) (m_cov (I 0 g) (I 1 g) (J1 1 g) (I 13 i) (I 14 i)) (J1 1 (P 1 i)) (J1 2 (P 1 i)) (J1 1 g) (J1 2 g)), .long (J1 12 i)]))) := by
            refine cast (congrArg (CW ct AD L n I (mS I P i J1) P) ?_) hN0
            simp [cellOf, roomE, mainE, openE, steelE, farV, up2, mS, mFl, mHt, cvR, hp2]
          exact ih0 (i + 1) _ _ _ _ _ (by omega) hN hP hD hS (lv_sub hl [0, 1] rfl) hfin0
  exact lp0 (n 1) 0 J f _ _ _ (by omega) hCW hP hD hS (lv_sub hl [0, 1] rfl) rfl

set_option maxHeartbeats 4000000 in
set_option maxRecDepth 100000 in
theorem c_Sz_warmThings {l : Launch} {D : va_G} {ct : Nat → ClassId} {AD : Nat → Nat → Nat} {L : List Nat} {f : Nat → va_E} {sz : Nat} {n : Nat → Nat} {I : Nat → Nat → Int32} {J : Nat → Nat → Int64} {P : Nat → Nat → Nat} (hCW : CW ct AD L n I J P f) : Met l y_Sz_warmThings (WS y_Sz_warmThings b_Sz_warmThings 2 none) { frames := 3, cells := 0, slots := 0, locals := 61 } (va_Pc [.ref (AD 9 0)] (WP D (TYS ct) L f sz)) (Xs D (TYS ct) L (AA L f sz) (fun f' => CW ct AD L n (tL J P (n 4) 0 (zL J P (n 1) 0 (aL J (n 0) 0 I))) J P f')) 0 0 (AA L f sz) := by
  refine Met.ofW (cc := b_Sz_warmThings) (maxL := 2) (ret := none) (by decide) rfl ?_
  intro p e s m args below meth c s₁ B hml hv
  obtain ⟨rfl, hsz, hP, hK, hD0⟩ := hv
  subst hsz
  have hx := B.exec
  have hb := B.bytes
  have hret := B.returns
  have hts := atoms_spec (ws := WS y_Sz_warmThings b_Sz_warmThings 2 none) B.pre
  have hG : ∀ w ∈ GW, w.before _ s = true := fun w h => hts w (List.mem_cons_of_mem _ h)
  have hown : s.vm.findClass "SmokeZones" = some m.cls := findClass_of_methodNamed B.named
  have hlocks := B.notSynchronized
  have hD : va_D (AA L f s.heap.size) (va_pl L f) := hD0.self (sz := s.heap.size)
  generalize hAe : AA L f s.heap.size = A at hD ⊢
  have hA : ∀ q : Nat, s.heap.size ≤ q → A q := fun q h => by rw [← hAe]; exact Or.inr h
  have hS : va_S A s.heap s.heap [] := va_S.rf
  have hl := lv_entry ([.ref (AD 9 0)]) (n := 2) (Nat.le_of_ble_eq_true rfl)
  rw [lg_entry_eq]
  generalize (lg_sl ([.ref (AD 9 0)]) ++ List.replicate (2 - (lg_sl ([.ref (AD 9 0)])).length) Slot.unset).toArray = ls at hl ⊢
  have hl : lv_has ls 2 [(0, .ref (AD 9 0))] := hl
  refine lv_iconst (v := 0) hx hb d_Sz_warmThings_0 (by decide) ?_
  refine lv_istore_n (lv' := [(1, .int 0), (0, .ref (AD 9 0))]) hx hb d_Sz_warmThings_1 rfl hl (by decide) rfl (fun ls hl => ?_)
  have lp0 : ∀ (k i : Nat) (I1 : Nat → Nat → Int32) (f1 : Nat → va_E) (H : Heap) (locs : List Loc) (ls : Array Slot), i + k = n 0 → CW ct AD L n I1 J P f1 → va_P D vwCl (va_pl L f1) H → va_D A (va_pl L f1) → va_S A s.heap H locs → lv_has ls 2 [(1, .int (nI i)), (0, .ref (AD 9 0))] → aL J k i I1 = aL J (n 0) 0 I → W p l e (headSpec (WS y_Sz_warmThings b_Sz_warmThings 2 none) { frames := 3, cells := 0, slots := 0, locals := 61 }).room s m [.ref (AD 9 0)].toArray below meth c H locs 0 0 (MQ below (Xs D (TYS ct) L A (fun f' => CW ct AD L n (tL J P (n 4) 0 (zL J P (n 1) 0 (aL J (n 0) 0 I))) J P f')) [.ref (AD 9 0)].toArray s 0 0 A) (F0 m 2 ls []) := by
    intro k
    induction k with
    | zero =>
      intro i I1 f1 H locs ls hik0 hC0 hP hD hS hl hfin0
      have hcap := hC0.cap0
      obtain ⟨g_1L, g_1E⟩ := hC0.ma
      refine lv_iload_n hx hb d_Sz_warmThings_2 rfl (lv_at hl 0 rfl) ?_
      refine lv_aload_n hx hb d_Sz_warmThings_3 rfl (lv_at hl 1 rfl) ?_
      refine pg_get (C := "SmokeZones") (T := T_Sz) (N := 17) hx hb hG in_Sz hown hK hP g_1L g_1E rfl 6 (by decide) (hG _ k41) (fun _ h9 => h9) rfl d_Sz_warmThings_4 ?_
      refine lv_icmp_ge (tgt := 25) hx hb d_Sz_warmThings_7 (by decide) (fun c_2 => ?_) (fun c_2 => ?_)
      · refine lv_iconst (v := 0) hx hb d_Sz_warmThings_25 (by decide) ?_
        refine lv_istore_n (lv' := [(1, .int 0), (0, .ref (AD 9 0))]) hx hb d_Sz_warmThings_26 rfl hl (by decide) rfl (fun ls hl => ?_)
        have lp1 : ∀ (k i : Nat) (I2 : Nat → Nat → Int32) (f2 : Nat → va_E) (H : Heap) (locs : List Loc) (ls : Array Slot), i + k = n 1 → CW ct AD L n I2 J P f2 → va_P D vwCl (va_pl L f2) H → va_D A (va_pl L f2) → va_S A s.heap H locs → lv_has ls 2 [(1, .int (nI i)), (0, .ref (AD 9 0))] → zL J P k i I2 = zL J P (n 1) 0 I1 → W p l e (headSpec (WS y_Sz_warmThings b_Sz_warmThings 2 none) { frames := 3, cells := 0, slots := 0, locals := 61 }).room s m [.ref (AD 9 0)].toArray below meth c H locs 0 0 (MQ below (Xs D (TYS ct) L A (fun f' => CW ct AD L n (tL J P (n 4) 0 (zL J P (n 1) 0 (aL J (n 0) 0 I))) J P f')) [.ref (AD 9 0)].toArray s 0 0 A) (F0 m 27 ls []) := by
          intro k
          induction k with
          | zero =>
            intro i I2 f2 H locs ls hik1 hC1 hP hD hS hl hfin1
            have hcap := hC1.cap1
            obtain ⟨g_3L, g_3E⟩ := hC1.ma
            refine lv_iload_n hx hb d_Sz_warmThings_27 rfl (lv_at hl 0 rfl) ?_
            refine lv_aload_n hx hb d_Sz_warmThings_28 rfl (lv_at hl 1 rfl) ?_
            refine pg_get (C := "SmokeZones") (T := T_Sz) (N := 17) hx hb hG in_Sz hown hK hP g_3L g_3E rfl 7 (by decide) (hG _ k42) (fun _ h9 => h9) rfl d_Sz_warmThings_29 ?_
            refine lv_icmp_ge (tgt := 50) hx hb d_Sz_warmThings_32 (by decide) (fun c_4 => ?_) (fun c_4 => ?_)
            · refine lv_iconst (v := 0) hx hb d_Sz_warmThings_50 (by decide) ?_
              refine lv_istore_n (lv' := [(1, .int 0), (0, .ref (AD 9 0))]) hx hb d_Sz_warmThings_51 rfl hl (by decide) rfl (fun ls hl => ?_)
              have lp2 : ∀ (k i : Nat) (I3 : Nat → Nat → Int32) (f3 : Nat → va_E) (H : Heap) (locs : List Loc) (ls : Array Slot), i + k = n 4 → CW ct AD L n I3 J P f3 → va_P D vwCl (va_pl L f3) H → va_D A (va_pl L f3) → va_S A s.heap H locs → lv_has ls 2 [(1, .int (nI i)), (0, .ref (AD 9 0))] → tL J P k i I3 = tL J P (n 4) 0 I2 → W p l e (headSpec (WS y_Sz_warmThings b_Sz_warmThings 2 none) { frames := 3, cells := 0, slots := 0, locals := 61 }).room s m [.ref (AD 9 0)].toArray below meth c H locs 0 0 (MQ below (Xs D (TYS ct) L A (fun f' => CW ct AD L n (tL J P (n 4) 0 (zL J P (n 1) 0 (aL J (n 0) 0 I))) J P f')) [.ref (AD 9 0)].toArray s 0 0 A) (F0 m 52 ls []) := by
                intro k
                induction k with
                | zero =>
                  intro i I3 f3 H locs ls hik2 hC2 hP hD hS hl hfin2
                  have hcap := hC2.cap4
                  obtain ⟨g_5L, g_5E⟩ := hC2.ma
                  refine lv_iload_n hx hb d_Sz_warmThings_52 rfl (lv_at hl 0 rfl) ?_
                  refine lv_aload_n hx hb d_Sz_warmThings_53 rfl (lv_at hl 1 rfl) ?_
                  refine pg_get (C := "SmokeZones") (T := T_Sz) (N := 17) hx hb hG in_Sz hown hK hP g_5L g_5E rfl 10 (by decide) (hG _ k45) (fun _ h9 => h9) rfl d_Sz_warmThings_54 ?_
                  refine lv_icmp_ge (tgt := 75) hx hb d_Sz_warmThings_57 (by decide) (fun c_6 => ?_) (fun c_6 => ?_)
                  · have q0 : I1 = aL J (n 0) 0 I := hfin0
                    have q1 : I2 = zL J P (n 1) 0 I1 := hfin1
                    have q2 : I3 = tL J P (n 4) 0 I2 := hfin2
                    have hN : CW ct AD L n I3 J P f3 := hC2
                    rw [q2, q1, q0] at hN
                    exact W.vret hx hb hret (fun t ht hW => ⟨⟨f3, rfl, hN, by rw [ht]; exact hP, va_K.moved hW.alike hK, hD⟩, hS.F ht⟩) hS.2.2 d_Sz_warmThings_75
                  · exact (ge_yes (by omega) (by omega) c_6).elim
                | succ k ih2 =>
                  intro i I3 f3 H locs ls hik2 hC2 hP hD hS hl hfin2
                  have hcap := hC2.cap4
                  obtain ⟨g_7L, g_7E⟩ := hC2.ma
                  have hi : i < n 4 := by omega
                  refine lv_iload_n hx hb d_Sz_warmThings_52 rfl (lv_at hl 0 rfl) ?_
                  refine lv_aload_n hx hb d_Sz_warmThings_53 rfl (lv_at hl 1 rfl) ?_
                  refine pg_get (C := "SmokeZones") (T := T_Sz) (N := 17) hx hb hG in_Sz hown hK hP g_7L g_7E rfl 10 (by decide) (hG _ k45) (fun _ h9 => h9) rfl d_Sz_warmThings_54 ?_
                  refine lv_icmp_ge (tgt := 75) hx hb d_Sz_warmThings_57 (by decide) (fun c_8 => ?_) (fun c_8 => ?_)
                  · exact (ge_no hi (by omega) c_8).elim
                  · have hr : P 5 i < n 0 := hC2.2.2.2.2.2.2.1 i hi
                    have hc0 := hC2.cap0
                    obtain ⟨g_9L, g_9E⟩ := hC2.st hi
                    obtain ⟨g_10L, g_10E⟩ := hC2.ro hr
                    obtain ⟨g_11L, g_11E⟩ := hC2.a4
                    have ne_AD_9_0_AD_4_i : AD 9 0 ≠ AD 4 i := hC2.ne (k := 9) (i := 0) (k' := 4) (i' := i) (lv9) (lv0 (by decide) hi) (by omega)
                    have ne_AD_9_0_AD_0_P_5_i : AD 9 0 ≠ AD 0 (P 5 i) := hC2.ne (k := 9) (i := 0) (k' := 0) (i' := (P 5 i)) (lv9) (lv0 (by decide) hr) (by omega)
                    have ne_AD_9_0_AD_8_4 : AD 9 0 ≠ AD 8 4 := hC2.ne (k := 9) (i := 0) (k' := 8) (i' := 4) (lv9) (lv8 (by decide)) (by omega)
                    have ne_AD_4_i_AD_9_0 : AD 4 i ≠ AD 9 0 := hC2.ne (k := 4) (i := i) (k' := 9) (i' := 0) (lv0 (by decide) hi) (lv9) (by omega)
                    have ne_AD_4_i_AD_0_P_5_i : AD 4 i ≠ AD 0 (P 5 i) := hC2.ne (k := 4) (i := i) (k' := 0) (i' := (P 5 i)) (lv0 (by decide) hi) (lv0 (by decide) hr) (by omega)
                    have ne_AD_4_i_AD_8_4 : AD 4 i ≠ AD 8 4 := hC2.ne (k := 4) (i := i) (k' := 8) (i' := 4) (lv0 (by decide) hi) (lv8 (by decide)) (by omega)
                    have ne_AD_0_P_5_i_AD_9_0 : AD 0 (P 5 i) ≠ AD 9 0 := hC2.ne (k := 0) (i := (P 5 i)) (k' := 9) (i' := 0) (lv0 (by decide) hr) (lv9) (by omega)
                    have ne_AD_0_P_5_i_AD_4_i : AD 0 (P 5 i) ≠ AD 4 i := hC2.ne (k := 0) (i := (P 5 i)) (k' := 4) (i' := i) (lv0 (by decide) hr) (lv0 (by decide) hi) (by omega)
                    have ne_AD_0_P_5_i_AD_8_4 : AD 0 (P 5 i) ≠ AD 8 4 := hC2.ne (k := 0) (i := (P 5 i)) (k' := 8) (i' := 4) (lv0 (by decide) hr) (lv8 (by decide)) (by omega)
                    have ne_AD_8_4_AD_9_0 : AD 8 4 ≠ AD 9 0 := hC2.ne (k := 8) (i := 4) (k' := 9) (i' := 0) (lv8 (by decide)) (lv9) (by omega)
                    have ne_AD_8_4_AD_4_i : AD 8 4 ≠ AD 4 i := hC2.ne (k := 8) (i := 4) (k' := 4) (i' := i) (lv8 (by decide)) (lv0 (by decide) hi) (by omega)
                    have ne_AD_8_4_AD_0_P_5_i : AD 8 4 ≠ AD 0 (P 5 i) := hC2.ne (k := 8) (i := 4) (k' := 0) (i' := (P 5 i)) (lv8 (by decide)) (lv0 (by decide) hr) (by omega)
                    refine lv_aload_n hx hb d_Sz_warmThings_60 rfl (lv_at hl 1 rfl) ?_
                    refine pg_get (C := "SmokeZones") (T := T_Sz) (N := 17) hx hb hG in_Sz hown hK hP g_7L g_7E rfl 4 (by decide) (hG _ k39) (fun _ h9 => h9) rfl d_Sz_warmThings_61 ?_
                    refine lv_iload_n hx hb d_Sz_warmThings_64 rfl (lv_at hl 0 rfl) ?_
                    refine pg_ald hx hb hK hP 4 g_11L g_11E rfl (vp_in_nI (by omega) (by decide)) (rf_at hi (by omega)) d_Sz_warmThings_65 ?_
                    refine kV_wv (f' := va_up f3 (AD 4 i) (.inr (4, [.ref (AD 0 (P 5 i)), .int (I3 41 i), .int (m_te (J 1 (P 5 i)) (J 2 (P 5 i)) (I3 41 i) (I3 42 i))]))) ⟨hx, hb, hml, hown, hG⟩ (c_St_getWarm g_9L g_9E g_10L g_10E) (cwV 0 hG (gV k540 k541 k542 k12 k543) rfl rfl rfl hd_St_getWarm ⟨Nat.le_of_ble_eq_true rfl, Nat.le_of_ble_eq_true rfl⟩) hK hP hD hS hA g_9L g_9E rfl rfl hl.1 rfl (Nat.le_of_ble_eq_true rfl) ⟨Nat.le_of_ble_eq_true rfl, Nat.le_of_ble_eq_true rfl⟩ d_Sz_warmThings_66 (fun H locs hP hD hS => ?_)
                    have e_12 : (va_up f3 (AD 4 i) (.inr (4, [.ref (AD 0 (P 5 i)), .int (I3 41 i), .int (m_te (J 1 (P 5 i)) (J 2 (P 5 i)) (I3 41 i) (I3 42 i))]))) (AD 4 i) = .inr (4, [.ref (AD 0 (P 5 i)), .int (I3 41 i), .int (m_te (J 1 (P 5 i)) (J 2 (P 5 i)) (I3 41 i) (I3 42 i))]) := va_up_self _ _ _
                    have e_13 : (va_up f3 (AD 4 i) (.inr (4, [.ref (AD 0 (P 5 i)), .int (I3 41 i), .int (m_te (J 1 (P 5 i)) (J 2 (P 5 i)) (I3 41 i) (I3 42 i))]))) (AD 9 0) = .inr (6, [.ref (AD 8 0), .ref (AD 8 1), .ref (AD 8 2), .ref (AD 8 3), .ref (AD 8 4), .ref (AD 8 5), .int (nI (n 0)), .int (nI (n 1)), .int (nI (n 2)), .int (nI (n 3)), .int (nI (n 4)), .int (nI (n 5)), .int (I3 99 0), .long (J 99 0), .long (J 99 1), .long (J 99 2), .long (J 99 3)]) := (va_up_ne _ _ ne_AD_9_0_AD_4_i).trans g_7E
                    have e_14 : (va_up f3 (AD 4 i) (.inr (4, [.ref (AD 0 (P 5 i)), .int (I3 41 i), .int (m_te (J 1 (P 5 i)) (J 2 (P 5 i)) (I3 41 i) (I3 42 i))]))) (AD 0 (P 5 i)) = .inr (0, [.int (I3 0 (P 5 i)), .int (I3 1 (P 5 i)), .long (J 0 (P 5 i)), .long (J 1 (P 5 i)), .long (J 2 (P 5 i)), .int (I3 2 (P 5 i)), .int (I3 3 (P 5 i)), .int (I3 4 (P 5 i))]) := (va_up_ne _ _ ne_AD_0_P_5_i_AD_4_i).trans g_10E
                    have e_15 : (va_up f3 (AD 4 i) (.inr (4, [.ref (AD 0 (P 5 i)), .int (I3 41 i), .int (m_te (J 1 (P 5 i)) (J 2 (P 5 i)) (I3 41 i) (I3 42 i))]))) (AD 8 4) = .inl (ct 4, 9, .inr (.inr (.inr (.inr (fun j => if j < n 4 then some (AD 4 j) else none))))) := (va_up_ne _ _ ne_AD_8_4_AD_4_i).trans g_11E
                    refine lv_iinc (v := nI (i + 1)) (lv' := [(1, .int (nI (i + 1))), (0, .ref (AD 9 0))]) hx hb d_Sz_warmThings_69 hl (k := 0) rfl (nI_1 i) (by decide) rfl (fun ls hl => ?_)
                    refine lv_goto (tgt := 52) hx hb d_Sz_warmThings_72 (by decide) ?_
                    have hN0 : CW ct AD L n (tS J P i I3) J P _ := hC2.set (k := 4) (i := i) (lv0 (by decide) hi) (co_st up_hO) hC2.2.2
                    have hN : CW ct AD L n (tS J P i I3) J P (va_up f3 (AD 4 i) (.inr (4, [.ref (AD 0 (P 5 i)), .int (I3 41 i), .int (m_te (J 1 (P 5 i)) (J 2 (P 5 i)) (I3 41 i) (I3 42 i))]))) := by
                      refine cast (congrArg (CW ct AD L n (tS J P i I3) J P) ?_) hN0
                      simp [cellOf, roomE, mainE, openE, steelE, farV, up2, tS]
                    exact ih2 (i + 1) _ _ _ _ _ (by omega) hN hP hD hS (lv_sub hl [0, 1] rfl) hfin2
              exact lp2 (n 4) 0 I2 f2 _ _ _ (by omega) hC1 hP hD hS (lv_sub hl [0, 1] rfl) rfl
            · exact (ge_yes (by omega) (by omega) c_4).elim
          | succ k ih1 =>
            intro i I2 f2 H locs ls hik1 hC1 hP hD hS hl hfin1
            have hcap := hC1.cap1
            obtain ⟨g_16L, g_16E⟩ := hC1.ma
            have hi : i < n 1 := by omega
            refine lv_iload_n hx hb d_Sz_warmThings_27 rfl (lv_at hl 0 rfl) ?_
            refine lv_aload_n hx hb d_Sz_warmThings_28 rfl (lv_at hl 1 rfl) ?_
            refine pg_get (C := "SmokeZones") (T := T_Sz) (N := 17) hx hb hG in_Sz hown hK hP g_16L g_16E rfl 7 (by decide) (hG _ k42) (fun _ h9 => h9) rfl d_Sz_warmThings_29 ?_
            refine lv_icmp_ge (tgt := 50) hx hb d_Sz_warmThings_32 (by decide) (fun c_17 => ?_) (fun c_17 => ?_)
            · exact (ge_no hi (by omega) c_17).elim
            · obtain ⟨hr, hg2, hgr⟩ := hC1.2.2.2.1 i hi
              have hc0 := hC1.cap0
              obtain ⟨g_18L, g_18E0⟩ := hC1.op hi
              rcases hp2 : P 2 i with _ | g
              · have g_18E : f2 (AD 1 i) = .inr (1, [.ref (AD 0 (P 1 i)), .null, .int (I2 12 i), .int (I2 13 i), .int (I2 14 i), .int (I2 15 i), .int (I2 16 i), .long (J 10 i), .long (J 11 i), .long (J 12 i)]) := by rw [g_18E0, hp2]; rfl
                obtain ⟨g_19L, g_19E⟩ := hC1.ro hr
                obtain ⟨g_20L, g_20E⟩ := hC1.a1
                have ne_AD_9_0_AD_1_i : AD 9 0 ≠ AD 1 i := hC1.ne (k := 9) (i := 0) (k' := 1) (i' := i) (lv9) (lv0 (by decide) hi) (by omega)
                have ne_AD_9_0_AD_0_P_1_i : AD 9 0 ≠ AD 0 (P 1 i) := hC1.ne (k := 9) (i := 0) (k' := 0) (i' := (P 1 i)) (lv9) (lv0 (by decide) hr) (by omega)
                have ne_AD_9_0_AD_8_1 : AD 9 0 ≠ AD 8 1 := hC1.ne (k := 9) (i := 0) (k' := 8) (i' := 1) (lv9) (lv8 (by decide)) (by omega)
                have ne_AD_1_i_AD_9_0 : AD 1 i ≠ AD 9 0 := hC1.ne (k := 1) (i := i) (k' := 9) (i' := 0) (lv0 (by decide) hi) (lv9) (by omega)
                have ne_AD_1_i_AD_0_P_1_i : AD 1 i ≠ AD 0 (P 1 i) := hC1.ne (k := 1) (i := i) (k' := 0) (i' := (P 1 i)) (lv0 (by decide) hi) (lv0 (by decide) hr) (by omega)
                have ne_AD_1_i_AD_8_1 : AD 1 i ≠ AD 8 1 := hC1.ne (k := 1) (i := i) (k' := 8) (i' := 1) (lv0 (by decide) hi) (lv8 (by decide)) (by omega)
                have ne_AD_0_P_1_i_AD_9_0 : AD 0 (P 1 i) ≠ AD 9 0 := hC1.ne (k := 0) (i := (P 1 i)) (k' := 9) (i' := 0) (lv0 (by decide) hr) (lv9) (by omega)
                have ne_AD_0_P_1_i_AD_1_i : AD 0 (P 1 i) ≠ AD 1 i := hC1.ne (k := 0) (i := (P 1 i)) (k' := 1) (i' := i) (lv0 (by decide) hr) (lv0 (by decide) hi) (by omega)
                have ne_AD_0_P_1_i_AD_8_1 : AD 0 (P 1 i) ≠ AD 8 1 := hC1.ne (k := 0) (i := (P 1 i)) (k' := 8) (i' := 1) (lv0 (by decide) hr) (lv8 (by decide)) (by omega)
                have ne_AD_8_1_AD_9_0 : AD 8 1 ≠ AD 9 0 := hC1.ne (k := 8) (i := 1) (k' := 9) (i' := 0) (lv8 (by decide)) (lv9) (by omega)
                have ne_AD_8_1_AD_1_i : AD 8 1 ≠ AD 1 i := hC1.ne (k := 8) (i := 1) (k' := 1) (i' := i) (lv8 (by decide)) (lv0 (by decide) hi) (by omega)
                have ne_AD_8_1_AD_0_P_1_i : AD 8 1 ≠ AD 0 (P 1 i) := hC1.ne (k := 8) (i := 1) (k' := 0) (i' := (P 1 i)) (lv8 (by decide)) (lv0 (by decide) hr) (by omega)
                refine lv_aload_n hx hb d_Sz_warmThings_35 rfl (lv_at hl 1 rfl) ?_
                refine pg_get (C := "SmokeZones") (T := T_Sz) (N := 17) hx hb hG in_Sz hown hK hP g_16L g_16E rfl 1 (by decide) (hG _ k36) (fun _ h9 => h9) rfl d_Sz_warmThings_36 ?_
                refine lv_iload_n hx hb d_Sz_warmThings_39 rfl (lv_at hl 0 rfl) ?_
                refine pg_ald hx hb hK hP 1 g_20L g_20E rfl (vp_in_nI (by omega) (by decide)) (rf_at hi (by omega)) d_Sz_warmThings_40 ?_
                refine kV_wv (f' := va_up f2 (AD 1 i) (.inr (1, [.ref (AD 0 (P 1 i)), .null, .int (I2 12 i), .int (I2 13 i), .int (I2 14 i), .int (I2 15 i), .int (m_brN (m_open (I2 15 i) (I2 16 i)) (m_hot (J 1 (P 1 i)) (J 2 (P 1 i)) (I2 15 i)) (I2 16 i)), .long (J 10 i), .long (J 11 i), .long (J 12 i)]))) ⟨hx, hb, hml, hown, hG⟩ (c_Op_testGlass_n g_18L g_18E g_19L g_19E) (cwV 0 hG (gV k531 k532 k533 k9 k534) rfl rfl rfl hd_Op_testGlass ⟨Nat.le_of_ble_eq_true rfl, Nat.le_of_ble_eq_true rfl⟩) hK hP hD hS hA g_18L g_18E rfl rfl hl.1 rfl (Nat.le_of_ble_eq_true rfl) ⟨Nat.le_of_ble_eq_true rfl, Nat.le_of_ble_eq_true rfl⟩ d_Sz_warmThings_41 (fun H locs hP hD hS => ?_)
                have e_21 : (va_up f2 (AD 1 i) (.inr (1, [.ref (AD 0 (P 1 i)), .null, .int (I2 12 i), .int (I2 13 i), .int (I2 14 i), .int (I2 15 i), .int (m_brN (m_open (I2 15 i) (I2 16 i)) (m_hot (J 1 (P 1 i)) (J 2 (P 1 i)) (I2 15 i)) (I2 16 i)), .long (J 10 i), .long (J 11 i), .long (J 12 i)]))) (AD 1 i) = .inr (1, [.ref (AD 0 (P 1 i)), .null, .int (I2 12 i), .int (I2 13 i), .int (I2 14 i), .int (I2 15 i), .int (m_brN (m_open (I2 15 i) (I2 16 i)) (m_hot (J 1 (P 1 i)) (J 2 (P 1 i)) (I2 15 i)) (I2 16 i)), .long (J 10 i), .long (J 11 i), .long (J 12 i)]) := va_up_self _ _ _
                have e_22 : (va_up f2 (AD 1 i) (.inr (1, [.ref (AD 0 (P 1 i)), .null, .int (I2 12 i), .int (I2 13 i), .int (I2 14 i), .int (I2 15 i), .int (m_brN (m_open (I2 15 i) (I2 16 i)) (m_hot (J 1 (P 1 i)) (J 2 (P 1 i)) (I2 15 i)) (I2 16 i)), .long (J 10 i), .long (J 11 i), .long (J 12 i)]))) (AD 9 0) = .inr (6, [.ref (AD 8 0), .ref (AD 8 1), .ref (AD 8 2), .ref (AD 8 3), .ref (AD 8 4), .ref (AD 8 5), .int (nI (n 0)), .int (nI (n 1)), .int (nI (n 2)), .int (nI (n 3)), .int (nI (n 4)), .int (nI (n 5)), .int (I2 99 0), .long (J 99 0), .long (J 99 1), .long (J 99 2), .long (J 99 3)]) := (va_up_ne _ _ ne_AD_9_0_AD_1_i).trans g_16E
                have e_23 : (va_up f2 (AD 1 i) (.inr (1, [.ref (AD 0 (P 1 i)), .null, .int (I2 12 i), .int (I2 13 i), .int (I2 14 i), .int (I2 15 i), .int (m_brN (m_open (I2 15 i) (I2 16 i)) (m_hot (J 1 (P 1 i)) (J 2 (P 1 i)) (I2 15 i)) (I2 16 i)), .long (J 10 i), .long (J 11 i), .long (J 12 i)]))) (AD 0 (P 1 i)) = .inr (0, [.int (I2 0 (P 1 i)), .int (I2 1 (P 1 i)), .long (J 0 (P 1 i)), .long (J 1 (P 1 i)), .long (J 2 (P 1 i)), .int (I2 2 (P 1 i)), .int (I2 3 (P 1 i)), .int (I2 4 (P 1 i))]) := (va_up_ne _ _ ne_AD_0_P_1_i_AD_1_i).trans g_19E
                have e_24 : (va_up f2 (AD 1 i) (.inr (1, [.ref (AD 0 (P 1 i)), .null, .int (I2 12 i), .int (I2 13 i), .int (I2 14 i), .int (I2 15 i), .int (m_brN (m_open (I2 15 i) (I2 16 i)) (m_hot (J 1 (P 1 i)) (J 2 (P 1 i)) (I2 15 i)) (I2 16 i)), .long (J 10 i), .long (J 11 i), .long (J 12 i)]))) (AD 8 1) = .inl (ct 1, 15, .inr (.inr (.inr (.inr (fun j => if j < n 1 then some (AD 1 j) else none))))) := (va_up_ne _ _ ne_AD_8_1_AD_1_i).trans g_20E
                refine lv_iinc (v := nI (i + 1)) (lv' := [(1, .int (nI (i + 1))), (0, .ref (AD 9 0))]) hx hb d_Sz_warmThings_44 hl (k := 0) rfl (nI_1 i) (by decide) rfl (fun ls hl => ?_)
                refine lv_goto (tgt := 27) hx hb d_Sz_warmThings_47 (by decide) ?_
                have hN0 : CW ct AD L n (zS J P i I2) J P _ := hC1.set (k := 1) (i := i) (lv0 (by decide) hi) (co_op (fun a b h => up_hO a b (by omega)) (fun _ _ _ => rfl)) hC1.2.2
                have hN : CW ct AD L n (zS J P i I2) J P (va_up f2 (AD 1 i) (.inr (1, [.ref (AD 0 (P 1 i)), .null, .int (I2 12 i), .int (I2 13 i), .int (I2 14 i), .int (I2 15 i), .int (m_brN (m_open (I2 15 i) (I2 16 i)) (m_hot (J 1 (P 1 i)) (J 2 (P 1 i)) (I2 15 i)) (I2 16 i)), .long (J 10 i), .long (J 11 i), .long (J 12 i)]))) := by
                  refine cast (congrArg (CW ct AD L n (zS J P i I2) J P) ?_) hN0
                  simp [cellOf, roomE, mainE, openE, steelE, farV, up2, zS, hp2]
                exact ih1 (i + 1) _ _ _ _ _ (by omega) hN hP hD hS (lv_sub hl [0, 1] rfl) hfin1
              · have g_18E : f2 (AD 1 i) = .inr (1, [.ref (AD 0 (P 1 i)), .ref (AD 0 g), .int (I2 12 i), .int (I2 13 i), .int (I2 14 i), .int (I2 15 i), .int (I2 16 i), .long (J 10 i), .long (J 11 i), .long (J 12 i)]) := by rw [g_18E0, hp2]; rfl
                obtain ⟨g_25L, g_25E⟩ := hC1.ro hr
                have hg : g < n 0 := by omega
                obtain ⟨g_26L, g_26E⟩ := hC1.ro hg
                obtain ⟨g_27L, g_27E⟩ := hC1.a1
                have ne_AD_9_0_AD_1_i : AD 9 0 ≠ AD 1 i := hC1.ne (k := 9) (i := 0) (k' := 1) (i' := i) (lv9) (lv0 (by decide) hi) (by omega)
                have ne_AD_9_0_AD_0_P_1_i : AD 9 0 ≠ AD 0 (P 1 i) := hC1.ne (k := 9) (i := 0) (k' := 0) (i' := (P 1 i)) (lv9) (lv0 (by decide) hr) (by omega)
                have ne_AD_9_0_AD_0_g : AD 9 0 ≠ AD 0 g := hC1.ne (k := 9) (i := 0) (k' := 0) (i' := g) (lv9) (lv0 (by decide) hg) (by omega)
                have ne_AD_9_0_AD_8_1 : AD 9 0 ≠ AD 8 1 := hC1.ne (k := 9) (i := 0) (k' := 8) (i' := 1) (lv9) (lv8 (by decide)) (by omega)
                have ne_AD_1_i_AD_9_0 : AD 1 i ≠ AD 9 0 := hC1.ne (k := 1) (i := i) (k' := 9) (i' := 0) (lv0 (by decide) hi) (lv9) (by omega)
                have ne_AD_1_i_AD_0_P_1_i : AD 1 i ≠ AD 0 (P 1 i) := hC1.ne (k := 1) (i := i) (k' := 0) (i' := (P 1 i)) (lv0 (by decide) hi) (lv0 (by decide) hr) (by omega)
                have ne_AD_1_i_AD_0_g : AD 1 i ≠ AD 0 g := hC1.ne (k := 1) (i := i) (k' := 0) (i' := g) (lv0 (by decide) hi) (lv0 (by decide) hg) (by omega)
                have ne_AD_1_i_AD_8_1 : AD 1 i ≠ AD 8 1 := hC1.ne (k := 1) (i := i) (k' := 8) (i' := 1) (lv0 (by decide) hi) (lv8 (by decide)) (by omega)
                have ne_AD_0_P_1_i_AD_9_0 : AD 0 (P 1 i) ≠ AD 9 0 := hC1.ne (k := 0) (i := (P 1 i)) (k' := 9) (i' := 0) (lv0 (by decide) hr) (lv9) (by omega)
                have ne_AD_0_P_1_i_AD_1_i : AD 0 (P 1 i) ≠ AD 1 i := hC1.ne (k := 0) (i := (P 1 i)) (k' := 1) (i' := i) (lv0 (by decide) hr) (lv0 (by decide) hi) (by omega)
                have ne_AD_0_P_1_i_AD_0_g : AD 0 (P 1 i) ≠ AD 0 g := hC1.ne (k := 0) (i := (P 1 i)) (k' := 0) (i' := g) (lv0 (by decide) hr) (lv0 (by decide) hg) (by omega)
                have ne_AD_0_P_1_i_AD_8_1 : AD 0 (P 1 i) ≠ AD 8 1 := hC1.ne (k := 0) (i := (P 1 i)) (k' := 8) (i' := 1) (lv0 (by decide) hr) (lv8 (by decide)) (by omega)
                have ne_AD_0_g_AD_9_0 : AD 0 g ≠ AD 9 0 := hC1.ne (k := 0) (i := g) (k' := 9) (i' := 0) (lv0 (by decide) hg) (lv9) (by omega)
                have ne_AD_0_g_AD_1_i : AD 0 g ≠ AD 1 i := hC1.ne (k := 0) (i := g) (k' := 1) (i' := i) (lv0 (by decide) hg) (lv0 (by decide) hi) (by omega)
                have ne_AD_0_g_AD_0_P_1_i : AD 0 g ≠ AD 0 (P 1 i) := hC1.ne (k := 0) (i := g) (k' := 0) (i' := (P 1 i)) (lv0 (by decide) hg) (lv0 (by decide) hr) (by omega)
                have ne_AD_0_g_AD_8_1 : AD 0 g ≠ AD 8 1 := hC1.ne (k := 0) (i := g) (k' := 8) (i' := 1) (lv0 (by decide) hg) (lv8 (by decide)) (by omega)
                have ne_AD_8_1_AD_9_0 : AD 8 1 ≠ AD 9 0 := hC1.ne (k := 8) (i := 1) (k' := 9) (i' := 0) (lv8 (by decide)) (lv9) (by omega)
                have ne_AD_8_1_AD_1_i : AD 8 1 ≠ AD 1 i := hC1.ne (k := 8) (i := 1) (k' := 1) (i' := i) (lv8 (by decide)) (lv0 (by decide) hi) (by omega)
                have ne_AD_8_1_AD_0_P_1_i : AD 8 1 ≠ AD 0 (P 1 i) := hC1.ne (k := 8) (i := 1) (k' := 0) (i' := (P 1 i)) (lv8 (by decide)) (lv0 (by decide) hr) (by omega)
                have ne_AD_8_1_AD_0_g : AD 8 1 ≠ AD 0 g := hC1.ne (k := 8) (i := 1) (k' := 0) (i' := g) (lv8 (by decide)) (lv0 (by decide) hg) (by omega)
                refine lv_aload_n hx hb d_Sz_warmThings_35 rfl (lv_at hl 1 rfl) ?_
                refine pg_get (C := "SmokeZones") (T := T_Sz) (N := 17) hx hb hG in_Sz hown hK hP g_16L g_16E rfl 1 (by decide) (hG _ k36) (fun _ h9 => h9) rfl d_Sz_warmThings_36 ?_
                refine lv_iload_n hx hb d_Sz_warmThings_39 rfl (lv_at hl 0 rfl) ?_
                refine pg_ald hx hb hK hP 1 g_27L g_27E rfl (vp_in_nI (by omega) (by decide)) (rf_at hi (by omega)) d_Sz_warmThings_40 ?_
                refine kV_wv (f' := va_up f2 (AD 1 i) (.inr (1, [.ref (AD 0 (P 1 i)), .ref (AD 0 g), .int (I2 12 i), .int (I2 13 i), .int (I2 14 i), .int (I2 15 i), .int (m_brS (m_open (I2 15 i) (I2 16 i)) (m_hot (J 1 (P 1 i)) (J 2 (P 1 i)) (I2 15 i)) (m_hot (J 1 g) (J 2 g) (I2 15 i)) (I2 16 i)), .long (J 10 i), .long (J 11 i), .long (J 12 i)]))) ⟨hx, hb, hml, hown, hG⟩ (c_Op_testGlass_s g_18L g_18E g_25L g_25E g_26L g_26E) (cwV 0 hG (gV k531 k532 k533 k9 k534) rfl rfl rfl hd_Op_testGlass ⟨Nat.le_of_ble_eq_true rfl, Nat.le_of_ble_eq_true rfl⟩) hK hP hD hS hA g_18L g_18E rfl rfl hl.1 rfl (Nat.le_of_ble_eq_true rfl) ⟨Nat.le_of_ble_eq_true rfl, Nat.le_of_ble_eq_true rfl⟩ d_Sz_warmThings_41 (fun H locs hP hD hS => ?_)
                have e_28 : (va_up f2 (AD 1 i) (.inr (1, [.ref (AD 0 (P 1 i)), .ref (AD 0 g), .int (I2 12 i), .int (I2 13 i), .int (I2 14 i), .int (I2 15 i), .int (m_brS (m_open (I2 15 i) (I2 16 i)) (m_hot (J 1 (P 1 i)) (J 2 (P 1 i)) (I2 15 i)) (m_hot (J 1 g) (J 2 g) (I2 15 i)) (I2 16 i)), .long (J 10 i), .long (J 11 i), .long (J 12 i)]))) (AD 1 i) = .inr (1, [.ref (AD 0 (P 1 i)), .ref (AD 0 g), .int (I2 12 i), .int (I2 13 i), .int (I2 14 i), .int (I2 15 i), .int (m_brS (m_open (I2 15 i) (I2 16 i)) (m_hot (J 1 (P 1 i)) (J 2 (P 1 i)) (I2 15 i)) (m_hot (J 1 g) (J 2 g) (I2 15 i)) (I2 16 i)), .long (J 10 i), .long (J 11 i), .long (J 12 i)]) := va_up_self _ _ _
                have e_29 : (va_up f2 (AD 1 i) (.inr (1, [.ref (AD 0 (P 1 i)), .ref (AD 0 g), .int (I2 12 i), .int (I2 13 i), .int (I2 14 i), .int (I2 15 i), .int (m_brS (m_open (I2 15 i) (I2 16 i)) (m_hot (J 1 (P 1 i)) (J 2 (P 1 i)) (I2 15 i)) (m_hot (J 1 g) (J 2 g) (I2 15 i)) (I2 16 i)), .long (J 10 i), .long (J 11 i), .long (J 12 i)]))) (AD 9 0) = .inr (6, [.ref (AD 8 0), .ref (AD 8 1), .ref (AD 8 2), .ref (AD 8 3), .ref (AD 8 4), .ref (AD 8 5), .int (nI (n 0)), .int (nI (n 1)), .int (nI (n 2)), .int (nI (n 3)), .int (nI (n 4)), .int (nI (n 5)), .int (I2 99 0), .long (J 99 0), .long (J 99 1), .long (J 99 2), .long (J 99 3)]) := (va_up_ne _ _ ne_AD_9_0_AD_1_i).trans g_16E
                have e_30 : (va_up f2 (AD 1 i) (.inr (1, [.ref (AD 0 (P 1 i)), .ref (AD 0 g), .int (I2 12 i), .int (I2 13 i), .int (I2 14 i), .int (I2 15 i), .int (m_brS (m_open (I2 15 i) (I2 16 i)) (m_hot (J 1 (P 1 i)) (J 2 (P 1 i)) (I2 15 i)) (m_hot (J 1 g) (J 2 g) (I2 15 i)) (I2 16 i)), .long (J 10 i), .long (J 11 i), .long (J 12 i)]))) (AD 0 (P 1 i)) = .inr (0, [.int (I2 0 (P 1 i)), .int (I2 1 (P 1 i)), .long (J 0 (P 1 i)), .long (J 1 (P 1 i)), .long (J 2 (P 1 i)), .int (I2 2 (P 1 i)), .int (I2 3 (P 1 i)), .int (I2 4 (P 1 i))]) := (va_up_ne _ _ ne_AD_0_P_1_i_AD_1_i).trans g_25E
                have e_31 : (va_up f2 (AD 1 i) (.inr (1, [.ref (AD 0 (P 1 i)), .ref (AD 0 g), .int (I2 12 i), .int (I2 13 i), .int (I2 14 i), .int (I2 15 i), .int (m_brS (m_open (I2 15 i) (I2 16 i)) (m_hot (J 1 (P 1 i)) (J 2 (P 1 i)) (I2 15 i)) (m_hot (J 1 g) (J 2 g) (I2 15 i)) (I2 16 i)), .long (J 10 i), .long (J 11 i), .long (J 12 i)]))) (AD 0 g) = .inr (0, [.int (I2 0 g), .int (I2 1 g), .long (J 0 g), .long (J 1 g), .long (J 2 g), .int (I2 2 g), .int (I2 3 g), .int (I2 4 g)]) := (va_up_ne _ _ ne_AD_0_g_AD_1_i).trans g_26E
                have e_32 : (va_up f2 (AD 1 i) (.inr (1, [.ref (AD 0 (P 1 i)), .ref (AD 0 g), .int (I2 12 i), .int (I2 13 i), .int (I2 14 i), .int (I2 15 i), .int (m_brS (m_open (I2 15 i) (I2 16 i)) (m_hot (J 1 (P 1 i)) (J 2 (P 1 i)) (I2 15 i)) (m_hot (J 1 g) (J 2 g) (I2 15 i)) (I2 16 i)), .long (J 10 i), .long (J 11 i), .long (J 12 i)]))) (AD 8 1) = .inl (ct 1, 15, .inr (.inr (.inr (.inr (fun j => if j < n 1 then some (AD 1 j) else none))))) := (va_up_ne _ _ ne_AD_8_1_AD_1_i).trans g_27E
                refine lv_iinc (v := nI (i + 1)) (lv' := [(1, .int (nI (i + 1))), (0, .ref (AD 9 0))]) hx hb d_Sz_warmThings_44 hl (k := 0) rfl (nI_1 i) (by decide) rfl (fun ls hl => ?_)
                refine lv_goto (tgt := 27) hx hb d_Sz_warmThings_47 (by decide) ?_
                have hN0 : CW ct AD L n (zS J P i I2) J P _ := hC1.set (k := 1) (i := i) (lv0 (by decide) hi) (co_op (fun a b h => up_hO a b (by omega)) (fun _ _ _ => rfl)) hC1.2.2
                have hN : CW ct AD L n (zS J P i I2) J P (va_up f2 (AD 1 i) (.inr (1, [.ref (AD 0 (P 1 i)), .ref (AD 0 g), .int (I2 12 i), .int (I2 13 i), .int (I2 14 i), .int (I2 15 i), .int (m_brS (m_open (I2 15 i) (I2 16 i)) (m_hot (J 1 (P 1 i)) (J 2 (P 1 i)) (I2 15 i)) (m_hot (J 1 g) (J 2 g) (I2 15 i)) (I2 16 i)), .long (J 10 i), .long (J 11 i), .long (J 12 i)]))) := by
                  refine cast (congrArg (CW ct AD L n (zS J P i I2) J P) ?_) hN0
                  simp [cellOf, roomE, mainE, openE, steelE, farV, up2, zS, hp2]
                exact ih1 (i + 1) _ _ _ _ _ (by omega) hN hP hD hS (lv_sub hl [0, 1] rfl) hfin1
        exact lp1 (n 1) 0 I1 f1 _ _ _ (by omega) hC0 hP hD hS (lv_sub hl [0, 1] rfl) rfl
      · exact (ge_yes (by omega) (by omega) c_2).elim
    | succ k ih0 =>
      intro i I1 f1 H locs ls hik0 hC0 hP hD hS hl hfin0
      have hcap := hC0.cap0
      obtain ⟨g_33L, g_33E⟩ := hC0.ma
      have hi : i < n 0 := by omega
      refine lv_iload_n hx hb d_Sz_warmThings_2 rfl (lv_at hl 0 rfl) ?_
      refine lv_aload_n hx hb d_Sz_warmThings_3 rfl (lv_at hl 1 rfl) ?_
      refine pg_get (C := "SmokeZones") (T := T_Sz) (N := 17) hx hb hG in_Sz hown hK hP g_33L g_33E rfl 6 (by decide) (hG _ k41) (fun _ h9 => h9) rfl d_Sz_warmThings_4 ?_
      refine lv_icmp_ge (tgt := 25) hx hb d_Sz_warmThings_7 (by decide) (fun c_34 => ?_) (fun c_34 => ?_)
      · exact (ge_no hi (by omega) c_34).elim
      · obtain ⟨g_35L, g_35E⟩ := hC0.ro hi
        obtain ⟨g_36L, g_36E⟩ := hC0.a0
        have ne_AD_9_0_AD_0_i : AD 9 0 ≠ AD 0 i := hC0.ne (k := 9) (i := 0) (k' := 0) (i' := i) (lv9) (lv0 (by decide) hi) (by omega)
        have ne_AD_9_0_AD_8_0 : AD 9 0 ≠ AD 8 0 := hC0.ne (k := 9) (i := 0) (k' := 8) (i' := 0) (lv9) (lv8 (by decide)) (by omega)
        have ne_AD_0_i_AD_9_0 : AD 0 i ≠ AD 9 0 := hC0.ne (k := 0) (i := i) (k' := 9) (i' := 0) (lv0 (by decide) hi) (lv9) (by omega)
        have ne_AD_0_i_AD_8_0 : AD 0 i ≠ AD 8 0 := hC0.ne (k := 0) (i := i) (k' := 8) (i' := 0) (lv0 (by decide) hi) (lv8 (by decide)) (by omega)
        have ne_AD_8_0_AD_9_0 : AD 8 0 ≠ AD 9 0 := hC0.ne (k := 8) (i := 0) (k' := 9) (i' := 0) (lv8 (by decide)) (lv9) (by omega)
        have ne_AD_8_0_AD_0_i : AD 8 0 ≠ AD 0 i := hC0.ne (k := 8) (i := 0) (k' := 0) (i' := i) (lv8 (by decide)) (lv0 (by decide) hi) (by omega)
        refine lv_aload_n hx hb d_Sz_warmThings_10 rfl (lv_at hl 1 rfl) ?_
        refine pg_get (C := "SmokeZones") (T := T_Sz) (N := 17) hx hb hG in_Sz hown hK hP g_33L g_33E rfl 0 (by decide) (hG _ k35) (fun _ h9 => h9) rfl d_Sz_warmThings_11 ?_
        refine lv_iload_n hx hb d_Sz_warmThings_14 rfl (lv_at hl 0 rfl) ?_
        refine pg_ald hx hb hK hP 0 g_36L g_36E rfl (vp_in_nI (by omega) (by decide)) (rf_at hi (by omega)) d_Sz_warmThings_15 ?_
        refine kV_wv (f' := va_up f1 (AD 0 i) (.inr (0, [.int (I1 0 i), .int (I1 1 i), .long (J 0 i), .long (J 1 i), .long (J 2 i), .int (I1 2 i), .int (m_act (J 1 i) (J 2 i) (I1 2 i) (I1 3 i)), .int (I1 4 i)]))) ⟨hx, hb, hml, hown, hG⟩ (c_Ro_testSprinkler g_35L g_35E) (cwV 0 hG (gV k523 k524 k525 k8 k526) rfl rfl rfl hd_Ro_testSprinkler ⟨Nat.le_of_ble_eq_true rfl, Nat.le_of_ble_eq_true rfl⟩) hK hP hD hS hA g_35L g_35E rfl rfl hl.1 rfl (Nat.le_of_ble_eq_true rfl) ⟨Nat.le_of_ble_eq_true rfl, Nat.le_of_ble_eq_true rfl⟩ d_Sz_warmThings_16 (fun H locs hP hD hS => ?_)
        have e_37 : (va_up f1 (AD 0 i) (.inr (0, [.int (I1 0 i), .int (I1 1 i), .long (J 0 i), .long (J 1 i), .long (J 2 i), .int (I1 2 i), .int (m_act (J 1 i) (J 2 i) (I1 2 i) (I1 3 i)), .int (I1 4 i)]))) (AD 0 i) = .inr (0, [.int (I1 0 i), .int (I1 1 i), .long (J 0 i), .long (J 1 i), .long (J 2 i), .int (I1 2 i), .int (m_act (J 1 i) (J 2 i) (I1 2 i) (I1 3 i)), .int (I1 4 i)]) := va_up_self _ _ _
        have e_38 : (va_up f1 (AD 0 i) (.inr (0, [.int (I1 0 i), .int (I1 1 i), .long (J 0 i), .long (J 1 i), .long (J 2 i), .int (I1 2 i), .int (m_act (J 1 i) (J 2 i) (I1 2 i) (I1 3 i)), .int (I1 4 i)]))) (AD 9 0) = .inr (6, [.ref (AD 8 0), .ref (AD 8 1), .ref (AD 8 2), .ref (AD 8 3), .ref (AD 8 4), .ref (AD 8 5), .int (nI (n 0)), .int (nI (n 1)), .int (nI (n 2)), .int (nI (n 3)), .int (nI (n 4)), .int (nI (n 5)), .int (I1 99 0), .long (J 99 0), .long (J 99 1), .long (J 99 2), .long (J 99 3)]) := (va_up_ne _ _ ne_AD_9_0_AD_0_i).trans g_33E
        have e_39 : (va_up f1 (AD 0 i) (.inr (0, [.int (I1 0 i), .int (I1 1 i), .long (J 0 i), .long (J 1 i), .long (J 2 i), .int (I1 2 i), .int (m_act (J 1 i) (J 2 i) (I1 2 i) (I1 3 i)), .int (I1 4 i)]))) (AD 8 0) = .inl (ct 0, 10, .inr (.inr (.inr (.inr (fun j => if j < n 0 then some (AD 0 j) else none))))) := (va_up_ne _ _ ne_AD_8_0_AD_0_i).trans g_36E
        refine lv_iinc (v := nI (i + 1)) (lv' := [(1, .int (nI (i + 1))), (0, .ref (AD 9 0))]) hx hb d_Sz_warmThings_19 hl (k := 0) rfl (nI_1 i) (by decide) rfl (fun ls hl => ?_)
        refine lv_goto (tgt := 2) hx hb d_Sz_warmThings_22 (by decide) ?_
        have hN0 : CW ct AD L n (aS J i I1) J P _ := hC0.set (k := 0) (i := i) (lv0 (by decide) hi) (co_ro (fun a i h => up_hO a i (by omega)) (fun _ _ _ => rfl)) hC0.2.2
        have hN : CW ct AD L n (aS J i I1) J P (va_up f1 (AD 0 i) (.inr (0, [.int (I1 0 i), .int (I1 1 i), .long (J 0 i), .long (J 1 i), .long (J 2 i), .int (I1 2 i), .int (m_act (J 1 i) (J 2 i) (I1 2 i) (I1 3 i)), .int (I1 4 i)]))) := by
          refine cast (congrArg (CW ct AD L n (aS J i I1) J P) ?_) hN0
          simp [cellOf, roomE, mainE, openE, steelE, farV, up2, aS]
        exact ih0 (i + 1) _ _ _ _ _ (by omega) hN hP hD hS (lv_sub hl [0, 1] rfl) hfin0
  exact lp0 (n 0) 0 I f _ _ _ (by omega) hCW hP hD hS (lv_sub hl [0, 1] rfl) rfl
