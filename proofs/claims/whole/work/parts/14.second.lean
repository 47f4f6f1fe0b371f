/-! a second's steps over the class's own state -/
def sRo (J : Nat → Nat → Int64) (r : Nat) (sm ht : Int64) : Nat → Nat → Int64 := up2 (up2 J 1 r sm) 2 r ht
theorem sRo_hJ {J : Nat → Nat → Int64} {r : Nat} {sm ht : Int64} : ∀ a i, ¬ (a ≤ 2 ∧ i = r) → sRo J r sm ht a i = J a i := by
  intro a i h
  unfold sRo
  rw [up2_ne _ _ _ _ (by omega), up2_ne _ _ _ _ (by omega)]
theorem t99_hJ {J : Nat → Nat → Int64} {q : Nat} {x : Int64} : ∀ a i, ¬ (a = 99) → up2 J 99 q x a i = J a i := fun a i h => up2_ne _ _ _ _ (by omega)
def bS (I : Nat → Nat → Int32) (P : Nat → Nat → Nat) (i : Nat) (J : Nat → Nat → Int64) : Nat → Nat → Int64 :=
  up2 (sRo J (P 3 i) (m_fsm (I 21 i) (I 99 0) (I 22 i) (I 23 i) (I 3 (P 3 i)) (J 1 (P 3 i))) (m_fht (I 21 i) (I 99 0) (I 22 i) (I 23 i) (I 24 i) (I 3 (P 3 i)) (J 2 (P 3 i)))) 99 0 (J 99 0 + m_fout (I 21 i) (I 99 0) (I 22 i) (I 23 i) (I 3 (P 3 i)))
def bL (I : Nat → Nat → Int32) (P : Nat → Nat → Nat) : Nat → Nat → (Nat → Nat → Int64) → (Nat → Nat → Int64)
  | 0, _, J => J
  | k + 1, i, J => bL I P k (i + 1) (bS I P i J)

set_option maxHeartbeats 4000000 in
set_option maxRecDepth 100000 in
theorem c_Sz_burnFires {l : Launch} {D : va_G} {ct : Nat → ClassId} {AD : Nat → Nat → Nat} {L : List Nat} {f : Nat → va_E} {sz : Nat} {n : Nat → Nat} {I : Nat → Nat → Int32} {J : Nat → Nat → Int64} {P : Nat → Nat → Nat} (hCW : CW ct AD L n I J P f) : Met l y_Sz_burnFires (WS y_Sz_burnFires b_Sz_burnFires 2 none) { frames := 2, cells := 0, slots := 0, locals := 49 } (va_Pc [.ref (AD 9 0)] (WP D (TYS ct) L f sz)) (Xs D (TYS ct) L (AA L f sz) (fun f' => CW ct AD L n I (bL I P (n 2) 0 J) P f')) 0 0 (AA L f sz) := by
  refine Met.ofW (cc := b_Sz_burnFires) (maxL := 2) (ret := none) (by decide) rfl ?_
  intro p e s m args below meth c s₁ B hml hv
  obtain ⟨rfl, hsz, hP, hK, hD0⟩ := hv
  subst hsz
  have hx := B.exec
  have hb := B.bytes
  have hret := B.returns
  have hts := atoms_spec (ws := WS y_Sz_burnFires b_Sz_burnFires 2 none) B.pre
  have hG : ∀ w ∈ GW, w.before _ s = true := fun w h => hts w (List.mem_cons_of_mem _ h)
  have hown : s.vm.findClass "SmokeZones" = some m.cls := findClass_of_methodNamed B.named
  have hlocks := B.notSynchronized
  have hD : va_D (AA L f s.heap.size) (va_pl L f) := hD0.self (sz := s.heap.size)
  generalize hAe : AA L f s.heap.size = A at hD ⊢
  have hA : ∀ q : Nat, s.heap.size ≤ q → A q := fun q h => by rw [← hAe]; exact Or.inr h
  have hS : va_S A s.heap s.heap [] := va_S.rf
  have hl := lv_entry ([.ref (AD 9 0)]) (n := 2) (Nat.le_of_ble_eq_true rfl)
  rw [lg_entry_eq]
  generalize (lg_sl ([.ref (AD 9 0)]) ++ List.replicate (2 - (lg_sl ([.ref (AD 9 0)])).length) Slot.unset).toArray = ls at hl ⊢
  have hl : lv_has ls 2 [(0, .ref (AD 9 0))] := hl
  refine lv_iconst (v := 0) hx hb d_Sz_burnFires_0 (by decide) ?_
  refine lv_istore_n (lv' := [(1, .int 0), (0, .ref (AD 9 0))]) hx hb d_Sz_burnFires_1 rfl hl (by decide) rfl (fun ls hl => ?_)
  have lp : ∀ (k i : Nat) (J0 : Nat → Nat → Int64) (f0 : Nat → va_E) (H : Heap) (locs : List Loc) (ls : Array Slot), i + k = n 2 → CW ct AD L n I J0 P f0 → va_P D vwCl (va_pl L f0) H → va_D A (va_pl L f0) → va_S A s.heap H locs → lv_has ls 2 [(1, .int (nI i)), (0, .ref (AD 9 0))] → bL I P k i J0 = bL I P (n 2) 0 J → W p l e (headSpec (WS y_Sz_burnFires b_Sz_burnFires 2 none) { frames := 2, cells := 0, slots := 0, locals := 49 }).room s m [.ref (AD 9 0)].toArray below meth c H locs 0 0 (MQ below (Xs D (TYS ct) L A (fun f' => CW ct AD L n I (bL I P (n 2) 0 J) P f')) [.ref (AD 9 0)].toArray s 0 0 A) (F0 m 2 ls []) := by
    intro k
    induction k with
    | zero =>
      intro i J0 f0 H locs ls hik hC hP hD hS hl hfin
      have hcap := hC.cap2
      obtain ⟨g_1L, g_1E⟩ := hC.ma
      refine lv_iload_n hx hb d_Sz_burnFires_2 rfl (lv_at hl 0 rfl) ?_
      refine lv_aload_n hx hb d_Sz_burnFires_3 rfl (lv_at hl 1 rfl) ?_
      refine pg_get (C := "SmokeZones") (T := T_Sz) (N := 17) hx hb hG in_Sz hown hK hP g_1L g_1E rfl 8 (by decide) (hG _ k43) (fun _ h9 => h9) rfl d_Sz_burnFires_4 ?_
      refine lv_icmp_ge (tgt := 38) hx hb d_Sz_burnFires_7 (by decide) (fun c_2 => ?_) (fun c_2 => ?_)
      · have hC3 : CW ct AD L n I (bL I P (n 2) 0 J) P f0 := hfin ▸ hC
        exact W.vret hx hb hret (fun t ht hW => ⟨⟨f0, rfl, hC3, by rw [ht]; exact hP, va_K.moved hW.alike hK, hD⟩, hS.F ht⟩) hS.2.2 d_Sz_burnFires_38
      · exact (ge_yes (by omega) (by omega) c_2).elim
    | succ k ih =>
      intro i J0 f0 H locs ls hik hC hP hD hS hl hfin
      have hcap := hC.cap2
      obtain ⟨g_3L, g_3E⟩ := hC.ma
      have hi : i < n 2 := by omega
      refine lv_iload_n hx hb d_Sz_burnFires_2 rfl (lv_at hl 0 rfl) ?_
      refine lv_aload_n hx hb d_Sz_burnFires_3 rfl (lv_at hl 1 rfl) ?_
      refine pg_get (C := "SmokeZones") (T := T_Sz) (N := 17) hx hb hG in_Sz hown hK hP g_3L g_3E rfl 8 (by decide) (hG _ k43) (fun _ h9 => h9) rfl d_Sz_burnFires_4 ?_
      refine lv_icmp_ge (tgt := 38) hx hb d_Sz_burnFires_7 (by decide) (fun c_4 => ?_) (fun c_4 => ?_)
      · exact (ge_no hi (by omega) c_4).elim
      · have hr : P 3 i < n 0 := hC.2.2.2.2.1 i hi
        have hc0 := hC.cap0
        obtain ⟨g_5L, g_5E⟩ := hC.fi hi
        obtain ⟨g_6L, g_6E⟩ := hC.ro hr
        obtain ⟨g_7L, g_7E⟩ := hC.a2
        have ne_AD_9_0_AD_2_i : AD 9 0 ≠ AD 2 i := hC.ne (k := 9) (i := 0) (k' := 2) (i' := i) (lv9) (lv0 (by decide) hi) (by omega)
        have ne_AD_9_0_AD_0_P_3_i : AD 9 0 ≠ AD 0 (P 3 i) := hC.ne (k := 9) (i := 0) (k' := 0) (i' := (P 3 i)) (lv9) (lv0 (by decide) hr) (by omega)
        have ne_AD_9_0_AD_8_2 : AD 9 0 ≠ AD 8 2 := hC.ne (k := 9) (i := 0) (k' := 8) (i' := 2) (lv9) (lv8 (by decide)) (by omega)
        have ne_AD_2_i_AD_9_0 : AD 2 i ≠ AD 9 0 := hC.ne (k := 2) (i := i) (k' := 9) (i' := 0) (lv0 (by decide) hi) (lv9) (by omega)
        have ne_AD_2_i_AD_0_P_3_i : AD 2 i ≠ AD 0 (P 3 i) := hC.ne (k := 2) (i := i) (k' := 0) (i' := (P 3 i)) (lv0 (by decide) hi) (lv0 (by decide) hr) (by omega)
        have ne_AD_2_i_AD_8_2 : AD 2 i ≠ AD 8 2 := hC.ne (k := 2) (i := i) (k' := 8) (i' := 2) (lv0 (by decide) hi) (lv8 (by decide)) (by omega)
        have ne_AD_0_P_3_i_AD_9_0 : AD 0 (P 3 i) ≠ AD 9 0 := hC.ne (k := 0) (i := (P 3 i)) (k' := 9) (i' := 0) (lv0 (by decide) hr) (lv9) (by omega)
        have ne_AD_0_P_3_i_AD_2_i : AD 0 (P 3 i) ≠ AD 2 i := hC.ne (k := 0) (i := (P 3 i)) (k' := 2) (i' := i) (lv0 (by decide) hr) (lv0 (by decide) hi) (by omega)
        have ne_AD_0_P_3_i_AD_8_2 : AD 0 (P 3 i) ≠ AD 8 2 := hC.ne (k := 0) (i := (P 3 i)) (k' := 8) (i' := 2) (lv0 (by decide) hr) (lv8 (by decide)) (by omega)
        have ne_AD_8_2_AD_9_0 : AD 8 2 ≠ AD 9 0 := hC.ne (k := 8) (i := 2) (k' := 9) (i' := 0) (lv8 (by decide)) (lv9) (by omega)
        have ne_AD_8_2_AD_2_i : AD 8 2 ≠ AD 2 i := hC.ne (k := 8) (i := 2) (k' := 2) (i' := i) (lv8 (by decide)) (lv0 (by decide) hi) (by omega)
        have ne_AD_8_2_AD_0_P_3_i : AD 8 2 ≠ AD 0 (P 3 i) := hC.ne (k := 8) (i := 2) (k' := 0) (i' := (P 3 i)) (lv8 (by decide)) (lv0 (by decide) hr) (by omega)
        refine lv_aload_n hx hb d_Sz_burnFires_10 rfl (lv_at hl 1 rfl) ?_
        refine lv_dup hx hb d_Sz_burnFires_11 rfl ?_
        refine pg_get (C := "SmokeZones") (T := T_Sz) (N := 17) hx hb hG in_Sz hown hK hP g_3L g_3E rfl 13 (by decide) (hG _ k48) (fun _ h9 => h9) rfl d_Sz_burnFires_12 ?_
        refine lv_aload_n hx hb d_Sz_burnFires_15 rfl (lv_at hl 1 rfl) ?_
        refine pg_get (C := "SmokeZones") (T := T_Sz) (N := 17) hx hb hG in_Sz hown hK hP g_3L g_3E rfl 2 (by decide) (hG _ k37) (fun _ h9 => h9) rfl d_Sz_burnFires_16 ?_
        refine lv_iload_n hx hb d_Sz_burnFires_19 rfl (lv_at hl 0 rfl) ?_
        refine pg_ald hx hb hK hP 2 g_7L g_7E rfl (vp_in_nI (by omega) (by decide)) (rf_at hi (by omega)) d_Sz_burnFires_20 ?_
        refine lv_aload_n hx hb d_Sz_burnFires_21 rfl (lv_at hl 1 rfl) ?_
        refine pg_get (C := "SmokeZones") (T := T_Sz) (N := 17) hx hb hG in_Sz hown hK hP g_3L g_3E rfl 12 (by decide) (hG _ k47) (fun _ h9 => h9) rfl d_Sz_burnFires_22 ?_
        refine kV_wl (f' := va_up f0 (AD 0 (P 3 i)) (.inr (0, [.int (I 0 (P 3 i)), .int (I 1 (P 3 i)), .long (J0 0 (P 3 i)), .long (m_fsm (I 21 i) (I 99 0) (I 22 i) (I 23 i) (I 3 (P 3 i)) (J0 1 (P 3 i))), .long (m_fht (I 21 i) (I 99 0) (I 22 i) (I 23 i) (I 24 i) (I 3 (P 3 i)) (J0 2 (P 3 i))), .int (I 2 (P 3 i)), .int (I 3 (P 3 i)), .int (I 4 (P 3 i))]))) ⟨hx, hb, hml, hown, hG⟩ (c_Fi_burn g_5L g_5E g_6L g_6E) (cwV 1 hG (gV k442 k443 k444 k10 k445) rfl rfl rfl hd_Fi_burn ⟨Nat.le_of_ble_eq_true rfl, Nat.le_of_ble_eq_true rfl⟩) hK hP hD hS hA g_5L g_5E rfl rfl hl.1 rfl (Nat.le_of_ble_eq_true rfl) ⟨Nat.le_of_ble_eq_true rfl, Nat.le_of_ble_eq_true rfl⟩ d_Sz_burnFires_25 (fun H locs hP hD hS => ?_)
        have e_8 : (va_up f0 (AD 0 (P 3 i)) (.inr (0, [.int (I 0 (P 3 i)), .int (I 1 (P 3 i)), .long (J0 0 (P 3 i)), .long (m_fsm (I 21 i) (I 99 0) (I 22 i) (I 23 i) (I 3 (P 3 i)) (J0 1 (P 3 i))), .long (m_fht (I 21 i) (I 99 0) (I 22 i) (I 23 i) (I 24 i) (I 3 (P 3 i)) (J0 2 (P 3 i))), .int (I 2 (P 3 i)), .int (I 3 (P 3 i)), .int (I 4 (P 3 i))]))) (AD 0 (P 3 i)) = .inr (0, [.int (I 0 (P 3 i)), .int (I 1 (P 3 i)), .long (J0 0 (P 3 i)), .long (m_fsm (I 21 i) (I 99 0) (I 22 i) (I 23 i) (I 3 (P 3 i)) (J0 1 (P 3 i))), .long (m_fht (I 21 i) (I 99 0) (I 22 i) (I 23 i) (I 24 i) (I 3 (P 3 i)) (J0 2 (P 3 i))), .int (I 2 (P 3 i)), .int (I 3 (P 3 i)), .int (I 4 (P 3 i))]) := va_up_self _ _ _
        have e_9 : (va_up f0 (AD 0 (P 3 i)) (.inr (0, [.int (I 0 (P 3 i)), .int (I 1 (P 3 i)), .long (J0 0 (P 3 i)), .long (m_fsm (I 21 i) (I 99 0) (I 22 i) (I 23 i) (I 3 (P 3 i)) (J0 1 (P 3 i))), .long (m_fht (I 21 i) (I 99 0) (I 22 i) (I 23 i) (I 24 i) (I 3 (P 3 i)) (J0 2 (P 3 i))), .int (I 2 (P 3 i)), .int (I 3 (P 3 i)), .int (I 4 (P 3 i))]))) (AD 9 0) = .inr (6, [.ref (AD 8 0), .ref (AD 8 1), .ref (AD 8 2), .ref (AD 8 3), .ref (AD 8 4), .ref (AD 8 5), .int (nI (n 0)), .int (nI (n 1)), .int (nI (n 2)), .int (nI (n 3)), .int (nI (n 4)), .int (nI (n 5)), .int (I 99 0), .long (J0 99 0), .long (J0 99 1), .long (J0 99 2), .long (J0 99 3)]) := (va_up_ne _ _ ne_AD_9_0_AD_0_P_3_i).trans g_3E
        have e_10 : (va_up f0 (AD 0 (P 3 i)) (.inr (0, [.int (I 0 (P 3 i)), .int (I 1 (P 3 i)), .long (J0 0 (P 3 i)), .long (m_fsm (I 21 i) (I 99 0) (I 22 i) (I 23 i) (I 3 (P 3 i)) (J0 1 (P 3 i))), .long (m_fht (I 21 i) (I 99 0) (I 22 i) (I 23 i) (I 24 i) (I 3 (P 3 i)) (J0 2 (P 3 i))), .int (I 2 (P 3 i)), .int (I 3 (P 3 i)), .int (I 4 (P 3 i))]))) (AD 2 i) = .inr (2, [.ref (AD 0 (P 3 i)), .int (I 21 i), .int (I 22 i), .int (I 23 i), .int (I 24 i)]) := (va_up_ne _ _ ne_AD_2_i_AD_0_P_3_i).trans g_5E
        have e_11 : (va_up f0 (AD 0 (P 3 i)) (.inr (0, [.int (I 0 (P 3 i)), .int (I 1 (P 3 i)), .long (J0 0 (P 3 i)), .long (m_fsm (I 21 i) (I 99 0) (I 22 i) (I 23 i) (I 3 (P 3 i)) (J0 1 (P 3 i))), .long (m_fht (I 21 i) (I 99 0) (I 22 i) (I 23 i) (I 24 i) (I 3 (P 3 i)) (J0 2 (P 3 i))), .int (I 2 (P 3 i)), .int (I 3 (P 3 i)), .int (I 4 (P 3 i))]))) (AD 8 2) = .inl (ct 2, 5, .inr (.inr (.inr (.inr (fun j => if j < n 2 then some (AD 2 j) else none))))) := (va_up_ne _ _ ne_AD_8_2_AD_0_P_3_i).trans g_7E
        refine lv_ladd hx hb d_Sz_burnFires_28 ?_
        refine pg_put (C := "SmokeZones") (T := T_Sz) (N := 17) (ty := .long) hx hb hG in_Sz ty_Sz ok_Sz nm_Sz hown hK hP hD hS g_3L e_9 rfl 13 (by decide) (hG _ k48) (fun _ h9 => h9) rfl (by decide +kernel) rfl rfl (Nat.le_of_ble_eq_true rfl) d_Sz_burnFires_29 (fun H locs hP hD hS => ?_)
        have hP : va_P D vwCl (va_pl (L) (va_up (va_up f0 (AD 0 (P 3 i)) (.inr (0, [.int (I 0 (P 3 i)), .int (I 1 (P 3 i)), .long (J0 0 (P 3 i)), .long (m_fsm (I 21 i) (I 99 0) (I 22 i) (I 23 i) (I 3 (P 3 i)) (J0 1 (P 3 i))), .long (m_fht (I 21 i) (I 99 0) (I 22 i) (I 23 i) (I 24 i) (I 3 (P 3 i)) (J0 2 (P 3 i))), .int (I 2 (P 3 i)), .int (I 3 (P 3 i)), .int (I 4 (P 3 i))]))) (AD 9 0) (.inr (6, [.ref (AD 8 0), .ref (AD 8 1), .ref (AD 8 2), .ref (AD 8 3), .ref (AD 8 4), .ref (AD 8 5), .int (nI (n 0)), .int (nI (n 1)), .int (nI (n 2)), .int (nI (n 3)), .int (nI (n 4)), .int (nI (n 5)), .int (I 99 0), .long ((J0 99 0) + (m_fout (I 21 i) (I 99 0) (I 22 i) (I 23 i) (I 3 (P 3 i)))), .long (J0 99 1), .long (J0 99 2), .long (J0 99 3)])))) H := hP
        have hD : va_D A (va_pl (L) (va_up (va_up f0 (AD 0 (P 3 i)) (.inr (0, [.int (I 0 (P 3 i)), .int (I 1 (P 3 i)), .long (J0 0 (P 3 i)), .long (m_fsm (I 21 i) (I 99 0) (I 22 i) (I 23 i) (I 3 (P 3 i)) (J0 1 (P 3 i))), .long (m_fht (I 21 i) (I 99 0) (I 22 i) (I 23 i) (I 24 i) (I 3 (P 3 i)) (J0 2 (P 3 i))), .int (I 2 (P 3 i)), .int (I 3 (P 3 i)), .int (I 4 (P 3 i))]))) (AD 9 0) (.inr (6, [.ref (AD 8 0), .ref (AD 8 1), .ref (AD 8 2), .ref (AD 8 3), .ref (AD 8 4), .ref (AD 8 5), .int (nI (n 0)), .int (nI (n 1)), .int (nI (n 2)), .int (nI (n 3)), .int (nI (n 4)), .int (nI (n 5)), .int (I 99 0), .long ((J0 99 0) + (m_fout (I 21 i) (I 99 0) (I 22 i) (I 23 i) (I 3 (P 3 i)))), .long (J0 99 1), .long (J0 99 2), .long (J0 99 3)])))) := hD
        have e_12 : (va_up (va_up f0 (AD 0 (P 3 i)) (.inr (0, [.int (I 0 (P 3 i)), .int (I 1 (P 3 i)), .long (J0 0 (P 3 i)), .long (m_fsm (I 21 i) (I 99 0) (I 22 i) (I 23 i) (I 3 (P 3 i)) (J0 1 (P 3 i))), .long (m_fht (I 21 i) (I 99 0) (I 22 i) (I 23 i) (I 24 i) (I 3 (P 3 i)) (J0 2 (P 3 i))), .int (I 2 (P 3 i)), .int (I 3 (P 3 i)), .int (I 4 (P 3 i))]))) (AD 9 0) (.inr (6, [.ref (AD 8 0), .ref (AD 8 1), .ref (AD 8 2), .ref (AD 8 3), .ref (AD 8 4), .ref (AD 8 5), .int (nI (n 0)), .int (nI (n 1)), .int (nI (n 2)), .int (nI (n 3)), .int (nI (n 4)), .int (nI (n 5)), .int (I 99 0), .long ((J0 99 0) + (m_fout (I 21 i) (I 99 0) (I 22 i) (I 23 i) (I 3 (P 3 i)))), .long (J0 99 1), .long (J0 99 2), .long (J0 99 3)]))) (AD 9 0) = .inr (6, [.ref (AD 8 0), .ref (AD 8 1), .ref (AD 8 2), .ref (AD 8 3), .ref (AD 8 4), .ref (AD 8 5), .int (nI (n 0)), .int (nI (n 1)), .int (nI (n 2)), .int (nI (n 3)), .int (nI (n 4)), .int (nI (n 5)), .int (I 99 0), .long ((J0 99 0) + (m_fout (I 21 i) (I 99 0) (I 22 i) (I 23 i) (I 3 (P 3 i)))), .long (J0 99 1), .long (J0 99 2), .long (J0 99 3)]) := va_up_self _ _ _
        have e_13 : (va_up (va_up f0 (AD 0 (P 3 i)) (.inr (0, [.int (I 0 (P 3 i)), .int (I 1 (P 3 i)), .long (J0 0 (P 3 i)), .long (m_fsm (I 21 i) (I 99 0) (I 22 i) (I 23 i) (I 3 (P 3 i)) (J0 1 (P 3 i))), .long (m_fht (I 21 i) (I 99 0) (I 22 i) (I 23 i) (I 24 i) (I 3 (P 3 i)) (J0 2 (P 3 i))), .int (I 2 (P 3 i)), .int (I 3 (P 3 i)), .int (I 4 (P 3 i))]))) (AD 9 0) (.inr (6, [.ref (AD 8 0), .ref (AD 8 1), .ref (AD 8 2), .ref (AD 8 3), .ref (AD 8 4), .ref (AD 8 5), .int (nI (n 0)), .int (nI (n 1)), .int (nI (n 2)), .int (nI (n 3)), .int (nI (n 4)), .int (nI (n 5)), .int (I 99 0), .long ((J0 99 0) + (m_fout (I 21 i) (I 99 0) (I 22 i) (I 23 i) (I 3 (P 3 i)))), .long (J0 99 1), .long (J0 99 2), .long (J0 99 3)]))) (AD 2 i) = .inr (2, [.ref (AD 0 (P 3 i)), .int (I 21 i), .int (I 22 i), .int (I 23 i), .int (I 24 i)]) := (va_up_ne _ _ ne_AD_2_i_AD_9_0).trans e_10
        have e_14 : (va_up (va_up f0 (AD 0 (P 3 i)) (.inr (0, [.int (I 0 (P 3 i)), .int (I 1 (P 3 i)), .long (J0 0 (P 3 i)), .long (m_fsm (I 21 i) (I 99 0) (I 22 i) (I 23 i) (I 3 (P 3 i)) (J0 1 (P 3 i))), .long (m_fht (I 21 i) (I 99 0) (I 22 i) (I 23 i) (I 24 i) (I 3 (P 3 i)) (J0 2 (P 3 i))), .int (I 2 (P 3 i)), .int (I 3 (P 3 i)), .int (I 4 (P 3 i))]))) (AD 9 0) (.inr (6, [.ref (AD 8 0), .ref (AD 8 1), .ref (AD 8 2), .ref (AD 8 3), .ref (AD 8 4), .ref (AD 8 5), .int (nI (n 0)), .int (nI (n 1)), .int (nI (n 2)), .int (nI (n 3)), .int (nI (n 4)), .int (nI (n 5)), .int (I 99 0), .long ((J0 99 0) + (m_fout (I 21 i) (I 99 0) (I 22 i) (I 23 i) (I 3 (P 3 i)))), .long (J0 99 1), .long (J0 99 2), .long (J0 99 3)]))) (AD 0 (P 3 i)) = .inr (0, [.int (I 0 (P 3 i)), .int (I 1 (P 3 i)), .long (J0 0 (P 3 i)), .long (m_fsm (I 21 i) (I 99 0) (I 22 i) (I 23 i) (I 3 (P 3 i)) (J0 1 (P 3 i))), .long (m_fht (I 21 i) (I 99 0) (I 22 i) (I 23 i) (I 24 i) (I 3 (P 3 i)) (J0 2 (P 3 i))), .int (I 2 (P 3 i)), .int (I 3 (P 3 i)), .int (I 4 (P 3 i))]) := (va_up_ne _ _ ne_AD_0_P_3_i_AD_9_0).trans e_8
        have e_15 : (va_up (va_up f0 (AD 0 (P 3 i)) (.inr (0, [.int (I 0 (P 3 i)), .int (I 1 (P 3 i)), .long (J0 0 (P 3 i)), .long (m_fsm (I 21 i) (I 99 0) (I 22 i) (I 23 i) (I 3 (P 3 i)) (J0 1 (P 3 i))), .long (m_fht (I 21 i) (I 99 0) (I 22 i) (I 23 i) (I 24 i) (I 3 (P 3 i)) (J0 2 (P 3 i))), .int (I 2 (P 3 i)), .int (I 3 (P 3 i)), .int (I 4 (P 3 i))]))) (AD 9 0) (.inr (6, [.ref (AD 8 0), .ref (AD 8 1), .ref (AD 8 2), .ref (AD 8 3), .ref (AD 8 4), .ref (AD 8 5), .int (nI (n 0)), .int (nI (n 1)), .int (nI (n 2)), .int (nI (n 3)), .int (nI (n 4)), .int (nI (n 5)), .int (I 99 0), .long ((J0 99 0) + (m_fout (I 21 i) (I 99 0) (I 22 i) (I 23 i) (I 3 (P 3 i)))), .long (J0 99 1), .long (J0 99 2), .long (J0 99 3)]))) (AD 8 2) = .inl (ct 2, 5, .inr (.inr (.inr (.inr (fun j => if j < n 2 then some (AD 2 j) else none))))) := (va_up_ne _ _ ne_AD_8_2_AD_9_0).trans e_11
        refine lv_iinc (v := nI (i + 1)) (lv' := [(1, .int (nI (i + 1))), (0, .ref (AD 9 0))]) hx hb d_Sz_burnFires_32 hl (k := 0) rfl (nI_1 i) (by decide) rfl (fun ls hl => ?_)
        refine lv_goto (tgt := 2) hx hb d_Sz_burnFires_35 (by decide) ?_
        have hC1 : CW ct AD L n I (sRo J0 (P 3 i) (m_fsm (I 21 i) (I 99 0) (I 22 i) (I 23 i) (I 3 (P 3 i)) (J0 1 (P 3 i))) (m_fht (I 21 i) (I 99 0) (I 22 i) (I 23 i) (I 24 i) (I 3 (P 3 i)) (J0 2 (P 3 i)))) P _ := hC.set (k := 0) (i := P 3 i) (lv0 (by decide) hr) (co_ro (fun _ _ _ => rfl) sRo_hJ) hC.2.2
        have hC2 : CW ct AD L n I (bS I P i J0) P _ := hC1.set (k := 9) (i := 0) lv9 (co_ma (fun _ _ _ => rfl) t99_hJ) hC.2.2
        have hC2 : CW ct AD L n I (bS I P i J0) P (va_up (va_up f0 (AD 0 (P 3 i)) (.inr (0, [.int (I 0 (P 3 i)), .int (I 1 (P 3 i)), .long (J0 0 (P 3 i)), .long (m_fsm (I 21 i) (I 99 0) (I 22 i) (I 23 i) (I 3 (P 3 i)) (J0 1 (P 3 i))), .long (m_fht (I 21 i) (I 99 0) (I 22 i) (I 23 i) (I 24 i) (I 3 (P 3 i)) (J0 2 (P 3 i))), .int (I 2 (P 3 i)), .int (I 3 (P 3 i)), .int (I 4 (P 3 i))]))) (AD 9 0) (.inr (6, [.ref (AD 8 0), .ref (AD 8 1), .ref (AD 8 2), .ref (AD 8 3), .ref (AD 8 4), .ref (AD 8 5), .int (nI (n 0)), .int (nI (n 1)), .int (nI (n 2)), .int (nI (n 3)), .int (nI (n 4)), .int (nI (n 5)), .int (I 99 0), .long ((J0 99 0) + (m_fout (I 21 i) (I 99 0) (I 22 i) (I 23 i) (I 3 (P 3 i)))), .long (J0 99 1), .long (J0 99 2), .long (J0 99 3)]))) := by
          refine cast (congrArg (CW ct AD L n I (bS I P i J0) P) ?_) hC2
          simp [cellOf, roomE, mainE, sRo, bS, up2]
        exact ih (i + 1) _ _ _ _ _ (by omega) hC2 hP hD hS (lv_sub hl [0, 1] rfl) hfin
  exact lp (n 2) 0 J f _ _ _ (by omega) hCW hP hD hS (lv_sub hl [0, 1] rfl) rfl
