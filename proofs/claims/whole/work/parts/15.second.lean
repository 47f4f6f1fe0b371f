def m_wk7 (n k : Nat) (g1 : Nat → Int32) (t : Int32) : Nat := if nI n ≤ nI k then k else if g1 (Int32.toNatClampNeg (nI k)) = t then k + 1 else k
theorem wwk_eq (n k : Nat) (g1 : Nat → Int32) (t : Int32) : m_wwk n k g1 t = nI (m_wk7 n k g1 t) := by
  unfold m_wwk m_wk7
  split
  · rfl
  · split
    · exact nI_1 k
    · rfl
theorem wk7_le {n k : Nat} {g1 : Nat → Int32} {t : Int32} (hn : n ≤ 20) (hk : k ≤ n) : m_wk7 n k g1 t ≤ n := by
  unfold m_wk7
  split
  · exact hk
  · rename_i h
    split
    · rcases Nat.lt_or_ge k n with q | q
      · exact q
      · exact absurd (nI_le q (by omega)) h
    · exact hk
theorem isR_of {n0 : Nat} {p : Int32} (hn : n0 ≤ 100) (h : ¬ m_isR n0 p = 0) : ∃ r, r < n0 ∧ p = nI r := by
  unfold m_isR at h
  split at h
  · exact absurd rfl h
  · rename_i h1
    split at h
    · exact absurd rfl h
    · rename_i h2
      obtain ⟨r, hr, e⟩ := nI_of h1
      subst e
      refine ⟨r, ?_, rfl⟩
      rcases Nat.lt_or_ge r n0 with q | q
      · exact q
      · exact absurd (nI_le q hr) h2
abbrev St3 : Type := (Nat → Nat → Int32) × (Nat → Nat → Int64) × (Nat → Nat → Nat)
def wPl (I : Nat → Nat → Int32) (P : Nat → Nat → Nat) (i : Nat) : Int32 := m_wpl (P 6 i) (P 7 i) (I (100 + i)) (I (200 + i)) (I 99 0) (I 50 i)
def wI (I : Nat → Nat → Int32) (P : Nat → Nat → Nat) (i : Nat) : Nat → Nat → Int32 := up2 I 50 i (wPl I P i)
def wP (I : Nat → Nat → Int32) (P : Nat → Nat → Nat) (i : Nat) : Nat → Nat → Nat := up2 P 7 i (m_wk7 (P 6 i) (P 7 i) (I (100 + i)) (I 99 0))
def wJ (n : Nat → Nat) (I : Nat → Nat → Int32) (J : Nat → Nat → Int64) (P : Nat → Nat → Nat) (i : Nat) : Nat → Nat → Int64 :=
  if m_isR (n 0) (wPl I P i) = 0 then J else
    up2 (up2 J 50 i (m_dz (m_low (I 0 (wPl I P i).toNatClampNeg) (I 1 (wPl I P i).toNatClampNeg) (J 1 (wPl I P i).toNatClampNeg)) (J 1 (wPl I P i).toNatClampNeg) (J 2 (wPl I P i).toNatClampNeg) (J 50 i))) 51 i (m_be (m_low (I 0 (wPl I P i).toNatClampNeg) (I 1 (wPl I P i).toNatClampNeg) (J 1 (wPl I P i).toNatClampNeg)) (J 51 i))
def wS (n : Nat → Nat) (i : Nat) (x : St3) : St3 := (wI x.1 x.2.2 i, wJ n x.1 x.2.1 x.2.2 i, wP x.1 x.2.2 i)
def wL (n : Nat → Nat) : Nat → Nat → St3 → St3
  | 0, _, x => x
  | k + 1, i, x => wL n k (i + 1) (wS n i x)
theorem wP_inv {n : Nat → Nat} {I : Nat → Nat → Int32} {P : Nat → Nat → Nat} {i : Nat} (h : CInv n P) (hi : i < n 5) : CInv n (wP I P i) := by
  obtain ⟨h1, h2, h3, h4, h5, h6⟩ := h
  have e : ∀ a j, a ≠ 7 → wP I P i a j = P a j := fun a j ha => up2_ne _ _ _ _ (by omega)
  refine ⟨h1, fun j hj => ?_, fun j hj => ?_, fun j hj => ?_, fun j hj => ?_, fun j hj => ?_⟩
  · rw [e 1 j (by decide), e 2 j (by decide)]; exact h2 j hj
  · rw [e 3 j (by decide)]; exact h3 j hj
  · rw [e 4 j (by decide)]; exact h4 j hj
  · rw [e 5 j (by decide)]; exact h5 j hj
  · rw [e 6 j (by decide)]
    refine ⟨(h6 j hj).1, ?_⟩
    by_cases q : j = i
    · subst q
      show up2 P 7 j _ 7 j ≤ _
      rw [up2_at]
      exact wk7_le (h6 j hj).1 (h6 j hj).2
    · show up2 P 7 i _ 7 j ≤ _
      rw [up2_ne _ _ _ _ (by omega)]
      exact (h6 j hj).2
theorem wJ_hJ {n : Nat → Nat} {I : Nat → Nat → Int32} {J : Nat → Nat → Int64} {P : Nat → Nat → Nat} {i : Nat} : ∀ a b, ¬ (50 ≤ a ∧ a ≤ 51 ∧ b = i) → wJ n I J P i a b = J a b := by
  intro a b h
  unfold wJ
  split
  · rfl
  · rw [up2_ne _ _ _ _ (by omega), up2_ne _ _ _ _ (by omega)]

set_option maxHeartbeats 4000000 in
set_option maxRecDepth 100000 in
theorem c_Sz_movePersons {l : Launch} {D : va_G} {ct : Nat → ClassId} {AD : Nat → Nat → Nat} {L : List Nat} {f : Nat → va_E} {sz : Nat} {n : Nat → Nat} {I : Nat → Nat → Int32} {J : Nat → Nat → Int64} {P : Nat → Nat → Nat} (hCW : CW ct AD L n I J P f) : Met l y_Sz_movePersons (WS y_Sz_movePersons b_Sz_movePersons 3 none) { frames := 4, cells := 0, slots := 0, locals := 81 } (va_Pc [.ref (AD 9 0)] (WP D (TYS ct) L f sz)) (Xs D (TYS ct) L (AA L f sz) (fun f' => CW ct AD L n (wL n (n 5) 0 (I, J, P)).1 (wL n (n 5) 0 (I, J, P)).2.1 (wL n (n 5) 0 (I, J, P)).2.2 f')) 0 0 (AA L f sz) := by
  refine Met.ofW (cc := b_Sz_movePersons) (maxL := 3) (ret := none) (by decide) rfl ?_
  intro p e s m args below meth c s₁ B hml hv
  obtain ⟨rfl, hsz, hP, hK, hD0⟩ := hv
  subst hsz
  have hx := B.exec
  have hb := B.bytes
  have hret := B.returns
  have hts := atoms_spec (ws := WS y_Sz_movePersons b_Sz_movePersons 3 none) B.pre
  have hG : ∀ w ∈ GW, w.before _ s = true := fun w h => hts w (List.mem_cons_of_mem _ h)
  have hown : s.vm.findClass "SmokeZones" = some m.cls := findClass_of_methodNamed B.named
  have hlocks := B.notSynchronized
  have hD : va_D (AA L f s.heap.size) (va_pl L f) := hD0.self (sz := s.heap.size)
  generalize hAe : AA L f s.heap.size = A at hD ⊢
  have hA : ∀ q : Nat, s.heap.size ≤ q → A q := fun q h => by rw [← hAe]; exact Or.inr h
  have hS : va_S A s.heap s.heap [] := va_S.rf
  have hl := lv_entry ([.ref (AD 9 0)]) (n := 3) (Nat.le_of_ble_eq_true rfl)
  rw [lg_entry_eq]
  generalize (lg_sl ([.ref (AD 9 0)]) ++ List.replicate (3 - (lg_sl ([.ref (AD 9 0)])).length) Slot.unset).toArray = ls at hl ⊢
  have hl : lv_has ls 3 [(0, .ref (AD 9 0))] := hl
  refine lv_iconst (v := 0) hx hb d_Sz_movePersons_0 (by decide) ?_
  refine lv_istore_n (lv' := [(1, .int 0), (0, .ref (AD 9 0))]) hx hb d_Sz_movePersons_1 rfl hl (by decide) rfl (fun ls hl => ?_)
  have lp : ∀ (k i : Nat) (I1 : Nat → Nat → Int32) (J1 : Nat → Nat → Int64) (P1 : Nat → Nat → Nat) (f1 : Nat → va_E) (H : Heap) (locs : List Loc) (ls : Array Slot), i + k = n 5 → CW ct AD L n I1 J1 P1 f1 → va_P D vwCl (va_pl L f1) H → va_D A (va_pl L f1) → va_S A s.heap H locs → lv_has ls 3 [(1, .int (nI i)), (0, .ref (AD 9 0))] → wL n k i (I1, J1, P1) = wL n (n 5) 0 (I, J, P) → W p l e (headSpec (WS y_Sz_movePersons b_Sz_movePersons 3 none) { frames := 4, cells := 0, slots := 0, locals := 81 }).room s m [.ref (AD 9 0)].toArray below meth c H locs 0 0 (MQ below (Xs D (TYS ct) L A (fun f' => CW ct AD L n (wL n (n 5) 0 (I, J, P)).1 (wL n (n 5) 0 (I, J, P)).2.1 (wL n (n 5) 0 (I, J, P)).2.2 f')) [.ref (AD 9 0)].toArray s 0 0 A) (F0 m 2 ls []) := by
    intro k
    induction k with
    | zero =>
      intro i I1 J1 P1 f1 H locs ls hik hC hP hD hS hl hfin
      have hcap := hC.cap5
      obtain ⟨g_1L, g_1E⟩ := hC.ma
      refine lv_iload_n hx hb d_Sz_movePersons_2 rfl (lv_at hl 0 rfl) ?_
      refine lv_aload_n hx hb d_Sz_movePersons_3 rfl (lv_at hl 1 rfl) ?_
      refine pg_get (C := "SmokeZones") (T := T_Sz) (N := 17) hx hb hG in_Sz hown hK hP g_1L g_1E rfl 11 (by decide) (hG _ k46) (fun _ h9 => h9) rfl d_Sz_movePersons_4 ?_
      refine lv_icmp_ge (tgt := 55) hx hb d_Sz_movePersons_7 (by decide) (fun c_2 => ?_) (fun c_2 => ?_)
      · have q : (I1, J1, P1) = wL n (n 5) 0 (I, J, P) := hfin
        have hN : CW ct AD L n (wL n (n 5) 0 (I, J, P)).1 (wL n (n 5) 0 (I, J, P)).2.1 (wL n (n 5) 0 (I, J, P)).2.2 f1 := by rw [← q]; exact hC
        exact W.vret hx hb hret (fun t ht hW => ⟨⟨f1, rfl, hN, by rw [ht]; exact hP, va_K.moved hW.alike hK, hD⟩, hS.F ht⟩) hS.2.2 d_Sz_movePersons_55
      · exact (ge_yes (by omega) (by omega) c_2).elim
    | succ k ih =>
      intro i I1 J1 P1 f1 H locs ls hik hC hP hD hS hl hfin
      have hcap := hC.cap5
      obtain ⟨g_3L, g_3E⟩ := hC.ma
      have hi : i < n 5 := by omega
      refine lv_iload_n hx hb d_Sz_movePersons_2 rfl (lv_at hl 0 rfl) ?_
      refine lv_aload_n hx hb d_Sz_movePersons_3 rfl (lv_at hl 1 rfl) ?_
      refine pg_get (C := "SmokeZones") (T := T_Sz) (N := 17) hx hb hG in_Sz hown hK hP g_3L g_3E rfl 11 (by decide) (hG _ k46) (fun _ h9 => h9) rfl d_Sz_movePersons_4 ?_
      refine lv_icmp_ge (tgt := 55) hx hb d_Sz_movePersons_7 (by decide) (fun c_4 => ?_) (fun c_4 => ?_)
      · exact (ge_no hi (by omega) c_4).elim
      · have hc0 := hC.cap0
        obtain ⟨h20, hwk⟩ := hC.2.2.2.2.2.2.2 i hi
        obtain ⟨g_5L, g_5E⟩ := hC.pe hi
        obtain ⟨g_6L, g_6E⟩ := hC.w1 hi
        obtain ⟨g_7L, g_7E⟩ := hC.w2 hi
        obtain ⟨g_8L, g_8E⟩ := hC.a5
        obtain ⟨g_9L, g_9E⟩ := hC.a0
        have ne_AD_9_0_AD_5_i : AD 9 0 ≠ AD 5 i := hC.ne (k := 9) (i := 0) (k' := 5) (i' := i) (lv9) (lv0 (by decide) hi) (by omega)
        have ne_AD_9_0_AD_6_i : AD 9 0 ≠ AD 6 i := hC.ne (k := 9) (i := 0) (k' := 6) (i' := i) (lv9) (lv6 hi) (by omega)
        have ne_AD_9_0_AD_7_i : AD 9 0 ≠ AD 7 i := hC.ne (k := 9) (i := 0) (k' := 7) (i' := i) (lv9) (lv7 hi) (by omega)
        have ne_AD_9_0_AD_8_5 : AD 9 0 ≠ AD 8 5 := hC.ne (k := 9) (i := 0) (k' := 8) (i' := 5) (lv9) (lv8 (by decide)) (by omega)
        have ne_AD_9_0_AD_8_0 : AD 9 0 ≠ AD 8 0 := hC.ne (k := 9) (i := 0) (k' := 8) (i' := 0) (lv9) (lv8 (by decide)) (by omega)
        have ne_AD_5_i_AD_9_0 : AD 5 i ≠ AD 9 0 := hC.ne (k := 5) (i := i) (k' := 9) (i' := 0) (lv0 (by decide) hi) (lv9) (by omega)
        have ne_AD_5_i_AD_6_i : AD 5 i ≠ AD 6 i := hC.ne (k := 5) (i := i) (k' := 6) (i' := i) (lv0 (by decide) hi) (lv6 hi) (by omega)
        have ne_AD_5_i_AD_7_i : AD 5 i ≠ AD 7 i := hC.ne (k := 5) (i := i) (k' := 7) (i' := i) (lv0 (by decide) hi) (lv7 hi) (by omega)
        have ne_AD_5_i_AD_8_5 : AD 5 i ≠ AD 8 5 := hC.ne (k := 5) (i := i) (k' := 8) (i' := 5) (lv0 (by decide) hi) (lv8 (by decide)) (by omega)
        have ne_AD_5_i_AD_8_0 : AD 5 i ≠ AD 8 0 := hC.ne (k := 5) (i := i) (k' := 8) (i' := 0) (lv0 (by decide) hi) (lv8 (by decide)) (by omega)
        have ne_AD_6_i_AD_9_0 : AD 6 i ≠ AD 9 0 := hC.ne (k := 6) (i := i) (k' := 9) (i' := 0) (lv6 hi) (lv9) (by omega)
        have ne_AD_6_i_AD_5_i : AD 6 i ≠ AD 5 i := hC.ne (k := 6) (i := i) (k' := 5) (i' := i) (lv6 hi) (lv0 (by decide) hi) (by omega)
        have ne_AD_6_i_AD_7_i : AD 6 i ≠ AD 7 i := hC.ne (k := 6) (i := i) (k' := 7) (i' := i) (lv6 hi) (lv7 hi) (by omega)
        have ne_AD_6_i_AD_8_5 : AD 6 i ≠ AD 8 5 := hC.ne (k := 6) (i := i) (k' := 8) (i' := 5) (lv6 hi) (lv8 (by decide)) (by omega)
        have ne_AD_6_i_AD_8_0 : AD 6 i ≠ AD 8 0 := hC.ne (k := 6) (i := i) (k' := 8) (i' := 0) (lv6 hi) (lv8 (by decide)) (by omega)
        have ne_AD_7_i_AD_9_0 : AD 7 i ≠ AD 9 0 := hC.ne (k := 7) (i := i) (k' := 9) (i' := 0) (lv7 hi) (lv9) (by omega)
        have ne_AD_7_i_AD_5_i : AD 7 i ≠ AD 5 i := hC.ne (k := 7) (i := i) (k' := 5) (i' := i) (lv7 hi) (lv0 (by decide) hi) (by omega)
        have ne_AD_7_i_AD_6_i : AD 7 i ≠ AD 6 i := hC.ne (k := 7) (i := i) (k' := 6) (i' := i) (lv7 hi) (lv6 hi) (by omega)
        have ne_AD_7_i_AD_8_5 : AD 7 i ≠ AD 8 5 := hC.ne (k := 7) (i := i) (k' := 8) (i' := 5) (lv7 hi) (lv8 (by decide)) (by omega)
        have ne_AD_7_i_AD_8_0 : AD 7 i ≠ AD 8 0 := hC.ne (k := 7) (i := i) (k' := 8) (i' := 0) (lv7 hi) (lv8 (by decide)) (by omega)
        have ne_AD_8_5_AD_9_0 : AD 8 5 ≠ AD 9 0 := hC.ne (k := 8) (i := 5) (k' := 9) (i' := 0) (lv8 (by decide)) (lv9) (by omega)
        have ne_AD_8_5_AD_5_i : AD 8 5 ≠ AD 5 i := hC.ne (k := 8) (i := 5) (k' := 5) (i' := i) (lv8 (by decide)) (lv0 (by decide) hi) (by omega)
        have ne_AD_8_5_AD_6_i : AD 8 5 ≠ AD 6 i := hC.ne (k := 8) (i := 5) (k' := 6) (i' := i) (lv8 (by decide)) (lv6 hi) (by omega)
        have ne_AD_8_5_AD_7_i : AD 8 5 ≠ AD 7 i := hC.ne (k := 8) (i := 5) (k' := 7) (i' := i) (lv8 (by decide)) (lv7 hi) (by omega)
        have ne_AD_8_5_AD_8_0 : AD 8 5 ≠ AD 8 0 := hC.ne (k := 8) (i := 5) (k' := 8) (i' := 0) (lv8 (by decide)) (lv8 (by decide)) (by omega)
        have ne_AD_8_0_AD_9_0 : AD 8 0 ≠ AD 9 0 := hC.ne (k := 8) (i := 0) (k' := 9) (i' := 0) (lv8 (by decide)) (lv9) (by omega)
        have ne_AD_8_0_AD_5_i : AD 8 0 ≠ AD 5 i := hC.ne (k := 8) (i := 0) (k' := 5) (i' := i) (lv8 (by decide)) (lv0 (by decide) hi) (by omega)
        have ne_AD_8_0_AD_6_i : AD 8 0 ≠ AD 6 i := hC.ne (k := 8) (i := 0) (k' := 6) (i' := i) (lv8 (by decide)) (lv6 hi) (by omega)
        have ne_AD_8_0_AD_7_i : AD 8 0 ≠ AD 7 i := hC.ne (k := 8) (i := 0) (k' := 7) (i' := i) (lv8 (by decide)) (lv7 hi) (by omega)
        have ne_AD_8_0_AD_8_5 : AD 8 0 ≠ AD 8 5 := hC.ne (k := 8) (i := 0) (k' := 8) (i' := 5) (lv8 (by decide)) (lv8 (by decide)) (by omega)
        refine lv_aload_n hx hb d_Sz_movePersons_10 rfl (lv_at hl 1 rfl) ?_
        refine pg_get (C := "SmokeZones") (T := T_Sz) (N := 17) hx hb hG in_Sz hown hK hP g_3L g_3E rfl 5 (by decide) (hG _ k40) (fun _ h9 => h9) rfl d_Sz_movePersons_11 ?_
        refine lv_iload_n hx hb d_Sz_movePersons_14 rfl (lv_at hl 0 rfl) ?_
        refine pg_ald hx hb hK hP 5 g_8L g_8E rfl (vp_in_nI (by omega) (by decide)) (rf_at hi (by omega)) d_Sz_movePersons_15 ?_
        refine lv_astore_n (lv' := [(2, .ref (AD 5 i)), (1, .int (nI i)), (0, .ref (AD 9 0))]) hx hb d_Sz_movePersons_16 rfl hl (by decide) rfl (fun ls hl => ?_)
        refine lv_aload_n hx hb d_Sz_movePersons_17 rfl (lv_at hl 0 rfl) ?_
        refine lv_aload_n hx hb d_Sz_movePersons_18 rfl (lv_at hl 2 rfl) ?_
        refine pg_get (C := "SmokeZones") (T := T_Sz) (N := 17) hx hb hG in_Sz hown hK hP g_3L g_3E rfl 12 (by decide) (hG _ k47) (fun _ h9 => h9) rfl d_Sz_movePersons_19 ?_
        refine kV_wv (f' := va_up f1 (AD 5 i) (.inr (5, [.int (m_wpl (P1 6 i) (P1 7 i) (I1 (100 + i)) (I1 (200 + i)) (I1 99 0) (I1 50 i)), .long (J1 50 i), .long (J1 51 i), .ref (AD 6 i), .ref (AD 7 i), .int (nI (P1 6 i)), .int (I1 52 i), .int (m_wwk (P1 6 i) (P1 7 i) (I1 (100 + i)) (I1 99 0))]))) ⟨hx, hb, hml, hown, hG⟩ (c_Pe_walk g_6L g_6E g_7L g_7E g_5L g_5E h20 (by omega)) (cwV 1 hG (gV k549 k550 k551 k13 k552) rfl rfl rfl hd_Pe_walk ⟨Nat.le_of_ble_eq_true rfl, Nat.le_of_ble_eq_true rfl⟩) hK hP hD hS hA g_5L g_5E rfl rfl hl.1 rfl (Nat.le_of_ble_eq_true rfl) ⟨Nat.le_of_ble_eq_true rfl, Nat.le_of_ble_eq_true rfl⟩ d_Sz_movePersons_22 (fun H locs hP hD hS => ?_)
        have e_10 : (va_up f1 (AD 5 i) (.inr (5, [.int (m_wpl (P1 6 i) (P1 7 i) (I1 (100 + i)) (I1 (200 + i)) (I1 99 0) (I1 50 i)), .long (J1 50 i), .long (J1 51 i), .ref (AD 6 i), .ref (AD 7 i), .int (nI (P1 6 i)), .int (I1 52 i), .int (m_wwk (P1 6 i) (P1 7 i) (I1 (100 + i)) (I1 99 0))]))) (AD 5 i) = .inr (5, [.int (m_wpl (P1 6 i) (P1 7 i) (I1 (100 + i)) (I1 (200 + i)) (I1 99 0) (I1 50 i)), .long (J1 50 i), .long (J1 51 i), .ref (AD 6 i), .ref (AD 7 i), .int (nI (P1 6 i)), .int (I1 52 i), .int (m_wwk (P1 6 i) (P1 7 i) (I1 (100 + i)) (I1 99 0))]) := va_up_self _ _ _
        have e_11 : (va_up f1 (AD 5 i) (.inr (5, [.int (m_wpl (P1 6 i) (P1 7 i) (I1 (100 + i)) (I1 (200 + i)) (I1 99 0) (I1 50 i)), .long (J1 50 i), .long (J1 51 i), .ref (AD 6 i), .ref (AD 7 i), .int (nI (P1 6 i)), .int (I1 52 i), .int (m_wwk (P1 6 i) (P1 7 i) (I1 (100 + i)) (I1 99 0))]))) (AD 9 0) = .inr (6, [.ref (AD 8 0), .ref (AD 8 1), .ref (AD 8 2), .ref (AD 8 3), .ref (AD 8 4), .ref (AD 8 5), .int (nI (n 0)), .int (nI (n 1)), .int (nI (n 2)), .int (nI (n 3)), .int (nI (n 4)), .int (nI (n 5)), .int (I1 99 0), .long (J1 99 0), .long (J1 99 1), .long (J1 99 2), .long (J1 99 3)]) := (va_up_ne _ _ ne_AD_9_0_AD_5_i).trans g_3E
        have e_12 : (va_up f1 (AD 5 i) (.inr (5, [.int (m_wpl (P1 6 i) (P1 7 i) (I1 (100 + i)) (I1 (200 + i)) (I1 99 0) (I1 50 i)), .long (J1 50 i), .long (J1 51 i), .ref (AD 6 i), .ref (AD 7 i), .int (nI (P1 6 i)), .int (I1 52 i), .int (m_wwk (P1 6 i) (P1 7 i) (I1 (100 + i)) (I1 99 0))]))) (AD 6 i) = .inl (ct 6, 20, .inl (I1 (100 + i))) := (va_up_ne _ _ ne_AD_6_i_AD_5_i).trans g_6E
        have e_13 : (va_up f1 (AD 5 i) (.inr (5, [.int (m_wpl (P1 6 i) (P1 7 i) (I1 (100 + i)) (I1 (200 + i)) (I1 99 0) (I1 50 i)), .long (J1 50 i), .long (J1 51 i), .ref (AD 6 i), .ref (AD 7 i), .int (nI (P1 6 i)), .int (I1 52 i), .int (m_wwk (P1 6 i) (P1 7 i) (I1 (100 + i)) (I1 99 0))]))) (AD 7 i) = .inl (ct 6, 20, .inl (I1 (200 + i))) := (va_up_ne _ _ ne_AD_7_i_AD_5_i).trans g_7E
        have e_14 : (va_up f1 (AD 5 i) (.inr (5, [.int (m_wpl (P1 6 i) (P1 7 i) (I1 (100 + i)) (I1 (200 + i)) (I1 99 0) (I1 50 i)), .long (J1 50 i), .long (J1 51 i), .ref (AD 6 i), .ref (AD 7 i), .int (nI (P1 6 i)), .int (I1 52 i), .int (m_wwk (P1 6 i) (P1 7 i) (I1 (100 + i)) (I1 99 0))]))) (AD 8 5) = .inl (ct 5, 9, .inr (.inr (.inr (.inr (fun j => if j < n 5 then some (AD 5 j) else none))))) := (va_up_ne _ _ ne_AD_8_5_AD_5_i).trans g_8E
        have e_15 : (va_up f1 (AD 5 i) (.inr (5, [.int (m_wpl (P1 6 i) (P1 7 i) (I1 (100 + i)) (I1 (200 + i)) (I1 99 0) (I1 50 i)), .long (J1 50 i), .long (J1 51 i), .ref (AD 6 i), .ref (AD 7 i), .int (nI (P1 6 i)), .int (I1 52 i), .int (m_wwk (P1 6 i) (P1 7 i) (I1 (100 + i)) (I1 99 0))]))) (AD 8 0) = .inl (ct 0, 10, .inr (.inr (.inr (.inr (fun j => if j < n 0 then some (AD 0 j) else none))))) := (va_up_ne _ _ ne_AD_8_0_AD_5_i).trans g_9E
        refine lv_aload_n hx hb d_Sz_movePersons_25 rfl (lv_at hl 2 rfl) ?_
        refine lv_aload_n hx hb d_Sz_movePersons_26 rfl (lv_at hl 0 rfl) ?_
        refine pg_get (C := "SmokeZones$Person") (T := T_Pe) (N := 8) hx hb hG in_Pe hown hK hP g_5L e_10 rfl 0 (by decide) (hG _ k388) (fun _ h9 => h9) rfl d_Sz_movePersons_27 ?_
        refine kV_ri ⟨hx, hb, hml, hown, hG⟩ (c_Sz_isRoom g_3L e_11) (cwV 1 hG (gV k244 k246 ks_Sz_isRoom k1 k247) rfl rfl rfl hd_Sz_isRoom ⟨Nat.le_of_ble_eq_true rfl, Nat.le_of_ble_eq_true rfl⟩) hK hP hS g_3L e_11 rfl rfl hl.1 rfl (Nat.le_of_ble_eq_true rfl) ⟨Nat.le_of_ble_eq_true rfl, Nat.le_of_ble_eq_true rfl⟩ d_Sz_movePersons_30 (fun locs hS => ?_)
        refine lv_if_eq (tgt := 49) hx hb d_Sz_movePersons_33 (by decide) (fun c_16 => ?_) (fun c_16 => ?_)
        · refine lv_iinc (v := nI (i + 1)) (lv' := [(1, .int (nI (i + 1))), (2, .ref (AD 5 i)), (0, .ref (AD 9 0))]) hx hb d_Sz_movePersons_49 hl (k := 1) rfl (nI_1 i) (by decide) rfl (fun ls hl => ?_)
          refine lv_goto (tgt := 2) hx hb d_Sz_movePersons_52 (by decide) ?_
          have hN0 : CW ct AD L n (wI I1 P1 i) (wJ n I1 J1 P1 i) (wP I1 P1 i) _ := hC.set (k := 5) (i := i) (lv0 (by decide) hi) (co_pe (fun a b h => up_hO a b (by omega)) wJ_hJ (fun a b h => up_hO a b (by omega))) (wP_inv hC.2.2 hi)
          have hN : CW ct AD L n (wI I1 P1 i) (wJ n I1 J1 P1 i) (wP I1 P1 i) (va_up f1 (AD 5 i) (.inr (5, [.int (m_wpl (P1 6 i) (P1 7 i) (I1 (100 + i)) (I1 (200 + i)) (I1 99 0) (I1 50 i)), .long (J1 50 i), .long (J1 51 i), .ref (AD 6 i), .ref (AD 7 i), .int (nI (P1 6 i)), .int (I1 52 i), .int (m_wwk (P1 6 i) (P1 7 i) (I1 (100 + i)) (I1 99 0))]))) := by
            refine cast (congrArg (CW ct AD L n (wI I1 P1 i) (wJ n I1 J1 P1 i) (wP I1 P1 i)) ?_) hN0
            congr 1
            simp only [cellOf, personE]
            simp [wI, wP, wJ, up2, wwk_eq, wPl, c_16]
          exact ih (i + 1) _ _ _ _ _ _ _ (by omega) hN hP hD hS (lv_sub hl [0, 2] rfl) hfin
        · obtain ⟨r, hr, hpl⟩ := isR_of (by omega) c_16
          have hcl : (nI r).toNatClampNeg = r := nI_clamp (by omega)
          have hc2 := c_16
          rw [hpl] at hc2
          obtain ⟨g_17L, g_17E0⟩ := hC.ro hr
          have ne_AD_0_r_AD_5_i : AD 0 r ≠ AD 5 i := hC.ne (k := 0) (i := r) (k' := 5) (i' := i) (lv0 (by decide) hr) (lv0 (by decide) hi) (by omega)
          have ne_AD_5_i_AD_0_r : AD 5 i ≠ AD 0 r := fun h => ne_AD_0_r_AD_5_i h.symm
          have g_17E : (va_up f1 (AD 5 i) (.inr (5, [.int (m_wpl (P1 6 i) (P1 7 i) (I1 (100 + i)) (I1 (200 + i)) (I1 99 0) (I1 50 i)), .long (J1 50 i), .long (J1 51 i), .ref (AD 6 i), .ref (AD 7 i), .int (nI (P1 6 i)), .int (I1 52 i), .int (m_wwk (P1 6 i) (P1 7 i) (I1 (100 + i)) (I1 99 0))]))) (AD 0 r) = .inr (0, [.int (I1 0 r), .int (I1 1 r), .long (J1 0 r), .long (J1 1 r), .long (J1 2 r), .int (I1 2 r), .int (I1 3 r), .int (I1 4 r)]) := (va_up_ne _ _ ne_AD_0_r_AD_5_i).trans g_17E0
          refine lv_aload_n hx hb d_Sz_movePersons_36 rfl (lv_at hl 0 rfl) ?_
          refine lv_aload_n hx hb d_Sz_movePersons_37 rfl (lv_at hl 2 rfl) ?_
          refine pg_get (C := "SmokeZones") (T := T_Sz) (N := 17) hx hb hG in_Sz hown hK hP g_3L e_11 rfl 0 (by decide) (hG _ k35) (fun _ h9 => h9) rfl d_Sz_movePersons_38 ?_
          refine lv_aload_n hx hb d_Sz_movePersons_41 rfl (lv_at hl 0 rfl) ?_
          refine pg_get (C := "SmokeZones$Person") (T := T_Pe) (N := 8) hx hb hG in_Pe hown hK hP g_5L e_10 rfl 0 (by decide) (hG _ k388) (fun _ h9 => h9) rfl d_Sz_movePersons_42 ?_
          refine pg_ald hx hb hK hP 0 g_9L e_15 rfl (by rw [hpl]; exact vp_in_nI (by omega) (by decide)) (by rw [hpl]; exact rf_at hr (by omega)) d_Sz_movePersons_45 ?_
          refine kV_wv (f' := va_up (va_up f1 (AD 5 i) (.inr (5, [.int (m_wpl (P1 6 i) (P1 7 i) (I1 (100 + i)) (I1 (200 + i)) (I1 99 0) (I1 50 i)), .long (J1 50 i), .long (J1 51 i), .ref (AD 6 i), .ref (AD 7 i), .int (nI (P1 6 i)), .int (I1 52 i), .int (m_wwk (P1 6 i) (P1 7 i) (I1 (100 + i)) (I1 99 0))]))) (AD 5 i) (.inr (5, [.int (m_wpl (P1 6 i) (P1 7 i) (I1 (100 + i)) (I1 (200 + i)) (I1 99 0) (I1 50 i)), .long (m_dz (m_low (I1 0 r) (I1 1 r) (J1 1 r)) (J1 1 r) (J1 2 r) (J1 50 i)), .long (m_be (m_low (I1 0 r) (I1 1 r) (J1 1 r)) (J1 51 i)), .ref (AD 6 i), .ref (AD 7 i), .int (nI (P1 6 i)), .int (I1 52 i), .int (m_wwk (P1 6 i) (P1 7 i) (I1 (100 + i)) (I1 99 0))]))) ⟨hx, hb, hml, hown, hG⟩ (c_Pe_breathe g_5L e_10 g_17L g_17E) (cwV 1 hG (gV k553 k554 k555 k13 k556) rfl rfl rfl hd_Pe_breathe ⟨Nat.le_of_ble_eq_true rfl, Nat.le_of_ble_eq_true rfl⟩) hK hP hD hS hA g_5L e_10 rfl rfl hl.1 rfl (Nat.le_of_ble_eq_true rfl) ⟨Nat.le_of_ble_eq_true rfl, Nat.le_of_ble_eq_true rfl⟩ d_Sz_movePersons_46 (fun H locs hP hD hS => ?_)
          rw [bx_uu] at hP hD
          have hP : va_P D vwCl (va_pl (L) (va_up f1 (AD 5 i) (.inr (5, [.int (m_wpl (P1 6 i) (P1 7 i) (I1 (100 + i)) (I1 (200 + i)) (I1 99 0) (I1 50 i)), .long (m_dz (m_low (I1 0 r) (I1 1 r) (J1 1 r)) (J1 1 r) (J1 2 r) (J1 50 i)), .long (m_be (m_low (I1 0 r) (I1 1 r) (J1 1 r)) (J1 51 i)), .ref (AD 6 i), .ref (AD 7 i), .int (nI (P1 6 i)), .int (I1 52 i), .int (m_wwk (P1 6 i) (P1 7 i) (I1 (100 + i)) (I1 99 0))])))) H := hP
          have hD : va_D A (va_pl (L) (va_up f1 (AD 5 i) (.inr (5, [.int (m_wpl (P1 6 i) (P1 7 i) (I1 (100 + i)) (I1 (200 + i)) (I1 99 0) (I1 50 i)), .long (m_dz (m_low (I1 0 r) (I1 1 r) (J1 1 r)) (J1 1 r) (J1 2 r) (J1 50 i)), .long (m_be (m_low (I1 0 r) (I1 1 r) (J1 1 r)) (J1 51 i)), .ref (AD 6 i), .ref (AD 7 i), .int (nI (P1 6 i)), .int (I1 52 i), .int (m_wwk (P1 6 i) (P1 7 i) (I1 (100 + i)) (I1 99 0))])))) := hD
          have e_18 : (va_up f1 (AD 5 i) (.inr (5, [.int (m_wpl (P1 6 i) (P1 7 i) (I1 (100 + i)) (I1 (200 + i)) (I1 99 0) (I1 50 i)), .long (m_dz (m_low (I1 0 r) (I1 1 r) (J1 1 r)) (J1 1 r) (J1 2 r) (J1 50 i)), .long (m_be (m_low (I1 0 r) (I1 1 r) (J1 1 r)) (J1 51 i)), .ref (AD 6 i), .ref (AD 7 i), .int (nI (P1 6 i)), .int (I1 52 i), .int (m_wwk (P1 6 i) (P1 7 i) (I1 (100 + i)) (I1 99 0))]))) (AD 5 i) = .inr (5, [.int (m_wpl (P1 6 i) (P1 7 i) (I1 (100 + i)) (I1 (200 + i)) (I1 99 0) (I1 50 i)), .long (m_dz (m_low (I1 0 r) (I1 1 r) (J1 1 r)) (J1 1 r) (J1 2 r) (J1 50 i)), .long (m_be (m_low (I1 0 r) (I1 1 r) (J1 1 r)) (J1 51 i)), .ref (AD 6 i), .ref (AD 7 i), .int (nI (P1 6 i)), .int (I1 52 i), .int (m_wwk (P1 6 i) (P1 7 i) (I1 (100 + i)) (I1 99 0))]) := va_up_self _ _ _
          have e_19 : (va_up f1 (AD 5 i) (.inr (5, [.int (m_wpl (P1 6 i) (P1 7 i) (I1 (100 + i)) (I1 (200 + i)) (I1 99 0) (I1 50 i)), .long (m_dz (m_low (I1 0 r) (I1 1 r) (J1 1 r)) (J1 1 r) (J1 2 r) (J1 50 i)), .long (m_be (m_low (I1 0 r) (I1 1 r) (J1 1 r)) (J1 51 i)), .ref (AD 6 i), .ref (AD 7 i), .int (nI (P1 6 i)), .int (I1 52 i), .int (m_wwk (P1 6 i) (P1 7 i) (I1 (100 + i)) (I1 99 0))]))) (AD 9 0) = .inr (6, [.ref (AD 8 0), .ref (AD 8 1), .ref (AD 8 2), .ref (AD 8 3), .ref (AD 8 4), .ref (AD 8 5), .int (nI (n 0)), .int (nI (n 1)), .int (nI (n 2)), .int (nI (n 3)), .int (nI (n 4)), .int (nI (n 5)), .int (I1 99 0), .long (J1 99 0), .long (J1 99 1), .long (J1 99 2), .long (J1 99 3)]) := (va_up_ne _ _ ne_AD_9_0_AD_5_i).trans g_3E
          have e_20 : (va_up f1 (AD 5 i) (.inr (5, [.int (m_wpl (P1 6 i) (P1 7 i) (I1 (100 + i)) (I1 (200 + i)) (I1 99 0) (I1 50 i)), .long (m_dz (m_low (I1 0 r) (I1 1 r) (J1 1 r)) (J1 1 r) (J1 2 r) (J1 50 i)), .long (m_be (m_low (I1 0 r) (I1 1 r) (J1 1 r)) (J1 51 i)), .ref (AD 6 i), .ref (AD 7 i), .int (nI (P1 6 i)), .int (I1 52 i), .int (m_wwk (P1 6 i) (P1 7 i) (I1 (100 + i)) (I1 99 0))]))) (AD 6 i) = .inl (ct 6, 20, .inl (I1 (100 + i))) := (va_up_ne _ _ ne_AD_6_i_AD_5_i).trans g_6E
          have e_21 : (va_up f1 (AD 5 i) (.inr (5, [.int (m_wpl (P1 6 i) (P1 7 i) (I1 (100 + i)) (I1 (200 + i)) (I1 99 0) (I1 50 i)), .long (m_dz (m_low (I1 0 r) (I1 1 r) (J1 1 r)) (J1 1 r) (J1 2 r) (J1 50 i)), .long (m_be (m_low (I1 0 r) (I1 1 r) (J1 1 r)) (J1 51 i)), .ref (AD 6 i), .ref (AD 7 i), .int (nI (P1 6 i)), .int (I1 52 i), .int (m_wwk (P1 6 i) (P1 7 i) (I1 (100 + i)) (I1 99 0))]))) (AD 7 i) = .inl (ct 6, 20, .inl (I1 (200 + i))) := (va_up_ne _ _ ne_AD_7_i_AD_5_i).trans g_7E
          have e_22 : (va_up f1 (AD 5 i) (.inr (5, [.int (m_wpl (P1 6 i) (P1 7 i) (I1 (100 + i)) (I1 (200 + i)) (I1 99 0) (I1 50 i)), .long (m_dz (m_low (I1 0 r) (I1 1 r) (J1 1 r)) (J1 1 r) (J1 2 r) (J1 50 i)), .long (m_be (m_low (I1 0 r) (I1 1 r) (J1 1 r)) (J1 51 i)), .ref (AD 6 i), .ref (AD 7 i), .int (nI (P1 6 i)), .int (I1 52 i), .int (m_wwk (P1 6 i) (P1 7 i) (I1 (100 + i)) (I1 99 0))]))) (AD 8 5) = .inl (ct 5, 9, .inr (.inr (.inr (.inr (fun j => if j < n 5 then some (AD 5 j) else none))))) := (va_up_ne _ _ ne_AD_8_5_AD_5_i).trans g_8E
          have e_23 : (va_up f1 (AD 5 i) (.inr (5, [.int (m_wpl (P1 6 i) (P1 7 i) (I1 (100 + i)) (I1 (200 + i)) (I1 99 0) (I1 50 i)), .long (m_dz (m_low (I1 0 r) (I1 1 r) (J1 1 r)) (J1 1 r) (J1 2 r) (J1 50 i)), .long (m_be (m_low (I1 0 r) (I1 1 r) (J1 1 r)) (J1 51 i)), .ref (AD 6 i), .ref (AD 7 i), .int (nI (P1 6 i)), .int (I1 52 i), .int (m_wwk (P1 6 i) (P1 7 i) (I1 (100 + i)) (I1 99 0))]))) (AD 8 0) = .inl (ct 0, 10, .inr (.inr (.inr (.inr (fun j => if j < n 0 then some (AD 0 j) else none))))) := (va_up_ne _ _ ne_AD_8_0_AD_5_i).trans g_9E
          have e_24 : (va_up f1 (AD 5 i) (.inr (5, [.int (m_wpl (P1 6 i) (P1 7 i) (I1 (100 + i)) (I1 (200 + i)) (I1 99 0) (I1 50 i)), .long (m_dz (m_low (I1 0 r) (I1 1 r) (J1 1 r)) (J1 1 r) (J1 2 r) (J1 50 i)), .long (m_be (m_low (I1 0 r) (I1 1 r) (J1 1 r)) (J1 51 i)), .ref (AD 6 i), .ref (AD 7 i), .int (nI (P1 6 i)), .int (I1 52 i), .int (m_wwk (P1 6 i) (P1 7 i) (I1 (100 + i)) (I1 99 0))]))) (AD 0 r) = .inr (0, [.int (I1 0 r), .int (I1 1 r), .long (J1 0 r), .long (J1 1 r), .long (J1 2 r), .int (I1 2 r), .int (I1 3 r), .int (I1 4 r)]) := (va_up_ne _ _ ne_AD_0_r_AD_5_i).trans g_17E0
          refine lv_iinc (v := nI (i + 1)) (lv' := [(1, .int (nI (i + 1))), (2, .ref (AD 5 i)), (0, .ref (AD 9 0))]) hx hb d_Sz_movePersons_49 hl (k := 1) rfl (nI_1 i) (by decide) rfl (fun ls hl => ?_)
          refine lv_goto (tgt := 2) hx hb d_Sz_movePersons_52 (by decide) ?_
          have hN0 : CW ct AD L n (wI I1 P1 i) (wJ n I1 J1 P1 i) (wP I1 P1 i) _ := hC.set (k := 5) (i := i) (lv0 (by decide) hi) (co_pe (fun a b h => up_hO a b (by omega)) wJ_hJ (fun a b h => up_hO a b (by omega))) (wP_inv hC.2.2 hi)
          have hN : CW ct AD L n (wI I1 P1 i) (wJ n I1 J1 P1 i) (wP I1 P1 i) (va_up f1 (AD 5 i) (.inr (5, [.int (m_wpl (P1 6 i) (P1 7 i) (I1 (100 + i)) (I1 (200 + i)) (I1 99 0) (I1 50 i)), .long (m_dz (m_low (I1 0 r) (I1 1 r) (J1 1 r)) (J1 1 r) (J1 2 r) (J1 50 i)), .long (m_be (m_low (I1 0 r) (I1 1 r) (J1 1 r)) (J1 51 i)), .ref (AD 6 i), .ref (AD 7 i), .int (nI (P1 6 i)), .int (I1 52 i), .int (m_wwk (P1 6 i) (P1 7 i) (I1 (100 + i)) (I1 99 0))]))) := by
            refine cast (congrArg (CW ct AD L n (wI I1 P1 i) (wJ n I1 J1 P1 i) (wP I1 P1 i)) ?_) hN0
            congr 1
            simp only [cellOf, personE]
            simp [wI, wP, wJ, up2, wwk_eq, wPl, hpl, hcl, hc2]
          exact ih (i + 1) _ _ _ _ _ _ _ (by omega) hN hP hD hS (lv_sub hl [0, 2] rfl) hfin
  exact lp (n 5) 0 I J P f _ _ _ (by omega) hCW hP hD hS (lv_sub hl [0, 1] rfl) rfl
