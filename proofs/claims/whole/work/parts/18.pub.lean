def kNum (n : Nat) (v : Int32) : Prop := 0 ≤ v ∧ v < nI n
def kdGlass (n : Nat → Nat) (I : Nat → Nat → Int32) (o li : Int32) : Int32 := if 0 ≤ o ∧ o < nI (n 1) then (if 1 ≤ li ∧ li ≤ 1000 then (if I 15 o.toNatClampNeg = (-1) then 0 else 2) else 1) else 1
def kdSpr (n : Nat → Nat) (I : Nat → Nat → Int32) (o li : Int32) : Int32 := if 0 ≤ o ∧ o < nI (n 0) then (if 1 ≤ li ∧ li ≤ 1000 then (if I 2 o.toNatClampNeg = (-1) then 0 else 2) else 1) else 1
def kdNB (c : Nat) (o w hi : Int32) : Int32 := if 0 ≤ o ∧ o < nI c then (if 0 ≤ w ∧ w ≤ hi then 0 else 1) else 1
def kdN (c : Nat) (o : Int32) : Int32 := if 0 ≤ o ∧ o < nI c then 0 else 1
def kdB (w hi : Int32) : Int32 := if 0 ≤ w ∧ w ≤ hi then 0 else 1

set_option maxHeartbeats 4000000 in
set_option maxRecDepth 100000 in
theorem c_Sz_glass {l : Launch} (hl0 : l.stackTraces = false) {D : va_G} {ct : Nat → ClassId} {AD : Nat → Nat → Nat} {L : List Nat} {f : Nat → va_E} {sz : Nat} {n : Nat → Nat} {I : Nat → Nat → Int32} {J : Nat → Nat → Int64} {P : Nat → Nat → Nat} {sa sb : Nat} {p1 p2 : Int32} (hCW : CW ct AD L n I J P f)  : vx_Met l y_Sz_glass (WS y_Sz_glass b_Sz_glass 3 none) { frames := 8, cells := 12, slots := 100, locals := 132 } (va_Pc [.ref (AD 9 0), .int p1, .int p2] (MP D ct L f sa sb sz)) (va_Qv (fun (u : CSt) => (kdGlass n I p1 p2) = 0 ∧ CW ct u.1 u.2.1 n (up2 I 15 p1.toNatClampNeg p2) J P u.2.2 ∧ u.1 9 0 = AD 9 0) (fun u t => WQ D (TYS ct) u.2.1 u.2.2 (AA L f sz) t) (AA L f sz)) (XE D ct L f (AA L f sz) (kdGlass n I p1 p2)) 12 100 (AA L f sz) := by
  refine vx_ofW (cc := b_Sz_glass) (maxL := 3) (ret := none) (by decide) rfl ?_
  intro p e s m args below meth c s₁ B hml htab hv
  obtain ⟨rfl, hsz, hP, hK, hD0, hE⟩ := hv
  subst hsz
  have hx := B.exec
  have hb := B.bytes
  have hret := B.returns
  have hts := atoms_spec (ws := WS y_Sz_glass b_Sz_glass 3 none) B.pre
  have hG : ∀ w ∈ GW, w.before _ s = true := fun w h => hts w (List.mem_cons_of_mem _ h)
  have hown : s.vm.findClass "SmokeZones" = some m.cls := findClass_of_methodNamed B.named
  have hlocks := B.notSynchronized
  have hD : va_D (AA L f s.heap.size) (va_pl L f) := hD0.self (sz := s.heap.size)
  generalize hAe : AA L f s.heap.size = A at hD hE ⊢
  have hA : ∀ q : Nat, s.heap.size ≤ q → A q := fun q h => by rw [← hAe]; exact Or.inr h
  have hS : va_S A s.heap s.heap [] := va_S.rf
  have hl := lv_entry ([.ref (AD 9 0), .int p1, .int p2]) (n := 3) (Nat.le_of_ble_eq_true rfl)
  rw [lg_entry_eq]
  generalize (lg_sl ([.ref (AD 9 0), .int p1, .int p2]) ++ List.replicate (3 - (lg_sl ([.ref (AD 9 0), .int p1, .int p2])).length) Slot.unset).toArray = ls at hl ⊢
  have hl : lv_has ls 3 [(0, .ref (AD 9 0)), (1, .int p1), (2, .int p2)] := hl
  obtain ⟨g0L, g0E⟩ := hCW.ma
  have hc0 := hCW.cap0
  have hc1 := hCW.cap1
  have hc2 := hCW.cap2
  have hc3 := hCW.cap3
  have hc4 := hCW.cap4
  have hc5 := hCW.cap5
  refine lv_iload_n hx hb d_Sz_glass_0 rfl (lv_at hl 1 rfl) ?_
  refine lv_aload_n hx hb d_Sz_glass_1 rfl (lv_at hl 0 rfl) ?_
  refine pg_get (C := "SmokeZones") (T := T_Sz) (N := 17) hx hb hG in_Sz hown hK hP g0L g0E rfl 7 (by decide) (hG _ k42) (fun _ h9 => h9) rfl d_Sz_glass_2 ?_
  refine kS_ck ⟨hx, hb, hml, hown, hG⟩ (c_Sz_needNumber hl0 ) (cwS 2 hG (gS k237 k238 k1 k239) rfl rfl rfl hd_Sz_needNumber ⟨Nat.le_of_ble_eq_true rfl, Nat.le_of_ble_eq_true rfl⟩) hK hP hS hA hE rfl hl.1 rfl (Nat.le_of_ble_eq_true rfl) ⟨Nat.le_of_ble_eq_true rfl, Nat.le_of_ble_eq_true rfl⟩ d_Sz_glass_5 (fun k_1 ce q9 H1 locs hz hk hS h1 h2 h3 => ?_) (fun k_1 locs hS => ?_)
  · exact vx_out (fun x hx9 => (htab x hx9).elim) hlocks h1 h2 h3 (fun t ht hvm => ⟨(), trivial, ⟨Or.inl ⟨(by simp only [kdGlass, if_neg k_1]), rfl⟩, by rw [ht]; exact P_keep hP hk, va_K.moved hvm hK, hD⟩, hS.F ht⟩) hS.2.2 (by decide) (by decide)
  · obtain ⟨r, hr, er⟩ := num_of k_1 (by omega)
    have hcl : (p1).toNatClampNeg = r := by rw [er]; exact nI_clamp (by omega)
    obtain ⟨g_2L, g_2E⟩ := hCW.op hr
    obtain ⟨g_3L, g_3E⟩ := hCW.a1
    have ne_AD_9_0_AD_1_r : AD 9 0 ≠ AD 1 r := hCW.ne (k := 9) (i := 0) (k' := 1) (i' := r) (lv9) (lv0 (by decide) hr) (by omega)
    have ne_AD_9_0_AD_8_1 : AD 9 0 ≠ AD 8 1 := hCW.ne (k := 9) (i := 0) (k' := 8) (i' := 1) (lv9) (lv8 (by decide)) (by omega)
    have ne_AD_1_r_AD_9_0 : AD 1 r ≠ AD 9 0 := hCW.ne (k := 1) (i := r) (k' := 9) (i' := 0) (lv0 (by decide) hr) (lv9) (by omega)
    have ne_AD_1_r_AD_8_1 : AD 1 r ≠ AD 8 1 := hCW.ne (k := 1) (i := r) (k' := 8) (i' := 1) (lv0 (by decide) hr) (lv8 (by decide)) (by omega)
    have ne_AD_8_1_AD_9_0 : AD 8 1 ≠ AD 9 0 := hCW.ne (k := 8) (i := 1) (k' := 9) (i' := 0) (lv8 (by decide)) (lv9) (by omega)
    have ne_AD_8_1_AD_1_r : AD 8 1 ≠ AD 1 r := hCW.ne (k := 8) (i := 1) (k' := 1) (i' := r) (lv8 (by decide)) (lv0 (by decide) hr) (by omega)
    refine lv_iload_n hx hb d_Sz_glass_8 rfl (lv_at hl 2 rfl) ?_
    refine lv_iconst (v := 1) hx hb d_Sz_glass_9 (by decide) ?_
    refine lv_sipush (v := 1000) hx hb d_Sz_glass_10 (by decide) ?_
    refine kS_ck ⟨hx, hb, hml, hown, hG⟩ (c_Sz_needBetween hl0 ) (cwS 3 hG (gS k96 k97 k1 k98) rfl rfl rfl hd_Sz_needBetween ⟨Nat.le_of_ble_eq_true rfl, Nat.le_of_ble_eq_true rfl⟩) hK hP hS hA hE rfl hl.1 rfl (Nat.le_of_ble_eq_true rfl) ⟨Nat.le_of_ble_eq_true rfl, Nat.le_of_ble_eq_true rfl⟩ d_Sz_glass_13 (fun k_4 ce q9 H1 locs hz hk hS h1 h2 h3 => ?_) (fun k_4 locs hS => ?_)
    · exact vx_out (fun x hx9 => (htab x hx9).elim) hlocks h1 h2 h3 (fun t ht hvm => ⟨(), trivial, ⟨Or.inl ⟨(by simp only [kdGlass, if_pos k_1, if_neg k_4]), rfl⟩, by rw [ht]; exact P_keep hP hk, va_K.moved hvm hK, hD⟩, hS.F ht⟩) hS.2.2 (by decide) (by decide)
    · refine lv_aload_n hx hb d_Sz_glass_16 rfl (lv_at hl 0 rfl) ?_
      refine pg_get (C := "SmokeZones") (T := T_Sz) (N := 17) hx hb hG in_Sz hown hK hP g0L g0E rfl 1 (by decide) (hG _ k36) (fun _ h9 => h9) rfl d_Sz_glass_17 ?_
      refine lv_iload_n hx hb d_Sz_glass_20 rfl (lv_at hl 1 rfl) ?_
      refine pg_ald hx hb hK hP 1 g_3L g_3E rfl (by rw [er]; exact vp_in_nI (by omega) (by decide)) (by rw [er]; exact rf_at hr (by omega)) d_Sz_glass_21 ?_
      refine pg_get (C := "SmokeZones$Opening") (T := T_Op) (N := 10) hx hb hG in_Op hown hK hP g_2L g_2E rfl 5 (by decide) (hG _ k259) (fun _ h9 => h9) rfl d_Sz_glass_22 ?_
      refine lv_iconst (v := (-1)) hx hb d_Sz_glass_25 (by decide) ?_
      refine lv_icmp_ne (tgt := 33) hx hb d_Sz_glass_26 (by decide) (fun c_5 => ?_) (fun c_5 => ?_)
      · rw [← hcl] at c_5
        refine lv_iconst (v := 0) hx hb d_Sz_glass_33 (by decide) ?_
        refine kS_ck ⟨hx, hb, hml, hown, hG⟩ (c_Sz_needState hl0 ) (cwS 1 hG (gS k172 k173 k1 k174) rfl rfl rfl hd_Sz_needState ⟨Nat.le_of_ble_eq_true rfl, Nat.le_of_ble_eq_true rfl⟩) hK hP hS hA hE rfl hl.1 rfl (Nat.le_of_ble_eq_true rfl) ⟨Nat.le_of_ble_eq_true rfl, Nat.le_of_ble_eq_true rfl⟩ d_Sz_glass_34 (fun k_6 ce q9 H1 locs hz hk hS h1 h2 h3 => ?_) (fun k_6 locs hS => ?_)
        · exact vx_out (fun x hx9 => (htab x hx9).elim) hlocks h1 h2 h3 (fun t ht hvm => ⟨(), trivial, ⟨Or.inr ⟨(by simp only [kdGlass, if_pos k_1, if_pos k_4, if_neg c_5]), rfl⟩, by rw [ht]; exact P_keep hP hk, va_K.moved hvm hK, hD⟩, hS.F ht⟩) hS.2.2 (by decide) (by decide)
        · exact absurd rfl k_6
      · rw [← hcl] at c_5
        refine lv_iconst (v := 1) hx hb d_Sz_glass_29 (by decide) ?_
        refine lv_goto (tgt := 34) hx hb d_Sz_glass_30 (by decide) ?_
        refine kS_ck ⟨hx, hb, hml, hown, hG⟩ (c_Sz_needState hl0 ) (cwS 1 hG (gS k172 k173 k1 k174) rfl rfl rfl hd_Sz_needState ⟨Nat.le_of_ble_eq_true rfl, Nat.le_of_ble_eq_true rfl⟩) hK hP hS hA hE rfl hl.1 rfl (Nat.le_of_ble_eq_true rfl) ⟨Nat.le_of_ble_eq_true rfl, Nat.le_of_ble_eq_true rfl⟩ d_Sz_glass_34 (fun k_7 ce q9 H1 locs hz hk hS h1 h2 h3 => ?_) (fun k_7 locs hS => ?_)
        · exact absurd (by decide) k_7
        · refine lv_aload_n hx hb d_Sz_glass_37 rfl (lv_at hl 0 rfl) ?_
          refine pg_get (C := "SmokeZones") (T := T_Sz) (N := 17) hx hb hG in_Sz hown hK hP g0L g0E rfl 1 (by decide) (hG _ k36) (fun _ h9 => h9) rfl d_Sz_glass_38 ?_
          refine lv_iload_n hx hb d_Sz_glass_41 rfl (lv_at hl 1 rfl) ?_
          refine pg_ald hx hb hK hP 1 g_3L g_3E rfl (by rw [er]; exact vp_in_nI (by omega) (by decide)) (by rw [er]; exact rf_at hr (by omega)) d_Sz_glass_42 ?_
          refine lv_iload_n hx hb d_Sz_glass_43 rfl (lv_at hl 2 rfl) ?_
          refine pg_put (C := "SmokeZones$Opening") (T := T_Op) (N := 10) (ty := .int) hx hb hG in_Op ty_Op ok_Op nm_Op hown hK hP hD hS g_2L g_2E rfl 5 (by decide) (hG _ k259) (fun _ h9 => h9) rfl (by decide +kernel) rfl rfl (Nat.le_of_ble_eq_true rfl) d_Sz_glass_44 (fun H locs hP hD hS => ?_)
          have hP : va_P D vwCl (va_pl (L) (va_up f (AD 1 r) (.inr (1, [.ref (AD 0 (P 1 r)), farV AD (P 2 r), .int (I 12 r), .int (I 13 r), .int (I 14 r), .int p2, .int (I 16 r), .long (J 10 r), .long (J 11 r), .long (J 12 r)])))) H := hP
          have hD : va_D A (va_pl (L) (va_up f (AD 1 r) (.inr (1, [.ref (AD 0 (P 1 r)), farV AD (P 2 r), .int (I 12 r), .int (I 13 r), .int (I 14 r), .int p2, .int (I 16 r), .long (J 10 r), .long (J 11 r), .long (J 12 r)])))) := hD
          have e_8 : (va_up f (AD 1 r) (.inr (1, [.ref (AD 0 (P 1 r)), farV AD (P 2 r), .int (I 12 r), .int (I 13 r), .int (I 14 r), .int p2, .int (I 16 r), .long (J 10 r), .long (J 11 r), .long (J 12 r)]))) (AD 1 r) = .inr (1, [.ref (AD 0 (P 1 r)), farV AD (P 2 r), .int (I 12 r), .int (I 13 r), .int (I 14 r), .int p2, .int (I 16 r), .long (J 10 r), .long (J 11 r), .long (J 12 r)]) := va_up_self _ _ _
          have e_9 : (va_up f (AD 1 r) (.inr (1, [.ref (AD 0 (P 1 r)), farV AD (P 2 r), .int (I 12 r), .int (I 13 r), .int (I 14 r), .int p2, .int (I 16 r), .long (J 10 r), .long (J 11 r), .long (J 12 r)]))) (AD 9 0) = .inr (6, [.ref (AD 8 0), .ref (AD 8 1), .ref (AD 8 2), .ref (AD 8 3), .ref (AD 8 4), .ref (AD 8 5), .int (nI (n 0)), .int (nI (n 1)), .int (nI (n 2)), .int (nI (n 3)), .int (nI (n 4)), .int (nI (n 5)), .int (I 99 0), .long (J 99 0), .long (J 99 1), .long (J 99 2), .long (J 99 3)]) := (va_up_ne _ _ ne_AD_9_0_AD_1_r).trans g0E
          have e_10 : (va_up f (AD 1 r) (.inr (1, [.ref (AD 0 (P 1 r)), farV AD (P 2 r), .int (I 12 r), .int (I 13 r), .int (I 14 r), .int p2, .int (I 16 r), .long (J 10 r), .long (J 11 r), .long (J 12 r)]))) (AD 8 1) = .inl (ct 1, 15, .inr (.inr (.inr (.inr (fun j => if j < n 1 then some (AD 1 j) else none))))) := (va_up_ne _ _ ne_AD_8_1_AD_1_r).trans g_3E
          have hN0 : CW ct AD L n (up2 I 15 r p2) J P _ := hCW.set (k := 1) (i := r) (lv0 (by decide) hr) (co_op (fun a b h => up_hO a b (by omega)) (fun _ _ _ => rfl)) hCW.2.2
          have hN : CW ct AD L n (up2 I 15 p1.toNatClampNeg p2) J P (va_up f (AD 1 r) (.inr (1, [.ref (AD 0 (P 1 r)), farV AD (P 2 r), .int (I 12 r), .int (I 13 r), .int (I 14 r), .int p2, .int (I 16 r), .long (J 10 r), .long (J 11 r), .long (J 12 r)]))) := by
            rw [hcl]
            refine cast (congrArg (CW ct AD L n (up2 I 15 r p2) J P) ?_) hN0
            simp [cellOf, openE, up2]
          refine W.widen (k := 12) (n := 100) (by decide) (by decide) ?_
          exact vx_ret (W.vret hx hb hret (fun t ht hW => ⟨⟨(AD, L, va_up f (AD 1 r) (.inr (1, [.ref (AD 0 (P 1 r)), farV AD (P 2 r), .int (I 12 r), .int (I 13 r), .int (I 14 r), .int p2, .int (I 16 r), .long (J 10 r), .long (J 11 r), .long (J 12 r)]))), rfl, ⟨(by simp only [kdGlass, if_pos k_1, if_pos k_4, if_pos c_5, if_pos k_7]), hN, rfl⟩, by rw [ht]; exact hP, va_K.moved hW.alike hK, hD⟩, hS.F ht⟩) hS.2.2 d_Sz_glass_47)

set_option maxHeartbeats 4000000 in
set_option maxRecDepth 100000 in
theorem c_Sz_sprinkler {l : Launch} (hl0 : l.stackTraces = false) {D : va_G} {ct : Nat → ClassId} {AD : Nat → Nat → Nat} {L : List Nat} {f : Nat → va_E} {sz : Nat} {n : Nat → Nat} {I : Nat → Nat → Int32} {J : Nat → Nat → Int64} {P : Nat → Nat → Nat} {sa sb : Nat} {p1 p2 : Int32} (hCW : CW ct AD L n I J P f)  : vx_Met l y_Sz_sprinkler (WS y_Sz_sprinkler b_Sz_sprinkler 3 none) { frames := 8, cells := 12, slots := 100, locals := 132 } (va_Pc [.ref (AD 9 0), .int p1, .int p2] (MP D ct L f sa sb sz)) (va_Qv (fun (u : CSt) => (kdSpr n I p1 p2) = 0 ∧ CW ct u.1 u.2.1 n (up2 I 2 p1.toNatClampNeg p2) J P u.2.2 ∧ u.1 9 0 = AD 9 0) (fun u t => WQ D (TYS ct) u.2.1 u.2.2 (AA L f sz) t) (AA L f sz)) (XE D ct L f (AA L f sz) (kdSpr n I p1 p2)) 12 100 (AA L f sz) := by
  refine vx_ofW (cc := b_Sz_sprinkler) (maxL := 3) (ret := none) (by decide) rfl ?_
  intro p e s m args below meth c s₁ B hml htab hv
  obtain ⟨rfl, hsz, hP, hK, hD0, hE⟩ := hv
  subst hsz
  have hx := B.exec
  have hb := B.bytes
  have hret := B.returns
  have hts := atoms_spec (ws := WS y_Sz_sprinkler b_Sz_sprinkler 3 none) B.pre
  have hG : ∀ w ∈ GW, w.before _ s = true := fun w h => hts w (List.mem_cons_of_mem _ h)
  have hown : s.vm.findClass "SmokeZones" = some m.cls := findClass_of_methodNamed B.named
  have hlocks := B.notSynchronized
  have hD : va_D (AA L f s.heap.size) (va_pl L f) := hD0.self (sz := s.heap.size)
  generalize hAe : AA L f s.heap.size = A at hD hE ⊢
  have hA : ∀ q : Nat, s.heap.size ≤ q → A q := fun q h => by rw [← hAe]; exact Or.inr h
  have hS : va_S A s.heap s.heap [] := va_S.rf
  have hl := lv_entry ([.ref (AD 9 0), .int p1, .int p2]) (n := 3) (Nat.le_of_ble_eq_true rfl)
  rw [lg_entry_eq]
  generalize (lg_sl ([.ref (AD 9 0), .int p1, .int p2]) ++ List.replicate (3 - (lg_sl ([.ref (AD 9 0), .int p1, .int p2])).length) Slot.unset).toArray = ls at hl ⊢
  have hl : lv_has ls 3 [(0, .ref (AD 9 0)), (1, .int p1), (2, .int p2)] := hl
  obtain ⟨g0L, g0E⟩ := hCW.ma
  have hc0 := hCW.cap0
  have hc1 := hCW.cap1
  have hc2 := hCW.cap2
  have hc3 := hCW.cap3
  have hc4 := hCW.cap4
  have hc5 := hCW.cap5
  refine lv_iload_n hx hb d_Sz_sprinkler_0 rfl (lv_at hl 1 rfl) ?_
  refine lv_aload_n hx hb d_Sz_sprinkler_1 rfl (lv_at hl 0 rfl) ?_
  refine pg_get (C := "SmokeZones") (T := T_Sz) (N := 17) hx hb hG in_Sz hown hK hP g0L g0E rfl 6 (by decide) (hG _ k41) (fun _ h9 => h9) rfl d_Sz_sprinkler_2 ?_
  refine kS_ck ⟨hx, hb, hml, hown, hG⟩ (c_Sz_needNumber hl0 ) (cwS 2 hG (gS k237 k238 k1 k239) rfl rfl rfl hd_Sz_needNumber ⟨Nat.le_of_ble_eq_true rfl, Nat.le_of_ble_eq_true rfl⟩) hK hP hS hA hE rfl hl.1 rfl (Nat.le_of_ble_eq_true rfl) ⟨Nat.le_of_ble_eq_true rfl, Nat.le_of_ble_eq_true rfl⟩ d_Sz_sprinkler_5 (fun k_1 ce q9 H1 locs hz hk hS h1 h2 h3 => ?_) (fun k_1 locs hS => ?_)
  · exact vx_out (fun x hx9 => (htab x hx9).elim) hlocks h1 h2 h3 (fun t ht hvm => ⟨(), trivial, ⟨Or.inl ⟨(by simp only [kdSpr, if_neg k_1]), rfl⟩, by rw [ht]; exact P_keep hP hk, va_K.moved hvm hK, hD⟩, hS.F ht⟩) hS.2.2 (by decide) (by decide)
  · obtain ⟨r, hr, er⟩ := num_of k_1 (by omega)
    have hcl : (p1).toNatClampNeg = r := by rw [er]; exact nI_clamp (by omega)
    obtain ⟨g_2L, g_2E⟩ := hCW.ro hr
    obtain ⟨g_3L, g_3E⟩ := hCW.a0
    have ne_AD_9_0_AD_0_r : AD 9 0 ≠ AD 0 r := hCW.ne (k := 9) (i := 0) (k' := 0) (i' := r) (lv9) (lv0 (by decide) hr) (by omega)
    have ne_AD_9_0_AD_8_0 : AD 9 0 ≠ AD 8 0 := hCW.ne (k := 9) (i := 0) (k' := 8) (i' := 0) (lv9) (lv8 (by decide)) (by omega)
    have ne_AD_0_r_AD_9_0 : AD 0 r ≠ AD 9 0 := hCW.ne (k := 0) (i := r) (k' := 9) (i' := 0) (lv0 (by decide) hr) (lv9) (by omega)
    have ne_AD_0_r_AD_8_0 : AD 0 r ≠ AD 8 0 := hCW.ne (k := 0) (i := r) (k' := 8) (i' := 0) (lv0 (by decide) hr) (lv8 (by decide)) (by omega)
    have ne_AD_8_0_AD_9_0 : AD 8 0 ≠ AD 9 0 := hCW.ne (k := 8) (i := 0) (k' := 9) (i' := 0) (lv8 (by decide)) (lv9) (by omega)
    have ne_AD_8_0_AD_0_r : AD 8 0 ≠ AD 0 r := hCW.ne (k := 8) (i := 0) (k' := 0) (i' := r) (lv8 (by decide)) (lv0 (by decide) hr) (by omega)
    refine lv_iload_n hx hb d_Sz_sprinkler_8 rfl (lv_at hl 2 rfl) ?_
    refine lv_iconst (v := 1) hx hb d_Sz_sprinkler_9 (by decide) ?_
    refine lv_sipush (v := 1000) hx hb d_Sz_sprinkler_10 (by decide) ?_
    refine kS_ck ⟨hx, hb, hml, hown, hG⟩ (c_Sz_needBetween hl0 ) (cwS 3 hG (gS k96 k97 k1 k98) rfl rfl rfl hd_Sz_needBetween ⟨Nat.le_of_ble_eq_true rfl, Nat.le_of_ble_eq_true rfl⟩) hK hP hS hA hE rfl hl.1 rfl (Nat.le_of_ble_eq_true rfl) ⟨Nat.le_of_ble_eq_true rfl, Nat.le_of_ble_eq_true rfl⟩ d_Sz_sprinkler_13 (fun k_4 ce q9 H1 locs hz hk hS h1 h2 h3 => ?_) (fun k_4 locs hS => ?_)
    · exact vx_out (fun x hx9 => (htab x hx9).elim) hlocks h1 h2 h3 (fun t ht hvm => ⟨(), trivial, ⟨Or.inl ⟨(by simp only [kdSpr, if_pos k_1, if_neg k_4]), rfl⟩, by rw [ht]; exact P_keep hP hk, va_K.moved hvm hK, hD⟩, hS.F ht⟩) hS.2.2 (by decide) (by decide)
    · refine lv_aload_n hx hb d_Sz_sprinkler_16 rfl (lv_at hl 0 rfl) ?_
      refine pg_get (C := "SmokeZones") (T := T_Sz) (N := 17) hx hb hG in_Sz hown hK hP g0L g0E rfl 0 (by decide) (hG _ k35) (fun _ h9 => h9) rfl d_Sz_sprinkler_17 ?_
      refine lv_iload_n hx hb d_Sz_sprinkler_20 rfl (lv_at hl 1 rfl) ?_
      refine pg_ald hx hb hK hP 0 g_3L g_3E rfl (by rw [er]; exact vp_in_nI (by omega) (by decide)) (by rw [er]; exact rf_at hr (by omega)) d_Sz_sprinkler_21 ?_
      refine pg_get (C := "SmokeZones$Room") (T := T_Ro) (N := 8) hx hb hG in_Ro hown hK hP g_2L g_2E rfl 5 (by decide) (hG _ k207) (fun _ h9 => h9) rfl d_Sz_sprinkler_22 ?_
      refine lv_iconst (v := (-1)) hx hb d_Sz_sprinkler_25 (by decide) ?_
      refine lv_icmp_ne (tgt := 33) hx hb d_Sz_sprinkler_26 (by decide) (fun c_5 => ?_) (fun c_5 => ?_)
      · rw [← hcl] at c_5
        refine lv_iconst (v := 0) hx hb d_Sz_sprinkler_33 (by decide) ?_
        refine kS_ck ⟨hx, hb, hml, hown, hG⟩ (c_Sz_needState hl0 ) (cwS 1 hG (gS k172 k173 k1 k174) rfl rfl rfl hd_Sz_needState ⟨Nat.le_of_ble_eq_true rfl, Nat.le_of_ble_eq_true rfl⟩) hK hP hS hA hE rfl hl.1 rfl (Nat.le_of_ble_eq_true rfl) ⟨Nat.le_of_ble_eq_true rfl, Nat.le_of_ble_eq_true rfl⟩ d_Sz_sprinkler_34 (fun k_6 ce q9 H1 locs hz hk hS h1 h2 h3 => ?_) (fun k_6 locs hS => ?_)
        · exact vx_out (fun x hx9 => (htab x hx9).elim) hlocks h1 h2 h3 (fun t ht hvm => ⟨(), trivial, ⟨Or.inr ⟨(by simp only [kdSpr, if_pos k_1, if_pos k_4, if_neg c_5]), rfl⟩, by rw [ht]; exact P_keep hP hk, va_K.moved hvm hK, hD⟩, hS.F ht⟩) hS.2.2 (by decide) (by decide)
        · exact absurd rfl k_6
      · rw [← hcl] at c_5
        refine lv_iconst (v := 1) hx hb d_Sz_sprinkler_29 (by decide) ?_
        refine lv_goto (tgt := 34) hx hb d_Sz_sprinkler_30 (by decide) ?_
        refine kS_ck ⟨hx, hb, hml, hown, hG⟩ (c_Sz_needState hl0 ) (cwS 1 hG (gS k172 k173 k1 k174) rfl rfl rfl hd_Sz_needState ⟨Nat.le_of_ble_eq_true rfl, Nat.le_of_ble_eq_true rfl⟩) hK hP hS hA hE rfl hl.1 rfl (Nat.le_of_ble_eq_true rfl) ⟨Nat.le_of_ble_eq_true rfl, Nat.le_of_ble_eq_true rfl⟩ d_Sz_sprinkler_34 (fun k_7 ce q9 H1 locs hz hk hS h1 h2 h3 => ?_) (fun k_7 locs hS => ?_)
        · exact absurd (by decide) k_7
        · refine lv_aload_n hx hb d_Sz_sprinkler_37 rfl (lv_at hl 0 rfl) ?_
          refine pg_get (C := "SmokeZones") (T := T_Sz) (N := 17) hx hb hG in_Sz hown hK hP g0L g0E rfl 0 (by decide) (hG _ k35) (fun _ h9 => h9) rfl d_Sz_sprinkler_38 ?_
          refine lv_iload_n hx hb d_Sz_sprinkler_41 rfl (lv_at hl 1 rfl) ?_
          refine pg_ald hx hb hK hP 0 g_3L g_3E rfl (by rw [er]; exact vp_in_nI (by omega) (by decide)) (by rw [er]; exact rf_at hr (by omega)) d_Sz_sprinkler_42 ?_
          refine lv_iload_n hx hb d_Sz_sprinkler_43 rfl (lv_at hl 2 rfl) ?_
          refine pg_put (C := "SmokeZones$Room") (T := T_Ro) (N := 8) (ty := .int) hx hb hG in_Ro ty_Ro ok_Ro nm_Ro hown hK hP hD hS g_2L g_2E rfl 5 (by decide) (hG _ k207) (fun _ h9 => h9) rfl (by decide +kernel) rfl rfl (Nat.le_of_ble_eq_true rfl) d_Sz_sprinkler_44 (fun H locs hP hD hS => ?_)
          have hP : va_P D vwCl (va_pl (L) (va_up f (AD 0 r) (.inr (0, [.int (I 0 r), .int (I 1 r), .long (J 0 r), .long (J 1 r), .long (J 2 r), .int p2, .int (I 3 r), .int (I 4 r)])))) H := hP
          have hD : va_D A (va_pl (L) (va_up f (AD 0 r) (.inr (0, [.int (I 0 r), .int (I 1 r), .long (J 0 r), .long (J 1 r), .long (J 2 r), .int p2, .int (I 3 r), .int (I 4 r)])))) := hD
          have e_8 : (va_up f (AD 0 r) (.inr (0, [.int (I 0 r), .int (I 1 r), .long (J 0 r), .long (J 1 r), .long (J 2 r), .int p2, .int (I 3 r), .int (I 4 r)]))) (AD 0 r) = .inr (0, [.int (I 0 r), .int (I 1 r), .long (J 0 r), .long (J 1 r), .long (J 2 r), .int p2, .int (I 3 r), .int (I 4 r)]) := va_up_self _ _ _
          have e_9 : (va_up f (AD 0 r) (.inr (0, [.int (I 0 r), .int (I 1 r), .long (J 0 r), .long (J 1 r), .long (J 2 r), .int p2, .int (I 3 r), .int (I 4 r)]))) (AD 9 0) = .inr (6, [.ref (AD 8 0), .ref (AD 8 1), .ref (AD 8 2), .ref (AD 8 3), .ref (AD 8 4), .ref (AD 8 5), .int (nI (n 0)), .int (nI (n 1)), .int (nI (n 2)), .int (nI (n 3)), .int (nI (n 4)), .int (nI (n 5)), .int (I 99 0), .long (J 99 0), .long (J 99 1), .long (J 99 2), .long (J 99 3)]) := (va_up_ne _ _ ne_AD_9_0_AD_0_r).trans g0E
          have e_10 : (va_up f (AD 0 r) (.inr (0, [.int (I 0 r), .int (I 1 r), .long (J 0 r), .long (J 1 r), .long (J 2 r), .int p2, .int (I 3 r), .int (I 4 r)]))) (AD 8 0) = .inl (ct 0, 10, .inr (.inr (.inr (.inr (fun j => if j < n 0 then some (AD 0 j) else none))))) := (va_up_ne _ _ ne_AD_8_0_AD_0_r).trans g_3E
          have hN0 : CW ct AD L n (up2 I 2 r p2) J P _ := hCW.set (k := 0) (i := r) (lv0 (by decide) hr) (co_ro (fun a b h => up_hO a b (by omega)) (fun _ _ _ => rfl)) hCW.2.2
          have hN : CW ct AD L n (up2 I 2 p1.toNatClampNeg p2) J P (va_up f (AD 0 r) (.inr (0, [.int (I 0 r), .int (I 1 r), .long (J 0 r), .long (J 1 r), .long (J 2 r), .int p2, .int (I 3 r), .int (I 4 r)]))) := by
            rw [hcl]
            refine cast (congrArg (CW ct AD L n (up2 I 2 r p2) J P) ?_) hN0
            simp [cellOf, roomE, up2]
          refine W.widen (k := 12) (n := 100) (by decide) (by decide) ?_
          exact vx_ret (W.vret hx hb hret (fun t ht hW => ⟨⟨(AD, L, va_up f (AD 0 r) (.inr (0, [.int (I 0 r), .int (I 1 r), .long (J 0 r), .long (J 1 r), .long (J 2 r), .int p2, .int (I 3 r), .int (I 4 r)]))), rfl, ⟨(by simp only [kdSpr, if_pos k_1, if_pos k_4, if_pos c_5, if_pos k_7]), hN, rfl⟩, by rw [ht]; exact hP, va_K.moved hW.alike hK, hD⟩, hS.F ht⟩) hS.2.2 d_Sz_sprinkler_47)

set_option maxHeartbeats 4000000 in
set_option maxRecDepth 100000 in
theorem c_Sz_steelAt {l : Launch} (hl0 : l.stackTraces = false) {D : va_G} {ct : Nat → ClassId} {AD : Nat → Nat → Nat} {L : List Nat} {f : Nat → va_E} {sz : Nat} {n : Nat → Nat} {I : Nat → Nat → Int32} {J : Nat → Nat → Int64} {P : Nat → Nat → Nat} {sa sb : Nat} {p1 : Int32} (hCW : CW ct AD L n I J P f)  : vx_Met l y_Sz_steelAt (WS y_Sz_steelAt b_Sz_steelAt 2 (some .int)) { frames := 8, cells := 12, slots := 100, locals := 131 } (va_Pc [.ref (AD 9 0), .int p1] (MP D ct L f sa sb sz)) (va_Qi (fun (r : Int32) (u : CSt) => (kdN (n 4) p1) = 0 ∧ r = I 42 p1.toNatClampNeg ∧ CW ct u.1 u.2.1 n I J P u.2.2 ∧ u.1 9 0 = AD 9 0) (fun u t => WQ D (TYS ct) u.2.1 u.2.2 (AA L f sz) t) (AA L f sz)) (XE D ct L f (AA L f sz) (kdN (n 4) p1)) 12 100 (AA L f sz) := by
  refine vx_ofW (cc := b_Sz_steelAt) (maxL := 2) (ret := (some .int)) (by decide) rfl ?_
  intro p e s m args below meth c s₁ B hml htab hv
  obtain ⟨rfl, hsz, hP, hK, hD0, hE⟩ := hv
  subst hsz
  have hx := B.exec
  have hb := B.bytes
  have hret := B.returns
  have hts := atoms_spec (ws := WS y_Sz_steelAt b_Sz_steelAt 2 (some .int)) B.pre
  have hG : ∀ w ∈ GW, w.before _ s = true := fun w h => hts w (List.mem_cons_of_mem _ h)
  have hown : s.vm.findClass "SmokeZones" = some m.cls := findClass_of_methodNamed B.named
  have hlocks := B.notSynchronized
  have hD : va_D (AA L f s.heap.size) (va_pl L f) := hD0.self (sz := s.heap.size)
  generalize hAe : AA L f s.heap.size = A at hD hE ⊢
  have hA : ∀ q : Nat, s.heap.size ≤ q → A q := fun q h => by rw [← hAe]; exact Or.inr h
  have hS : va_S A s.heap s.heap [] := va_S.rf
  have hl := lv_entry ([.ref (AD 9 0), .int p1]) (n := 2) (Nat.le_of_ble_eq_true rfl)
  rw [lg_entry_eq]
  generalize (lg_sl ([.ref (AD 9 0), .int p1]) ++ List.replicate (2 - (lg_sl ([.ref (AD 9 0), .int p1])).length) Slot.unset).toArray = ls at hl ⊢
  have hl : lv_has ls 2 [(0, .ref (AD 9 0)), (1, .int p1)] := hl
  obtain ⟨g0L, g0E⟩ := hCW.ma
  have hc0 := hCW.cap0
  have hc1 := hCW.cap1
  have hc2 := hCW.cap2
  have hc3 := hCW.cap3
  have hc4 := hCW.cap4
  have hc5 := hCW.cap5
  refine lv_iload_n hx hb d_Sz_steelAt_0 rfl (lv_at hl 1 rfl) ?_
  refine lv_aload_n hx hb d_Sz_steelAt_1 rfl (lv_at hl 0 rfl) ?_
  refine pg_get (C := "SmokeZones") (T := T_Sz) (N := 17) hx hb hG in_Sz hown hK hP g0L g0E rfl 10 (by decide) (hG _ k45) (fun _ h9 => h9) rfl d_Sz_steelAt_2 ?_
  refine kS_ck ⟨hx, hb, hml, hown, hG⟩ (c_Sz_needNumber hl0 ) (cwS 2 hG (gS k237 k238 k1 k239) rfl rfl rfl hd_Sz_needNumber ⟨Nat.le_of_ble_eq_true rfl, Nat.le_of_ble_eq_true rfl⟩) hK hP hS hA hE rfl hl.1 rfl (Nat.le_of_ble_eq_true rfl) ⟨Nat.le_of_ble_eq_true rfl, Nat.le_of_ble_eq_true rfl⟩ d_Sz_steelAt_5 (fun k_1 ce q9 H1 locs hz hk hS h1 h2 h3 => ?_) (fun k_1 locs hS => ?_)
  · exact vx_out (fun x hx9 => (htab x hx9).elim) hlocks h1 h2 h3 (fun t ht hvm => ⟨(), trivial, ⟨Or.inl ⟨(by simp only [kdN, if_neg k_1]), rfl⟩, by rw [ht]; exact P_keep hP hk, va_K.moved hvm hK, hD⟩, hS.F ht⟩) hS.2.2 (by decide) (by decide)
  · obtain ⟨r, hr, er⟩ := num_of k_1 (by omega)
    have hcl : (p1).toNatClampNeg = r := by rw [er]; exact nI_clamp (by omega)
    obtain ⟨g_2L, g_2E⟩ := hCW.st hr
    obtain ⟨g_3L, g_3E⟩ := hCW.a4
    refine lv_aload_n hx hb d_Sz_steelAt_8 rfl (lv_at hl 0 rfl) ?_
    refine pg_get (C := "SmokeZones") (T := T_Sz) (N := 17) hx hb hG in_Sz hown hK hP g0L g0E rfl 4 (by decide) (hG _ k39) (fun _ h9 => h9) rfl d_Sz_steelAt_9 ?_
    refine lv_iload_n hx hb d_Sz_steelAt_12 rfl (lv_at hl 1 rfl) ?_
    refine pg_ald hx hb hK hP 4 g_3L g_3E rfl (by rw [er]; exact vp_in_nI (by omega) (by decide)) (by rw [er]; exact rf_at hr (by omega)) d_Sz_steelAt_13 ?_
    refine pg_get (C := "SmokeZones$Steel") (T := T_St) (N := 3) hx hb hG in_St hown hK hP g_2L g_2E rfl 2 (by decide) (hG _ k367) (fun _ h9 => h9) rfl d_Sz_steelAt_14 ?_
    have hN := hCW
    refine W.widen (k := 12) (n := 100) (by decide) (by decide) ?_
    exact vx_ret (W.iret hx hb hret (fun t ht hW => ⟨⟨_, (AD, L, f), rfl, ⟨(by simp only [kdN, if_pos k_1]), (by rw [hcl]), hN, rfl⟩, by rw [ht]; exact hP, va_K.moved hW.alike hK, hD⟩, hS.F ht⟩) hS.2.2 d_Sz_steelAt_17)

theorem lt7 {j : Nat} (h : j < 7) : j = 0 ∨ j = 1 ∨ j = 2 ∨ j = 3 ∨ j = 4 ∨ j = 5 ∨ j = 6 := by omega
def vRoom (I : Nat → Nat → Int32) (J : Nat → Nat → Int64) (p w : Int32) : Int64 :=
  if w = 0 then J 1 p.toNatClampNeg else if w = 1 then J 2 p.toNatClampNeg else if w = 2 then m_depth (I 0 p.toNatClampNeg) (J 1 p.toNatClampNeg) else if w = 3 then m_warmth (J 1 p.toNatClampNeg) (J 2 p.toNatClampNeg) else if w = 4 then m_clear (I 0 p.toNatClampNeg) (I 1 p.toNatClampNeg) (J 1 p.toNatClampNeg) else if w = 5 then (if I 3 p.toNatClampNeg = 0 then 0 else 1) else Int32.toInt64 (I 4 p.toNatClampNeg)
def vOpen (I : Nat → Nat → Int32) (J : Nat → Nat → Int64) (p w : Int32) : Int64 :=
  if w = 0 then (if m_open (I 15 p.toNatClampNeg) (I 16 p.toNatClampNeg) = 0 then 0 else 1) else if w = 1 then J 10 p.toNatClampNeg else J 12 p.toNatClampNeg
def vPers (I : Nat → Nat → Int32) (J : Nat → Nat → Int64) (p w : Int32) : Int64 :=
  if w = 0 then Int32.toInt64 (I 50 p.toNatClampNeg) else if w = 1 then J 50 p.toNatClampNeg else J 51 p.toNatClampNeg
def vBal (n : Nat → Nat) (J : Nat → Nat → Int64) (w : Int32) : Int64 :=
  if w = 0 then J 99 0 else if w = 1 then smS J (n 0) 0 0 else if w = 2 then J 99 1 else if w = 3 then J 99 2 else J 99 3

set_option maxHeartbeats 4000000 in
set_option maxRecDepth 100000 in
theorem c_Sz_roomAt {l : Launch} (hl0 : l.stackTraces = false) {D : va_G} {ct : Nat → ClassId} {AD : Nat → Nat → Nat} {L : List Nat} {f : Nat → va_E} {sz : Nat} {n : Nat → Nat} {I : Nat → Nat → Int32} {J : Nat → Nat → Int64} {P : Nat → Nat → Nat} {sa sb : Nat} {p1 p2 : Int32} (hCW : CW ct AD L n I J P f)  : vx_Met l y_Sz_roomAt (WS y_Sz_roomAt b_Sz_roomAt 4 (some .long)) { frames := 8, cells := 12, slots := 100, locals := 132 } (va_Pc [.ref (AD 9 0), .int p1, .int p2] (MP D ct L f sa sb sz)) (va_Ql (fun (r : Int64) (u : CSt) => (kdNB (n 0) p1 p2 6) = 0 ∧ r = vRoom I J p1 p2 ∧ CW ct u.1 u.2.1 n I J P u.2.2 ∧ u.1 9 0 = AD 9 0) (fun u t => WQ D (TYS ct) u.2.1 u.2.2 (AA L f sz) t) (AA L f sz)) (XE D ct L f (AA L f sz) (kdNB (n 0) p1 p2 6)) 12 100 (AA L f sz) := by
  refine vx_ofW (cc := b_Sz_roomAt) (maxL := 4) (ret := (some .long)) (by decide) rfl ?_
  intro p e s m args below meth c s₁ B hml htab hv
  obtain ⟨rfl, hsz, hP, hK, hD0, hE⟩ := hv
  subst hsz
  have hx := B.exec
  have hb := B.bytes
  have hret := B.returns
  have hts := atoms_spec (ws := WS y_Sz_roomAt b_Sz_roomAt 4 (some .long)) B.pre
  have hG : ∀ w ∈ GW, w.before _ s = true := fun w h => hts w (List.mem_cons_of_mem _ h)
  have hown : s.vm.findClass "SmokeZones" = some m.cls := findClass_of_methodNamed B.named
  have hlocks := B.notSynchronized
  have hD : va_D (AA L f s.heap.size) (va_pl L f) := hD0.self (sz := s.heap.size)
  generalize hAe : AA L f s.heap.size = A at hD hE ⊢
  have hA : ∀ q : Nat, s.heap.size ≤ q → A q := fun q h => by rw [← hAe]; exact Or.inr h
  have hS : va_S A s.heap s.heap [] := va_S.rf
  have hl := lv_entry ([.ref (AD 9 0), .int p1, .int p2]) (n := 4) (Nat.le_of_ble_eq_true rfl)
  rw [lg_entry_eq]
  generalize (lg_sl ([.ref (AD 9 0), .int p1, .int p2]) ++ List.replicate (4 - (lg_sl ([.ref (AD 9 0), .int p1, .int p2])).length) Slot.unset).toArray = ls at hl ⊢
  have hl : lv_has ls 4 [(0, .ref (AD 9 0)), (1, .int p1), (2, .int p2)] := hl
  obtain ⟨g0L, g0E⟩ := hCW.ma
  have hc0 := hCW.cap0
  have hc1 := hCW.cap1
  have hc2 := hCW.cap2
  have hc3 := hCW.cap3
  have hc4 := hCW.cap4
  have hc5 := hCW.cap5
  refine lv_iload_n hx hb d_Sz_roomAt_0 rfl (lv_at hl 1 rfl) ?_
  refine lv_aload_n hx hb d_Sz_roomAt_1 rfl (lv_at hl 0 rfl) ?_
  refine pg_get (C := "SmokeZones") (T := T_Sz) (N := 17) hx hb hG in_Sz hown hK hP g0L g0E rfl 6 (by decide) (hG _ k41) (fun _ h9 => h9) rfl d_Sz_roomAt_2 ?_
  refine kS_ck ⟨hx, hb, hml, hown, hG⟩ (c_Sz_needNumber hl0 ) (cwS 2 hG (gS k237 k238 k1 k239) rfl rfl rfl hd_Sz_needNumber ⟨Nat.le_of_ble_eq_true rfl, Nat.le_of_ble_eq_true rfl⟩) hK hP hS hA hE rfl hl.1 rfl (Nat.le_of_ble_eq_true rfl) ⟨Nat.le_of_ble_eq_true rfl, Nat.le_of_ble_eq_true rfl⟩ d_Sz_roomAt_5 (fun k_1 ce q9 H1 locs hz hk hS h1 h2 h3 => ?_) (fun k_1 locs hS => ?_)
  · exact vx_out (fun x hx9 => (htab x hx9).elim) hlocks h1 h2 h3 (fun t ht hvm => ⟨(), trivial, ⟨Or.inl ⟨(by simp only [kdNB, if_neg k_1]), rfl⟩, by rw [ht]; exact P_keep hP hk, va_K.moved hvm hK, hD⟩, hS.F ht⟩) hS.2.2 (by decide) (by decide)
  · obtain ⟨r, hr, er⟩ := num_of k_1 (by omega)
    have hcl : (p1).toNatClampNeg = r := by rw [er]; exact nI_clamp (by omega)
    obtain ⟨g_2L, g_2E⟩ := hCW.ro hr
    obtain ⟨g_3L, g_3E⟩ := hCW.a0
    have ne_AD_9_0_AD_0_r : AD 9 0 ≠ AD 0 r := hCW.ne (k := 9) (i := 0) (k' := 0) (i' := r) (lv9) (lv0 (by decide) hr) (by omega)
    have ne_AD_9_0_AD_8_0 : AD 9 0 ≠ AD 8 0 := hCW.ne (k := 9) (i := 0) (k' := 8) (i' := 0) (lv9) (lv8 (by decide)) (by omega)
    have ne_AD_0_r_AD_9_0 : AD 0 r ≠ AD 9 0 := hCW.ne (k := 0) (i := r) (k' := 9) (i' := 0) (lv0 (by decide) hr) (lv9) (by omega)
    have ne_AD_0_r_AD_8_0 : AD 0 r ≠ AD 8 0 := hCW.ne (k := 0) (i := r) (k' := 8) (i' := 0) (lv0 (by decide) hr) (lv8 (by decide)) (by omega)
    have ne_AD_8_0_AD_9_0 : AD 8 0 ≠ AD 9 0 := hCW.ne (k := 8) (i := 0) (k' := 9) (i' := 0) (lv8 (by decide)) (lv9) (by omega)
    have ne_AD_8_0_AD_0_r : AD 8 0 ≠ AD 0 r := hCW.ne (k := 8) (i := 0) (k' := 0) (i' := r) (lv8 (by decide)) (lv0 (by decide) hr) (by omega)
    refine lv_iload_n hx hb d_Sz_roomAt_8 rfl (lv_at hl 2 rfl) ?_
    refine lv_iconst (v := 0) hx hb d_Sz_roomAt_9 (by decide) ?_
    refine lv_bipush (v := 6) hx hb d_Sz_roomAt_10 (by decide) ?_
    refine kS_ck ⟨hx, hb, hml, hown, hG⟩ (c_Sz_needBetween hl0 ) (cwS 3 hG (gS k96 k97 k1 k98) rfl rfl rfl hd_Sz_needBetween ⟨Nat.le_of_ble_eq_true rfl, Nat.le_of_ble_eq_true rfl⟩) hK hP hS hA hE rfl hl.1 rfl (Nat.le_of_ble_eq_true rfl) ⟨Nat.le_of_ble_eq_true rfl, Nat.le_of_ble_eq_true rfl⟩ d_Sz_roomAt_12 (fun k_4 ce q9 H1 locs hz hk hS h1 h2 h3 => ?_) (fun k_4 locs hS => ?_)
    · exact vx_out (fun x hx9 => (htab x hx9).elim) hlocks h1 h2 h3 (fun t ht hvm => ⟨(), trivial, ⟨Or.inl ⟨(by simp only [kdNB, if_pos k_1, if_neg k_4]), rfl⟩, by rw [ht]; exact P_keep hP hk, va_K.moved hvm hK, hD⟩, hS.F ht⟩) hS.2.2 (by decide) (by decide)
    · refine lv_aload_n hx hb d_Sz_roomAt_15 rfl (lv_at hl 0 rfl) ?_
      refine pg_get (C := "SmokeZones") (T := T_Sz) (N := 17) hx hb hG in_Sz hown hK hP g0L g0E rfl 0 (by decide) (hG _ k35) (fun _ h9 => h9) rfl d_Sz_roomAt_16 ?_
      refine lv_iload_n hx hb d_Sz_roomAt_19 rfl (lv_at hl 1 rfl) ?_
      refine pg_ald hx hb hK hP 0 g_3L g_3E rfl (by rw [er]; exact vp_in_nI (by omega) (by decide)) (by rw [er]; exact rf_at hr (by omega)) d_Sz_roomAt_20 ?_
      refine lv_astore_n (lv' := [(3, .ref (AD 0 r)), (0, .ref (AD 9 0)), (1, .int p1), (2, .int p2)]) hx hb d_Sz_roomAt_21 rfl hl (by decide) rfl (fun ls hl => ?_)
      refine lv_iload_n hx hb d_Sz_roomAt_22 rfl (lv_at hl 3 rfl) ?_
      obtain ⟨w, hw, ew⟩ := btw_of (k := 6) (by decide) k_4
      rcases lt7 hw with q | q | q | q | q | q | q
      · subst q
        have ew : p2 = 0 := ew
        refine lv_tableIn (off := 37) (tgt := 60) hx hb d_Sz_roomAt_23 (by rw [ew]; decide) (by rw [ew]; decide) (by rw [ew]; decide) (by decide) ?_
        refine lv_aload_n hx hb d_Sz_roomAt_60 rfl (lv_at hl 0 rfl) ?_
        refine pg_get (C := "SmokeZones$Room") (T := T_Ro) (N := 8) hx hb hG in_Ro hown hK hP g_2L g_2E rfl 3 (by decide) (hG _ k203) (fun _ h9 => h9) rfl d_Sz_roomAt_61 ?_
        have hN := hCW
        refine W.widen (k := 12) (n := 100) (by decide) (by decide) ?_
        exact vx_ret (W.lret hx hb hret (fun t ht hW => ⟨⟨_, (AD, L, f), rfl, ⟨(by simp only [kdNB, if_pos k_1, if_pos k_4]), (by simp only [vRoom, hcl, if_pos (show (p2) = 0 from ew)]), hN, rfl⟩, by rw [ht]; exact hP, va_K.moved hW.alike hK, hD⟩, hS.F ht⟩) hS.2.2 d_Sz_roomAt_64)
      · subst q
        have ew : p2 = 1 := ew
        refine lv_tableIn (off := 42) (tgt := 65) hx hb d_Sz_roomAt_23 (by rw [ew]; decide) (by rw [ew]; decide) (by rw [ew]; decide) (by decide) ?_
        refine lv_aload_n hx hb d_Sz_roomAt_65 rfl (lv_at hl 0 rfl) ?_
        refine pg_get (C := "SmokeZones$Room") (T := T_Ro) (N := 8) hx hb hG in_Ro hown hK hP g_2L g_2E rfl 4 (by decide) (hG _ k205) (fun _ h9 => h9) rfl d_Sz_roomAt_66 ?_
        have hN := hCW
        refine W.widen (k := 12) (n := 100) (by decide) (by decide) ?_
        exact vx_ret (W.lret hx hb hret (fun t ht hW => ⟨⟨_, (AD, L, f), rfl, ⟨(by simp only [kdNB, if_pos k_1, if_pos k_4]), (by simp only [vRoom, hcl, if_neg (show ¬ (p2) = 0 by rw [ew]; decide), if_pos (show (p2) = 1 from ew)]), hN, rfl⟩, by rw [ht]; exact hP, va_K.moved hW.alike hK, hD⟩, hS.F ht⟩) hS.2.2 d_Sz_roomAt_69)
      · subst q
        have ew : p2 = 2 := ew
        refine lv_tableIn (off := 47) (tgt := 70) hx hb d_Sz_roomAt_23 (by rw [ew]; decide) (by rw [ew]; decide) (by rw [ew]; decide) (by decide) ?_
        refine lv_aload_n hx hb d_Sz_roomAt_70 rfl (lv_at hl 0 rfl) ?_
        refine kV_rl ⟨hx, hb, hml, hown, hG⟩ (c_Ro_depth g_2L g_2E) (cwV 0 hG (gV k579 k475 k476 k8 k477) rfl rfl rfl hd_Ro_depth ⟨Nat.le_of_ble_eq_true rfl, Nat.le_of_ble_eq_true rfl⟩) hK hP hS g_2L g_2E rfl rfl hl.1 rfl (Nat.le_of_ble_eq_true rfl) ⟨Nat.le_of_ble_eq_true rfl, Nat.le_of_ble_eq_true rfl⟩ d_Sz_roomAt_71 (fun locs hS => ?_)
        have hN := hCW
        refine W.widen (k := 12) (n := 100) (by decide) (by decide) ?_
        exact vx_ret (W.lret hx hb hret (fun t ht hW => ⟨⟨_, (AD, L, f), rfl, ⟨(by simp only [kdNB, if_pos k_1, if_pos k_4]), (by simp only [vRoom, hcl, if_neg (show ¬ (p2) = 0 by rw [ew]; decide), if_neg (show ¬ (p2) = 1 by rw [ew]; decide), if_pos (show (p2) = 2 from ew)]), hN, rfl⟩, by rw [ht]; exact hP, va_K.moved hW.alike hK, hD⟩, hS.F ht⟩) hS.2.2 d_Sz_roomAt_74)
      · subst q
        have ew : p2 = 3 := ew
        refine lv_tableIn (off := 52) (tgt := 75) hx hb d_Sz_roomAt_23 (by rw [ew]; decide) (by rw [ew]; decide) (by rw [ew]; decide) (by decide) ?_
        refine lv_aload_n hx hb d_Sz_roomAt_75 rfl (lv_at hl 0 rfl) ?_
        refine kV_rl ⟨hx, hb, hml, hown, hG⟩ (c_Ro_warmth g_2L g_2E) (cwV 0 hG (gV k580 k528 k529 k8 k530) rfl rfl rfl hd_Ro_warmth ⟨Nat.le_of_ble_eq_true rfl, Nat.le_of_ble_eq_true rfl⟩) hK hP hS g_2L g_2E rfl rfl hl.1 rfl (Nat.le_of_ble_eq_true rfl) ⟨Nat.le_of_ble_eq_true rfl, Nat.le_of_ble_eq_true rfl⟩ d_Sz_roomAt_76 (fun locs hS => ?_)
        have hN := hCW
        refine W.widen (k := 12) (n := 100) (by decide) (by decide) ?_
        exact vx_ret (W.lret hx hb hret (fun t ht hW => ⟨⟨_, (AD, L, f), rfl, ⟨(by simp only [kdNB, if_pos k_1, if_pos k_4]), (by simp only [vRoom, hcl, if_neg (show ¬ (p2) = 0 by rw [ew]; decide), if_neg (show ¬ (p2) = 1 by rw [ew]; decide), if_neg (show ¬ (p2) = 2 by rw [ew]; decide), if_pos (show (p2) = 3 from ew)]), hN, rfl⟩, by rw [ht]; exact hP, va_K.moved hW.alike hK, hD⟩, hS.F ht⟩) hS.2.2 d_Sz_roomAt_79)
      · subst q
        have ew : p2 = 4 := ew
        refine lv_tableIn (off := 57) (tgt := 80) hx hb d_Sz_roomAt_23 (by rw [ew]; decide) (by rw [ew]; decide) (by rw [ew]; decide) (by decide) ?_
        refine lv_aload_n hx hb d_Sz_roomAt_80 rfl (lv_at hl 0 rfl) ?_
        refine kV_rl ⟨hx, hb, hml, hown, hG⟩ (c_Ro_clear g_2L g_2E) (cwV 0 hG (gV k581 k471 k472 k8 k473) rfl rfl rfl hd_Ro_clear ⟨Nat.le_of_ble_eq_true rfl, Nat.le_of_ble_eq_true rfl⟩) hK hP hS g_2L g_2E rfl rfl hl.1 rfl (Nat.le_of_ble_eq_true rfl) ⟨Nat.le_of_ble_eq_true rfl, Nat.le_of_ble_eq_true rfl⟩ d_Sz_roomAt_81 (fun locs hS => ?_)
        have hN := hCW
        refine W.widen (k := 12) (n := 100) (by decide) (by decide) ?_
        exact vx_ret (W.lret hx hb hret (fun t ht hW => ⟨⟨_, (AD, L, f), rfl, ⟨(by simp only [kdNB, if_pos k_1, if_pos k_4]), (by simp only [vRoom, hcl, if_neg (show ¬ (p2) = 0 by rw [ew]; decide), if_neg (show ¬ (p2) = 1 by rw [ew]; decide), if_neg (show ¬ (p2) = 2 by rw [ew]; decide), if_neg (show ¬ (p2) = 3 by rw [ew]; decide), if_pos (show (p2) = 4 from ew)]), hN, rfl⟩, by rw [ht]; exact hP, va_K.moved hW.alike hK, hD⟩, hS.F ht⟩) hS.2.2 d_Sz_roomAt_84)
      · subst q
        have ew : p2 = 5 := ew
        refine lv_tableIn (off := 62) (tgt := 85) hx hb d_Sz_roomAt_23 (by rw [ew]; decide) (by rw [ew]; decide) (by rw [ew]; decide) (by decide) ?_
        refine lv_aload_n hx hb d_Sz_roomAt_85 rfl (lv_at hl 0 rfl) ?_
        refine pg_get (C := "SmokeZones$Room") (T := T_Ro) (N := 8) hx hb hG in_Ro hown hK hP g_2L g_2E rfl 6 (by decide) (hG _ k210) (fun _ h9 => h9) rfl d_Sz_roomAt_86 ?_
        refine lv_if_eq (tgt := 96) hx hb d_Sz_roomAt_89 (by decide) (fun c_5 => ?_) (fun c_5 => ?_)
        · refine lv_lconst (v := 0) hx hb d_Sz_roomAt_96 (by decide) ?_
          have hN := hCW
          refine W.widen (k := 12) (n := 100) (by decide) (by decide) ?_
          exact vx_ret (W.lret hx hb hret (fun t ht hW => ⟨⟨_, (AD, L, f), rfl, ⟨(by simp only [kdNB, if_pos k_1, if_pos k_4, if_pos c_5]), (by simp only [vRoom, hcl, if_neg (show ¬ (p2) = 0 by rw [ew]; decide), if_neg (show ¬ (p2) = 1 by rw [ew]; decide), if_neg (show ¬ (p2) = 2 by rw [ew]; decide), if_neg (show ¬ (p2) = 3 by rw [ew]; decide), if_neg (show ¬ (p2) = 4 by rw [ew]; decide), if_pos (show (p2) = 5 from ew), if_pos c_5]), hN, rfl⟩, by rw [ht]; exact hP, va_K.moved hW.alike hK, hD⟩, hS.F ht⟩) hS.2.2 d_Sz_roomAt_97)
        · refine lv_lconst (v := 1) hx hb d_Sz_roomAt_92 (by decide) ?_
          refine lv_goto (tgt := 97) hx hb d_Sz_roomAt_93 (by decide) ?_
          have hN := hCW
          refine W.widen (k := 12) (n := 100) (by decide) (by decide) ?_
          exact vx_ret (W.lret hx hb hret (fun t ht hW => ⟨⟨_, (AD, L, f), rfl, ⟨(by simp only [kdNB, if_pos k_1, if_pos k_4, if_neg c_5]), (by simp only [vRoom, hcl, if_neg (show ¬ (p2) = 0 by rw [ew]; decide), if_neg (show ¬ (p2) = 1 by rw [ew]; decide), if_neg (show ¬ (p2) = 2 by rw [ew]; decide), if_neg (show ¬ (p2) = 3 by rw [ew]; decide), if_neg (show ¬ (p2) = 4 by rw [ew]; decide), if_pos (show (p2) = 5 from ew), if_neg c_5]), hN, rfl⟩, by rw [ht]; exact hP, va_K.moved hW.alike hK, hD⟩, hS.F ht⟩) hS.2.2 d_Sz_roomAt_97)
      · subst q
        have ew : p2 = 6 := ew
        refine lv_tableOut (tgt := 98) hx hb d_Sz_roomAt_23 (by rw [ew]; decide) (by decide) ?_
        refine lv_aload_n hx hb d_Sz_roomAt_98 rfl (lv_at hl 0 rfl) ?_
        refine pg_get (C := "SmokeZones$Room") (T := T_Ro) (N := 8) hx hb hG in_Ro hown hK hP g_2L g_2E rfl 7 (by decide) (hG _ k212) (fun _ h9 => h9) rfl d_Sz_roomAt_99 ?_
        refine lv_i2l hx hb d_Sz_roomAt_102 rfl ?_
        have hN := hCW
        refine W.widen (k := 12) (n := 100) (by decide) (by decide) ?_
        exact vx_ret (W.lret hx hb hret (fun t ht hW => ⟨⟨_, (AD, L, f), rfl, ⟨(by simp only [kdNB, if_pos k_1, if_pos k_4]), (by simp only [vRoom, hcl, if_neg (show ¬ (p2) = 0 by rw [ew]; decide), if_neg (show ¬ (p2) = 1 by rw [ew]; decide), if_neg (show ¬ (p2) = 2 by rw [ew]; decide), if_neg (show ¬ (p2) = 3 by rw [ew]; decide), if_neg (show ¬ (p2) = 4 by rw [ew]; decide), if_neg (show ¬ (p2) = 5 by rw [ew]; decide)]), hN, rfl⟩, by rw [ht]; exact hP, va_K.moved hW.alike hK, hD⟩, hS.F ht⟩) hS.2.2 d_Sz_roomAt_103)

set_option maxHeartbeats 4000000 in
set_option maxRecDepth 100000 in
theorem c_Sz_openingAt {l : Launch} (hl0 : l.stackTraces = false) {D : va_G} {ct : Nat → ClassId} {AD : Nat → Nat → Nat} {L : List Nat} {f : Nat → va_E} {sz : Nat} {n : Nat → Nat} {I : Nat → Nat → Int32} {J : Nat → Nat → Int64} {P : Nat → Nat → Nat} {sa sb : Nat} {p1 p2 : Int32} (hCW : CW ct AD L n I J P f)  : vx_Met l y_Sz_openingAt (WS y_Sz_openingAt b_Sz_openingAt 4 (some .long)) { frames := 8, cells := 12, slots := 100, locals := 132 } (va_Pc [.ref (AD 9 0), .int p1, .int p2] (MP D ct L f sa sb sz)) (va_Ql (fun (r : Int64) (u : CSt) => (kdNB (n 1) p1 p2 2) = 0 ∧ r = vOpen I J p1 p2 ∧ CW ct u.1 u.2.1 n I J P u.2.2 ∧ u.1 9 0 = AD 9 0) (fun u t => WQ D (TYS ct) u.2.1 u.2.2 (AA L f sz) t) (AA L f sz)) (XE D ct L f (AA L f sz) (kdNB (n 1) p1 p2 2)) 12 100 (AA L f sz) := by
  refine vx_ofW (cc := b_Sz_openingAt) (maxL := 4) (ret := (some .long)) (by decide) rfl ?_
  intro p e s m args below meth c s₁ B hml htab hv
  obtain ⟨rfl, hsz, hP, hK, hD0, hE⟩ := hv
  subst hsz
  have hx := B.exec
  have hb := B.bytes
  have hret := B.returns
  have hts := atoms_spec (ws := WS y_Sz_openingAt b_Sz_openingAt 4 (some .long)) B.pre
  have hG : ∀ w ∈ GW, w.before _ s = true := fun w h => hts w (List.mem_cons_of_mem _ h)
  have hown : s.vm.findClass "SmokeZones" = some m.cls := findClass_of_methodNamed B.named
  have hlocks := B.notSynchronized
  have hD : va_D (AA L f s.heap.size) (va_pl L f) := hD0.self (sz := s.heap.size)
  generalize hAe : AA L f s.heap.size = A at hD hE ⊢
  have hA : ∀ q : Nat, s.heap.size ≤ q → A q := fun q h => by rw [← hAe]; exact Or.inr h
  have hS : va_S A s.heap s.heap [] := va_S.rf
  have hl := lv_entry ([.ref (AD 9 0), .int p1, .int p2]) (n := 4) (Nat.le_of_ble_eq_true rfl)
  rw [lg_entry_eq]
  generalize (lg_sl ([.ref (AD 9 0), .int p1, .int p2]) ++ List.replicate (4 - (lg_sl ([.ref (AD 9 0), .int p1, .int p2])).length) Slot.unset).toArray = ls at hl ⊢
  have hl : lv_has ls 4 [(0, .ref (AD 9 0)), (1, .int p1), (2, .int p2)] := hl
  obtain ⟨g0L, g0E⟩ := hCW.ma
  have hc0 := hCW.cap0
  have hc1 := hCW.cap1
  have hc2 := hCW.cap2
  have hc3 := hCW.cap3
  have hc4 := hCW.cap4
  have hc5 := hCW.cap5
  refine lv_iload_n hx hb d_Sz_openingAt_0 rfl (lv_at hl 1 rfl) ?_
  refine lv_aload_n hx hb d_Sz_openingAt_1 rfl (lv_at hl 0 rfl) ?_
  refine pg_get (C := "SmokeZones") (T := T_Sz) (N := 17) hx hb hG in_Sz hown hK hP g0L g0E rfl 7 (by decide) (hG _ k42) (fun _ h9 => h9) rfl d_Sz_openingAt_2 ?_
  refine kS_ck ⟨hx, hb, hml, hown, hG⟩ (c_Sz_needNumber hl0 ) (cwS 2 hG (gS k237 k238 k1 k239) rfl rfl rfl hd_Sz_needNumber ⟨Nat.le_of_ble_eq_true rfl, Nat.le_of_ble_eq_true rfl⟩) hK hP hS hA hE rfl hl.1 rfl (Nat.le_of_ble_eq_true rfl) ⟨Nat.le_of_ble_eq_true rfl, Nat.le_of_ble_eq_true rfl⟩ d_Sz_openingAt_5 (fun k_1 ce q9 H1 locs hz hk hS h1 h2 h3 => ?_) (fun k_1 locs hS => ?_)
  · exact vx_out (fun x hx9 => (htab x hx9).elim) hlocks h1 h2 h3 (fun t ht hvm => ⟨(), trivial, ⟨Or.inl ⟨(by simp only [kdNB, if_neg k_1]), rfl⟩, by rw [ht]; exact P_keep hP hk, va_K.moved hvm hK, hD⟩, hS.F ht⟩) hS.2.2 (by decide) (by decide)
  · obtain ⟨r, hr, er⟩ := num_of k_1 (by omega)
    have hcl : (p1).toNatClampNeg = r := by rw [er]; exact nI_clamp (by omega)
    obtain ⟨g_2L, g_2E⟩ := hCW.op hr
    obtain ⟨g_3L, g_3E⟩ := hCW.a1
    refine lv_iload_n hx hb d_Sz_openingAt_8 rfl (lv_at hl 2 rfl) ?_
    refine lv_iconst (v := 0) hx hb d_Sz_openingAt_9 (by decide) ?_
    refine lv_iconst (v := 2) hx hb d_Sz_openingAt_10 (by decide) ?_
    refine kS_ck ⟨hx, hb, hml, hown, hG⟩ (c_Sz_needBetween hl0 ) (cwS 3 hG (gS k96 k97 k1 k98) rfl rfl rfl hd_Sz_needBetween ⟨Nat.le_of_ble_eq_true rfl, Nat.le_of_ble_eq_true rfl⟩) hK hP hS hA hE rfl hl.1 rfl (Nat.le_of_ble_eq_true rfl) ⟨Nat.le_of_ble_eq_true rfl, Nat.le_of_ble_eq_true rfl⟩ d_Sz_openingAt_11 (fun k_4 ce q9 H1 locs hz hk hS h1 h2 h3 => ?_) (fun k_4 locs hS => ?_)
    · exact vx_out (fun x hx9 => (htab x hx9).elim) hlocks h1 h2 h3 (fun t ht hvm => ⟨(), trivial, ⟨Or.inl ⟨(by simp only [kdNB, if_pos k_1, if_neg k_4]), rfl⟩, by rw [ht]; exact P_keep hP hk, va_K.moved hvm hK, hD⟩, hS.F ht⟩) hS.2.2 (by decide) (by decide)
    · refine lv_aload_n hx hb d_Sz_openingAt_14 rfl (lv_at hl 0 rfl) ?_
      refine pg_get (C := "SmokeZones") (T := T_Sz) (N := 17) hx hb hG in_Sz hown hK hP g0L g0E rfl 1 (by decide) (hG _ k36) (fun _ h9 => h9) rfl d_Sz_openingAt_15 ?_
      refine lv_iload_n hx hb d_Sz_openingAt_18 rfl (lv_at hl 1 rfl) ?_
      refine pg_ald hx hb hK hP 1 g_3L g_3E rfl (by rw [er]; exact vp_in_nI (by omega) (by decide)) (by rw [er]; exact rf_at hr (by omega)) d_Sz_openingAt_19 ?_
      refine lv_astore_n (lv' := [(3, .ref (AD 1 r)), (0, .ref (AD 9 0)), (1, .int p1), (2, .int p2)]) hx hb d_Sz_openingAt_20 rfl hl (by decide) rfl (fun ls hl => ?_)
      refine lv_iload_n hx hb d_Sz_openingAt_21 rfl (lv_at hl 3 rfl) ?_
      obtain ⟨w, hw, ew⟩ := btw_of (k := 2) (by decide) k_4
      rcases lt3 hw with q | q | q
      · subst q
        have ew : p2 = 0 := ew
        refine lv_lookup (off := 26) (tgt := 48) hx hb d_Sz_openingAt_22 (by decide) (by rw [ew]; decide) (by decide) ?_
        refine lv_aload_n hx hb d_Sz_openingAt_48 rfl (lv_at hl 0 rfl) ?_
        refine kV_ri ⟨hx, hb, hml, hown, hG⟩ (c_Op_isOpen g_2L g_2E) (cwV 0 hG (gV k589 k463 k464 k9 k465) rfl rfl rfl hd_Op_isOpen ⟨Nat.le_of_ble_eq_true rfl, Nat.le_of_ble_eq_true rfl⟩) hK hP hS g_2L g_2E rfl rfl hl.1 rfl (Nat.le_of_ble_eq_true rfl) ⟨Nat.le_of_ble_eq_true rfl, Nat.le_of_ble_eq_true rfl⟩ d_Sz_openingAt_49 (fun locs hS => ?_)
        refine lv_if_eq (tgt := 59) hx hb d_Sz_openingAt_52 (by decide) (fun c_5 => ?_) (fun c_5 => ?_)
        · refine lv_lconst (v := 0) hx hb d_Sz_openingAt_59 (by decide) ?_
          have hN := hCW
          refine W.widen (k := 12) (n := 100) (by decide) (by decide) ?_
          exact vx_ret (W.lret hx hb hret (fun t ht hW => ⟨⟨_, (AD, L, f), rfl, ⟨(by simp only [kdNB, if_pos k_1, if_pos k_4, if_pos c_5]), (by simp only [vOpen, hcl, if_pos (show (p2) = 0 from ew), if_pos c_5]), hN, rfl⟩, by rw [ht]; exact hP, va_K.moved hW.alike hK, hD⟩, hS.F ht⟩) hS.2.2 d_Sz_openingAt_60)
        · refine lv_lconst (v := 1) hx hb d_Sz_openingAt_55 (by decide) ?_
          refine lv_goto (tgt := 60) hx hb d_Sz_openingAt_56 (by decide) ?_
          have hN := hCW
          refine W.widen (k := 12) (n := 100) (by decide) (by decide) ?_
          exact vx_ret (W.lret hx hb hret (fun t ht hW => ⟨⟨_, (AD, L, f), rfl, ⟨(by simp only [kdNB, if_pos k_1, if_pos k_4, if_neg c_5]), (by simp only [vOpen, hcl, if_pos (show (p2) = 0 from ew), if_neg c_5]), hN, rfl⟩, by rw [ht]; exact hP, va_K.moved hW.alike hK, hD⟩, hS.F ht⟩) hS.2.2 d_Sz_openingAt_60)
      · subst q
        have ew : p2 = 1 := ew
        refine lv_lookup (off := 39) (tgt := 61) hx hb d_Sz_openingAt_22 (by decide) (by rw [ew]; decide) (by decide) ?_
        refine lv_aload_n hx hb d_Sz_openingAt_61 rfl (lv_at hl 0 rfl) ?_
        refine pg_get (C := "SmokeZones$Opening") (T := T_Op) (N := 10) hx hb hG in_Op hown hK hP g_2L g_2E rfl 7 (by decide) (hG _ k262) (fun _ h9 => h9) rfl d_Sz_openingAt_62 ?_
        have hN := hCW
        refine W.widen (k := 12) (n := 100) (by decide) (by decide) ?_
        exact vx_ret (W.lret hx hb hret (fun t ht hW => ⟨⟨_, (AD, L, f), rfl, ⟨(by simp only [kdNB, if_pos k_1, if_pos k_4]), (by simp only [vOpen, hcl, if_neg (show ¬ (p2) = 0 by rw [ew]; decide), if_pos (show (p2) = 1 from ew)]), hN, rfl⟩, by rw [ht]; exact hP, va_K.moved hW.alike hK, hD⟩, hS.F ht⟩) hS.2.2 d_Sz_openingAt_65)
      · subst q
        have ew : p2 = 2 := ew
        refine lv_lookup (off := 44) (tgt := 66) hx hb d_Sz_openingAt_22 (by decide) (by rw [ew]; decide) (by decide) ?_
        refine lv_aload_n hx hb d_Sz_openingAt_66 rfl (lv_at hl 0 rfl) ?_
        refine pg_get (C := "SmokeZones$Opening") (T := T_Op) (N := 10) hx hb hG in_Op hown hK hP g_2L g_2E rfl 9 (by decide) (hG _ k265) (fun _ h9 => h9) rfl d_Sz_openingAt_67 ?_
        have hN := hCW
        refine W.widen (k := 12) (n := 100) (by decide) (by decide) ?_
        exact vx_ret (W.lret hx hb hret (fun t ht hW => ⟨⟨_, (AD, L, f), rfl, ⟨(by simp only [kdNB, if_pos k_1, if_pos k_4]), (by simp only [vOpen, hcl, if_neg (show ¬ (p2) = 0 by rw [ew]; decide), if_neg (show ¬ (p2) = 1 by rw [ew]; decide)]), hN, rfl⟩, by rw [ht]; exact hP, va_K.moved hW.alike hK, hD⟩, hS.F ht⟩) hS.2.2 d_Sz_openingAt_70)

set_option maxHeartbeats 4000000 in
set_option maxRecDepth 100000 in
theorem c_Sz_personAt {l : Launch} (hl0 : l.stackTraces = false) {D : va_G} {ct : Nat → ClassId} {AD : Nat → Nat → Nat} {L : List Nat} {f : Nat → va_E} {sz : Nat} {n : Nat → Nat} {I : Nat → Nat → Int32} {J : Nat → Nat → Int64} {P : Nat → Nat → Nat} {sa sb : Nat} {p1 p2 : Int32} (hCW : CW ct AD L n I J P f)  : vx_Met l y_Sz_personAt (WS y_Sz_personAt b_Sz_personAt 4 (some .long)) { frames := 8, cells := 12, slots := 100, locals := 132 } (va_Pc [.ref (AD 9 0), .int p1, .int p2] (MP D ct L f sa sb sz)) (va_Ql (fun (r : Int64) (u : CSt) => (kdNB (n 5) p1 p2 2) = 0 ∧ r = vPers I J p1 p2 ∧ CW ct u.1 u.2.1 n I J P u.2.2 ∧ u.1 9 0 = AD 9 0) (fun u t => WQ D (TYS ct) u.2.1 u.2.2 (AA L f sz) t) (AA L f sz)) (XE D ct L f (AA L f sz) (kdNB (n 5) p1 p2 2)) 12 100 (AA L f sz) := by
  refine vx_ofW (cc := b_Sz_personAt) (maxL := 4) (ret := (some .long)) (by decide) rfl ?_
  intro p e s m args below meth c s₁ B hml htab hv
  obtain ⟨rfl, hsz, hP, hK, hD0, hE⟩ := hv
  subst hsz
  have hx := B.exec
  have hb := B.bytes
  have hret := B.returns
  have hts := atoms_spec (ws := WS y_Sz_personAt b_Sz_personAt 4 (some .long)) B.pre
  have hG : ∀ w ∈ GW, w.before _ s = true := fun w h => hts w (List.mem_cons_of_mem _ h)
  have hown : s.vm.findClass "SmokeZones" = some m.cls := findClass_of_methodNamed B.named
  have hlocks := B.notSynchronized
  have hD : va_D (AA L f s.heap.size) (va_pl L f) := hD0.self (sz := s.heap.size)
  generalize hAe : AA L f s.heap.size = A at hD hE ⊢
  have hA : ∀ q : Nat, s.heap.size ≤ q → A q := fun q h => by rw [← hAe]; exact Or.inr h
  have hS : va_S A s.heap s.heap [] := va_S.rf
  have hl := lv_entry ([.ref (AD 9 0), .int p1, .int p2]) (n := 4) (Nat.le_of_ble_eq_true rfl)
  rw [lg_entry_eq]
  generalize (lg_sl ([.ref (AD 9 0), .int p1, .int p2]) ++ List.replicate (4 - (lg_sl ([.ref (AD 9 0), .int p1, .int p2])).length) Slot.unset).toArray = ls at hl ⊢
  have hl : lv_has ls 4 [(0, .ref (AD 9 0)), (1, .int p1), (2, .int p2)] := hl
  obtain ⟨g0L, g0E⟩ := hCW.ma
  have hc0 := hCW.cap0
  have hc1 := hCW.cap1
  have hc2 := hCW.cap2
  have hc3 := hCW.cap3
  have hc4 := hCW.cap4
  have hc5 := hCW.cap5
  refine lv_iload_n hx hb d_Sz_personAt_0 rfl (lv_at hl 1 rfl) ?_
  refine lv_aload_n hx hb d_Sz_personAt_1 rfl (lv_at hl 0 rfl) ?_
  refine pg_get (C := "SmokeZones") (T := T_Sz) (N := 17) hx hb hG in_Sz hown hK hP g0L g0E rfl 11 (by decide) (hG _ k46) (fun _ h9 => h9) rfl d_Sz_personAt_2 ?_
  refine kS_ck ⟨hx, hb, hml, hown, hG⟩ (c_Sz_needNumber hl0 ) (cwS 2 hG (gS k237 k238 k1 k239) rfl rfl rfl hd_Sz_needNumber ⟨Nat.le_of_ble_eq_true rfl, Nat.le_of_ble_eq_true rfl⟩) hK hP hS hA hE rfl hl.1 rfl (Nat.le_of_ble_eq_true rfl) ⟨Nat.le_of_ble_eq_true rfl, Nat.le_of_ble_eq_true rfl⟩ d_Sz_personAt_5 (fun k_1 ce q9 H1 locs hz hk hS h1 h2 h3 => ?_) (fun k_1 locs hS => ?_)
  · exact vx_out (fun x hx9 => (htab x hx9).elim) hlocks h1 h2 h3 (fun t ht hvm => ⟨(), trivial, ⟨Or.inl ⟨(by simp only [kdNB, if_neg k_1]), rfl⟩, by rw [ht]; exact P_keep hP hk, va_K.moved hvm hK, hD⟩, hS.F ht⟩) hS.2.2 (by decide) (by decide)
  · obtain ⟨r, hr, er⟩ := num_of k_1 (by omega)
    have hcl : (p1).toNatClampNeg = r := by rw [er]; exact nI_clamp (by omega)
    obtain ⟨g_2L, g_2E⟩ := hCW.pe hr
    obtain ⟨g_3L, g_3E⟩ := hCW.a5
    refine lv_iload_n hx hb d_Sz_personAt_8 rfl (lv_at hl 2 rfl) ?_
    refine lv_iconst (v := 0) hx hb d_Sz_personAt_9 (by decide) ?_
    refine lv_iconst (v := 2) hx hb d_Sz_personAt_10 (by decide) ?_
    refine kS_ck ⟨hx, hb, hml, hown, hG⟩ (c_Sz_needBetween hl0 ) (cwS 3 hG (gS k96 k97 k1 k98) rfl rfl rfl hd_Sz_needBetween ⟨Nat.le_of_ble_eq_true rfl, Nat.le_of_ble_eq_true rfl⟩) hK hP hS hA hE rfl hl.1 rfl (Nat.le_of_ble_eq_true rfl) ⟨Nat.le_of_ble_eq_true rfl, Nat.le_of_ble_eq_true rfl⟩ d_Sz_personAt_11 (fun k_4 ce q9 H1 locs hz hk hS h1 h2 h3 => ?_) (fun k_4 locs hS => ?_)
    · exact vx_out (fun x hx9 => (htab x hx9).elim) hlocks h1 h2 h3 (fun t ht hvm => ⟨(), trivial, ⟨Or.inl ⟨(by simp only [kdNB, if_pos k_1, if_neg k_4]), rfl⟩, by rw [ht]; exact P_keep hP hk, va_K.moved hvm hK, hD⟩, hS.F ht⟩) hS.2.2 (by decide) (by decide)
    · refine lv_aload_n hx hb d_Sz_personAt_14 rfl (lv_at hl 0 rfl) ?_
      refine pg_get (C := "SmokeZones") (T := T_Sz) (N := 17) hx hb hG in_Sz hown hK hP g0L g0E rfl 5 (by decide) (hG _ k40) (fun _ h9 => h9) rfl d_Sz_personAt_15 ?_
      refine lv_iload_n hx hb d_Sz_personAt_18 rfl (lv_at hl 1 rfl) ?_
      refine pg_ald hx hb hK hP 5 g_3L g_3E rfl (by rw [er]; exact vp_in_nI (by omega) (by decide)) (by rw [er]; exact rf_at hr (by omega)) d_Sz_personAt_19 ?_
      refine lv_astore_n (lv' := [(3, .ref (AD 5 r)), (0, .ref (AD 9 0)), (1, .int p1), (2, .int p2)]) hx hb d_Sz_personAt_20 rfl hl (by decide) rfl (fun ls hl => ?_)
      refine lv_iload_n hx hb d_Sz_personAt_21 rfl (lv_at hl 3 rfl) ?_
      obtain ⟨w, hw, ew⟩ := btw_of (k := 2) (by decide) k_4
      rcases lt3 hw with q | q | q
      · subst q
        have ew : p2 = 0 := ew
        refine lv_lookup (off := 26) (tgt := 48) hx hb d_Sz_personAt_22 (by decide) (by rw [ew]; decide) (by decide) ?_
        refine lv_aload_n hx hb d_Sz_personAt_48 rfl (lv_at hl 0 rfl) ?_
        refine pg_get (C := "SmokeZones$Person") (T := T_Pe) (N := 8) hx hb hG in_Pe hown hK hP g_2L g_2E rfl 0 (by decide) (hG _ k388) (fun _ h9 => h9) rfl d_Sz_personAt_49 ?_
        refine lv_i2l hx hb d_Sz_personAt_52 rfl ?_
        have hN := hCW
        refine W.widen (k := 12) (n := 100) (by decide) (by decide) ?_
        exact vx_ret (W.lret hx hb hret (fun t ht hW => ⟨⟨_, (AD, L, f), rfl, ⟨(by simp only [kdNB, if_pos k_1, if_pos k_4]), (by simp only [vPers, hcl, if_pos (show (p2) = 0 from ew)]), hN, rfl⟩, by rw [ht]; exact hP, va_K.moved hW.alike hK, hD⟩, hS.F ht⟩) hS.2.2 d_Sz_personAt_53)
      · subst q
        have ew : p2 = 1 := ew
        refine lv_lookup (off := 32) (tgt := 54) hx hb d_Sz_personAt_22 (by decide) (by rw [ew]; decide) (by decide) ?_
        refine lv_aload_n hx hb d_Sz_personAt_54 rfl (lv_at hl 0 rfl) ?_
        refine pg_get (C := "SmokeZones$Person") (T := T_Pe) (N := 8) hx hb hG in_Pe hown hK hP g_2L g_2E rfl 1 (by decide) (hG _ k390) (fun _ h9 => h9) rfl d_Sz_personAt_55 ?_
        have hN := hCW
        refine W.widen (k := 12) (n := 100) (by decide) (by decide) ?_
        exact vx_ret (W.lret hx hb hret (fun t ht hW => ⟨⟨_, (AD, L, f), rfl, ⟨(by simp only [kdNB, if_pos k_1, if_pos k_4]), (by simp only [vPers, hcl, if_neg (show ¬ (p2) = 0 by rw [ew]; decide), if_pos (show (p2) = 1 from ew)]), hN, rfl⟩, by rw [ht]; exact hP, va_K.moved hW.alike hK, hD⟩, hS.F ht⟩) hS.2.2 d_Sz_personAt_58)
      · subst q
        have ew : p2 = 2 := ew
        refine lv_lookup (off := 37) (tgt := 59) hx hb d_Sz_personAt_22 (by decide) (by rw [ew]; decide) (by decide) ?_
        refine lv_aload_n hx hb d_Sz_personAt_59 rfl (lv_at hl 0 rfl) ?_
        refine pg_get (C := "SmokeZones$Person") (T := T_Pe) (N := 8) hx hb hG in_Pe hown hK hP g_2L g_2E rfl 2 (by decide) (hG _ k392) (fun _ h9 => h9) rfl d_Sz_personAt_60 ?_
        have hN := hCW
        refine W.widen (k := 12) (n := 100) (by decide) (by decide) ?_
        exact vx_ret (W.lret hx hb hret (fun t ht hW => ⟨⟨_, (AD, L, f), rfl, ⟨(by simp only [kdNB, if_pos k_1, if_pos k_4]), (by simp only [vPers, hcl, if_neg (show ¬ (p2) = 0 by rw [ew]; decide), if_neg (show ¬ (p2) = 1 by rw [ew]; decide)]), hN, rfl⟩, by rw [ht]; exact hP, va_K.moved hW.alike hK, hD⟩, hS.F ht⟩) hS.2.2 d_Sz_personAt_63)

set_option maxHeartbeats 4000000 in
set_option maxRecDepth 100000 in
theorem c_Sz_balance {l : Launch} (hl0 : l.stackTraces = false) {D : va_G} {ct : Nat → ClassId} {AD : Nat → Nat → Nat} {L : List Nat} {f : Nat → va_E} {sz : Nat} {n : Nat → Nat} {I : Nat → Nat → Int32} {J : Nat → Nat → Int64} {P : Nat → Nat → Nat} {sa sb : Nat} {p1 : Int32} (hCW : CW ct AD L n I J P f)  : vx_Met l y_Sz_balance (WS y_Sz_balance b_Sz_balance 2 (some .long)) { frames := 8, cells := 12, slots := 100, locals := 132 } (va_Pc [.ref (AD 9 0), .int p1] (MP D ct L f sa sb sz)) (va_Ql (fun (r : Int64) (u : CSt) => (kdB p1 4) = 0 ∧ r = vBal n J p1 ∧ CW ct u.1 u.2.1 n I J P u.2.2 ∧ u.1 9 0 = AD 9 0) (fun u t => WQ D (TYS ct) u.2.1 u.2.2 (AA L f sz) t) (AA L f sz)) (XE D ct L f (AA L f sz) (kdB p1 4)) 12 100 (AA L f sz) := by
  refine vx_ofW (cc := b_Sz_balance) (maxL := 2) (ret := (some .long)) (by decide) rfl ?_
  intro p e s m args below meth c s₁ B hml htab hv
  obtain ⟨rfl, hsz, hP, hK, hD0, hE⟩ := hv
  subst hsz
  have hx := B.exec
  have hb := B.bytes
  have hret := B.returns
  have hts := atoms_spec (ws := WS y_Sz_balance b_Sz_balance 2 (some .long)) B.pre
  have hG : ∀ w ∈ GW, w.before _ s = true := fun w h => hts w (List.mem_cons_of_mem _ h)
  have hown : s.vm.findClass "SmokeZones" = some m.cls := findClass_of_methodNamed B.named
  have hlocks := B.notSynchronized
  have hD : va_D (AA L f s.heap.size) (va_pl L f) := hD0.self (sz := s.heap.size)
  generalize hAe : AA L f s.heap.size = A at hD hE ⊢
  have hA : ∀ q : Nat, s.heap.size ≤ q → A q := fun q h => by rw [← hAe]; exact Or.inr h
  have hS : va_S A s.heap s.heap [] := va_S.rf
  have hl := lv_entry ([.ref (AD 9 0), .int p1]) (n := 2) (Nat.le_of_ble_eq_true rfl)
  rw [lg_entry_eq]
  generalize (lg_sl ([.ref (AD 9 0), .int p1]) ++ List.replicate (2 - (lg_sl ([.ref (AD 9 0), .int p1])).length) Slot.unset).toArray = ls at hl ⊢
  have hl : lv_has ls 2 [(0, .ref (AD 9 0)), (1, .int p1)] := hl
  obtain ⟨g0L, g0E⟩ := hCW.ma
  have hc0 := hCW.cap0
  have hc1 := hCW.cap1
  have hc2 := hCW.cap2
  have hc3 := hCW.cap3
  have hc4 := hCW.cap4
  have hc5 := hCW.cap5
  refine lv_iload_n hx hb d_Sz_balance_0 rfl (lv_at hl 1 rfl) ?_
  refine lv_iconst (v := 0) hx hb d_Sz_balance_1 (by decide) ?_
  refine lv_iconst (v := 4) hx hb d_Sz_balance_2 (by decide) ?_
  refine kS_ck ⟨hx, hb, hml, hown, hG⟩ (c_Sz_needBetween hl0 ) (cwS 3 hG (gS k96 k97 k1 k98) rfl rfl rfl hd_Sz_needBetween ⟨Nat.le_of_ble_eq_true rfl, Nat.le_of_ble_eq_true rfl⟩) hK hP hS hA hE rfl hl.1 rfl (Nat.le_of_ble_eq_true rfl) ⟨Nat.le_of_ble_eq_true rfl, Nat.le_of_ble_eq_true rfl⟩ d_Sz_balance_3 (fun k_1 ce q9 H1 locs hz hk hS h1 h2 h3 => ?_) (fun k_1 locs hS => ?_)
  · exact vx_out (fun x hx9 => (htab x hx9).elim) hlocks h1 h2 h3 (fun t ht hvm => ⟨(), trivial, ⟨Or.inl ⟨(by simp only [kdB, if_neg k_1]), rfl⟩, by rw [ht]; exact P_keep hP hk, va_K.moved hvm hK, hD⟩, hS.F ht⟩) hS.2.2 (by decide) (by decide)
  · refine lv_iload_n hx hb d_Sz_balance_6 rfl (lv_at hl 1 rfl) ?_
    obtain ⟨w, hw, ew⟩ := btw_of (k := 4) (by decide) k_1
    rcases lt5 hw with q | q | q | q | q
    · subst q
      have ew : p1 = 0 := ew
      refine lv_tableIn (off := 29) (tgt := 36) hx hb d_Sz_balance_7 (by rw [ew]; decide) (by rw [ew]; decide) (by rw [ew]; decide) (by decide) ?_
      refine lv_aload_n hx hb d_Sz_balance_36 rfl (lv_at hl 0 rfl) ?_
      refine pg_get (C := "SmokeZones") (T := T_Sz) (N := 17) hx hb hG in_Sz hown hK hP g0L g0E rfl 13 (by decide) (hG _ k48) (fun _ h9 => h9) rfl d_Sz_balance_37 ?_
      have hN := hCW
      refine W.widen (k := 12) (n := 100) (by decide) (by decide) ?_
      exact vx_ret (W.lret hx hb hret (fun t ht hW => ⟨⟨_, (AD, L, f), rfl, ⟨(by simp only [kdB, if_pos k_1]), (by simp only [vBal, if_pos (show (p1) = 0 from ew)]), hN, rfl⟩, by rw [ht]; exact hP, va_K.moved hW.alike hK, hD⟩, hS.F ht⟩) hS.2.2 d_Sz_balance_40)
    · subst q
      have ew : p1 = 1 := ew
      refine lv_tableIn (off := 34) (tgt := 41) hx hb d_Sz_balance_7 (by rw [ew]; decide) (by rw [ew]; decide) (by rw [ew]; decide) (by decide) ?_
      refine lv_aload_n hx hb d_Sz_balance_41 rfl (lv_at hl 0 rfl) ?_
      refine kV_rl ⟨hx, hb, hml, hown, hG⟩ (c_Sz_smokeInRooms hCW) (cwV 0 hG (gV k611 k613 ks_Sz_smokeInRooms k1 k614) rfl rfl rfl hd_Sz_smokeInRooms ⟨Nat.le_of_ble_eq_true rfl, Nat.le_of_ble_eq_true rfl⟩) hK hP hS g0L g0E rfl rfl hl.1 rfl (Nat.le_of_ble_eq_true rfl) ⟨Nat.le_of_ble_eq_true rfl, Nat.le_of_ble_eq_true rfl⟩ d_Sz_balance_42 (fun locs hS => ?_)
      have hN := hCW
      refine W.widen (k := 12) (n := 100) (by decide) (by decide) ?_
      exact vx_ret (W.lret hx hb hret (fun t ht hW => ⟨⟨_, (AD, L, f), rfl, ⟨(by simp only [kdB, if_pos k_1]), (by simp only [vBal, if_neg (show ¬ (p1) = 0 by rw [ew]; decide), if_pos (show (p1) = 1 from ew)]), hN, rfl⟩, by rw [ht]; exact hP, va_K.moved hW.alike hK, hD⟩, hS.F ht⟩) hS.2.2 d_Sz_balance_45)
    · subst q
      have ew : p1 = 2 := ew
      refine lv_tableIn (off := 39) (tgt := 46) hx hb d_Sz_balance_7 (by rw [ew]; decide) (by rw [ew]; decide) (by rw [ew]; decide) (by decide) ?_
      refine lv_aload_n hx hb d_Sz_balance_46 rfl (lv_at hl 0 rfl) ?_
      refine pg_get (C := "SmokeZones") (T := T_Sz) (N := 17) hx hb hG in_Sz hown hK hP g0L g0E rfl 14 (by decide) (hG _ k49) (fun _ h9 => h9) rfl d_Sz_balance_47 ?_
      have hN := hCW
      refine W.widen (k := 12) (n := 100) (by decide) (by decide) ?_
      exact vx_ret (W.lret hx hb hret (fun t ht hW => ⟨⟨_, (AD, L, f), rfl, ⟨(by simp only [kdB, if_pos k_1]), (by simp only [vBal, if_neg (show ¬ (p1) = 0 by rw [ew]; decide), if_neg (show ¬ (p1) = 1 by rw [ew]; decide), if_pos (show (p1) = 2 from ew)]), hN, rfl⟩, by rw [ht]; exact hP, va_K.moved hW.alike hK, hD⟩, hS.F ht⟩) hS.2.2 d_Sz_balance_50)
    · subst q
      have ew : p1 = 3 := ew
      refine lv_tableIn (off := 44) (tgt := 51) hx hb d_Sz_balance_7 (by rw [ew]; decide) (by rw [ew]; decide) (by rw [ew]; decide) (by decide) ?_
      refine lv_aload_n hx hb d_Sz_balance_51 rfl (lv_at hl 0 rfl) ?_
      refine pg_get (C := "SmokeZones") (T := T_Sz) (N := 17) hx hb hG in_Sz hown hK hP g0L g0E rfl 15 (by decide) (hG _ k50) (fun _ h9 => h9) rfl d_Sz_balance_52 ?_
      have hN := hCW
      refine W.widen (k := 12) (n := 100) (by decide) (by decide) ?_
      exact vx_ret (W.lret hx hb hret (fun t ht hW => ⟨⟨_, (AD, L, f), rfl, ⟨(by simp only [kdB, if_pos k_1]), (by simp only [vBal, if_neg (show ¬ (p1) = 0 by rw [ew]; decide), if_neg (show ¬ (p1) = 1 by rw [ew]; decide), if_neg (show ¬ (p1) = 2 by rw [ew]; decide), if_pos (show (p1) = 3 from ew)]), hN, rfl⟩, by rw [ht]; exact hP, va_K.moved hW.alike hK, hD⟩, hS.F ht⟩) hS.2.2 d_Sz_balance_55)
    · subst q
      have ew : p1 = 4 := ew
      refine lv_tableOut (tgt := 56) hx hb d_Sz_balance_7 (by rw [ew]; decide) (by decide) ?_
      refine lv_aload_n hx hb d_Sz_balance_56 rfl (lv_at hl 0 rfl) ?_
      refine pg_get (C := "SmokeZones") (T := T_Sz) (N := 17) hx hb hG in_Sz hown hK hP g0L g0E rfl 16 (by decide) (hG _ k51) (fun _ h9 => h9) rfl d_Sz_balance_57 ?_
      have hN := hCW
      refine W.widen (k := 12) (n := 100) (by decide) (by decide) ?_
      exact vx_ret (W.lret hx hb hret (fun t ht hW => ⟨⟨_, (AD, L, f), rfl, ⟨(by simp only [kdB, if_pos k_1]), (by simp only [vBal, if_neg (show ¬ (p1) = 0 by rw [ew]; decide), if_neg (show ¬ (p1) = 1 by rw [ew]; decide), if_neg (show ¬ (p1) = 2 by rw [ew]; decide), if_neg (show ¬ (p1) = 3 by rw [ew]; decide)]), hN, rfl⟩, by rw [ht]; exact hP, va_K.moved hW.alike hK, hD⟩, hS.F ht⟩) hS.2.2 d_Sz_balance_60)
