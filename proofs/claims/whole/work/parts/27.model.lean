theorem vin_ne {x : Int32} {n N : Nat} (h : x = nI n) (hn : n ≤ N) (c : ¬ x = nI N) (hN : N ≤ 1000 := by decide) : vp_in x N := by
  rw [h] at c ⊢
  refine vp_in_nI ?_ (by omega)
  rcases Nat.lt_or_ge n N with q | q
  · exact q
  · exact absurd (show nI n = nI N by rw [Nat.le_antisymm hn q]) c
theorem in_of {p x : Int32} {n : Nat} (c : ¬ m_in p 0 (x - 1) = 0) (h : x = nI n) (hn : n ≤ 1000) : ∃ r, r < n ∧ p = nI r := by
  unfold m_in at c
  split at c
  · exact absurd rfl c
  · rename_i h1
    split at c
    · exact absurd rfl c
    · rename_i h2
      obtain ⟨r, hr, q⟩ := nI_of h1
      subst q
      refine ⟨r, ?_, rfl⟩
      rw [h] at h2
      cases n with
      | zero =>
        exfalso
        apply h2
        rw [Int32.lt_iff_toInt_lt, nI_toInt hr]
        have z : (nI 0 - 1).toInt = -1 := by decide
        omega
      | succ k =>
        rw [nI_pred] at h2
        rcases Nat.lt_or_ge r (k + 1) with g | g
        · exact g
        · exact absurd (nI_lt (show k < r by omega) hr) h2

def vMroom (X : I2) (Y : J2) (p1 p2 : Int32) : Int32 := (if (m_in p1 1 10000) = 0 then 0 else (if (m_in p2 1 100) = 0 then 0 else (if (X 2 0) = 10 then 0 else ((X 2 0) + 1) - 1)))
def xMroom (X : I2) (Y : J2) (p1 p2 : Int32) : I2 := (if (m_in p1 1 10000) = 0 then up2 X 0 0 1 else (if (m_in p2 1 100) = 0 then up2 X 0 0 1 else (if (X 2 0) = 10 then up2 X 0 0 2 else up2 (up2 (up2 (up2 (up2 X 0 0 0) 3 (Int32.toNatClampNeg (X 2 0)) p1) 4 (Int32.toNatClampNeg (X 2 0)) p2) 9 (Int32.toNatClampNeg (X 2 0)) (-1)) 2 0 ((X 2 0) + 1))))
set_option maxHeartbeats 4000000 in
set_option maxRecDepth 100000 in
theorem c_Mo_room {l : Launch} {D : va_G} {ct : Nat → ClassId} {AM : Nat → Nat} {L : List Nat} {f : Nat → va_E} {X : I2} {Y : J2} {sz : Nat} {p1 p2 : Int32} {n0 : Nat} (hM : MW ct AM L X Y f) (h2 : X 2 0 = nI n0) (hc2 : n0 ≤ 10) : Met l y_Mo_room (WS y_Mo_room b_Mo_room 3 (some .int)) { frames := 1, cells := 0, slots := 0, locals := 22 } (va_Pc [.ref (AM 100), .int p1, .int p2] (WP D (TYS ct) L f sz)) (va_Qi (fun (r : Int32) f' => r = vMroom X Y p1 p2 ∧ MW ct AM L (xMroom X Y p1 p2) Y f') (fun f' t => WQ D (TYS ct) L f' (AA L f sz) t) (AA L f sz)) 0 0 (AA L f sz) := by
  refine Met.ofW (cc := b_Mo_room) (maxL := 3) (ret := (some .int)) (by decide) rfl ?_
  intro p e s m args below meth c s₁ B hml hv
  obtain ⟨rfl, hsz, hP, hK, hD0⟩ := hv
  subst hsz
  have hx := B.exec
  have hb := B.bytes
  have hret := B.returns
  have hts := atoms_spec (ws := WS y_Mo_room b_Mo_room 3 (some .int)) B.pre
  have hG : ∀ w ∈ GW, w.before _ s = true := fun w h => hts w (List.mem_cons_of_mem _ h)
  have hown : s.vm.findClass "SmokeZonesModel" = some m.cls := findClass_of_methodNamed B.named
  have hlocks := B.notSynchronized
  have hD : va_D (AA L f s.heap.size) (va_pl L f) := hD0.self (sz := s.heap.size)
  generalize hAe : AA L f s.heap.size = A at hD ⊢
  have hA : ∀ q : Nat, s.heap.size ≤ q → A q := fun q h => by rw [← hAe]; exact Or.inr h
  have hS : va_S A s.heap s.heap [] := va_S.rf
  have hl := lv_entry ([.ref (AM 100), .int p1, .int p2]) (n := 3) (Nat.le_of_ble_eq_true rfl)
  rw [lg_entry_eq]
  generalize (lg_sl ([.ref (AM 100), .int p1, .int p2]) ++ List.replicate (3 - (lg_sl ([.ref (AM 100), .int p1, .int p2])).length) Slot.unset).toArray = ls at hl ⊢
  have hl : lv_has ls 3 [(0, .ref (AM 100)), (1, .int p1), (2, .int p2)] := hl
  refine lv_aload_n hx hb d_Mo_room_0 rfl (lv_at hl 0 rfl) ?_
  refine lv_iload_n hx hb d_Mo_room_1 rfl (lv_at hl 1 rfl) ?_
  refine lv_iconst (v := 1) hx hb d_Mo_room_2 (by decide) ?_
  refine lv_sipush (v := 10000) hx hb d_Mo_room_3 (by decide) ?_
  refine kS_ri ⟨hx, hb, hml, hown, hG⟩ (c_Mo_in ) (cwS 3 hG (gS k773 k774 k2 k775) rfl rfl rfl hd_Mo_in ⟨Nat.le_of_ble_eq_true rfl, Nat.le_of_ble_eq_true rfl⟩) hK hP hS rfl hl.1 rfl (Nat.le_of_ble_eq_true rfl) ⟨Nat.le_of_ble_eq_true rfl, Nat.le_of_ble_eq_true rfl⟩ d_Mo_room_6 (fun locs hS => ?_)
  refine lv_if_eq (tgt := 22) hx hb d_Mo_room_9 (by decide) (fun c_1 => ?_) (fun c_1 => ?_)
  · refine lv_iconst (v := 1) hx hb d_Mo_room_22 (by decide) ?_
    refine lv_goto (tgt := 40) hx hb d_Mo_room_23 (by decide) ?_
    refine pg_put (C := "SmokeZonesModel") (T := T_Mo) (N := 47) (ty := .int) hx hb hG in_Mo ty_Mo ok_Mo nm_Mo hown hK hP hD hS hM.1.1 hM.1.2 rfl 0 (by decide) (hG _ k621) (fun _ h9 => h9) rfl (by decide +kernel) rfl rfl (Nat.le_of_ble_eq_true rfl) d_Mo_room_40 (fun H locs hP hD hS => ?_)
    have hM := hM.putX (j := 0) (v := 1) rfl moF_0
    generalize va_up _ (AM 100) _ = f at hM hP hD
    refine lv_aload_n hx hb d_Mo_room_43 rfl (lv_at hl 0 rfl) ?_
    refine pg_get (C := "SmokeZonesModel") (T := T_Mo) (N := 47) hx hb hG in_Mo hown hK hP hM.1.1 hM.1.2 rfl 0 (by decide) (hG _ k621) (fun _ h9 => h9) rfl d_Mo_room_44 ?_
    refine lv_topi (fun y_2 ey_2 => ?_)
    obtain rfl : y_2 = 1 := ey_2.trans (by simp [up2])
    refine lv_if_le (tgt := 52) hx hb d_Mo_room_47 (by decide) (fun c_3 => ?_) (fun c_3 => ?_)
    · exact absurd c_3 (by decide)
    · refine lv_iconst (v := 0) hx hb d_Mo_room_50 (by decide) ?_
      have hN : MW ct AM L (xMroom X Y p1 p2) Y f := by
        (try simp only [vMroom, xMroom, if_pos c_1, if_neg c_3])
        exact hM
      exact W.iret hx hb hret (fun t ht hW => ⟨⟨_, f, rfl, ⟨(by simp only [vMroom, xMroom, if_pos c_1, if_neg c_3]), hN⟩, by rw [ht]; exact hP, va_K.moved hW.alike hK, hD⟩, hS.F ht⟩) hS.2.2 d_Mo_room_51
  · refine lv_iload_n hx hb d_Mo_room_12 rfl (lv_at hl 2 rfl) ?_
    refine lv_iconst (v := 1) hx hb d_Mo_room_13 (by decide) ?_
    refine lv_bipush (v := 100) hx hb d_Mo_room_14 (by decide) ?_
    refine kS_ri ⟨hx, hb, hml, hown, hG⟩ (c_Mo_in ) (cwS 3 hG (gS k773 k774 k2 k775) rfl rfl rfl hd_Mo_in ⟨Nat.le_of_ble_eq_true rfl, Nat.le_of_ble_eq_true rfl⟩) hK hP hS rfl hl.1 rfl (Nat.le_of_ble_eq_true rfl) ⟨Nat.le_of_ble_eq_true rfl, Nat.le_of_ble_eq_true rfl⟩ d_Mo_room_16 (fun locs hS => ?_)
    refine lv_if_ne (tgt := 26) hx hb d_Mo_room_19 (by decide) (fun c_4 => ?_) (fun c_4 => ?_)
    · refine lv_aload_n hx hb d_Mo_room_26 rfl (lv_at hl 0 rfl) ?_
      refine pg_get (C := "SmokeZonesModel") (T := T_Mo) (N := 47) hx hb hG in_Mo hown hK hP hM.1.1 hM.1.2 rfl 2 (by decide) (hG _ k623) (fun _ h9 => h9) rfl d_Mo_room_27 ?_
      refine lv_bipush (v := 10) hx hb d_Mo_room_30 (by decide) ?_
      refine lv_icmp_ne (tgt := 39) hx hb d_Mo_room_32 (by decide) (fun c_5 => ?_) (fun c_5 => ?_)
      · refine lv_iconst (v := 0) hx hb d_Mo_room_39 (by decide) ?_
        refine pg_put (C := "SmokeZonesModel") (T := T_Mo) (N := 47) (ty := .int) hx hb hG in_Mo ty_Mo ok_Mo nm_Mo hown hK hP hD hS hM.1.1 hM.1.2 rfl 0 (by decide) (hG _ k621) (fun _ h9 => h9) rfl (by decide +kernel) rfl rfl (Nat.le_of_ble_eq_true rfl) d_Mo_room_40 (fun H locs hP hD hS => ?_)
        have hM := hM.putX (j := 0) (v := 0) rfl moF_0
        generalize va_up _ (AM 100) _ = f at hM hP hD
        refine lv_aload_n hx hb d_Mo_room_43 rfl (lv_at hl 0 rfl) ?_
        refine pg_get (C := "SmokeZonesModel") (T := T_Mo) (N := 47) hx hb hG in_Mo hown hK hP hM.1.1 hM.1.2 rfl 0 (by decide) (hG _ k621) (fun _ h9 => h9) rfl d_Mo_room_44 ?_
        refine lv_topi (fun y_6 ey_6 => ?_)
        obtain rfl : y_6 = 0 := ey_6.trans (by simp [up2])
        refine lv_if_le (tgt := 52) hx hb d_Mo_room_47 (by decide) (fun c_7 => ?_) (fun c_7 => ?_)
        · refine lv_aload_n hx hb d_Mo_room_52 rfl (lv_at hl 0 rfl) ?_
          refine pg_get (C := "SmokeZonesModel") (T := T_Mo) (N := 47) hx hb hG in_Mo hown hK hP hM.1.1 hM.1.2 rfl 3 (by decide) (hG _ k624) (fun _ h9 => h9) rfl d_Mo_room_53 ?_
          refine lv_aload_n hx hb d_Mo_room_56 rfl (lv_at hl 0 rfl) ?_
          refine pg_get (C := "SmokeZonesModel") (T := T_Mo) (N := 47) hx hb hG in_Mo hown hK hP hM.1.1 hM.1.2 rfl 2 (by decide) (hG _ k623) (fun _ h9 => h9) rfl d_Mo_room_57 ?_
          refine lv_topi (fun y_8 ey_8 => ?_)
          obtain rfl : y_8 = X 2 0 := ey_8.trans (by simp [up2])
          refine lv_iload_n hx hb d_Mo_room_60 rfl (lv_at hl 1 rfl) ?_
          refine mw_iast hx hb hK hP hD hS hM (j := 3) rfl (vin_ne h2 hc2 c_5) d_Mo_room_61 (fun f H locs hM hP hD hS => ?_)
          refine lv_aload_n hx hb d_Mo_room_62 rfl (lv_at hl 0 rfl) ?_
          refine pg_get (C := "SmokeZonesModel") (T := T_Mo) (N := 47) hx hb hG in_Mo hown hK hP hM.1.1 hM.1.2 rfl 4 (by decide) (hG _ k625) (fun _ h9 => h9) rfl d_Mo_room_63 ?_
          refine lv_aload_n hx hb d_Mo_room_66 rfl (lv_at hl 0 rfl) ?_
          refine pg_get (C := "SmokeZonesModel") (T := T_Mo) (N := 47) hx hb hG in_Mo hown hK hP hM.1.1 hM.1.2 rfl 2 (by decide) (hG _ k623) (fun _ h9 => h9) rfl d_Mo_room_67 ?_
          refine lv_topi (fun y_9 ey_9 => ?_)
          obtain rfl : y_9 = X 2 0 := ey_9.trans (by simp [up2])
          refine lv_iload_n hx hb d_Mo_room_70 rfl (lv_at hl 2 rfl) ?_
          refine mw_iast hx hb hK hP hD hS hM (j := 4) rfl (vin_ne h2 hc2 c_5) d_Mo_room_71 (fun f H locs hM hP hD hS => ?_)
          refine lv_aload_n hx hb d_Mo_room_72 rfl (lv_at hl 0 rfl) ?_
          refine pg_get (C := "SmokeZonesModel") (T := T_Mo) (N := 47) hx hb hG in_Mo hown hK hP hM.1.1 hM.1.2 rfl 9 (by decide) (hG _ k630) (fun _ h9 => h9) rfl d_Mo_room_73 ?_
          refine lv_aload_n hx hb d_Mo_room_76 rfl (lv_at hl 0 rfl) ?_
          refine pg_get (C := "SmokeZonesModel") (T := T_Mo) (N := 47) hx hb hG in_Mo hown hK hP hM.1.1 hM.1.2 rfl 2 (by decide) (hG _ k623) (fun _ h9 => h9) rfl d_Mo_room_77 ?_
          refine lv_topi (fun y_10 ey_10 => ?_)
          obtain rfl : y_10 = X 2 0 := ey_10.trans (by simp [up2])
          refine lv_iconst (v := (-1)) hx hb d_Mo_room_80 (by decide) ?_
          refine mw_iast hx hb hK hP hD hS hM (j := 9) rfl (vin_ne h2 hc2 c_5) d_Mo_room_81 (fun f H locs hM hP hD hS => ?_)
          refine lv_aload_n hx hb d_Mo_room_82 rfl (lv_at hl 0 rfl) ?_
          refine lv_dup hx hb d_Mo_room_83 rfl ?_
          refine pg_get (C := "SmokeZonesModel") (T := T_Mo) (N := 47) hx hb hG in_Mo hown hK hP hM.1.1 hM.1.2 rfl 2 (by decide) (hG _ k623) (fun _ h9 => h9) rfl d_Mo_room_84 ?_
          refine lv_topi (fun y_11 ey_11 => ?_)
          obtain rfl : y_11 = X 2 0 := ey_11.trans (by simp [up2])
          refine lv_iconst (v := 1) hx hb d_Mo_room_87 (by decide) ?_
          refine lv_iadd hx hb d_Mo_room_88 ?_
          refine pg_put (C := "SmokeZonesModel") (T := T_Mo) (N := 47) (ty := .int) hx hb hG in_Mo ty_Mo ok_Mo nm_Mo hown hK hP hD hS hM.1.1 hM.1.2 rfl 2 (by decide) (hG _ k623) (fun _ h9 => h9) rfl (by decide +kernel) rfl rfl (Nat.le_of_ble_eq_true rfl) d_Mo_room_89 (fun H locs hP hD hS => ?_)
          have hM := hM.putX (j := 2) (v := (X 2 0) + 1) rfl moF_2
          generalize va_up _ (AM 100) _ = f at hM hP hD
          refine lv_aload_n hx hb d_Mo_room_92 rfl (lv_at hl 0 rfl) ?_
          refine pg_get (C := "SmokeZonesModel") (T := T_Mo) (N := 47) hx hb hG in_Mo hown hK hP hM.1.1 hM.1.2 rfl 2 (by decide) (hG _ k623) (fun _ h9 => h9) rfl d_Mo_room_93 ?_
          refine lv_topi (fun y_12 ey_12 => ?_)
          obtain rfl : y_12 = (X 2 0) + 1 := ey_12.trans (by simp [up2])
          refine lv_iconst (v := 1) hx hb d_Mo_room_96 (by decide) ?_
          refine lv_isub hx hb d_Mo_room_97 ?_
          have hN : MW ct AM L (xMroom X Y p1 p2) Y f := by
            (try simp only [vMroom, xMroom, if_neg c_1, if_neg c_4, if_neg c_5, if_pos c_7])
            exact hM
          exact W.iret hx hb hret (fun t ht hW => ⟨⟨_, f, rfl, ⟨(by simp only [vMroom, xMroom, if_neg c_1, if_neg c_4, if_neg c_5, if_pos c_7]), hN⟩, by rw [ht]; exact hP, va_K.moved hW.alike hK, hD⟩, hS.F ht⟩) hS.2.2 d_Mo_room_98
        · exact absurd (by decide) c_7
      · refine lv_iconst (v := 2) hx hb d_Mo_room_35 (by decide) ?_
        refine lv_goto (tgt := 40) hx hb d_Mo_room_36 (by decide) ?_
        refine pg_put (C := "SmokeZonesModel") (T := T_Mo) (N := 47) (ty := .int) hx hb hG in_Mo ty_Mo ok_Mo nm_Mo hown hK hP hD hS hM.1.1 hM.1.2 rfl 0 (by decide) (hG _ k621) (fun _ h9 => h9) rfl (by decide +kernel) rfl rfl (Nat.le_of_ble_eq_true rfl) d_Mo_room_40 (fun H locs hP hD hS => ?_)
        have hM := hM.putX (j := 0) (v := 2) rfl moF_0
        generalize va_up _ (AM 100) _ = f at hM hP hD
        refine lv_aload_n hx hb d_Mo_room_43 rfl (lv_at hl 0 rfl) ?_
        refine pg_get (C := "SmokeZonesModel") (T := T_Mo) (N := 47) hx hb hG in_Mo hown hK hP hM.1.1 hM.1.2 rfl 0 (by decide) (hG _ k621) (fun _ h9 => h9) rfl d_Mo_room_44 ?_
        refine lv_topi (fun y_13 ey_13 => ?_)
        obtain rfl : y_13 = 2 := ey_13.trans (by simp [up2])
        refine lv_if_le (tgt := 52) hx hb d_Mo_room_47 (by decide) (fun c_14 => ?_) (fun c_14 => ?_)
        · exact absurd c_14 (by decide)
        · refine lv_iconst (v := 0) hx hb d_Mo_room_50 (by decide) ?_
          have hN : MW ct AM L (xMroom X Y p1 p2) Y f := by
            (try simp only [vMroom, xMroom, if_neg c_1, if_neg c_4, if_pos c_5, if_neg c_14])
            exact hM
          exact W.iret hx hb hret (fun t ht hW => ⟨⟨_, f, rfl, ⟨(by simp only [vMroom, xMroom, if_neg c_1, if_neg c_4, if_pos c_5, if_neg c_14]), hN⟩, by rw [ht]; exact hP, va_K.moved hW.alike hK, hD⟩, hS.F ht⟩) hS.2.2 d_Mo_room_51
    · refine lv_iconst (v := 1) hx hb d_Mo_room_22 (by decide) ?_
      refine lv_goto (tgt := 40) hx hb d_Mo_room_23 (by decide) ?_
      refine pg_put (C := "SmokeZonesModel") (T := T_Mo) (N := 47) (ty := .int) hx hb hG in_Mo ty_Mo ok_Mo nm_Mo hown hK hP hD hS hM.1.1 hM.1.2 rfl 0 (by decide) (hG _ k621) (fun _ h9 => h9) rfl (by decide +kernel) rfl rfl (Nat.le_of_ble_eq_true rfl) d_Mo_room_40 (fun H locs hP hD hS => ?_)
      have hM := hM.putX (j := 0) (v := 1) rfl moF_0
      generalize va_up _ (AM 100) _ = f at hM hP hD
      refine lv_aload_n hx hb d_Mo_room_43 rfl (lv_at hl 0 rfl) ?_
      refine pg_get (C := "SmokeZonesModel") (T := T_Mo) (N := 47) hx hb hG in_Mo hown hK hP hM.1.1 hM.1.2 rfl 0 (by decide) (hG _ k621) (fun _ h9 => h9) rfl d_Mo_room_44 ?_
      refine lv_topi (fun y_15 ey_15 => ?_)
      obtain rfl : y_15 = 1 := ey_15.trans (by simp [up2])
      refine lv_if_le (tgt := 52) hx hb d_Mo_room_47 (by decide) (fun c_16 => ?_) (fun c_16 => ?_)
      · exact absurd c_16 (by decide)
      · refine lv_iconst (v := 0) hx hb d_Mo_room_50 (by decide) ?_
        have hN : MW ct AM L (xMroom X Y p1 p2) Y f := by
          (try simp only [vMroom, xMroom, if_neg c_1, if_pos c_4, if_neg c_16])
          exact hM
        exact W.iret hx hb hret (fun t ht hW => ⟨⟨_, f, rfl, ⟨(by simp only [vMroom, xMroom, if_neg c_1, if_pos c_4, if_neg c_16]), hN⟩, by rw [ht]; exact hP, va_K.moved hW.alike hK, hD⟩, hS.F ht⟩) hS.2.2 d_Mo_room_51

def xMglass (X : I2) (Y : J2) (p1 p2 : Int32) : I2 := (if (m_in p1 0 ((X 10 0) - 1)) = 0 then up2 X 0 0 1 else (if (m_in p2 1 1000) = 0 then up2 X 0 0 1 else (if (X 16 (Int32.toNatClampNeg p1)) ≤ 0 then up2 (up2 (up2 X 0 0 0) 16 (Int32.toNatClampNeg p1) p2) 17 (Int32.toNatClampNeg p1) 0 else up2 X 0 0 2)))
set_option maxHeartbeats 4000000 in
set_option maxRecDepth 100000 in
theorem c_Mo_glass {l : Launch} {D : va_G} {ct : Nat → ClassId} {AM : Nat → Nat} {L : List Nat} {f : Nat → va_E} {X : I2} {Y : J2} {sz : Nat} {p1 p2 : Int32} {n1 : Nat} (hM : MW ct AM L X Y f) (h10 : X 10 0 = nI n1) (hc10 : n1 ≤ 15) : Met l y_Mo_glass (WS y_Mo_glass b_Mo_glass 3 none) { frames := 1, cells := 0, slots := 0, locals := 22 } (va_Pc [.ref (AM 100), .int p1, .int p2] (WP D (TYS ct) L f sz)) (va_Qv (fun f' => MW ct AM L (xMglass X Y p1 p2) Y f') (fun f' t => WQ D (TYS ct) L f' (AA L f sz) t) (AA L f sz)) 0 0 (AA L f sz) := by
  refine Met.ofW (cc := b_Mo_glass) (maxL := 3) (ret := none) (by decide) rfl ?_
  intro p e s m args below meth c s₁ B hml hv
  obtain ⟨rfl, hsz, hP, hK, hD0⟩ := hv
  subst hsz
  have hx := B.exec
  have hb := B.bytes
  have hret := B.returns
  have hts := atoms_spec (ws := WS y_Mo_glass b_Mo_glass 3 none) B.pre
  have hG : ∀ w ∈ GW, w.before _ s = true := fun w h => hts w (List.mem_cons_of_mem _ h)
  have hown : s.vm.findClass "SmokeZonesModel" = some m.cls := findClass_of_methodNamed B.named
  have hlocks := B.notSynchronized
  have hD : va_D (AA L f s.heap.size) (va_pl L f) := hD0.self (sz := s.heap.size)
  generalize hAe : AA L f s.heap.size = A at hD ⊢
  have hA : ∀ q : Nat, s.heap.size ≤ q → A q := fun q h => by rw [← hAe]; exact Or.inr h
  have hS : va_S A s.heap s.heap [] := va_S.rf
  have hl := lv_entry ([.ref (AM 100), .int p1, .int p2]) (n := 3) (Nat.le_of_ble_eq_true rfl)
  rw [lg_entry_eq]
  generalize (lg_sl ([.ref (AM 100), .int p1, .int p2]) ++ List.replicate (3 - (lg_sl ([.ref (AM 100), .int p1, .int p2])).length) Slot.unset).toArray = ls at hl ⊢
  have hl : lv_has ls 3 [(0, .ref (AM 100)), (1, .int p1), (2, .int p2)] := hl
  refine lv_aload_n hx hb d_Mo_glass_0 rfl (lv_at hl 0 rfl) ?_
  refine lv_iload_n hx hb d_Mo_glass_1 rfl (lv_at hl 1 rfl) ?_
  refine lv_iconst (v := 0) hx hb d_Mo_glass_2 (by decide) ?_
  refine lv_aload_n hx hb d_Mo_glass_3 rfl (lv_at hl 0 rfl) ?_
  refine pg_get (C := "SmokeZonesModel") (T := T_Mo) (N := 47) hx hb hG in_Mo hown hK hP hM.1.1 hM.1.2 rfl 10 (by decide) (hG _ k631) (fun _ h9 => h9) rfl d_Mo_glass_4 ?_
  refine lv_iconst (v := 1) hx hb d_Mo_glass_7 (by decide) ?_
  refine lv_isub hx hb d_Mo_glass_8 ?_
  refine kS_ri ⟨hx, hb, hml, hown, hG⟩ (c_Mo_in ) (cwS 3 hG (gS k773 k774 k2 k775) rfl rfl rfl hd_Mo_in ⟨Nat.le_of_ble_eq_true rfl, Nat.le_of_ble_eq_true rfl⟩) hK hP hS rfl hl.1 rfl (Nat.le_of_ble_eq_true rfl) ⟨Nat.le_of_ble_eq_true rfl, Nat.le_of_ble_eq_true rfl⟩ d_Mo_glass_9 (fun locs hS => ?_)
  refine lv_if_eq (tgt := 26) hx hb d_Mo_glass_12 (by decide) (fun c_1 => ?_) (fun c_1 => ?_)
  · refine lv_iconst (v := 1) hx hb d_Mo_glass_26 (by decide) ?_
    refine lv_goto (tgt := 44) hx hb d_Mo_glass_27 (by decide) ?_
    refine pg_put (C := "SmokeZonesModel") (T := T_Mo) (N := 47) (ty := .int) hx hb hG in_Mo ty_Mo ok_Mo nm_Mo hown hK hP hD hS hM.1.1 hM.1.2 rfl 0 (by decide) (hG _ k621) (fun _ h9 => h9) rfl (by decide +kernel) rfl rfl (Nat.le_of_ble_eq_true rfl) d_Mo_glass_44 (fun H locs hP hD hS => ?_)
    have hM := hM.putX (j := 0) (v := 1) rfl moF_0
    generalize va_up _ (AM 100) _ = f at hM hP hD
    refine lv_aload_n hx hb d_Mo_glass_47 rfl (lv_at hl 0 rfl) ?_
    refine pg_get (C := "SmokeZonesModel") (T := T_Mo) (N := 47) hx hb hG in_Mo hown hK hP hM.1.1 hM.1.2 rfl 0 (by decide) (hG _ k621) (fun _ h9 => h9) rfl d_Mo_glass_48 ?_
    refine lv_topi (fun y_2 ey_2 => ?_)
    obtain rfl : y_2 = 1 := ey_2.trans (by simp [up2])
    refine lv_if_ne (tgt := 68) hx hb d_Mo_glass_51 (by decide) (fun c_3 => ?_) (fun c_3 => ?_)
    · have hN : MW ct AM L (xMglass X Y p1 p2) Y f := by
        (try simp only [xMglass, if_pos c_1, if_neg c_3])
        exact hM
      exact W.vret hx hb hret (fun t ht hW => ⟨⟨f, rfl, hN, by rw [ht]; exact hP, va_K.moved hW.alike hK, hD⟩, hS.F ht⟩) hS.2.2 d_Mo_glass_68
    · exact absurd c_3 (by decide)
  · obtain ⟨r, hr, er⟩ := in_of c_1 h10 (by omega)
    have hcl : Int32.toNatClampNeg p1 = r := by rw [er]; exact nI_clamp (by omega)
    refine lv_iload_n hx hb d_Mo_glass_15 rfl (lv_at hl 2 rfl) ?_
    refine lv_iconst (v := 1) hx hb d_Mo_glass_16 (by decide) ?_
    refine lv_sipush (v := 1000) hx hb d_Mo_glass_17 (by decide) ?_
    refine kS_ri ⟨hx, hb, hml, hown, hG⟩ (c_Mo_in ) (cwS 3 hG (gS k773 k774 k2 k775) rfl rfl rfl hd_Mo_in ⟨Nat.le_of_ble_eq_true rfl, Nat.le_of_ble_eq_true rfl⟩) hK hP hS rfl hl.1 rfl (Nat.le_of_ble_eq_true rfl) ⟨Nat.le_of_ble_eq_true rfl, Nat.le_of_ble_eq_true rfl⟩ d_Mo_glass_20 (fun locs hS => ?_)
    refine lv_if_ne (tgt := 30) hx hb d_Mo_glass_23 (by decide) (fun c_4 => ?_) (fun c_4 => ?_)
    · refine lv_aload_n hx hb d_Mo_glass_30 rfl (lv_at hl 0 rfl) ?_
      refine pg_get (C := "SmokeZonesModel") (T := T_Mo) (N := 47) hx hb hG in_Mo hown hK hP hM.1.1 hM.1.2 rfl 16 (by decide) (hG _ k637) (fun _ h9 => h9) rfl d_Mo_glass_31 ?_
      refine lv_iload_n hx hb d_Mo_glass_34 rfl (lv_at hl 1 rfl) ?_
      refine mw_iald hx hb hK hP hM (j := 16) rfl (by rw [er]; exact vp_in_nI (show r < 15 by omega) (by decide)) d_Mo_glass_35 ?_
      refine lv_if_le (tgt := 43) hx hb d_Mo_glass_36 (by decide) (fun c_5 => ?_) (fun c_5 => ?_)
      · refine lv_iconst (v := 0) hx hb d_Mo_glass_43 (by decide) ?_
        refine pg_put (C := "SmokeZonesModel") (T := T_Mo) (N := 47) (ty := .int) hx hb hG in_Mo ty_Mo ok_Mo nm_Mo hown hK hP hD hS hM.1.1 hM.1.2 rfl 0 (by decide) (hG _ k621) (fun _ h9 => h9) rfl (by decide +kernel) rfl rfl (Nat.le_of_ble_eq_true rfl) d_Mo_glass_44 (fun H locs hP hD hS => ?_)
        have hM := hM.putX (j := 0) (v := 0) rfl moF_0
        generalize va_up _ (AM 100) _ = f at hM hP hD
        refine lv_aload_n hx hb d_Mo_glass_47 rfl (lv_at hl 0 rfl) ?_
        refine pg_get (C := "SmokeZonesModel") (T := T_Mo) (N := 47) hx hb hG in_Mo hown hK hP hM.1.1 hM.1.2 rfl 0 (by decide) (hG _ k621) (fun _ h9 => h9) rfl d_Mo_glass_48 ?_
        refine lv_topi (fun y_6 ey_6 => ?_)
        obtain rfl : y_6 = 0 := ey_6.trans (by simp [up2])
        refine lv_if_ne (tgt := 68) hx hb d_Mo_glass_51 (by decide) (fun c_7 => ?_) (fun c_7 => ?_)
        · exact absurd (by decide) c_7
        · refine lv_aload_n hx hb d_Mo_glass_54 rfl (lv_at hl 0 rfl) ?_
          refine pg_get (C := "SmokeZonesModel") (T := T_Mo) (N := 47) hx hb hG in_Mo hown hK hP hM.1.1 hM.1.2 rfl 16 (by decide) (hG _ k637) (fun _ h9 => h9) rfl d_Mo_glass_55 ?_
          refine lv_iload_n hx hb d_Mo_glass_58 rfl (lv_at hl 1 rfl) ?_
          refine lv_iload_n hx hb d_Mo_glass_59 rfl (lv_at hl 2 rfl) ?_
          refine mw_iast hx hb hK hP hD hS hM (j := 16) rfl (by rw [er]; exact vp_in_nI (show r < 15 by omega) (by decide)) d_Mo_glass_60 (fun f H locs hM hP hD hS => ?_)
          refine lv_aload_n hx hb d_Mo_glass_61 rfl (lv_at hl 0 rfl) ?_
          refine pg_get (C := "SmokeZonesModel") (T := T_Mo) (N := 47) hx hb hG in_Mo hown hK hP hM.1.1 hM.1.2 rfl 17 (by decide) (hG _ k638) (fun _ h9 => h9) rfl d_Mo_glass_62 ?_
          refine lv_iload_n hx hb d_Mo_glass_65 rfl (lv_at hl 1 rfl) ?_
          refine lv_iconst (v := 0) hx hb d_Mo_glass_66 (by decide) ?_
          refine mw_zast hx hb hK hP hD hS hM (j := 17) rfl (by rw [er]; exact vp_in_nI (show r < 15 by omega) (by decide)) rfl d_Mo_glass_67 (fun f H locs hM hP hD hS => ?_)
          have hN : MW ct AM L (xMglass X Y p1 p2) Y f := by
            (try simp only [xMglass, if_neg c_1, if_neg c_4, if_pos c_5, if_pos c_7])
            exact hM
          exact W.vret hx hb hret (fun t ht hW => ⟨⟨f, rfl, hN, by rw [ht]; exact hP, va_K.moved hW.alike hK, hD⟩, hS.F ht⟩) hS.2.2 d_Mo_glass_68
      · refine lv_iconst (v := 2) hx hb d_Mo_glass_39 (by decide) ?_
        refine lv_goto (tgt := 44) hx hb d_Mo_glass_40 (by decide) ?_
        refine pg_put (C := "SmokeZonesModel") (T := T_Mo) (N := 47) (ty := .int) hx hb hG in_Mo ty_Mo ok_Mo nm_Mo hown hK hP hD hS hM.1.1 hM.1.2 rfl 0 (by decide) (hG _ k621) (fun _ h9 => h9) rfl (by decide +kernel) rfl rfl (Nat.le_of_ble_eq_true rfl) d_Mo_glass_44 (fun H locs hP hD hS => ?_)
        have hM := hM.putX (j := 0) (v := 2) rfl moF_0
        generalize va_up _ (AM 100) _ = f at hM hP hD
        refine lv_aload_n hx hb d_Mo_glass_47 rfl (lv_at hl 0 rfl) ?_
        refine pg_get (C := "SmokeZonesModel") (T := T_Mo) (N := 47) hx hb hG in_Mo hown hK hP hM.1.1 hM.1.2 rfl 0 (by decide) (hG _ k621) (fun _ h9 => h9) rfl d_Mo_glass_48 ?_
        refine lv_topi (fun y_8 ey_8 => ?_)
        obtain rfl : y_8 = 2 := ey_8.trans (by simp [up2])
        refine lv_if_ne (tgt := 68) hx hb d_Mo_glass_51 (by decide) (fun c_9 => ?_) (fun c_9 => ?_)
        · have hN : MW ct AM L (xMglass X Y p1 p2) Y f := by
            (try simp only [xMglass, if_neg c_1, if_neg c_4, if_neg c_5, if_neg c_9])
            exact hM
          exact W.vret hx hb hret (fun t ht hW => ⟨⟨f, rfl, hN, by rw [ht]; exact hP, va_K.moved hW.alike hK, hD⟩, hS.F ht⟩) hS.2.2 d_Mo_glass_68
        · exact absurd c_9 (by decide)
    · refine lv_iconst (v := 1) hx hb d_Mo_glass_26 (by decide) ?_
      refine lv_goto (tgt := 44) hx hb d_Mo_glass_27 (by decide) ?_
      refine pg_put (C := "SmokeZonesModel") (T := T_Mo) (N := 47) (ty := .int) hx hb hG in_Mo ty_Mo ok_Mo nm_Mo hown hK hP hD hS hM.1.1 hM.1.2 rfl 0 (by decide) (hG _ k621) (fun _ h9 => h9) rfl (by decide +kernel) rfl rfl (Nat.le_of_ble_eq_true rfl) d_Mo_glass_44 (fun H locs hP hD hS => ?_)
      have hM := hM.putX (j := 0) (v := 1) rfl moF_0
      generalize va_up _ (AM 100) _ = f at hM hP hD
      refine lv_aload_n hx hb d_Mo_glass_47 rfl (lv_at hl 0 rfl) ?_
      refine pg_get (C := "SmokeZonesModel") (T := T_Mo) (N := 47) hx hb hG in_Mo hown hK hP hM.1.1 hM.1.2 rfl 0 (by decide) (hG _ k621) (fun _ h9 => h9) rfl d_Mo_glass_48 ?_
      refine lv_topi (fun y_10 ey_10 => ?_)
      obtain rfl : y_10 = 1 := ey_10.trans (by simp [up2])
      refine lv_if_ne (tgt := 68) hx hb d_Mo_glass_51 (by decide) (fun c_11 => ?_) (fun c_11 => ?_)
      · have hN : MW ct AM L (xMglass X Y p1 p2) Y f := by
          (try simp only [xMglass, if_neg c_1, if_pos c_4, if_neg c_11])
          exact hM
        exact W.vret hx hb hret (fun t ht hW => ⟨⟨f, rfl, hN, by rw [ht]; exact hP, va_K.moved hW.alike hK, hD⟩, hS.F ht⟩) hS.2.2 d_Mo_glass_68
      · exact absurd c_11 (by decide)

def xMspr (X : I2) (Y : J2) (p1 p2 : Int32) : I2 := (if (m_in p1 0 ((X 2 0) - 1)) = 0 then up2 X 0 0 1 else (if (m_in p2 1 1000) = 0 then up2 X 0 0 1 else (if (X 7 (Int32.toNatClampNeg p1)) ≤ 0 then up2 (up2 X 0 0 0) 7 (Int32.toNatClampNeg p1) p2 else up2 X 0 0 2)))
set_option maxHeartbeats 4000000 in
set_option maxRecDepth 100000 in
theorem c_Mo_sprinkler {l : Launch} {D : va_G} {ct : Nat → ClassId} {AM : Nat → Nat} {L : List Nat} {f : Nat → va_E} {X : I2} {Y : J2} {sz : Nat} {p1 p2 : Int32} {n0 : Nat} (hM : MW ct AM L X Y f) (h2 : X 2 0 = nI n0) (hc2 : n0 ≤ 10) : Met l y_Mo_sprinkler (WS y_Mo_sprinkler b_Mo_sprinkler 3 none) { frames := 2, cells := 0, slots := 0, locals := 43 } (va_Pc [.ref (AM 100), .int p1, .int p2] (WP D (TYS ct) L f sz)) (va_Qv (fun f' => MW ct AM L (xMspr X Y p1 p2) Y f') (fun f' t => WQ D (TYS ct) L f' (AA L f sz) t) (AA L f sz)) 0 0 (AA L f sz) := by
  refine Met.ofW (cc := b_Mo_sprinkler) (maxL := 3) (ret := none) (by decide) rfl ?_
  intro p e s m args below meth c s₁ B hml hv
  obtain ⟨rfl, hsz, hP, hK, hD0⟩ := hv
  subst hsz
  have hx := B.exec
  have hb := B.bytes
  have hret := B.returns
  have hts := atoms_spec (ws := WS y_Mo_sprinkler b_Mo_sprinkler 3 none) B.pre
  have hG : ∀ w ∈ GW, w.before _ s = true := fun w h => hts w (List.mem_cons_of_mem _ h)
  have hown : s.vm.findClass "SmokeZonesModel" = some m.cls := findClass_of_methodNamed B.named
  have hlocks := B.notSynchronized
  have hD : va_D (AA L f s.heap.size) (va_pl L f) := hD0.self (sz := s.heap.size)
  generalize hAe : AA L f s.heap.size = A at hD ⊢
  have hA : ∀ q : Nat, s.heap.size ≤ q → A q := fun q h => by rw [← hAe]; exact Or.inr h
  have hS : va_S A s.heap s.heap [] := va_S.rf
  have hl := lv_entry ([.ref (AM 100), .int p1, .int p2]) (n := 3) (Nat.le_of_ble_eq_true rfl)
  rw [lg_entry_eq]
  generalize (lg_sl ([.ref (AM 100), .int p1, .int p2]) ++ List.replicate (3 - (lg_sl ([.ref (AM 100), .int p1, .int p2])).length) Slot.unset).toArray = ls at hl ⊢
  have hl : lv_has ls 3 [(0, .ref (AM 100)), (1, .int p1), (2, .int p2)] := hl
  refine lv_aload_n hx hb d_Mo_sprinkler_0 rfl (lv_at hl 0 rfl) ?_
  refine lv_aload_n hx hb d_Mo_sprinkler_1 rfl (lv_at hl 0 rfl) ?_
  refine lv_iload_n hx hb d_Mo_sprinkler_2 rfl (lv_at hl 1 rfl) ?_
  refine kV_ri ⟨hx, hb, hml, hown, hG⟩ (c_Mo_isRoom hM) (cwV 1 hG (gV k780 k782 ks_Mo_isRoom k2 k783) rfl rfl rfl hd_Mo_isRoom ⟨Nat.le_of_ble_eq_true rfl, Nat.le_of_ble_eq_true rfl⟩) hK hP hS hM.1.1 hM.1.2 rfl rfl hl.1 rfl (Nat.le_of_ble_eq_true rfl) ⟨Nat.le_of_ble_eq_true rfl, Nat.le_of_ble_eq_true rfl⟩ d_Mo_sprinkler_3 (fun locs hS => ?_)
  refine lv_topi (fun y_1 ey_1 => ?_)
  obtain rfl : y_1 = m_in p1 0 ((X 2 0) - 1) := ey_1.trans (by simp [up2])
  refine lv_if_eq (tgt := 20) hx hb d_Mo_sprinkler_6 (by decide) (fun c_2 => ?_) (fun c_2 => ?_)
  · refine lv_iconst (v := 1) hx hb d_Mo_sprinkler_20 (by decide) ?_
    refine lv_goto (tgt := 38) hx hb d_Mo_sprinkler_21 (by decide) ?_
    refine pg_put (C := "SmokeZonesModel") (T := T_Mo) (N := 47) (ty := .int) hx hb hG in_Mo ty_Mo ok_Mo nm_Mo hown hK hP hD hS hM.1.1 hM.1.2 rfl 0 (by decide) (hG _ k621) (fun _ h9 => h9) rfl (by decide +kernel) rfl rfl (Nat.le_of_ble_eq_true rfl) d_Mo_sprinkler_38 (fun H locs hP hD hS => ?_)
    have hM := hM.putX (j := 0) (v := 1) rfl moF_0
    generalize va_up _ (AM 100) _ = f at hM hP hD
    refine lv_aload_n hx hb d_Mo_sprinkler_41 rfl (lv_at hl 0 rfl) ?_
    refine pg_get (C := "SmokeZonesModel") (T := T_Mo) (N := 47) hx hb hG in_Mo hown hK hP hM.1.1 hM.1.2 rfl 0 (by decide) (hG _ k621) (fun _ h9 => h9) rfl d_Mo_sprinkler_42 ?_
    refine lv_topi (fun y_3 ey_3 => ?_)
    obtain rfl : y_3 = 1 := ey_3.trans (by simp [up2])
    refine lv_if_ne (tgt := 55) hx hb d_Mo_sprinkler_45 (by decide) (fun c_4 => ?_) (fun c_4 => ?_)
    · have hN : MW ct AM L (xMspr X Y p1 p2) Y f := by
        (try simp only [xMspr, if_pos c_2, if_neg c_4])
        exact hM
      exact W.vret hx hb hret (fun t ht hW => ⟨⟨f, rfl, hN, by rw [ht]; exact hP, va_K.moved hW.alike hK, hD⟩, hS.F ht⟩) hS.2.2 d_Mo_sprinkler_55
    · exact absurd c_4 (by decide)
  · obtain ⟨r, hr, er⟩ := in_of c_2 h2 (by omega)
    have hcl : Int32.toNatClampNeg p1 = r := by rw [er]; exact nI_clamp (by omega)
    refine lv_iload_n hx hb d_Mo_sprinkler_9 rfl (lv_at hl 2 rfl) ?_
    refine lv_iconst (v := 1) hx hb d_Mo_sprinkler_10 (by decide) ?_
    refine lv_sipush (v := 1000) hx hb d_Mo_sprinkler_11 (by decide) ?_
    refine kS_ri ⟨hx, hb, hml, hown, hG⟩ (c_Mo_in ) (cwS 3 hG (gS k773 k774 k2 k775) rfl rfl rfl hd_Mo_in ⟨Nat.le_of_ble_eq_true rfl, Nat.le_of_ble_eq_true rfl⟩) hK hP hS rfl hl.1 rfl (Nat.le_of_ble_eq_true rfl) ⟨Nat.le_of_ble_eq_true rfl, Nat.le_of_ble_eq_true rfl⟩ d_Mo_sprinkler_14 (fun locs hS => ?_)
    refine lv_if_ne (tgt := 24) hx hb d_Mo_sprinkler_17 (by decide) (fun c_5 => ?_) (fun c_5 => ?_)
    · refine lv_aload_n hx hb d_Mo_sprinkler_24 rfl (lv_at hl 0 rfl) ?_
      refine pg_get (C := "SmokeZonesModel") (T := T_Mo) (N := 47) hx hb hG in_Mo hown hK hP hM.1.1 hM.1.2 rfl 7 (by decide) (hG _ k628) (fun _ h9 => h9) rfl d_Mo_sprinkler_25 ?_
      refine lv_iload_n hx hb d_Mo_sprinkler_28 rfl (lv_at hl 1 rfl) ?_
      refine mw_iald hx hb hK hP hM (j := 7) rfl (by rw [er]; exact vp_in_nI (show r < 10 by omega) (by decide)) d_Mo_sprinkler_29 ?_
      refine lv_if_le (tgt := 37) hx hb d_Mo_sprinkler_30 (by decide) (fun c_6 => ?_) (fun c_6 => ?_)
      · refine lv_iconst (v := 0) hx hb d_Mo_sprinkler_37 (by decide) ?_
        refine pg_put (C := "SmokeZonesModel") (T := T_Mo) (N := 47) (ty := .int) hx hb hG in_Mo ty_Mo ok_Mo nm_Mo hown hK hP hD hS hM.1.1 hM.1.2 rfl 0 (by decide) (hG _ k621) (fun _ h9 => h9) rfl (by decide +kernel) rfl rfl (Nat.le_of_ble_eq_true rfl) d_Mo_sprinkler_38 (fun H locs hP hD hS => ?_)
        have hM := hM.putX (j := 0) (v := 0) rfl moF_0
        generalize va_up _ (AM 100) _ = f at hM hP hD
        refine lv_aload_n hx hb d_Mo_sprinkler_41 rfl (lv_at hl 0 rfl) ?_
        refine pg_get (C := "SmokeZonesModel") (T := T_Mo) (N := 47) hx hb hG in_Mo hown hK hP hM.1.1 hM.1.2 rfl 0 (by decide) (hG _ k621) (fun _ h9 => h9) rfl d_Mo_sprinkler_42 ?_
        refine lv_topi (fun y_7 ey_7 => ?_)
        obtain rfl : y_7 = 0 := ey_7.trans (by simp [up2])
        refine lv_if_ne (tgt := 55) hx hb d_Mo_sprinkler_45 (by decide) (fun c_8 => ?_) (fun c_8 => ?_)
        · exact absurd (by decide) c_8
        · refine lv_aload_n hx hb d_Mo_sprinkler_48 rfl (lv_at hl 0 rfl) ?_
          refine pg_get (C := "SmokeZonesModel") (T := T_Mo) (N := 47) hx hb hG in_Mo hown hK hP hM.1.1 hM.1.2 rfl 7 (by decide) (hG _ k628) (fun _ h9 => h9) rfl d_Mo_sprinkler_49 ?_
          refine lv_iload_n hx hb d_Mo_sprinkler_52 rfl (lv_at hl 1 rfl) ?_
          refine lv_iload_n hx hb d_Mo_sprinkler_53 rfl (lv_at hl 2 rfl) ?_
          refine mw_iast hx hb hK hP hD hS hM (j := 7) rfl (by rw [er]; exact vp_in_nI (show r < 10 by omega) (by decide)) d_Mo_sprinkler_54 (fun f H locs hM hP hD hS => ?_)
          have hN : MW ct AM L (xMspr X Y p1 p2) Y f := by
            (try simp only [xMspr, if_neg c_2, if_neg c_5, if_pos c_6, if_pos c_8])
            exact hM
          exact W.vret hx hb hret (fun t ht hW => ⟨⟨f, rfl, hN, by rw [ht]; exact hP, va_K.moved hW.alike hK, hD⟩, hS.F ht⟩) hS.2.2 d_Mo_sprinkler_55
      · refine lv_iconst (v := 2) hx hb d_Mo_sprinkler_33 (by decide) ?_
        refine lv_goto (tgt := 38) hx hb d_Mo_sprinkler_34 (by decide) ?_
        refine pg_put (C := "SmokeZonesModel") (T := T_Mo) (N := 47) (ty := .int) hx hb hG in_Mo ty_Mo ok_Mo nm_Mo hown hK hP hD hS hM.1.1 hM.1.2 rfl 0 (by decide) (hG _ k621) (fun _ h9 => h9) rfl (by decide +kernel) rfl rfl (Nat.le_of_ble_eq_true rfl) d_Mo_sprinkler_38 (fun H locs hP hD hS => ?_)
        have hM := hM.putX (j := 0) (v := 2) rfl moF_0
        generalize va_up _ (AM 100) _ = f at hM hP hD
        refine lv_aload_n hx hb d_Mo_sprinkler_41 rfl (lv_at hl 0 rfl) ?_
        refine pg_get (C := "SmokeZonesModel") (T := T_Mo) (N := 47) hx hb hG in_Mo hown hK hP hM.1.1 hM.1.2 rfl 0 (by decide) (hG _ k621) (fun _ h9 => h9) rfl d_Mo_sprinkler_42 ?_
        refine lv_topi (fun y_9 ey_9 => ?_)
        obtain rfl : y_9 = 2 := ey_9.trans (by simp [up2])
        refine lv_if_ne (tgt := 55) hx hb d_Mo_sprinkler_45 (by decide) (fun c_10 => ?_) (fun c_10 => ?_)
        · have hN : MW ct AM L (xMspr X Y p1 p2) Y f := by
            (try simp only [xMspr, if_neg c_2, if_neg c_5, if_neg c_6, if_neg c_10])
            exact hM
          exact W.vret hx hb hret (fun t ht hW => ⟨⟨f, rfl, hN, by rw [ht]; exact hP, va_K.moved hW.alike hK, hD⟩, hS.F ht⟩) hS.2.2 d_Mo_sprinkler_55
        · exact absurd c_10 (by decide)
    · refine lv_iconst (v := 1) hx hb d_Mo_sprinkler_20 (by decide) ?_
      refine lv_goto (tgt := 38) hx hb d_Mo_sprinkler_21 (by decide) ?_
      refine pg_put (C := "SmokeZonesModel") (T := T_Mo) (N := 47) (ty := .int) hx hb hG in_Mo ty_Mo ok_Mo nm_Mo hown hK hP hD hS hM.1.1 hM.1.2 rfl 0 (by decide) (hG _ k621) (fun _ h9 => h9) rfl (by decide +kernel) rfl rfl (Nat.le_of_ble_eq_true rfl) d_Mo_sprinkler_38 (fun H locs hP hD hS => ?_)
      have hM := hM.putX (j := 0) (v := 1) rfl moF_0
      generalize va_up _ (AM 100) _ = f at hM hP hD
      refine lv_aload_n hx hb d_Mo_sprinkler_41 rfl (lv_at hl 0 rfl) ?_
      refine pg_get (C := "SmokeZonesModel") (T := T_Mo) (N := 47) hx hb hG in_Mo hown hK hP hM.1.1 hM.1.2 rfl 0 (by decide) (hG _ k621) (fun _ h9 => h9) rfl d_Mo_sprinkler_42 ?_
      refine lv_topi (fun y_11 ey_11 => ?_)
      obtain rfl : y_11 = 1 := ey_11.trans (by simp [up2])
      refine lv_if_ne (tgt := 55) hx hb d_Mo_sprinkler_45 (by decide) (fun c_12 => ?_) (fun c_12 => ?_)
      · have hN : MW ct AM L (xMspr X Y p1 p2) Y f := by
          (try simp only [xMspr, if_neg c_2, if_pos c_5, if_neg c_12])
          exact hM
        exact W.vret hx hb hret (fun t ht hW => ⟨⟨f, rfl, hN, by rw [ht]; exact hP, va_K.moved hW.alike hK, hD⟩, hS.F ht⟩) hS.2.2 d_Mo_sprinkler_55
      · exact absurd c_12 (by decide)

def vMfire (X : I2) (Y : J2) (p1 p2 p3 p4 p5 : Int32) : Int32 := (if (m_in p1 0 ((X 2 0) - 1)) = 0 then 0 else (if (m_in p2 (X 1 0) 100000) = 0 then 0 else (if (m_in p3 1 1000) = 0 then 0 else (if (m_in p4 1 100000) = 0 then 0 else (if (m_in p5 0 1000) = 0 then 0 else (if (X 21 0) = 5 then 0 else ((X 21 0) + 1) - 1))))))
def xMfire (X : I2) (Y : J2) (p1 p2 p3 p4 p5 : Int32) : I2 := (if (m_in p1 0 ((X 2 0) - 1)) = 0 then up2 X 0 0 1 else (if (m_in p2 (X 1 0) 100000) = 0 then up2 X 0 0 1 else (if (m_in p3 1 1000) = 0 then up2 X 0 0 1 else (if (m_in p4 1 100000) = 0 then up2 X 0 0 1 else (if (m_in p5 0 1000) = 0 then up2 X 0 0 1 else (if (X 21 0) = 5 then up2 X 0 0 2 else up2 (up2 (up2 (up2 (up2 (up2 (up2 X 0 0 0) 22 (Int32.toNatClampNeg (X 21 0)) p1) 23 (Int32.toNatClampNeg (X 21 0)) p2) 24 (Int32.toNatClampNeg (X 21 0)) p3) 25 (Int32.toNatClampNeg (X 21 0)) p4) 26 (Int32.toNatClampNeg (X 21 0)) p5) 21 0 ((X 21 0) + 1)))))))
set_option maxHeartbeats 4000000 in
set_option maxRecDepth 100000 in
theorem c_Mo_fire {l : Launch} {D : va_G} {ct : Nat → ClassId} {AM : Nat → Nat} {L : List Nat} {f : Nat → va_E} {X : I2} {Y : J2} {sz : Nat} {p1 p2 p3 p4 p5 : Int32} {n2 : Nat} (hM : MW ct AM L X Y f) (h21 : X 21 0 = nI n2) (hc21 : n2 ≤ 5) : Met l y_Mo_fire (WS y_Mo_fire b_Mo_fire 7 (some .int)) { frames := 2, cells := 0, slots := 0, locals := 43 } (va_Pc [.ref (AM 100), .int p1, .int p2, .int p3, .int p4, .int p5] (WP D (TYS ct) L f sz)) (va_Qi (fun (r : Int32) f' => r = vMfire X Y p1 p2 p3 p4 p5 ∧ MW ct AM L (xMfire X Y p1 p2 p3 p4 p5) Y f') (fun f' t => WQ D (TYS ct) L f' (AA L f sz) t) (AA L f sz)) 0 0 (AA L f sz) := by
  refine Met.ofW (cc := b_Mo_fire) (maxL := 7) (ret := (some .int)) (by decide) rfl ?_
  intro p e s m args below meth c s₁ B hml hv
  obtain ⟨rfl, hsz, hP, hK, hD0⟩ := hv
  subst hsz
  have hx := B.exec
  have hb := B.bytes
  have hret := B.returns
  have hts := atoms_spec (ws := WS y_Mo_fire b_Mo_fire 7 (some .int)) B.pre
  have hG : ∀ w ∈ GW, w.before _ s = true := fun w h => hts w (List.mem_cons_of_mem _ h)
  have hown : s.vm.findClass "SmokeZonesModel" = some m.cls := findClass_of_methodNamed B.named
  have hlocks := B.notSynchronized
  have hD : va_D (AA L f s.heap.size) (va_pl L f) := hD0.self (sz := s.heap.size)
  generalize hAe : AA L f s.heap.size = A at hD ⊢
  have hA : ∀ q : Nat, s.heap.size ≤ q → A q := fun q h => by rw [← hAe]; exact Or.inr h
  have hS : va_S A s.heap s.heap [] := va_S.rf
  have hl := lv_entry ([.ref (AM 100), .int p1, .int p2, .int p3, .int p4, .int p5]) (n := 7) (Nat.le_of_ble_eq_true rfl)
  rw [lg_entry_eq]
  generalize (lg_sl ([.ref (AM 100), .int p1, .int p2, .int p3, .int p4, .int p5]) ++ List.replicate (7 - (lg_sl ([.ref (AM 100), .int p1, .int p2, .int p3, .int p4, .int p5])).length) Slot.unset).toArray = ls at hl ⊢
  have hl : lv_has ls 7 [(0, .ref (AM 100)), (1, .int p1), (2, .int p2), (3, .int p3), (4, .int p4), (5, .int p5)] := hl
  refine lv_aload_n hx hb d_Mo_fire_0 rfl (lv_at hl 0 rfl) ?_
  refine lv_iload_n hx hb d_Mo_fire_1 rfl (lv_at hl 1 rfl) ?_
  refine kV_ri ⟨hx, hb, hml, hown, hG⟩ (c_Mo_isRoom hM) (cwV 1 hG (gV k780 k782 ks_Mo_isRoom k2 k783) rfl rfl rfl hd_Mo_isRoom ⟨Nat.le_of_ble_eq_true rfl, Nat.le_of_ble_eq_true rfl⟩) hK hP hS hM.1.1 hM.1.2 rfl rfl hl.1 rfl (Nat.le_of_ble_eq_true rfl) ⟨Nat.le_of_ble_eq_true rfl, Nat.le_of_ble_eq_true rfl⟩ d_Mo_fire_2 (fun locs hS => ?_)
  refine lv_topi (fun y_1 ey_1 => ?_)
  obtain rfl : y_1 = m_in p1 0 ((X 2 0) - 1) := ey_1.trans (by simp [up2])
  refine lv_if_eq (tgt := 59) hx hb d_Mo_fire_5 (by decide) (fun c_2 => ?_) (fun c_2 => ?_)
  · refine lv_iconst (v := 0) hx hb d_Mo_fire_59 (by decide) ?_
    refine lv_istore (lv' := [(6, .int 0), (0, .ref (AM 100)), (1, .int p1), (2, .int p2), (3, .int p3), (4, .int p4), (5, .int p5)]) hx hb d_Mo_fire_60 hl (by decide) rfl (fun ls hl => ?_)
    refine lv_aload_n hx hb d_Mo_fire_62 rfl (lv_at hl 1 rfl) ?_
    refine lv_iload hx hb d_Mo_fire_63 (lv_at hl 0 rfl) ?_
    refine lv_if_ne (tgt := 72) hx hb d_Mo_fire_65 (by decide) (fun c_3 => ?_) (fun c_3 => ?_)
    · exact absurd (by decide) c_3
    · refine lv_iconst (v := 1) hx hb d_Mo_fire_68 (by decide) ?_
      refine lv_goto (tgt := 85) hx hb d_Mo_fire_69 (by decide) ?_
      refine pg_put (C := "SmokeZonesModel") (T := T_Mo) (N := 47) (ty := .int) hx hb hG in_Mo ty_Mo ok_Mo nm_Mo hown hK hP hD hS hM.1.1 hM.1.2 rfl 0 (by decide) (hG _ k621) (fun _ h9 => h9) rfl (by decide +kernel) rfl rfl (Nat.le_of_ble_eq_true rfl) d_Mo_fire_85 (fun H locs hP hD hS => ?_)
      have hM := hM.putX (j := 0) (v := 1) rfl moF_0
      generalize va_up _ (AM 100) _ = f at hM hP hD
      refine lv_aload_n hx hb d_Mo_fire_88 rfl (lv_at hl 1 rfl) ?_
      refine pg_get (C := "SmokeZonesModel") (T := T_Mo) (N := 47) hx hb hG in_Mo hown hK hP hM.1.1 hM.1.2 rfl 0 (by decide) (hG _ k621) (fun _ h9 => h9) rfl d_Mo_fire_89 ?_
      refine lv_topi (fun y_4 ey_4 => ?_)
      obtain rfl : y_4 = 1 := ey_4.trans (by simp [up2])
      refine lv_if_le (tgt := 97) hx hb d_Mo_fire_92 (by decide) (fun c_5 => ?_) (fun c_5 => ?_)
      · exact absurd c_5 (by decide)
      · refine lv_iconst (v := 0) hx hb d_Mo_fire_95 (by decide) ?_
        have hN : MW ct AM L (xMfire X Y p1 p2 p3 p4 p5) Y f := by
          (try simp only [vMfire, xMfire, if_pos c_2, if_pos c_3, if_neg c_5])
          exact hM
        exact W.iret hx hb hret (fun t ht hW => ⟨⟨_, f, rfl, ⟨(by simp only [vMfire, xMfire, if_pos c_2, if_pos c_3, if_neg c_5]), hN⟩, by rw [ht]; exact hP, va_K.moved hW.alike hK, hD⟩, hS.F ht⟩) hS.2.2 d_Mo_fire_96
  · refine lv_iload_n hx hb d_Mo_fire_8 rfl (lv_at hl 2 rfl) ?_
    refine lv_aload_n hx hb d_Mo_fire_9 rfl (lv_at hl 0 rfl) ?_
    refine pg_get (C := "SmokeZonesModel") (T := T_Mo) (N := 47) hx hb hG in_Mo hown hK hP hM.1.1 hM.1.2 rfl 1 (by decide) (hG _ k622) (fun _ h9 => h9) rfl d_Mo_fire_10 ?_
    refine lv_ldc hx hb hown (hG _ k796) d_Mo_fire_13 ?_
    refine kS_ri ⟨hx, hb, hml, hown, hG⟩ (c_Mo_in ) (cwS 3 hG (gS k773 k774 k2 k775) rfl rfl rfl hd_Mo_in ⟨Nat.le_of_ble_eq_true rfl, Nat.le_of_ble_eq_true rfl⟩) hK hP hS rfl hl.1 rfl (Nat.le_of_ble_eq_true rfl) ⟨Nat.le_of_ble_eq_true rfl, Nat.le_of_ble_eq_true rfl⟩ d_Mo_fire_15 (fun locs hS => ?_)
    refine lv_if_eq (tgt := 59) hx hb d_Mo_fire_18 (by decide) (fun c_6 => ?_) (fun c_6 => ?_)
    · refine lv_iconst (v := 0) hx hb d_Mo_fire_59 (by decide) ?_
      refine lv_istore (lv' := [(6, .int 0), (0, .ref (AM 100)), (1, .int p1), (2, .int p2), (3, .int p3), (4, .int p4), (5, .int p5)]) hx hb d_Mo_fire_60 hl (by decide) rfl (fun ls hl => ?_)
      refine lv_aload_n hx hb d_Mo_fire_62 rfl (lv_at hl 1 rfl) ?_
      refine lv_iload hx hb d_Mo_fire_63 (lv_at hl 0 rfl) ?_
      refine lv_if_ne (tgt := 72) hx hb d_Mo_fire_65 (by decide) (fun c_7 => ?_) (fun c_7 => ?_)
      · exact absurd (by decide) c_7
      · refine lv_iconst (v := 1) hx hb d_Mo_fire_68 (by decide) ?_
        refine lv_goto (tgt := 85) hx hb d_Mo_fire_69 (by decide) ?_
        refine pg_put (C := "SmokeZonesModel") (T := T_Mo) (N := 47) (ty := .int) hx hb hG in_Mo ty_Mo ok_Mo nm_Mo hown hK hP hD hS hM.1.1 hM.1.2 rfl 0 (by decide) (hG _ k621) (fun _ h9 => h9) rfl (by decide +kernel) rfl rfl (Nat.le_of_ble_eq_true rfl) d_Mo_fire_85 (fun H locs hP hD hS => ?_)
        have hM := hM.putX (j := 0) (v := 1) rfl moF_0
        generalize va_up _ (AM 100) _ = f at hM hP hD
        refine lv_aload_n hx hb d_Mo_fire_88 rfl (lv_at hl 1 rfl) ?_
        refine pg_get (C := "SmokeZonesModel") (T := T_Mo) (N := 47) hx hb hG in_Mo hown hK hP hM.1.1 hM.1.2 rfl 0 (by decide) (hG _ k621) (fun _ h9 => h9) rfl d_Mo_fire_89 ?_
        refine lv_topi (fun y_8 ey_8 => ?_)
        obtain rfl : y_8 = 1 := ey_8.trans (by simp [up2])
        refine lv_if_le (tgt := 97) hx hb d_Mo_fire_92 (by decide) (fun c_9 => ?_) (fun c_9 => ?_)
        · exact absurd c_9 (by decide)
        · refine lv_iconst (v := 0) hx hb d_Mo_fire_95 (by decide) ?_
          have hN : MW ct AM L (xMfire X Y p1 p2 p3 p4 p5) Y f := by
            (try simp only [vMfire, xMfire, if_neg c_2, if_pos c_6, if_pos c_7, if_neg c_9])
            exact hM
          exact W.iret hx hb hret (fun t ht hW => ⟨⟨_, f, rfl, ⟨(by simp only [vMfire, xMfire, if_neg c_2, if_pos c_6, if_pos c_7, if_neg c_9]), hN⟩, by rw [ht]; exact hP, va_K.moved hW.alike hK, hD⟩, hS.F ht⟩) hS.2.2 d_Mo_fire_96
    · refine lv_iload_n hx hb d_Mo_fire_21 rfl (lv_at hl 3 rfl) ?_
      refine lv_iconst (v := 1) hx hb d_Mo_fire_22 (by decide) ?_
      refine lv_sipush (v := 1000) hx hb d_Mo_fire_23 (by decide) ?_
      refine kS_ri ⟨hx, hb, hml, hown, hG⟩ (c_Mo_in ) (cwS 3 hG (gS k773 k774 k2 k775) rfl rfl rfl hd_Mo_in ⟨Nat.le_of_ble_eq_true rfl, Nat.le_of_ble_eq_true rfl⟩) hK hP hS rfl hl.1 rfl (Nat.le_of_ble_eq_true rfl) ⟨Nat.le_of_ble_eq_true rfl, Nat.le_of_ble_eq_true rfl⟩ d_Mo_fire_26 (fun locs hS => ?_)
      refine lv_if_eq (tgt := 59) hx hb d_Mo_fire_29 (by decide) (fun c_10 => ?_) (fun c_10 => ?_)
      · refine lv_iconst (v := 0) hx hb d_Mo_fire_59 (by decide) ?_
        refine lv_istore (lv' := [(6, .int 0), (0, .ref (AM 100)), (1, .int p1), (2, .int p2), (3, .int p3), (4, .int p4), (5, .int p5)]) hx hb d_Mo_fire_60 hl (by decide) rfl (fun ls hl => ?_)
        refine lv_aload_n hx hb d_Mo_fire_62 rfl (lv_at hl 1 rfl) ?_
        refine lv_iload hx hb d_Mo_fire_63 (lv_at hl 0 rfl) ?_
        refine lv_if_ne (tgt := 72) hx hb d_Mo_fire_65 (by decide) (fun c_11 => ?_) (fun c_11 => ?_)
        · exact absurd (by decide) c_11
        · refine lv_iconst (v := 1) hx hb d_Mo_fire_68 (by decide) ?_
          refine lv_goto (tgt := 85) hx hb d_Mo_fire_69 (by decide) ?_
          refine pg_put (C := "SmokeZonesModel") (T := T_Mo) (N := 47) (ty := .int) hx hb hG in_Mo ty_Mo ok_Mo nm_Mo hown hK hP hD hS hM.1.1 hM.1.2 rfl 0 (by decide) (hG _ k621) (fun _ h9 => h9) rfl (by decide +kernel) rfl rfl (Nat.le_of_ble_eq_true rfl) d_Mo_fire_85 (fun H locs hP hD hS => ?_)
          have hM := hM.putX (j := 0) (v := 1) rfl moF_0
          generalize va_up _ (AM 100) _ = f at hM hP hD
          refine lv_aload_n hx hb d_Mo_fire_88 rfl (lv_at hl 1 rfl) ?_
          refine pg_get (C := "SmokeZonesModel") (T := T_Mo) (N := 47) hx hb hG in_Mo hown hK hP hM.1.1 hM.1.2 rfl 0 (by decide) (hG _ k621) (fun _ h9 => h9) rfl d_Mo_fire_89 ?_
          refine lv_topi (fun y_12 ey_12 => ?_)
          obtain rfl : y_12 = 1 := ey_12.trans (by simp [up2])
          refine lv_if_le (tgt := 97) hx hb d_Mo_fire_92 (by decide) (fun c_13 => ?_) (fun c_13 => ?_)
          · exact absurd c_13 (by decide)
          · refine lv_iconst (v := 0) hx hb d_Mo_fire_95 (by decide) ?_
            have hN : MW ct AM L (xMfire X Y p1 p2 p3 p4 p5) Y f := by
              (try simp only [vMfire, xMfire, if_neg c_2, if_neg c_6, if_pos c_10, if_pos c_11, if_neg c_13])
              exact hM
            exact W.iret hx hb hret (fun t ht hW => ⟨⟨_, f, rfl, ⟨(by simp only [vMfire, xMfire, if_neg c_2, if_neg c_6, if_pos c_10, if_pos c_11, if_neg c_13]), hN⟩, by rw [ht]; exact hP, va_K.moved hW.alike hK, hD⟩, hS.F ht⟩) hS.2.2 d_Mo_fire_96
      · refine lv_iload hx hb d_Mo_fire_32 (lv_at hl 4 rfl) ?_
        refine lv_iconst (v := 1) hx hb d_Mo_fire_34 (by decide) ?_
        refine lv_ldc hx hb hown (hG _ k796) d_Mo_fire_35 ?_
        refine kS_ri ⟨hx, hb, hml, hown, hG⟩ (c_Mo_in ) (cwS 3 hG (gS k773 k774 k2 k775) rfl rfl rfl hd_Mo_in ⟨Nat.le_of_ble_eq_true rfl, Nat.le_of_ble_eq_true rfl⟩) hK hP hS rfl hl.1 rfl (Nat.le_of_ble_eq_true rfl) ⟨Nat.le_of_ble_eq_true rfl, Nat.le_of_ble_eq_true rfl⟩ d_Mo_fire_37 (fun locs hS => ?_)
        refine lv_if_eq (tgt := 59) hx hb d_Mo_fire_40 (by decide) (fun c_14 => ?_) (fun c_14 => ?_)
        · refine lv_iconst (v := 0) hx hb d_Mo_fire_59 (by decide) ?_
          refine lv_istore (lv' := [(6, .int 0), (0, .ref (AM 100)), (1, .int p1), (2, .int p2), (3, .int p3), (4, .int p4), (5, .int p5)]) hx hb d_Mo_fire_60 hl (by decide) rfl (fun ls hl => ?_)
          refine lv_aload_n hx hb d_Mo_fire_62 rfl (lv_at hl 1 rfl) ?_
          refine lv_iload hx hb d_Mo_fire_63 (lv_at hl 0 rfl) ?_
          refine lv_if_ne (tgt := 72) hx hb d_Mo_fire_65 (by decide) (fun c_15 => ?_) (fun c_15 => ?_)
          · exact absurd (by decide) c_15
          · refine lv_iconst (v := 1) hx hb d_Mo_fire_68 (by decide) ?_
            refine lv_goto (tgt := 85) hx hb d_Mo_fire_69 (by decide) ?_
            refine pg_put (C := "SmokeZonesModel") (T := T_Mo) (N := 47) (ty := .int) hx hb hG in_Mo ty_Mo ok_Mo nm_Mo hown hK hP hD hS hM.1.1 hM.1.2 rfl 0 (by decide) (hG _ k621) (fun _ h9 => h9) rfl (by decide +kernel) rfl rfl (Nat.le_of_ble_eq_true rfl) d_Mo_fire_85 (fun H locs hP hD hS => ?_)
            have hM := hM.putX (j := 0) (v := 1) rfl moF_0
            generalize va_up _ (AM 100) _ = f at hM hP hD
            refine lv_aload_n hx hb d_Mo_fire_88 rfl (lv_at hl 1 rfl) ?_
            refine pg_get (C := "SmokeZonesModel") (T := T_Mo) (N := 47) hx hb hG in_Mo hown hK hP hM.1.1 hM.1.2 rfl 0 (by decide) (hG _ k621) (fun _ h9 => h9) rfl d_Mo_fire_89 ?_
            refine lv_topi (fun y_16 ey_16 => ?_)
            obtain rfl : y_16 = 1 := ey_16.trans (by simp [up2])
            refine lv_if_le (tgt := 97) hx hb d_Mo_fire_92 (by decide) (fun c_17 => ?_) (fun c_17 => ?_)
            · exact absurd c_17 (by decide)
            · refine lv_iconst (v := 0) hx hb d_Mo_fire_95 (by decide) ?_
              have hN : MW ct AM L (xMfire X Y p1 p2 p3 p4 p5) Y f := by
                (try simp only [vMfire, xMfire, if_neg c_2, if_neg c_6, if_neg c_10, if_pos c_14, if_pos c_15, if_neg c_17])
                exact hM
              exact W.iret hx hb hret (fun t ht hW => ⟨⟨_, f, rfl, ⟨(by simp only [vMfire, xMfire, if_neg c_2, if_neg c_6, if_neg c_10, if_pos c_14, if_pos c_15, if_neg c_17]), hN⟩, by rw [ht]; exact hP, va_K.moved hW.alike hK, hD⟩, hS.F ht⟩) hS.2.2 d_Mo_fire_96
        · refine lv_iload hx hb d_Mo_fire_43 (lv_at hl 5 rfl) ?_
          refine lv_iconst (v := 0) hx hb d_Mo_fire_45 (by decide) ?_
          refine lv_sipush (v := 1000) hx hb d_Mo_fire_46 (by decide) ?_
          refine kS_ri ⟨hx, hb, hml, hown, hG⟩ (c_Mo_in ) (cwS 3 hG (gS k773 k774 k2 k775) rfl rfl rfl hd_Mo_in ⟨Nat.le_of_ble_eq_true rfl, Nat.le_of_ble_eq_true rfl⟩) hK hP hS rfl hl.1 rfl (Nat.le_of_ble_eq_true rfl) ⟨Nat.le_of_ble_eq_true rfl, Nat.le_of_ble_eq_true rfl⟩ d_Mo_fire_49 (fun locs hS => ?_)
          refine lv_if_eq (tgt := 59) hx hb d_Mo_fire_52 (by decide) (fun c_18 => ?_) (fun c_18 => ?_)
          · refine lv_iconst (v := 0) hx hb d_Mo_fire_59 (by decide) ?_
            refine lv_istore (lv' := [(6, .int 0), (0, .ref (AM 100)), (1, .int p1), (2, .int p2), (3, .int p3), (4, .int p4), (5, .int p5)]) hx hb d_Mo_fire_60 hl (by decide) rfl (fun ls hl => ?_)
            refine lv_aload_n hx hb d_Mo_fire_62 rfl (lv_at hl 1 rfl) ?_
            refine lv_iload hx hb d_Mo_fire_63 (lv_at hl 0 rfl) ?_
            refine lv_if_ne (tgt := 72) hx hb d_Mo_fire_65 (by decide) (fun c_19 => ?_) (fun c_19 => ?_)
            · exact absurd (by decide) c_19
            · refine lv_iconst (v := 1) hx hb d_Mo_fire_68 (by decide) ?_
              refine lv_goto (tgt := 85) hx hb d_Mo_fire_69 (by decide) ?_
              refine pg_put (C := "SmokeZonesModel") (T := T_Mo) (N := 47) (ty := .int) hx hb hG in_Mo ty_Mo ok_Mo nm_Mo hown hK hP hD hS hM.1.1 hM.1.2 rfl 0 (by decide) (hG _ k621) (fun _ h9 => h9) rfl (by decide +kernel) rfl rfl (Nat.le_of_ble_eq_true rfl) d_Mo_fire_85 (fun H locs hP hD hS => ?_)
              have hM := hM.putX (j := 0) (v := 1) rfl moF_0
              generalize va_up _ (AM 100) _ = f at hM hP hD
              refine lv_aload_n hx hb d_Mo_fire_88 rfl (lv_at hl 1 rfl) ?_
              refine pg_get (C := "SmokeZonesModel") (T := T_Mo) (N := 47) hx hb hG in_Mo hown hK hP hM.1.1 hM.1.2 rfl 0 (by decide) (hG _ k621) (fun _ h9 => h9) rfl d_Mo_fire_89 ?_
              refine lv_topi (fun y_20 ey_20 => ?_)
              obtain rfl : y_20 = 1 := ey_20.trans (by simp [up2])
              refine lv_if_le (tgt := 97) hx hb d_Mo_fire_92 (by decide) (fun c_21 => ?_) (fun c_21 => ?_)
              · exact absurd c_21 (by decide)
              · refine lv_iconst (v := 0) hx hb d_Mo_fire_95 (by decide) ?_
                have hN : MW ct AM L (xMfire X Y p1 p2 p3 p4 p5) Y f := by
                  (try simp only [vMfire, xMfire, if_neg c_2, if_neg c_6, if_neg c_10, if_neg c_14, if_pos c_18, if_pos c_19, if_neg c_21])
                  exact hM
                exact W.iret hx hb hret (fun t ht hW => ⟨⟨_, f, rfl, ⟨(by simp only [vMfire, xMfire, if_neg c_2, if_neg c_6, if_neg c_10, if_neg c_14, if_pos c_18, if_pos c_19, if_neg c_21]), hN⟩, by rw [ht]; exact hP, va_K.moved hW.alike hK, hD⟩, hS.F ht⟩) hS.2.2 d_Mo_fire_96
          · refine lv_iconst (v := 1) hx hb d_Mo_fire_55 (by decide) ?_
            refine lv_goto (tgt := 60) hx hb d_Mo_fire_56 (by decide) ?_
            refine lv_istore (lv' := [(6, .int 1), (0, .ref (AM 100)), (1, .int p1), (2, .int p2), (3, .int p3), (4, .int p4), (5, .int p5)]) hx hb d_Mo_fire_60 hl (by decide) rfl (fun ls hl => ?_)
            refine lv_aload_n hx hb d_Mo_fire_62 rfl (lv_at hl 1 rfl) ?_
            refine lv_iload hx hb d_Mo_fire_63 (lv_at hl 0 rfl) ?_
            refine lv_if_ne (tgt := 72) hx hb d_Mo_fire_65 (by decide) (fun c_22 => ?_) (fun c_22 => ?_)
            · refine lv_aload_n hx hb d_Mo_fire_72 rfl (lv_at hl 1 rfl) ?_
              refine pg_get (C := "SmokeZonesModel") (T := T_Mo) (N := 47) hx hb hG in_Mo hown hK hP hM.1.1 hM.1.2 rfl 21 (by decide) (hG _ k642) (fun _ h9 => h9) rfl d_Mo_fire_73 ?_
              refine lv_iconst (v := 5) hx hb d_Mo_fire_76 (by decide) ?_
              refine lv_icmp_ne (tgt := 84) hx hb d_Mo_fire_77 (by decide) (fun c_23 => ?_) (fun c_23 => ?_)
              · refine lv_iconst (v := 0) hx hb d_Mo_fire_84 (by decide) ?_
                refine pg_put (C := "SmokeZonesModel") (T := T_Mo) (N := 47) (ty := .int) hx hb hG in_Mo ty_Mo ok_Mo nm_Mo hown hK hP hD hS hM.1.1 hM.1.2 rfl 0 (by decide) (hG _ k621) (fun _ h9 => h9) rfl (by decide +kernel) rfl rfl (Nat.le_of_ble_eq_true rfl) d_Mo_fire_85 (fun H locs hP hD hS => ?_)
                have hM := hM.putX (j := 0) (v := 0) rfl moF_0
                generalize va_up _ (AM 100) _ = f at hM hP hD
                refine lv_aload_n hx hb d_Mo_fire_88 rfl (lv_at hl 1 rfl) ?_
                refine pg_get (C := "SmokeZonesModel") (T := T_Mo) (N := 47) hx hb hG in_Mo hown hK hP hM.1.1 hM.1.2 rfl 0 (by decide) (hG _ k621) (fun _ h9 => h9) rfl d_Mo_fire_89 ?_
                refine lv_topi (fun y_24 ey_24 => ?_)
                obtain rfl : y_24 = 0 := ey_24.trans (by simp [up2])
                refine lv_if_le (tgt := 97) hx hb d_Mo_fire_92 (by decide) (fun c_25 => ?_) (fun c_25 => ?_)
                · refine lv_aload_n hx hb d_Mo_fire_97 rfl (lv_at hl 1 rfl) ?_
                  refine pg_get (C := "SmokeZonesModel") (T := T_Mo) (N := 47) hx hb hG in_Mo hown hK hP hM.1.1 hM.1.2 rfl 22 (by decide) (hG _ k643) (fun _ h9 => h9) rfl d_Mo_fire_98 ?_
                  refine lv_aload_n hx hb d_Mo_fire_101 rfl (lv_at hl 1 rfl) ?_
                  refine pg_get (C := "SmokeZonesModel") (T := T_Mo) (N := 47) hx hb hG in_Mo hown hK hP hM.1.1 hM.1.2 rfl 21 (by decide) (hG _ k642) (fun _ h9 => h9) rfl d_Mo_fire_102 ?_
                  refine lv_topi (fun y_26 ey_26 => ?_)
                  obtain rfl : y_26 = X 21 0 := ey_26.trans (by simp [up2])
                  refine lv_iload_n hx hb d_Mo_fire_105 rfl (lv_at hl 2 rfl) ?_
                  refine mw_iast hx hb hK hP hD hS hM (j := 22) rfl (vin_ne h21 hc21 c_23) d_Mo_fire_106 (fun f H locs hM hP hD hS => ?_)
                  refine lv_aload_n hx hb d_Mo_fire_107 rfl (lv_at hl 1 rfl) ?_
                  refine pg_get (C := "SmokeZonesModel") (T := T_Mo) (N := 47) hx hb hG in_Mo hown hK hP hM.1.1 hM.1.2 rfl 23 (by decide) (hG _ k644) (fun _ h9 => h9) rfl d_Mo_fire_108 ?_
                  refine lv_aload_n hx hb d_Mo_fire_111 rfl (lv_at hl 1 rfl) ?_
                  refine pg_get (C := "SmokeZonesModel") (T := T_Mo) (N := 47) hx hb hG in_Mo hown hK hP hM.1.1 hM.1.2 rfl 21 (by decide) (hG _ k642) (fun _ h9 => h9) rfl d_Mo_fire_112 ?_
                  refine lv_topi (fun y_27 ey_27 => ?_)
                  obtain rfl : y_27 = X 21 0 := ey_27.trans (by simp [up2])
                  refine lv_iload_n hx hb d_Mo_fire_115 rfl (lv_at hl 3 rfl) ?_
                  refine mw_iast hx hb hK hP hD hS hM (j := 23) rfl (vin_ne h21 hc21 c_23) d_Mo_fire_116 (fun f H locs hM hP hD hS => ?_)
                  refine lv_aload_n hx hb d_Mo_fire_117 rfl (lv_at hl 1 rfl) ?_
                  refine pg_get (C := "SmokeZonesModel") (T := T_Mo) (N := 47) hx hb hG in_Mo hown hK hP hM.1.1 hM.1.2 rfl 24 (by decide) (hG _ k645) (fun _ h9 => h9) rfl d_Mo_fire_118 ?_
                  refine lv_aload_n hx hb d_Mo_fire_121 rfl (lv_at hl 1 rfl) ?_
                  refine pg_get (C := "SmokeZonesModel") (T := T_Mo) (N := 47) hx hb hG in_Mo hown hK hP hM.1.1 hM.1.2 rfl 21 (by decide) (hG _ k642) (fun _ h9 => h9) rfl d_Mo_fire_122 ?_
                  refine lv_topi (fun y_28 ey_28 => ?_)
                  obtain rfl : y_28 = X 21 0 := ey_28.trans (by simp [up2])
                  refine lv_iload_n hx hb d_Mo_fire_125 rfl (lv_at hl 4 rfl) ?_
                  refine mw_iast hx hb hK hP hD hS hM (j := 24) rfl (vin_ne h21 hc21 c_23) d_Mo_fire_126 (fun f H locs hM hP hD hS => ?_)
                  refine lv_aload_n hx hb d_Mo_fire_127 rfl (lv_at hl 1 rfl) ?_
                  refine pg_get (C := "SmokeZonesModel") (T := T_Mo) (N := 47) hx hb hG in_Mo hown hK hP hM.1.1 hM.1.2 rfl 25 (by decide) (hG _ k646) (fun _ h9 => h9) rfl d_Mo_fire_128 ?_
                  refine lv_aload_n hx hb d_Mo_fire_131 rfl (lv_at hl 1 rfl) ?_
                  refine pg_get (C := "SmokeZonesModel") (T := T_Mo) (N := 47) hx hb hG in_Mo hown hK hP hM.1.1 hM.1.2 rfl 21 (by decide) (hG _ k642) (fun _ h9 => h9) rfl d_Mo_fire_132 ?_
                  refine lv_topi (fun y_29 ey_29 => ?_)
                  obtain rfl : y_29 = X 21 0 := ey_29.trans (by simp [up2])
                  refine lv_iload hx hb d_Mo_fire_135 (lv_at hl 5 rfl) ?_
                  refine mw_iast hx hb hK hP hD hS hM (j := 25) rfl (vin_ne h21 hc21 c_23) d_Mo_fire_137 (fun f H locs hM hP hD hS => ?_)
                  refine lv_aload_n hx hb d_Mo_fire_138 rfl (lv_at hl 1 rfl) ?_
                  refine pg_get (C := "SmokeZonesModel") (T := T_Mo) (N := 47) hx hb hG in_Mo hown hK hP hM.1.1 hM.1.2 rfl 26 (by decide) (hG _ k647) (fun _ h9 => h9) rfl d_Mo_fire_139 ?_
                  refine lv_aload_n hx hb d_Mo_fire_142 rfl (lv_at hl 1 rfl) ?_
                  refine pg_get (C := "SmokeZonesModel") (T := T_Mo) (N := 47) hx hb hG in_Mo hown hK hP hM.1.1 hM.1.2 rfl 21 (by decide) (hG _ k642) (fun _ h9 => h9) rfl d_Mo_fire_143 ?_
                  refine lv_topi (fun y_30 ey_30 => ?_)
                  obtain rfl : y_30 = X 21 0 := ey_30.trans (by simp [up2])
                  refine lv_iload hx hb d_Mo_fire_146 (lv_at hl 6 rfl) ?_
                  refine mw_iast hx hb hK hP hD hS hM (j := 26) rfl (vin_ne h21 hc21 c_23) d_Mo_fire_148 (fun f H locs hM hP hD hS => ?_)
                  refine lv_aload_n hx hb d_Mo_fire_149 rfl (lv_at hl 1 rfl) ?_
                  refine lv_dup hx hb d_Mo_fire_150 rfl ?_
                  refine pg_get (C := "SmokeZonesModel") (T := T_Mo) (N := 47) hx hb hG in_Mo hown hK hP hM.1.1 hM.1.2 rfl 21 (by decide) (hG _ k642) (fun _ h9 => h9) rfl d_Mo_fire_151 ?_
                  refine lv_topi (fun y_31 ey_31 => ?_)
                  obtain rfl : y_31 = X 21 0 := ey_31.trans (by simp [up2])
                  refine lv_iconst (v := 1) hx hb d_Mo_fire_154 (by decide) ?_
                  refine lv_iadd hx hb d_Mo_fire_155 ?_
                  refine pg_put (C := "SmokeZonesModel") (T := T_Mo) (N := 47) (ty := .int) hx hb hG in_Mo ty_Mo ok_Mo nm_Mo hown hK hP hD hS hM.1.1 hM.1.2 rfl 21 (by decide) (hG _ k642) (fun _ h9 => h9) rfl (by decide +kernel) rfl rfl (Nat.le_of_ble_eq_true rfl) d_Mo_fire_156 (fun H locs hP hD hS => ?_)
                  have hM := hM.putX (j := 21) (v := (X 21 0) + 1) rfl moF_21
                  generalize va_up _ (AM 100) _ = f at hM hP hD
                  refine lv_aload_n hx hb d_Mo_fire_159 rfl (lv_at hl 1 rfl) ?_
                  refine pg_get (C := "SmokeZonesModel") (T := T_Mo) (N := 47) hx hb hG in_Mo hown hK hP hM.1.1 hM.1.2 rfl 21 (by decide) (hG _ k642) (fun _ h9 => h9) rfl d_Mo_fire_160 ?_
                  refine lv_topi (fun y_32 ey_32 => ?_)
                  obtain rfl : y_32 = (X 21 0) + 1 := ey_32.trans (by simp [up2])
                  refine lv_iconst (v := 1) hx hb d_Mo_fire_163 (by decide) ?_
                  refine lv_isub hx hb d_Mo_fire_164 ?_
                  have hN : MW ct AM L (xMfire X Y p1 p2 p3 p4 p5) Y f := by
                    (try simp only [vMfire, xMfire, if_neg c_2, if_neg c_6, if_neg c_10, if_neg c_14, if_neg c_18, if_neg c_22, if_neg c_23, if_pos c_25])
                    exact hM
                  exact W.iret hx hb hret (fun t ht hW => ⟨⟨_, f, rfl, ⟨(by simp only [vMfire, xMfire, if_neg c_2, if_neg c_6, if_neg c_10, if_neg c_14, if_neg c_18, if_neg c_22, if_neg c_23, if_pos c_25]), hN⟩, by rw [ht]; exact hP, va_K.moved hW.alike hK, hD⟩, hS.F ht⟩) hS.2.2 d_Mo_fire_165
                · exact absurd (by decide) c_25
              · refine lv_iconst (v := 2) hx hb d_Mo_fire_80 (by decide) ?_
                refine lv_goto (tgt := 85) hx hb d_Mo_fire_81 (by decide) ?_
                refine pg_put (C := "SmokeZonesModel") (T := T_Mo) (N := 47) (ty := .int) hx hb hG in_Mo ty_Mo ok_Mo nm_Mo hown hK hP hD hS hM.1.1 hM.1.2 rfl 0 (by decide) (hG _ k621) (fun _ h9 => h9) rfl (by decide +kernel) rfl rfl (Nat.le_of_ble_eq_true rfl) d_Mo_fire_85 (fun H locs hP hD hS => ?_)
                have hM := hM.putX (j := 0) (v := 2) rfl moF_0
                generalize va_up _ (AM 100) _ = f at hM hP hD
                refine lv_aload_n hx hb d_Mo_fire_88 rfl (lv_at hl 1 rfl) ?_
                refine pg_get (C := "SmokeZonesModel") (T := T_Mo) (N := 47) hx hb hG in_Mo hown hK hP hM.1.1 hM.1.2 rfl 0 (by decide) (hG _ k621) (fun _ h9 => h9) rfl d_Mo_fire_89 ?_
                refine lv_topi (fun y_33 ey_33 => ?_)
                obtain rfl : y_33 = 2 := ey_33.trans (by simp [up2])
                refine lv_if_le (tgt := 97) hx hb d_Mo_fire_92 (by decide) (fun c_34 => ?_) (fun c_34 => ?_)
                · exact absurd c_34 (by decide)
                · refine lv_iconst (v := 0) hx hb d_Mo_fire_95 (by decide) ?_
                  have hN : MW ct AM L (xMfire X Y p1 p2 p3 p4 p5) Y f := by
                    (try simp only [vMfire, xMfire, if_neg c_2, if_neg c_6, if_neg c_10, if_neg c_14, if_neg c_18, if_neg c_22, if_pos c_23, if_neg c_34])
                    exact hM
                  exact W.iret hx hb hret (fun t ht hW => ⟨⟨_, f, rfl, ⟨(by simp only [vMfire, xMfire, if_neg c_2, if_neg c_6, if_neg c_10, if_neg c_14, if_neg c_18, if_neg c_22, if_pos c_23, if_neg c_34]), hN⟩, by rw [ht]; exact hP, va_K.moved hW.alike hK, hD⟩, hS.F ht⟩) hS.2.2 d_Mo_fire_96
            · exact absurd c_22 (by decide)

def vMfan (X : I2) (Y : J2) (p1 p2 p3 : Int32) : Int32 := (if (m_in p1 0 ((X 2 0) - 1)) = 0 then 0 else (if (m_in p2 (X 1 0) 100000) = 0 then 0 else (if (m_in p3 1 100000) = 0 then 0 else (if (X 27 0) = 9 then 0 else ((X 27 0) + 1) - 1))))
def xMfan (X : I2) (Y : J2) (p1 p2 p3 : Int32) : I2 := (if (m_in p1 0 ((X 2 0) - 1)) = 0 then up2 X 0 0 1 else (if (m_in p2 (X 1 0) 100000) = 0 then up2 X 0 0 1 else (if (m_in p3 1 100000) = 0 then up2 X 0 0 1 else (if (X 27 0) = 9 then up2 X 0 0 2 else up2 (up2 (up2 (up2 (up2 X 0 0 0) 28 (Int32.toNatClampNeg (X 27 0)) p1) 29 (Int32.toNatClampNeg (X 27 0)) p2) 30 (Int32.toNatClampNeg (X 27 0)) p3) 27 0 ((X 27 0) + 1)))))
set_option maxHeartbeats 4000000 in
set_option maxRecDepth 100000 in
theorem c_Mo_fan {l : Launch} {D : va_G} {ct : Nat → ClassId} {AM : Nat → Nat} {L : List Nat} {f : Nat → va_E} {X : I2} {Y : J2} {sz : Nat} {p1 p2 p3 : Int32} {n3 : Nat} (hM : MW ct AM L X Y f) (h27 : X 27 0 = nI n3) (hc27 : n3 ≤ 9) : Met l y_Mo_fan (WS y_Mo_fan b_Mo_fan 4 (some .int)) { frames := 2, cells := 0, slots := 0, locals := 43 } (va_Pc [.ref (AM 100), .int p1, .int p2, .int p3] (WP D (TYS ct) L f sz)) (va_Qi (fun (r : Int32) f' => r = vMfan X Y p1 p2 p3 ∧ MW ct AM L (xMfan X Y p1 p2 p3) Y f') (fun f' t => WQ D (TYS ct) L f' (AA L f sz) t) (AA L f sz)) 0 0 (AA L f sz) := by
  refine Met.ofW (cc := b_Mo_fan) (maxL := 4) (ret := (some .int)) (by decide) rfl ?_
  intro p e s m args below meth c s₁ B hml hv
  obtain ⟨rfl, hsz, hP, hK, hD0⟩ := hv
  subst hsz
  have hx := B.exec
  have hb := B.bytes
  have hret := B.returns
  have hts := atoms_spec (ws := WS y_Mo_fan b_Mo_fan 4 (some .int)) B.pre
  have hG : ∀ w ∈ GW, w.before _ s = true := fun w h => hts w (List.mem_cons_of_mem _ h)
  have hown : s.vm.findClass "SmokeZonesModel" = some m.cls := findClass_of_methodNamed B.named
  have hlocks := B.notSynchronized
  have hD : va_D (AA L f s.heap.size) (va_pl L f) := hD0.self (sz := s.heap.size)
  generalize hAe : AA L f s.heap.size = A at hD ⊢
  have hA : ∀ q : Nat, s.heap.size ≤ q → A q := fun q h => by rw [← hAe]; exact Or.inr h
  have hS : va_S A s.heap s.heap [] := va_S.rf
  have hl := lv_entry ([.ref (AM 100), .int p1, .int p2, .int p3]) (n := 4) (Nat.le_of_ble_eq_true rfl)
  rw [lg_entry_eq]
  generalize (lg_sl ([.ref (AM 100), .int p1, .int p2, .int p3]) ++ List.replicate (4 - (lg_sl ([.ref (AM 100), .int p1, .int p2, .int p3])).length) Slot.unset).toArray = ls at hl ⊢
  have hl : lv_has ls 4 [(0, .ref (AM 100)), (1, .int p1), (2, .int p2), (3, .int p3)] := hl
  refine lv_aload_n hx hb d_Mo_fan_0 rfl (lv_at hl 0 rfl) ?_
  refine lv_aload_n hx hb d_Mo_fan_1 rfl (lv_at hl 0 rfl) ?_
  refine lv_iload_n hx hb d_Mo_fan_2 rfl (lv_at hl 1 rfl) ?_
  refine kV_ri ⟨hx, hb, hml, hown, hG⟩ (c_Mo_isRoom hM) (cwV 1 hG (gV k780 k782 ks_Mo_isRoom k2 k783) rfl rfl rfl hd_Mo_isRoom ⟨Nat.le_of_ble_eq_true rfl, Nat.le_of_ble_eq_true rfl⟩) hK hP hS hM.1.1 hM.1.2 rfl rfl hl.1 rfl (Nat.le_of_ble_eq_true rfl) ⟨Nat.le_of_ble_eq_true rfl, Nat.le_of_ble_eq_true rfl⟩ d_Mo_fan_3 (fun locs hS => ?_)
  refine lv_topi (fun y_1 ey_1 => ?_)
  obtain rfl : y_1 = m_in p1 0 ((X 2 0) - 1) := ey_1.trans (by simp [up2])
  refine lv_if_eq (tgt := 32) hx hb d_Mo_fan_6 (by decide) (fun c_2 => ?_) (fun c_2 => ?_)
  · refine lv_iconst (v := 1) hx hb d_Mo_fan_32 (by decide) ?_
    refine lv_goto (tgt := 50) hx hb d_Mo_fan_33 (by decide) ?_
    refine pg_put (C := "SmokeZonesModel") (T := T_Mo) (N := 47) (ty := .int) hx hb hG in_Mo ty_Mo ok_Mo nm_Mo hown hK hP hD hS hM.1.1 hM.1.2 rfl 0 (by decide) (hG _ k621) (fun _ h9 => h9) rfl (by decide +kernel) rfl rfl (Nat.le_of_ble_eq_true rfl) d_Mo_fan_50 (fun H locs hP hD hS => ?_)
    have hM := hM.putX (j := 0) (v := 1) rfl moF_0
    generalize va_up _ (AM 100) _ = f at hM hP hD
    refine lv_aload_n hx hb d_Mo_fan_53 rfl (lv_at hl 0 rfl) ?_
    refine pg_get (C := "SmokeZonesModel") (T := T_Mo) (N := 47) hx hb hG in_Mo hown hK hP hM.1.1 hM.1.2 rfl 0 (by decide) (hG _ k621) (fun _ h9 => h9) rfl d_Mo_fan_54 ?_
    refine lv_topi (fun y_3 ey_3 => ?_)
    obtain rfl : y_3 = 1 := ey_3.trans (by simp [up2])
    refine lv_if_le (tgt := 62) hx hb d_Mo_fan_57 (by decide) (fun c_4 => ?_) (fun c_4 => ?_)
    · exact absurd c_4 (by decide)
    · refine lv_iconst (v := 0) hx hb d_Mo_fan_60 (by decide) ?_
      have hN : MW ct AM L (xMfan X Y p1 p2 p3) Y f := by
        (try simp only [vMfan, xMfan, if_pos c_2, if_neg c_4])
        exact hM
      exact W.iret hx hb hret (fun t ht hW => ⟨⟨_, f, rfl, ⟨(by simp only [vMfan, xMfan, if_pos c_2, if_neg c_4]), hN⟩, by rw [ht]; exact hP, va_K.moved hW.alike hK, hD⟩, hS.F ht⟩) hS.2.2 d_Mo_fan_61
  · refine lv_iload_n hx hb d_Mo_fan_9 rfl (lv_at hl 2 rfl) ?_
    refine lv_aload_n hx hb d_Mo_fan_10 rfl (lv_at hl 0 rfl) ?_
    refine pg_get (C := "SmokeZonesModel") (T := T_Mo) (N := 47) hx hb hG in_Mo hown hK hP hM.1.1 hM.1.2 rfl 1 (by decide) (hG _ k622) (fun _ h9 => h9) rfl d_Mo_fan_11 ?_
    refine lv_ldc hx hb hown (hG _ k796) d_Mo_fan_14 ?_
    refine kS_ri ⟨hx, hb, hml, hown, hG⟩ (c_Mo_in ) (cwS 3 hG (gS k773 k774 k2 k775) rfl rfl rfl hd_Mo_in ⟨Nat.le_of_ble_eq_true rfl, Nat.le_of_ble_eq_true rfl⟩) hK hP hS rfl hl.1 rfl (Nat.le_of_ble_eq_true rfl) ⟨Nat.le_of_ble_eq_true rfl, Nat.le_of_ble_eq_true rfl⟩ d_Mo_fan_16 (fun locs hS => ?_)
    refine lv_if_eq (tgt := 32) hx hb d_Mo_fan_19 (by decide) (fun c_5 => ?_) (fun c_5 => ?_)
    · refine lv_iconst (v := 1) hx hb d_Mo_fan_32 (by decide) ?_
      refine lv_goto (tgt := 50) hx hb d_Mo_fan_33 (by decide) ?_
      refine pg_put (C := "SmokeZonesModel") (T := T_Mo) (N := 47) (ty := .int) hx hb hG in_Mo ty_Mo ok_Mo nm_Mo hown hK hP hD hS hM.1.1 hM.1.2 rfl 0 (by decide) (hG _ k621) (fun _ h9 => h9) rfl (by decide +kernel) rfl rfl (Nat.le_of_ble_eq_true rfl) d_Mo_fan_50 (fun H locs hP hD hS => ?_)
      have hM := hM.putX (j := 0) (v := 1) rfl moF_0
      generalize va_up _ (AM 100) _ = f at hM hP hD
      refine lv_aload_n hx hb d_Mo_fan_53 rfl (lv_at hl 0 rfl) ?_
      refine pg_get (C := "SmokeZonesModel") (T := T_Mo) (N := 47) hx hb hG in_Mo hown hK hP hM.1.1 hM.1.2 rfl 0 (by decide) (hG _ k621) (fun _ h9 => h9) rfl d_Mo_fan_54 ?_
      refine lv_topi (fun y_6 ey_6 => ?_)
      obtain rfl : y_6 = 1 := ey_6.trans (by simp [up2])
      refine lv_if_le (tgt := 62) hx hb d_Mo_fan_57 (by decide) (fun c_7 => ?_) (fun c_7 => ?_)
      · exact absurd c_7 (by decide)
      · refine lv_iconst (v := 0) hx hb d_Mo_fan_60 (by decide) ?_
        have hN : MW ct AM L (xMfan X Y p1 p2 p3) Y f := by
          (try simp only [vMfan, xMfan, if_neg c_2, if_pos c_5, if_neg c_7])
          exact hM
        exact W.iret hx hb hret (fun t ht hW => ⟨⟨_, f, rfl, ⟨(by simp only [vMfan, xMfan, if_neg c_2, if_pos c_5, if_neg c_7]), hN⟩, by rw [ht]; exact hP, va_K.moved hW.alike hK, hD⟩, hS.F ht⟩) hS.2.2 d_Mo_fan_61
    · refine lv_iload_n hx hb d_Mo_fan_22 rfl (lv_at hl 3 rfl) ?_
      refine lv_iconst (v := 1) hx hb d_Mo_fan_23 (by decide) ?_
      refine lv_ldc hx hb hown (hG _ k796) d_Mo_fan_24 ?_
      refine kS_ri ⟨hx, hb, hml, hown, hG⟩ (c_Mo_in ) (cwS 3 hG (gS k773 k774 k2 k775) rfl rfl rfl hd_Mo_in ⟨Nat.le_of_ble_eq_true rfl, Nat.le_of_ble_eq_true rfl⟩) hK hP hS rfl hl.1 rfl (Nat.le_of_ble_eq_true rfl) ⟨Nat.le_of_ble_eq_true rfl, Nat.le_of_ble_eq_true rfl⟩ d_Mo_fan_26 (fun locs hS => ?_)
      refine lv_if_ne (tgt := 36) hx hb d_Mo_fan_29 (by decide) (fun c_8 => ?_) (fun c_8 => ?_)
      · refine lv_aload_n hx hb d_Mo_fan_36 rfl (lv_at hl 0 rfl) ?_
        refine pg_get (C := "SmokeZonesModel") (T := T_Mo) (N := 47) hx hb hG in_Mo hown hK hP hM.1.1 hM.1.2 rfl 27 (by decide) (hG _ k648) (fun _ h9 => h9) rfl d_Mo_fan_37 ?_
        refine lv_bipush (v := 9) hx hb d_Mo_fan_40 (by decide) ?_
        refine lv_icmp_ne (tgt := 49) hx hb d_Mo_fan_42 (by decide) (fun c_9 => ?_) (fun c_9 => ?_)
        · refine lv_iconst (v := 0) hx hb d_Mo_fan_49 (by decide) ?_
          refine pg_put (C := "SmokeZonesModel") (T := T_Mo) (N := 47) (ty := .int) hx hb hG in_Mo ty_Mo ok_Mo nm_Mo hown hK hP hD hS hM.1.1 hM.1.2 rfl 0 (by decide) (hG _ k621) (fun _ h9 => h9) rfl (by decide +kernel) rfl rfl (Nat.le_of_ble_eq_true rfl) d_Mo_fan_50 (fun H locs hP hD hS => ?_)
          have hM := hM.putX (j := 0) (v := 0) rfl moF_0
          generalize va_up _ (AM 100) _ = f at hM hP hD
          refine lv_aload_n hx hb d_Mo_fan_53 rfl (lv_at hl 0 rfl) ?_
          refine pg_get (C := "SmokeZonesModel") (T := T_Mo) (N := 47) hx hb hG in_Mo hown hK hP hM.1.1 hM.1.2 rfl 0 (by decide) (hG _ k621) (fun _ h9 => h9) rfl d_Mo_fan_54 ?_
          refine lv_topi (fun y_10 ey_10 => ?_)
          obtain rfl : y_10 = 0 := ey_10.trans (by simp [up2])
          refine lv_if_le (tgt := 62) hx hb d_Mo_fan_57 (by decide) (fun c_11 => ?_) (fun c_11 => ?_)
          · refine lv_aload_n hx hb d_Mo_fan_62 rfl (lv_at hl 0 rfl) ?_
            refine pg_get (C := "SmokeZonesModel") (T := T_Mo) (N := 47) hx hb hG in_Mo hown hK hP hM.1.1 hM.1.2 rfl 28 (by decide) (hG _ k649) (fun _ h9 => h9) rfl d_Mo_fan_63 ?_
            refine lv_aload_n hx hb d_Mo_fan_66 rfl (lv_at hl 0 rfl) ?_
            refine pg_get (C := "SmokeZonesModel") (T := T_Mo) (N := 47) hx hb hG in_Mo hown hK hP hM.1.1 hM.1.2 rfl 27 (by decide) (hG _ k648) (fun _ h9 => h9) rfl d_Mo_fan_67 ?_
            refine lv_topi (fun y_12 ey_12 => ?_)
            obtain rfl : y_12 = X 27 0 := ey_12.trans (by simp [up2])
            refine lv_iload_n hx hb d_Mo_fan_70 rfl (lv_at hl 1 rfl) ?_
            refine mw_iast hx hb hK hP hD hS hM (j := 28) rfl (vin_ne h27 hc27 c_9) d_Mo_fan_71 (fun f H locs hM hP hD hS => ?_)
            refine lv_aload_n hx hb d_Mo_fan_72 rfl (lv_at hl 0 rfl) ?_
            refine pg_get (C := "SmokeZonesModel") (T := T_Mo) (N := 47) hx hb hG in_Mo hown hK hP hM.1.1 hM.1.2 rfl 29 (by decide) (hG _ k650) (fun _ h9 => h9) rfl d_Mo_fan_73 ?_
            refine lv_aload_n hx hb d_Mo_fan_76 rfl (lv_at hl 0 rfl) ?_
            refine pg_get (C := "SmokeZonesModel") (T := T_Mo) (N := 47) hx hb hG in_Mo hown hK hP hM.1.1 hM.1.2 rfl 27 (by decide) (hG _ k648) (fun _ h9 => h9) rfl d_Mo_fan_77 ?_
            refine lv_topi (fun y_13 ey_13 => ?_)
            obtain rfl : y_13 = X 27 0 := ey_13.trans (by simp [up2])
            refine lv_iload_n hx hb d_Mo_fan_80 rfl (lv_at hl 2 rfl) ?_
            refine mw_iast hx hb hK hP hD hS hM (j := 29) rfl (vin_ne h27 hc27 c_9) d_Mo_fan_81 (fun f H locs hM hP hD hS => ?_)
            refine lv_aload_n hx hb d_Mo_fan_82 rfl (lv_at hl 0 rfl) ?_
            refine pg_get (C := "SmokeZonesModel") (T := T_Mo) (N := 47) hx hb hG in_Mo hown hK hP hM.1.1 hM.1.2 rfl 30 (by decide) (hG _ k651) (fun _ h9 => h9) rfl d_Mo_fan_83 ?_
            refine lv_aload_n hx hb d_Mo_fan_86 rfl (lv_at hl 0 rfl) ?_
            refine pg_get (C := "SmokeZonesModel") (T := T_Mo) (N := 47) hx hb hG in_Mo hown hK hP hM.1.1 hM.1.2 rfl 27 (by decide) (hG _ k648) (fun _ h9 => h9) rfl d_Mo_fan_87 ?_
            refine lv_topi (fun y_14 ey_14 => ?_)
            obtain rfl : y_14 = X 27 0 := ey_14.trans (by simp [up2])
            refine lv_iload_n hx hb d_Mo_fan_90 rfl (lv_at hl 3 rfl) ?_
            refine mw_iast hx hb hK hP hD hS hM (j := 30) rfl (vin_ne h27 hc27 c_9) d_Mo_fan_91 (fun f H locs hM hP hD hS => ?_)
            refine lv_aload_n hx hb d_Mo_fan_92 rfl (lv_at hl 0 rfl) ?_
            refine lv_dup hx hb d_Mo_fan_93 rfl ?_
            refine pg_get (C := "SmokeZonesModel") (T := T_Mo) (N := 47) hx hb hG in_Mo hown hK hP hM.1.1 hM.1.2 rfl 27 (by decide) (hG _ k648) (fun _ h9 => h9) rfl d_Mo_fan_94 ?_
            refine lv_topi (fun y_15 ey_15 => ?_)
            obtain rfl : y_15 = X 27 0 := ey_15.trans (by simp [up2])
            refine lv_iconst (v := 1) hx hb d_Mo_fan_97 (by decide) ?_
            refine lv_iadd hx hb d_Mo_fan_98 ?_
            refine pg_put (C := "SmokeZonesModel") (T := T_Mo) (N := 47) (ty := .int) hx hb hG in_Mo ty_Mo ok_Mo nm_Mo hown hK hP hD hS hM.1.1 hM.1.2 rfl 27 (by decide) (hG _ k648) (fun _ h9 => h9) rfl (by decide +kernel) rfl rfl (Nat.le_of_ble_eq_true rfl) d_Mo_fan_99 (fun H locs hP hD hS => ?_)
            have hM := hM.putX (j := 27) (v := (X 27 0) + 1) rfl moF_27
            generalize va_up _ (AM 100) _ = f at hM hP hD
            refine lv_aload_n hx hb d_Mo_fan_102 rfl (lv_at hl 0 rfl) ?_
            refine pg_get (C := "SmokeZonesModel") (T := T_Mo) (N := 47) hx hb hG in_Mo hown hK hP hM.1.1 hM.1.2 rfl 27 (by decide) (hG _ k648) (fun _ h9 => h9) rfl d_Mo_fan_103 ?_
            refine lv_topi (fun y_16 ey_16 => ?_)
            obtain rfl : y_16 = (X 27 0) + 1 := ey_16.trans (by simp [up2])
            refine lv_iconst (v := 1) hx hb d_Mo_fan_106 (by decide) ?_
            refine lv_isub hx hb d_Mo_fan_107 ?_
            have hN : MW ct AM L (xMfan X Y p1 p2 p3) Y f := by
              (try simp only [vMfan, xMfan, if_neg c_2, if_neg c_5, if_neg c_8, if_neg c_9, if_pos c_11])
              exact hM
            exact W.iret hx hb hret (fun t ht hW => ⟨⟨_, f, rfl, ⟨(by simp only [vMfan, xMfan, if_neg c_2, if_neg c_5, if_neg c_8, if_neg c_9, if_pos c_11]), hN⟩, by rw [ht]; exact hP, va_K.moved hW.alike hK, hD⟩, hS.F ht⟩) hS.2.2 d_Mo_fan_108
          · exact absurd (by decide) c_11
        · refine lv_iconst (v := 2) hx hb d_Mo_fan_45 (by decide) ?_
          refine lv_goto (tgt := 50) hx hb d_Mo_fan_46 (by decide) ?_
          refine pg_put (C := "SmokeZonesModel") (T := T_Mo) (N := 47) (ty := .int) hx hb hG in_Mo ty_Mo ok_Mo nm_Mo hown hK hP hD hS hM.1.1 hM.1.2 rfl 0 (by decide) (hG _ k621) (fun _ h9 => h9) rfl (by decide +kernel) rfl rfl (Nat.le_of_ble_eq_true rfl) d_Mo_fan_50 (fun H locs hP hD hS => ?_)
          have hM := hM.putX (j := 0) (v := 2) rfl moF_0
          generalize va_up _ (AM 100) _ = f at hM hP hD
          refine lv_aload_n hx hb d_Mo_fan_53 rfl (lv_at hl 0 rfl) ?_
          refine pg_get (C := "SmokeZonesModel") (T := T_Mo) (N := 47) hx hb hG in_Mo hown hK hP hM.1.1 hM.1.2 rfl 0 (by decide) (hG _ k621) (fun _ h9 => h9) rfl d_Mo_fan_54 ?_
          refine lv_topi (fun y_17 ey_17 => ?_)
          obtain rfl : y_17 = 2 := ey_17.trans (by simp [up2])
          refine lv_if_le (tgt := 62) hx hb d_Mo_fan_57 (by decide) (fun c_18 => ?_) (fun c_18 => ?_)
          · exact absurd c_18 (by decide)
          · refine lv_iconst (v := 0) hx hb d_Mo_fan_60 (by decide) ?_
            have hN : MW ct AM L (xMfan X Y p1 p2 p3) Y f := by
              (try simp only [vMfan, xMfan, if_neg c_2, if_neg c_5, if_neg c_8, if_pos c_9, if_neg c_18])
              exact hM
            exact W.iret hx hb hret (fun t ht hW => ⟨⟨_, f, rfl, ⟨(by simp only [vMfan, xMfan, if_neg c_2, if_neg c_5, if_neg c_8, if_pos c_9, if_neg c_18]), hN⟩, by rw [ht]; exact hP, va_K.moved hW.alike hK, hD⟩, hS.F ht⟩) hS.2.2 d_Mo_fan_61
      · refine lv_iconst (v := 1) hx hb d_Mo_fan_32 (by decide) ?_
        refine lv_goto (tgt := 50) hx hb d_Mo_fan_33 (by decide) ?_
        refine pg_put (C := "SmokeZonesModel") (T := T_Mo) (N := 47) (ty := .int) hx hb hG in_Mo ty_Mo ok_Mo nm_Mo hown hK hP hD hS hM.1.1 hM.1.2 rfl 0 (by decide) (hG _ k621) (fun _ h9 => h9) rfl (by decide +kernel) rfl rfl (Nat.le_of_ble_eq_true rfl) d_Mo_fan_50 (fun H locs hP hD hS => ?_)
        have hM := hM.putX (j := 0) (v := 1) rfl moF_0
        generalize va_up _ (AM 100) _ = f at hM hP hD
        refine lv_aload_n hx hb d_Mo_fan_53 rfl (lv_at hl 0 rfl) ?_
        refine pg_get (C := "SmokeZonesModel") (T := T_Mo) (N := 47) hx hb hG in_Mo hown hK hP hM.1.1 hM.1.2 rfl 0 (by decide) (hG _ k621) (fun _ h9 => h9) rfl d_Mo_fan_54 ?_
        refine lv_topi (fun y_19 ey_19 => ?_)
        obtain rfl : y_19 = 1 := ey_19.trans (by simp [up2])
        refine lv_if_le (tgt := 62) hx hb d_Mo_fan_57 (by decide) (fun c_20 => ?_) (fun c_20 => ?_)
        · exact absurd c_20 (by decide)
        · refine lv_iconst (v := 0) hx hb d_Mo_fan_60 (by decide) ?_
          have hN : MW ct AM L (xMfan X Y p1 p2 p3) Y f := by
            (try simp only [vMfan, xMfan, if_neg c_2, if_neg c_5, if_pos c_8, if_neg c_20])
            exact hM
          exact W.iret hx hb hret (fun t ht hW => ⟨⟨_, f, rfl, ⟨(by simp only [vMfan, xMfan, if_neg c_2, if_neg c_5, if_pos c_8, if_neg c_20]), hN⟩, by rw [ht]; exact hP, va_K.moved hW.alike hK, hD⟩, hS.F ht⟩) hS.2.2 d_Mo_fan_61

def vMsteel (X : I2) (Y : J2) (p1 p2 : Int32) : Int32 := (if (m_in p1 0 ((X 2 0) - 1)) = 0 then 0 else (if (m_in p2 1 1000) = 0 then 0 else (if (X 31 0) = 9 then 0 else ((X 31 0) + 1) - 1)))
def xMsteel (X : I2) (Y : J2) (p1 p2 : Int32) : I2 := (if (m_in p1 0 ((X 2 0) - 1)) = 0 then up2 X 0 0 1 else (if (m_in p2 1 1000) = 0 then up2 X 0 0 1 else (if (X 31 0) = 9 then up2 X 0 0 2 else up2 (up2 (up2 (up2 X 0 0 0) 32 (Int32.toNatClampNeg (X 31 0)) p1) 33 (Int32.toNatClampNeg (X 31 0)) p2) 31 0 ((X 31 0) + 1))))
set_option maxHeartbeats 4000000 in
set_option maxRecDepth 100000 in
theorem c_Mo_steel {l : Launch} {D : va_G} {ct : Nat → ClassId} {AM : Nat → Nat} {L : List Nat} {f : Nat → va_E} {X : I2} {Y : J2} {sz : Nat} {p1 p2 : Int32} {n4 : Nat} (hM : MW ct AM L X Y f) (h31 : X 31 0 = nI n4) (hc31 : n4 ≤ 9) : Met l y_Mo_steel (WS y_Mo_steel b_Mo_steel 3 (some .int)) { frames := 2, cells := 0, slots := 0, locals := 43 } (va_Pc [.ref (AM 100), .int p1, .int p2] (WP D (TYS ct) L f sz)) (va_Qi (fun (r : Int32) f' => r = vMsteel X Y p1 p2 ∧ MW ct AM L (xMsteel X Y p1 p2) Y f') (fun f' t => WQ D (TYS ct) L f' (AA L f sz) t) (AA L f sz)) 0 0 (AA L f sz) := by
  refine Met.ofW (cc := b_Mo_steel) (maxL := 3) (ret := (some .int)) (by decide) rfl ?_
  intro p e s m args below meth c s₁ B hml hv
  obtain ⟨rfl, hsz, hP, hK, hD0⟩ := hv
  subst hsz
  have hx := B.exec
  have hb := B.bytes
  have hret := B.returns
  have hts := atoms_spec (ws := WS y_Mo_steel b_Mo_steel 3 (some .int)) B.pre
  have hG : ∀ w ∈ GW, w.before _ s = true := fun w h => hts w (List.mem_cons_of_mem _ h)
  have hown : s.vm.findClass "SmokeZonesModel" = some m.cls := findClass_of_methodNamed B.named
  have hlocks := B.notSynchronized
  have hD : va_D (AA L f s.heap.size) (va_pl L f) := hD0.self (sz := s.heap.size)
  generalize hAe : AA L f s.heap.size = A at hD ⊢
  have hA : ∀ q : Nat, s.heap.size ≤ q → A q := fun q h => by rw [← hAe]; exact Or.inr h
  have hS : va_S A s.heap s.heap [] := va_S.rf
  have hl := lv_entry ([.ref (AM 100), .int p1, .int p2]) (n := 3) (Nat.le_of_ble_eq_true rfl)
  rw [lg_entry_eq]
  generalize (lg_sl ([.ref (AM 100), .int p1, .int p2]) ++ List.replicate (3 - (lg_sl ([.ref (AM 100), .int p1, .int p2])).length) Slot.unset).toArray = ls at hl ⊢
  have hl : lv_has ls 3 [(0, .ref (AM 100)), (1, .int p1), (2, .int p2)] := hl
  refine lv_aload_n hx hb d_Mo_steel_0 rfl (lv_at hl 0 rfl) ?_
  refine lv_aload_n hx hb d_Mo_steel_1 rfl (lv_at hl 0 rfl) ?_
  refine lv_iload_n hx hb d_Mo_steel_2 rfl (lv_at hl 1 rfl) ?_
  refine kV_ri ⟨hx, hb, hml, hown, hG⟩ (c_Mo_isRoom hM) (cwV 1 hG (gV k780 k782 ks_Mo_isRoom k2 k783) rfl rfl rfl hd_Mo_isRoom ⟨Nat.le_of_ble_eq_true rfl, Nat.le_of_ble_eq_true rfl⟩) hK hP hS hM.1.1 hM.1.2 rfl rfl hl.1 rfl (Nat.le_of_ble_eq_true rfl) ⟨Nat.le_of_ble_eq_true rfl, Nat.le_of_ble_eq_true rfl⟩ d_Mo_steel_3 (fun locs hS => ?_)
  refine lv_topi (fun y_1 ey_1 => ?_)
  obtain rfl : y_1 = m_in p1 0 ((X 2 0) - 1) := ey_1.trans (by simp [up2])
  refine lv_if_eq (tgt := 20) hx hb d_Mo_steel_6 (by decide) (fun c_2 => ?_) (fun c_2 => ?_)
  · refine lv_iconst (v := 1) hx hb d_Mo_steel_20 (by decide) ?_
    refine lv_goto (tgt := 38) hx hb d_Mo_steel_21 (by decide) ?_
    refine pg_put (C := "SmokeZonesModel") (T := T_Mo) (N := 47) (ty := .int) hx hb hG in_Mo ty_Mo ok_Mo nm_Mo hown hK hP hD hS hM.1.1 hM.1.2 rfl 0 (by decide) (hG _ k621) (fun _ h9 => h9) rfl (by decide +kernel) rfl rfl (Nat.le_of_ble_eq_true rfl) d_Mo_steel_38 (fun H locs hP hD hS => ?_)
    have hM := hM.putX (j := 0) (v := 1) rfl moF_0
    generalize va_up _ (AM 100) _ = f at hM hP hD
    refine lv_aload_n hx hb d_Mo_steel_41 rfl (lv_at hl 0 rfl) ?_
    refine pg_get (C := "SmokeZonesModel") (T := T_Mo) (N := 47) hx hb hG in_Mo hown hK hP hM.1.1 hM.1.2 rfl 0 (by decide) (hG _ k621) (fun _ h9 => h9) rfl d_Mo_steel_42 ?_
    refine lv_topi (fun y_3 ey_3 => ?_)
    obtain rfl : y_3 = 1 := ey_3.trans (by simp [up2])
    refine lv_if_le (tgt := 50) hx hb d_Mo_steel_45 (by decide) (fun c_4 => ?_) (fun c_4 => ?_)
    · exact absurd c_4 (by decide)
    · refine lv_iconst (v := 0) hx hb d_Mo_steel_48 (by decide) ?_
      have hN : MW ct AM L (xMsteel X Y p1 p2) Y f := by
        (try simp only [vMsteel, xMsteel, if_pos c_2, if_neg c_4])
        exact hM
      exact W.iret hx hb hret (fun t ht hW => ⟨⟨_, f, rfl, ⟨(by simp only [vMsteel, xMsteel, if_pos c_2, if_neg c_4]), hN⟩, by rw [ht]; exact hP, va_K.moved hW.alike hK, hD⟩, hS.F ht⟩) hS.2.2 d_Mo_steel_49
  · refine lv_iload_n hx hb d_Mo_steel_9 rfl (lv_at hl 2 rfl) ?_
    refine lv_iconst (v := 1) hx hb d_Mo_steel_10 (by decide) ?_
    refine lv_sipush (v := 1000) hx hb d_Mo_steel_11 (by decide) ?_
    refine kS_ri ⟨hx, hb, hml, hown, hG⟩ (c_Mo_in ) (cwS 3 hG (gS k773 k774 k2 k775) rfl rfl rfl hd_Mo_in ⟨Nat.le_of_ble_eq_true rfl, Nat.le_of_ble_eq_true rfl⟩) hK hP hS rfl hl.1 rfl (Nat.le_of_ble_eq_true rfl) ⟨Nat.le_of_ble_eq_true rfl, Nat.le_of_ble_eq_true rfl⟩ d_Mo_steel_14 (fun locs hS => ?_)
    refine lv_if_ne (tgt := 24) hx hb d_Mo_steel_17 (by decide) (fun c_5 => ?_) (fun c_5 => ?_)
    · refine lv_aload_n hx hb d_Mo_steel_24 rfl (lv_at hl 0 rfl) ?_
      refine pg_get (C := "SmokeZonesModel") (T := T_Mo) (N := 47) hx hb hG in_Mo hown hK hP hM.1.1 hM.1.2 rfl 31 (by decide) (hG _ k652) (fun _ h9 => h9) rfl d_Mo_steel_25 ?_
      refine lv_bipush (v := 9) hx hb d_Mo_steel_28 (by decide) ?_
      refine lv_icmp_ne (tgt := 37) hx hb d_Mo_steel_30 (by decide) (fun c_6 => ?_) (fun c_6 => ?_)
      · refine lv_iconst (v := 0) hx hb d_Mo_steel_37 (by decide) ?_
        refine pg_put (C := "SmokeZonesModel") (T := T_Mo) (N := 47) (ty := .int) hx hb hG in_Mo ty_Mo ok_Mo nm_Mo hown hK hP hD hS hM.1.1 hM.1.2 rfl 0 (by decide) (hG _ k621) (fun _ h9 => h9) rfl (by decide +kernel) rfl rfl (Nat.le_of_ble_eq_true rfl) d_Mo_steel_38 (fun H locs hP hD hS => ?_)
        have hM := hM.putX (j := 0) (v := 0) rfl moF_0
        generalize va_up _ (AM 100) _ = f at hM hP hD
        refine lv_aload_n hx hb d_Mo_steel_41 rfl (lv_at hl 0 rfl) ?_
        refine pg_get (C := "SmokeZonesModel") (T := T_Mo) (N := 47) hx hb hG in_Mo hown hK hP hM.1.1 hM.1.2 rfl 0 (by decide) (hG _ k621) (fun _ h9 => h9) rfl d_Mo_steel_42 ?_
        refine lv_topi (fun y_7 ey_7 => ?_)
        obtain rfl : y_7 = 0 := ey_7.trans (by simp [up2])
        refine lv_if_le (tgt := 50) hx hb d_Mo_steel_45 (by decide) (fun c_8 => ?_) (fun c_8 => ?_)
        · refine lv_aload_n hx hb d_Mo_steel_50 rfl (lv_at hl 0 rfl) ?_
          refine pg_get (C := "SmokeZonesModel") (T := T_Mo) (N := 47) hx hb hG in_Mo hown hK hP hM.1.1 hM.1.2 rfl 32 (by decide) (hG _ k653) (fun _ h9 => h9) rfl d_Mo_steel_51 ?_
          refine lv_aload_n hx hb d_Mo_steel_54 rfl (lv_at hl 0 rfl) ?_
          refine pg_get (C := "SmokeZonesModel") (T := T_Mo) (N := 47) hx hb hG in_Mo hown hK hP hM.1.1 hM.1.2 rfl 31 (by decide) (hG _ k652) (fun _ h9 => h9) rfl d_Mo_steel_55 ?_
          refine lv_topi (fun y_9 ey_9 => ?_)
          obtain rfl : y_9 = X 31 0 := ey_9.trans (by simp [up2])
          refine lv_iload_n hx hb d_Mo_steel_58 rfl (lv_at hl 1 rfl) ?_
          refine mw_iast hx hb hK hP hD hS hM (j := 32) rfl (vin_ne h31 hc31 c_6) d_Mo_steel_59 (fun f H locs hM hP hD hS => ?_)
          refine lv_aload_n hx hb d_Mo_steel_60 rfl (lv_at hl 0 rfl) ?_
          refine pg_get (C := "SmokeZonesModel") (T := T_Mo) (N := 47) hx hb hG in_Mo hown hK hP hM.1.1 hM.1.2 rfl 33 (by decide) (hG _ k654) (fun _ h9 => h9) rfl d_Mo_steel_61 ?_
          refine lv_aload_n hx hb d_Mo_steel_64 rfl (lv_at hl 0 rfl) ?_
          refine pg_get (C := "SmokeZonesModel") (T := T_Mo) (N := 47) hx hb hG in_Mo hown hK hP hM.1.1 hM.1.2 rfl 31 (by decide) (hG _ k652) (fun _ h9 => h9) rfl d_Mo_steel_65 ?_
          refine lv_topi (fun y_10 ey_10 => ?_)
          obtain rfl : y_10 = X 31 0 := ey_10.trans (by simp [up2])
          refine lv_iload_n hx hb d_Mo_steel_68 rfl (lv_at hl 2 rfl) ?_
          refine mw_iast hx hb hK hP hD hS hM (j := 33) rfl (vin_ne h31 hc31 c_6) d_Mo_steel_69 (fun f H locs hM hP hD hS => ?_)
          refine lv_aload_n hx hb d_Mo_steel_70 rfl (lv_at hl 0 rfl) ?_
          refine lv_dup hx hb d_Mo_steel_71 rfl ?_
          refine pg_get (C := "SmokeZonesModel") (T := T_Mo) (N := 47) hx hb hG in_Mo hown hK hP hM.1.1 hM.1.2 rfl 31 (by decide) (hG _ k652) (fun _ h9 => h9) rfl d_Mo_steel_72 ?_
          refine lv_topi (fun y_11 ey_11 => ?_)
          obtain rfl : y_11 = X 31 0 := ey_11.trans (by simp [up2])
          refine lv_iconst (v := 1) hx hb d_Mo_steel_75 (by decide) ?_
          refine lv_iadd hx hb d_Mo_steel_76 ?_
          refine pg_put (C := "SmokeZonesModel") (T := T_Mo) (N := 47) (ty := .int) hx hb hG in_Mo ty_Mo ok_Mo nm_Mo hown hK hP hD hS hM.1.1 hM.1.2 rfl 31 (by decide) (hG _ k652) (fun _ h9 => h9) rfl (by decide +kernel) rfl rfl (Nat.le_of_ble_eq_true rfl) d_Mo_steel_77 (fun H locs hP hD hS => ?_)
          have hM := hM.putX (j := 31) (v := (X 31 0) + 1) rfl moF_31
          generalize va_up _ (AM 100) _ = f at hM hP hD
          refine lv_aload_n hx hb d_Mo_steel_80 rfl (lv_at hl 0 rfl) ?_
          refine pg_get (C := "SmokeZonesModel") (T := T_Mo) (N := 47) hx hb hG in_Mo hown hK hP hM.1.1 hM.1.2 rfl 31 (by decide) (hG _ k652) (fun _ h9 => h9) rfl d_Mo_steel_81 ?_
          refine lv_topi (fun y_12 ey_12 => ?_)
          obtain rfl : y_12 = (X 31 0) + 1 := ey_12.trans (by simp [up2])
          refine lv_iconst (v := 1) hx hb d_Mo_steel_84 (by decide) ?_
          refine lv_isub hx hb d_Mo_steel_85 ?_
          have hN : MW ct AM L (xMsteel X Y p1 p2) Y f := by
            (try simp only [vMsteel, xMsteel, if_neg c_2, if_neg c_5, if_neg c_6, if_pos c_8])
            exact hM
          exact W.iret hx hb hret (fun t ht hW => ⟨⟨_, f, rfl, ⟨(by simp only [vMsteel, xMsteel, if_neg c_2, if_neg c_5, if_neg c_6, if_pos c_8]), hN⟩, by rw [ht]; exact hP, va_K.moved hW.alike hK, hD⟩, hS.F ht⟩) hS.2.2 d_Mo_steel_86
        · exact absurd (by decide) c_8
      · refine lv_iconst (v := 2) hx hb d_Mo_steel_33 (by decide) ?_
        refine lv_goto (tgt := 38) hx hb d_Mo_steel_34 (by decide) ?_
        refine pg_put (C := "SmokeZonesModel") (T := T_Mo) (N := 47) (ty := .int) hx hb hG in_Mo ty_Mo ok_Mo nm_Mo hown hK hP hD hS hM.1.1 hM.1.2 rfl 0 (by decide) (hG _ k621) (fun _ h9 => h9) rfl (by decide +kernel) rfl rfl (Nat.le_of_ble_eq_true rfl) d_Mo_steel_38 (fun H locs hP hD hS => ?_)
        have hM := hM.putX (j := 0) (v := 2) rfl moF_0
        generalize va_up _ (AM 100) _ = f at hM hP hD
        refine lv_aload_n hx hb d_Mo_steel_41 rfl (lv_at hl 0 rfl) ?_
        refine pg_get (C := "SmokeZonesModel") (T := T_Mo) (N := 47) hx hb hG in_Mo hown hK hP hM.1.1 hM.1.2 rfl 0 (by decide) (hG _ k621) (fun _ h9 => h9) rfl d_Mo_steel_42 ?_
        refine lv_topi (fun y_13 ey_13 => ?_)
        obtain rfl : y_13 = 2 := ey_13.trans (by simp [up2])
        refine lv_if_le (tgt := 50) hx hb d_Mo_steel_45 (by decide) (fun c_14 => ?_) (fun c_14 => ?_)
        · exact absurd c_14 (by decide)
        · refine lv_iconst (v := 0) hx hb d_Mo_steel_48 (by decide) ?_
          have hN : MW ct AM L (xMsteel X Y p1 p2) Y f := by
            (try simp only [vMsteel, xMsteel, if_neg c_2, if_neg c_5, if_pos c_6, if_neg c_14])
            exact hM
          exact W.iret hx hb hret (fun t ht hW => ⟨⟨_, f, rfl, ⟨(by simp only [vMsteel, xMsteel, if_neg c_2, if_neg c_5, if_pos c_6, if_neg c_14]), hN⟩, by rw [ht]; exact hP, va_K.moved hW.alike hK, hD⟩, hS.F ht⟩) hS.2.2 d_Mo_steel_49
    · refine lv_iconst (v := 1) hx hb d_Mo_steel_20 (by decide) ?_
      refine lv_goto (tgt := 38) hx hb d_Mo_steel_21 (by decide) ?_
      refine pg_put (C := "SmokeZonesModel") (T := T_Mo) (N := 47) (ty := .int) hx hb hG in_Mo ty_Mo ok_Mo nm_Mo hown hK hP hD hS hM.1.1 hM.1.2 rfl 0 (by decide) (hG _ k621) (fun _ h9 => h9) rfl (by decide +kernel) rfl rfl (Nat.le_of_ble_eq_true rfl) d_Mo_steel_38 (fun H locs hP hD hS => ?_)
      have hM := hM.putX (j := 0) (v := 1) rfl moF_0
      generalize va_up _ (AM 100) _ = f at hM hP hD
      refine lv_aload_n hx hb d_Mo_steel_41 rfl (lv_at hl 0 rfl) ?_
      refine pg_get (C := "SmokeZonesModel") (T := T_Mo) (N := 47) hx hb hG in_Mo hown hK hP hM.1.1 hM.1.2 rfl 0 (by decide) (hG _ k621) (fun _ h9 => h9) rfl d_Mo_steel_42 ?_
      refine lv_topi (fun y_15 ey_15 => ?_)
      obtain rfl : y_15 = 1 := ey_15.trans (by simp [up2])
      refine lv_if_le (tgt := 50) hx hb d_Mo_steel_45 (by decide) (fun c_16 => ?_) (fun c_16 => ?_)
      · exact absurd c_16 (by decide)
      · refine lv_iconst (v := 0) hx hb d_Mo_steel_48 (by decide) ?_
        have hN : MW ct AM L (xMsteel X Y p1 p2) Y f := by
          (try simp only [vMsteel, xMsteel, if_neg c_2, if_pos c_5, if_neg c_16])
          exact hM
        exact W.iret hx hb hret (fun t ht hW => ⟨⟨_, f, rfl, ⟨(by simp only [vMsteel, xMsteel, if_neg c_2, if_pos c_5, if_neg c_16]), hN⟩, by rw [ht]; exact hP, va_K.moved hW.alike hK, hD⟩, hS.F ht⟩) hS.2.2 d_Mo_steel_49

def vMpers (X : I2) (Y : J2) (p1 : Int32) : Int32 := (if (mo_ro X p1) = 0 then 0 else (if (X 35 0) = 9 then 0 else ((X 35 0) + 1) - 1))
def xMpers (X : I2) (Y : J2) (p1 : Int32) : I2 := (if (mo_ro X p1) = 0 then up2 X 0 0 1 else (if (X 35 0) = 9 then up2 X 0 0 2 else up2 (up2 (up2 X 0 0 0) 36 (Int32.toNatClampNeg (X 35 0)) p1) 35 0 ((X 35 0) + 1)))
set_option maxHeartbeats 4000000 in
set_option maxRecDepth 100000 in
theorem c_Mo_person {l : Launch} {D : va_G} {ct : Nat → ClassId} {AM : Nat → Nat} {L : List Nat} {f : Nat → va_E} {X : I2} {Y : J2} {sz : Nat} {p1 : Int32} {n5 : Nat} (hM : MW ct AM L X Y f) (h35 : X 35 0 = nI n5) (hc35 : n5 ≤ 9) : Met l y_Mo_person (WS y_Mo_person b_Mo_person 2 (some .int)) { frames := 3, cells := 0, slots := 0, locals := 64 } (va_Pc [.ref (AM 100), .int p1] (WP D (TYS ct) L f sz)) (va_Qi (fun (r : Int32) f' => r = vMpers X Y p1 ∧ MW ct AM L (xMpers X Y p1) Y f') (fun f' t => WQ D (TYS ct) L f' (AA L f sz) t) (AA L f sz)) 0 0 (AA L f sz) := by
  refine Met.ofW (cc := b_Mo_person) (maxL := 2) (ret := (some .int)) (by decide) rfl ?_
  intro p e s m args below meth c s₁ B hml hv
  obtain ⟨rfl, hsz, hP, hK, hD0⟩ := hv
  subst hsz
  have hx := B.exec
  have hb := B.bytes
  have hret := B.returns
  have hts := atoms_spec (ws := WS y_Mo_person b_Mo_person 2 (some .int)) B.pre
  have hG : ∀ w ∈ GW, w.before _ s = true := fun w h => hts w (List.mem_cons_of_mem _ h)
  have hown : s.vm.findClass "SmokeZonesModel" = some m.cls := findClass_of_methodNamed B.named
  have hlocks := B.notSynchronized
  have hD : va_D (AA L f s.heap.size) (va_pl L f) := hD0.self (sz := s.heap.size)
  generalize hAe : AA L f s.heap.size = A at hD ⊢
  have hA : ∀ q : Nat, s.heap.size ≤ q → A q := fun q h => by rw [← hAe]; exact Or.inr h
  have hS : va_S A s.heap s.heap [] := va_S.rf
  have hl := lv_entry ([.ref (AM 100), .int p1]) (n := 2) (Nat.le_of_ble_eq_true rfl)
  rw [lg_entry_eq]
  generalize (lg_sl ([.ref (AM 100), .int p1]) ++ List.replicate (2 - (lg_sl ([.ref (AM 100), .int p1])).length) Slot.unset).toArray = ls at hl ⊢
  have hl : lv_has ls 2 [(0, .ref (AM 100)), (1, .int p1)] := hl
  refine lv_aload_n hx hb d_Mo_person_0 rfl (lv_at hl 0 rfl) ?_
  refine lv_aload_n hx hb d_Mo_person_1 rfl (lv_at hl 0 rfl) ?_
  refine lv_iload_n hx hb d_Mo_person_2 rfl (lv_at hl 1 rfl) ?_
  refine kV_ri ⟨hx, hb, hml, hown, hG⟩ (c_Mo_isRoomOrOut hM) (cwV 1 hG (gV k784 k786 ks_Mo_isRoomOrOut k2 k787) rfl rfl rfl hd_Mo_isRoomOrOut ⟨Nat.le_of_ble_eq_true rfl, Nat.le_of_ble_eq_true rfl⟩) hK hP hS hM.1.1 hM.1.2 rfl rfl hl.1 rfl (Nat.le_of_ble_eq_true rfl) ⟨Nat.le_of_ble_eq_true rfl, Nat.le_of_ble_eq_true rfl⟩ d_Mo_person_3 (fun locs hS => ?_)
  refine lv_if_ne (tgt := 13) hx hb d_Mo_person_6 (by decide) (fun c_1 => ?_) (fun c_1 => ?_)
  · refine lv_aload_n hx hb d_Mo_person_13 rfl (lv_at hl 0 rfl) ?_
    refine pg_get (C := "SmokeZonesModel") (T := T_Mo) (N := 47) hx hb hG in_Mo hown hK hP hM.1.1 hM.1.2 rfl 35 (by decide) (hG _ k656) (fun _ h9 => h9) rfl d_Mo_person_14 ?_
    refine lv_bipush (v := 9) hx hb d_Mo_person_17 (by decide) ?_
    refine lv_icmp_ne (tgt := 26) hx hb d_Mo_person_19 (by decide) (fun c_2 => ?_) (fun c_2 => ?_)
    · refine lv_iconst (v := 0) hx hb d_Mo_person_26 (by decide) ?_
      refine pg_put (C := "SmokeZonesModel") (T := T_Mo) (N := 47) (ty := .int) hx hb hG in_Mo ty_Mo ok_Mo nm_Mo hown hK hP hD hS hM.1.1 hM.1.2 rfl 0 (by decide) (hG _ k621) (fun _ h9 => h9) rfl (by decide +kernel) rfl rfl (Nat.le_of_ble_eq_true rfl) d_Mo_person_27 (fun H locs hP hD hS => ?_)
      have hM := hM.putX (j := 0) (v := 0) rfl moF_0
      generalize va_up _ (AM 100) _ = f at hM hP hD
      refine lv_aload_n hx hb d_Mo_person_30 rfl (lv_at hl 0 rfl) ?_
      refine pg_get (C := "SmokeZonesModel") (T := T_Mo) (N := 47) hx hb hG in_Mo hown hK hP hM.1.1 hM.1.2 rfl 0 (by decide) (hG _ k621) (fun _ h9 => h9) rfl d_Mo_person_31 ?_
      refine lv_topi (fun y_3 ey_3 => ?_)
      obtain rfl : y_3 = 0 := ey_3.trans (by simp [up2])
      refine lv_if_le (tgt := 39) hx hb d_Mo_person_34 (by decide) (fun c_4 => ?_) (fun c_4 => ?_)
      · refine lv_aload_n hx hb d_Mo_person_39 rfl (lv_at hl 0 rfl) ?_
        refine pg_get (C := "SmokeZonesModel") (T := T_Mo) (N := 47) hx hb hG in_Mo hown hK hP hM.1.1 hM.1.2 rfl 36 (by decide) (hG _ k657) (fun _ h9 => h9) rfl d_Mo_person_40 ?_
        refine lv_aload_n hx hb d_Mo_person_43 rfl (lv_at hl 0 rfl) ?_
        refine pg_get (C := "SmokeZonesModel") (T := T_Mo) (N := 47) hx hb hG in_Mo hown hK hP hM.1.1 hM.1.2 rfl 35 (by decide) (hG _ k656) (fun _ h9 => h9) rfl d_Mo_person_44 ?_
        refine lv_topi (fun y_5 ey_5 => ?_)
        obtain rfl : y_5 = X 35 0 := ey_5.trans (by simp [up2])
        refine lv_iload_n hx hb d_Mo_person_47 rfl (lv_at hl 1 rfl) ?_
        refine mw_iast hx hb hK hP hD hS hM (j := 36) rfl (vin_ne h35 hc35 c_2) d_Mo_person_48 (fun f H locs hM hP hD hS => ?_)
        refine lv_aload_n hx hb d_Mo_person_49 rfl (lv_at hl 0 rfl) ?_
        refine lv_dup hx hb d_Mo_person_50 rfl ?_
        refine pg_get (C := "SmokeZonesModel") (T := T_Mo) (N := 47) hx hb hG in_Mo hown hK hP hM.1.1 hM.1.2 rfl 35 (by decide) (hG _ k656) (fun _ h9 => h9) rfl d_Mo_person_51 ?_
        refine lv_topi (fun y_6 ey_6 => ?_)
        obtain rfl : y_6 = X 35 0 := ey_6.trans (by simp [up2])
        refine lv_iconst (v := 1) hx hb d_Mo_person_54 (by decide) ?_
        refine lv_iadd hx hb d_Mo_person_55 ?_
        refine pg_put (C := "SmokeZonesModel") (T := T_Mo) (N := 47) (ty := .int) hx hb hG in_Mo ty_Mo ok_Mo nm_Mo hown hK hP hD hS hM.1.1 hM.1.2 rfl 35 (by decide) (hG _ k656) (fun _ h9 => h9) rfl (by decide +kernel) rfl rfl (Nat.le_of_ble_eq_true rfl) d_Mo_person_56 (fun H locs hP hD hS => ?_)
        have hM := hM.putX (j := 35) (v := (X 35 0) + 1) rfl moF_35
        generalize va_up _ (AM 100) _ = f at hM hP hD
        refine lv_aload_n hx hb d_Mo_person_59 rfl (lv_at hl 0 rfl) ?_
        refine pg_get (C := "SmokeZonesModel") (T := T_Mo) (N := 47) hx hb hG in_Mo hown hK hP hM.1.1 hM.1.2 rfl 35 (by decide) (hG _ k656) (fun _ h9 => h9) rfl d_Mo_person_60 ?_
        refine lv_topi (fun y_7 ey_7 => ?_)
        obtain rfl : y_7 = (X 35 0) + 1 := ey_7.trans (by simp [up2])
        refine lv_iconst (v := 1) hx hb d_Mo_person_63 (by decide) ?_
        refine lv_isub hx hb d_Mo_person_64 ?_
        have hN : MW ct AM L (xMpers X Y p1) Y f := by
          (try simp only [vMpers, xMpers, if_neg c_1, if_neg c_2, if_pos c_4])
          exact hM
        exact W.iret hx hb hret (fun t ht hW => ⟨⟨_, f, rfl, ⟨(by simp only [vMpers, xMpers, if_neg c_1, if_neg c_2, if_pos c_4]), hN⟩, by rw [ht]; exact hP, va_K.moved hW.alike hK, hD⟩, hS.F ht⟩) hS.2.2 d_Mo_person_65
      · exact absurd (by decide) c_4
    · refine lv_iconst (v := 2) hx hb d_Mo_person_22 (by decide) ?_
      refine lv_goto (tgt := 27) hx hb d_Mo_person_23 (by decide) ?_
      refine pg_put (C := "SmokeZonesModel") (T := T_Mo) (N := 47) (ty := .int) hx hb hG in_Mo ty_Mo ok_Mo nm_Mo hown hK hP hD hS hM.1.1 hM.1.2 rfl 0 (by decide) (hG _ k621) (fun _ h9 => h9) rfl (by decide +kernel) rfl rfl (Nat.le_of_ble_eq_true rfl) d_Mo_person_27 (fun H locs hP hD hS => ?_)
      have hM := hM.putX (j := 0) (v := 2) rfl moF_0
      generalize va_up _ (AM 100) _ = f at hM hP hD
      refine lv_aload_n hx hb d_Mo_person_30 rfl (lv_at hl 0 rfl) ?_
      refine pg_get (C := "SmokeZonesModel") (T := T_Mo) (N := 47) hx hb hG in_Mo hown hK hP hM.1.1 hM.1.2 rfl 0 (by decide) (hG _ k621) (fun _ h9 => h9) rfl d_Mo_person_31 ?_
      refine lv_topi (fun y_8 ey_8 => ?_)
      obtain rfl : y_8 = 2 := ey_8.trans (by simp [up2])
      refine lv_if_le (tgt := 39) hx hb d_Mo_person_34 (by decide) (fun c_9 => ?_) (fun c_9 => ?_)
      · exact absurd c_9 (by decide)
      · refine lv_iconst (v := 0) hx hb d_Mo_person_37 (by decide) ?_
        have hN : MW ct AM L (xMpers X Y p1) Y f := by
          (try simp only [vMpers, xMpers, if_neg c_1, if_pos c_2, if_neg c_9])
          exact hM
        exact W.iret hx hb hret (fun t ht hW => ⟨⟨_, f, rfl, ⟨(by simp only [vMpers, xMpers, if_neg c_1, if_pos c_2, if_neg c_9]), hN⟩, by rw [ht]; exact hP, va_K.moved hW.alike hK, hD⟩, hS.F ht⟩) hS.2.2 d_Mo_person_38
  · refine lv_iconst (v := 1) hx hb d_Mo_person_9 (by decide) ?_
    refine lv_goto (tgt := 27) hx hb d_Mo_person_10 (by decide) ?_
    refine pg_put (C := "SmokeZonesModel") (T := T_Mo) (N := 47) (ty := .int) hx hb hG in_Mo ty_Mo ok_Mo nm_Mo hown hK hP hD hS hM.1.1 hM.1.2 rfl 0 (by decide) (hG _ k621) (fun _ h9 => h9) rfl (by decide +kernel) rfl rfl (Nat.le_of_ble_eq_true rfl) d_Mo_person_27 (fun H locs hP hD hS => ?_)
    have hM := hM.putX (j := 0) (v := 1) rfl moF_0
    generalize va_up _ (AM 100) _ = f at hM hP hD
    refine lv_aload_n hx hb d_Mo_person_30 rfl (lv_at hl 0 rfl) ?_
    refine pg_get (C := "SmokeZonesModel") (T := T_Mo) (N := 47) hx hb hG in_Mo hown hK hP hM.1.1 hM.1.2 rfl 0 (by decide) (hG _ k621) (fun _ h9 => h9) rfl d_Mo_person_31 ?_
    refine lv_topi (fun y_10 ey_10 => ?_)
    obtain rfl : y_10 = 1 := ey_10.trans (by simp [up2])
    refine lv_if_le (tgt := 39) hx hb d_Mo_person_34 (by decide) (fun c_11 => ?_) (fun c_11 => ?_)
    · exact absurd c_11 (by decide)
    · refine lv_iconst (v := 0) hx hb d_Mo_person_37 (by decide) ?_
      have hN : MW ct AM L (xMpers X Y p1) Y f := by
        (try simp only [vMpers, xMpers, if_pos c_1, if_neg c_11])
        exact hM
      exact W.iret hx hb hret (fun t ht hW => ⟨⟨_, f, rfl, ⟨(by simp only [vMpers, xMpers, if_pos c_1, if_neg c_11]), hN⟩, by rw [ht]; exact hP, va_K.moved hW.alike hK, hD⟩, hS.F ht⟩) hS.2.2 d_Mo_person_38

def vMsteelAt (X : I2) (Y : J2) (p1 : Int32) : Int32 := (if (m_in p1 0 ((X 31 0) - 1)) = 0 then 0 else Int64.toInt32 (Y 34 (Int32.toNatClampNeg p1)))
def xMsteelAt (X : I2) (Y : J2) (p1 : Int32) : I2 := (if (m_in p1 0 ((X 31 0) - 1)) = 0 then up2 X 0 0 1 else up2 X 0 0 0)
set_option maxHeartbeats 4000000 in
set_option maxRecDepth 100000 in
theorem c_Mo_steelAt {l : Launch} {D : va_G} {ct : Nat → ClassId} {AM : Nat → Nat} {L : List Nat} {f : Nat → va_E} {X : I2} {Y : J2} {sz : Nat} {p1 : Int32} {n4 : Nat} (hM : MW ct AM L X Y f) (h31 : X 31 0 = nI n4) (hc31 : n4 ≤ 9) : Met l y_Mo_steelAt (WS y_Mo_steelAt b_Mo_steelAt 2 (some .int)) { frames := 1, cells := 0, slots := 0, locals := 22 } (va_Pc [.ref (AM 100), .int p1] (WP D (TYS ct) L f sz)) (va_Qi (fun (r : Int32) f' => r = vMsteelAt X Y p1 ∧ MW ct AM L (xMsteelAt X Y p1) Y f') (fun f' t => WQ D (TYS ct) L f' (AA L f sz) t) (AA L f sz)) 0 0 (AA L f sz) := by
  refine Met.ofW (cc := b_Mo_steelAt) (maxL := 2) (ret := (some .int)) (by decide) rfl ?_
  intro p e s m args below meth c s₁ B hml hv
  obtain ⟨rfl, hsz, hP, hK, hD0⟩ := hv
  subst hsz
  have hx := B.exec
  have hb := B.bytes
  have hret := B.returns
  have hts := atoms_spec (ws := WS y_Mo_steelAt b_Mo_steelAt 2 (some .int)) B.pre
  have hG : ∀ w ∈ GW, w.before _ s = true := fun w h => hts w (List.mem_cons_of_mem _ h)
  have hown : s.vm.findClass "SmokeZonesModel" = some m.cls := findClass_of_methodNamed B.named
  have hlocks := B.notSynchronized
  have hD : va_D (AA L f s.heap.size) (va_pl L f) := hD0.self (sz := s.heap.size)
  generalize hAe : AA L f s.heap.size = A at hD ⊢
  have hA : ∀ q : Nat, s.heap.size ≤ q → A q := fun q h => by rw [← hAe]; exact Or.inr h
  have hS : va_S A s.heap s.heap [] := va_S.rf
  have hl := lv_entry ([.ref (AM 100), .int p1]) (n := 2) (Nat.le_of_ble_eq_true rfl)
  rw [lg_entry_eq]
  generalize (lg_sl ([.ref (AM 100), .int p1]) ++ List.replicate (2 - (lg_sl ([.ref (AM 100), .int p1])).length) Slot.unset).toArray = ls at hl ⊢
  have hl : lv_has ls 2 [(0, .ref (AM 100)), (1, .int p1)] := hl
  refine lv_aload_n hx hb d_Mo_steelAt_0 rfl (lv_at hl 0 rfl) ?_
  refine lv_iload_n hx hb d_Mo_steelAt_1 rfl (lv_at hl 1 rfl) ?_
  refine lv_iconst (v := 0) hx hb d_Mo_steelAt_2 (by decide) ?_
  refine lv_aload_n hx hb d_Mo_steelAt_3 rfl (lv_at hl 0 rfl) ?_
  refine pg_get (C := "SmokeZonesModel") (T := T_Mo) (N := 47) hx hb hG in_Mo hown hK hP hM.1.1 hM.1.2 rfl 31 (by decide) (hG _ k652) (fun _ h9 => h9) rfl d_Mo_steelAt_4 ?_
  refine lv_iconst (v := 1) hx hb d_Mo_steelAt_7 (by decide) ?_
  refine lv_isub hx hb d_Mo_steelAt_8 ?_
  refine kS_ri ⟨hx, hb, hml, hown, hG⟩ (c_Mo_in ) (cwS 3 hG (gS k773 k774 k2 k775) rfl rfl rfl hd_Mo_in ⟨Nat.le_of_ble_eq_true rfl, Nat.le_of_ble_eq_true rfl⟩) hK hP hS rfl hl.1 rfl (Nat.le_of_ble_eq_true rfl) ⟨Nat.le_of_ble_eq_true rfl, Nat.le_of_ble_eq_true rfl⟩ d_Mo_steelAt_9 (fun locs hS => ?_)
  refine lv_if_eq (tgt := 19) hx hb d_Mo_steelAt_12 (by decide) (fun c_1 => ?_) (fun c_1 => ?_)
  · refine lv_iconst (v := 1) hx hb d_Mo_steelAt_19 (by decide) ?_
    refine pg_put (C := "SmokeZonesModel") (T := T_Mo) (N := 47) (ty := .int) hx hb hG in_Mo ty_Mo ok_Mo nm_Mo hown hK hP hD hS hM.1.1 hM.1.2 rfl 0 (by decide) (hG _ k621) (fun _ h9 => h9) rfl (by decide +kernel) rfl rfl (Nat.le_of_ble_eq_true rfl) d_Mo_steelAt_20 (fun H locs hP hD hS => ?_)
    have hM := hM.putX (j := 0) (v := 1) rfl moF_0
    generalize va_up _ (AM 100) _ = f at hM hP hD
    refine lv_aload_n hx hb d_Mo_steelAt_23 rfl (lv_at hl 0 rfl) ?_
    refine pg_get (C := "SmokeZonesModel") (T := T_Mo) (N := 47) hx hb hG in_Mo hown hK hP hM.1.1 hM.1.2 rfl 0 (by decide) (hG _ k621) (fun _ h9 => h9) rfl d_Mo_steelAt_24 ?_
    refine lv_topi (fun y_2 ey_2 => ?_)
    obtain rfl : y_2 = 1 := ey_2.trans (by simp [up2])
    refine lv_if_le (tgt := 34) hx hb d_Mo_steelAt_27 (by decide) (fun c_3 => ?_) (fun c_3 => ?_)
    · exact absurd c_3 (by decide)
    · refine lv_iconst (v := 0) hx hb d_Mo_steelAt_30 (by decide) ?_
      refine lv_goto (tgt := 41) hx hb d_Mo_steelAt_31 (by decide) ?_
      have hN : MW ct AM L (xMsteelAt X Y p1) Y f := by
        (try simp only [vMsteelAt, xMsteelAt, if_pos c_1, if_neg c_3])
        exact hM
      exact W.iret hx hb hret (fun t ht hW => ⟨⟨_, f, rfl, ⟨(by simp only [vMsteelAt, xMsteelAt, if_pos c_1, if_neg c_3]), hN⟩, by rw [ht]; exact hP, va_K.moved hW.alike hK, hD⟩, hS.F ht⟩) hS.2.2 d_Mo_steelAt_41
  · obtain ⟨r, hr, er⟩ := in_of c_1 h31 (by omega)
    have hcl : Int32.toNatClampNeg p1 = r := by rw [er]; exact nI_clamp (by omega)
    refine lv_iconst (v := 0) hx hb d_Mo_steelAt_15 (by decide) ?_
    refine lv_goto (tgt := 20) hx hb d_Mo_steelAt_16 (by decide) ?_
    refine pg_put (C := "SmokeZonesModel") (T := T_Mo) (N := 47) (ty := .int) hx hb hG in_Mo ty_Mo ok_Mo nm_Mo hown hK hP hD hS hM.1.1 hM.1.2 rfl 0 (by decide) (hG _ k621) (fun _ h9 => h9) rfl (by decide +kernel) rfl rfl (Nat.le_of_ble_eq_true rfl) d_Mo_steelAt_20 (fun H locs hP hD hS => ?_)
    have hM := hM.putX (j := 0) (v := 0) rfl moF_0
    generalize va_up _ (AM 100) _ = f at hM hP hD
    refine lv_aload_n hx hb d_Mo_steelAt_23 rfl (lv_at hl 0 rfl) ?_
    refine pg_get (C := "SmokeZonesModel") (T := T_Mo) (N := 47) hx hb hG in_Mo hown hK hP hM.1.1 hM.1.2 rfl 0 (by decide) (hG _ k621) (fun _ h9 => h9) rfl d_Mo_steelAt_24 ?_
    refine lv_topi (fun y_4 ey_4 => ?_)
    obtain rfl : y_4 = 0 := ey_4.trans (by simp [up2])
    refine lv_if_le (tgt := 34) hx hb d_Mo_steelAt_27 (by decide) (fun c_5 => ?_) (fun c_5 => ?_)
    · refine lv_aload_n hx hb d_Mo_steelAt_34 rfl (lv_at hl 0 rfl) ?_
      refine pg_get (C := "SmokeZonesModel") (T := T_Mo) (N := 47) hx hb hG in_Mo hown hK hP hM.1.1 hM.1.2 rfl 34 (by decide) (hG _ k655) (fun _ h9 => h9) rfl d_Mo_steelAt_35 ?_
      refine lv_iload_n hx hb d_Mo_steelAt_38 rfl (lv_at hl 1 rfl) ?_
      refine mw_lald hx hb hK hP hM (j := 34) rfl (by rw [er]; exact vp_in_nI (show r < 9 by omega) (by decide)) d_Mo_steelAt_39 ?_
      refine lv_l2i hx hb d_Mo_steelAt_40 rfl ?_
      have hN : MW ct AM L (xMsteelAt X Y p1) Y f := by
        (try simp only [vMsteelAt, xMsteelAt, if_neg c_1, if_pos c_5])
        exact hM
      exact W.iret hx hb hret (fun t ht hW => ⟨⟨_, f, rfl, ⟨(by simp only [vMsteelAt, xMsteelAt, if_neg c_1, if_pos c_5]), hN⟩, by rw [ht]; exact hP, va_K.moved hW.alike hK, hD⟩, hS.F ht⟩) hS.2.2 d_Mo_steelAt_41
    · exact absurd (by decide) c_5

def vMopenAt (X : I2) (Y : J2) (p1 p2 : Int32) : Int64 := (if (m_in p1 0 ((X 10 0) - 1)) = 0 then 0 else (if (m_in p2 0 2) = 0 then 0 else (if p2 = 0 then (if (X 17 (Int32.toNatClampNeg p1)) = 0 then 0 else 1) else (if p2 = 1 then Y 18 (Int32.toNatClampNeg p1) else Y 20 (Int32.toNatClampNeg p1)))))
def xMopenAt (X : I2) (Y : J2) (p1 p2 : Int32) : I2 := (if (m_in p1 0 ((X 10 0) - 1)) = 0 then up2 X 0 0 1 else (if (m_in p2 0 2) = 0 then up2 X 0 0 1 else up2 X 0 0 0))
set_option maxHeartbeats 4000000 in
set_option maxRecDepth 100000 in
theorem c_Mo_openingAt {l : Launch} {D : va_G} {ct : Nat → ClassId} {AM : Nat → Nat} {L : List Nat} {f : Nat → va_E} {X : I2} {Y : J2} {sz : Nat} {p1 p2 : Int32} {n1 : Nat} (hM : MW ct AM L X Y f) (h10 : X 10 0 = nI n1) (hc10 : n1 ≤ 15) : Met l y_Mo_openingAt (WS y_Mo_openingAt b_Mo_openingAt 3 (some .long)) { frames := 1, cells := 0, slots := 0, locals := 22 } (va_Pc [.ref (AM 100), .int p1, .int p2] (WP D (TYS ct) L f sz)) (va_Ql (fun (r : Int64) f' => r = vMopenAt X Y p1 p2 ∧ MW ct AM L (xMopenAt X Y p1 p2) Y f') (fun f' t => WQ D (TYS ct) L f' (AA L f sz) t) (AA L f sz)) 0 0 (AA L f sz) := by
  refine Met.ofW (cc := b_Mo_openingAt) (maxL := 3) (ret := (some .long)) (by decide) rfl ?_
  intro p e s m args below meth c s₁ B hml hv
  obtain ⟨rfl, hsz, hP, hK, hD0⟩ := hv
  subst hsz
  have hx := B.exec
  have hb := B.bytes
  have hret := B.returns
  have hts := atoms_spec (ws := WS y_Mo_openingAt b_Mo_openingAt 3 (some .long)) B.pre
  have hG : ∀ w ∈ GW, w.before _ s = true := fun w h => hts w (List.mem_cons_of_mem _ h)
  have hown : s.vm.findClass "SmokeZonesModel" = some m.cls := findClass_of_methodNamed B.named
  have hlocks := B.notSynchronized
  have hD : va_D (AA L f s.heap.size) (va_pl L f) := hD0.self (sz := s.heap.size)
  generalize hAe : AA L f s.heap.size = A at hD ⊢
  have hA : ∀ q : Nat, s.heap.size ≤ q → A q := fun q h => by rw [← hAe]; exact Or.inr h
  have hS : va_S A s.heap s.heap [] := va_S.rf
  have hl := lv_entry ([.ref (AM 100), .int p1, .int p2]) (n := 3) (Nat.le_of_ble_eq_true rfl)
  rw [lg_entry_eq]
  generalize (lg_sl ([.ref (AM 100), .int p1, .int p2]) ++ List.replicate (3 - (lg_sl ([.ref (AM 100), .int p1, .int p2])).length) Slot.unset).toArray = ls at hl ⊢
  have hl : lv_has ls 3 [(0, .ref (AM 100)), (1, .int p1), (2, .int p2)] := hl
  refine lv_aload_n hx hb d_Mo_openingAt_0 rfl (lv_at hl 0 rfl) ?_
  refine lv_iload_n hx hb d_Mo_openingAt_1 rfl (lv_at hl 1 rfl) ?_
  refine lv_iconst (v := 0) hx hb d_Mo_openingAt_2 (by decide) ?_
  refine lv_aload_n hx hb d_Mo_openingAt_3 rfl (lv_at hl 0 rfl) ?_
  refine pg_get (C := "SmokeZonesModel") (T := T_Mo) (N := 47) hx hb hG in_Mo hown hK hP hM.1.1 hM.1.2 rfl 10 (by decide) (hG _ k631) (fun _ h9 => h9) rfl d_Mo_openingAt_4 ?_
  refine lv_iconst (v := 1) hx hb d_Mo_openingAt_7 (by decide) ?_
  refine lv_isub hx hb d_Mo_openingAt_8 ?_
  refine kS_ri ⟨hx, hb, hml, hown, hG⟩ (c_Mo_in ) (cwS 3 hG (gS k773 k774 k2 k775) rfl rfl rfl hd_Mo_in ⟨Nat.le_of_ble_eq_true rfl, Nat.le_of_ble_eq_true rfl⟩) hK hP hS rfl hl.1 rfl (Nat.le_of_ble_eq_true rfl) ⟨Nat.le_of_ble_eq_true rfl, Nat.le_of_ble_eq_true rfl⟩ d_Mo_openingAt_9 (fun locs hS => ?_)
  refine lv_if_eq (tgt := 28) hx hb d_Mo_openingAt_12 (by decide) (fun c_1 => ?_) (fun c_1 => ?_)
  · refine lv_iconst (v := 1) hx hb d_Mo_openingAt_28 (by decide) ?_
    refine pg_put (C := "SmokeZonesModel") (T := T_Mo) (N := 47) (ty := .int) hx hb hG in_Mo ty_Mo ok_Mo nm_Mo hown hK hP hD hS hM.1.1 hM.1.2 rfl 0 (by decide) (hG _ k621) (fun _ h9 => h9) rfl (by decide +kernel) rfl rfl (Nat.le_of_ble_eq_true rfl) d_Mo_openingAt_29 (fun H locs hP hD hS => ?_)
    have hM := hM.putX (j := 0) (v := 1) rfl moF_0
    generalize va_up _ (AM 100) _ = f at hM hP hD
    refine lv_aload_n hx hb d_Mo_openingAt_32 rfl (lv_at hl 0 rfl) ?_
    refine pg_get (C := "SmokeZonesModel") (T := T_Mo) (N := 47) hx hb hG in_Mo hown hK hP hM.1.1 hM.1.2 rfl 0 (by decide) (hG _ k621) (fun _ h9 => h9) rfl d_Mo_openingAt_33 ?_
    refine lv_topi (fun y_2 ey_2 => ?_)
    obtain rfl : y_2 = 1 := ey_2.trans (by simp [up2])
    refine lv_if_le (tgt := 43) hx hb d_Mo_openingAt_36 (by decide) (fun c_3 => ?_) (fun c_3 => ?_)
    · exact absurd c_3 (by decide)
    · refine lv_lconst (v := 0) hx hb d_Mo_openingAt_39 (by decide) ?_
      refine lv_goto (tgt := 84) hx hb d_Mo_openingAt_40 (by decide) ?_
      have hN : MW ct AM L (xMopenAt X Y p1 p2) Y f := by
        (try simp only [vMopenAt, xMopenAt, if_pos c_1, if_neg c_3])
        exact hM
      exact W.lret hx hb hret (fun t ht hW => ⟨⟨_, f, rfl, ⟨(by simp only [vMopenAt, xMopenAt, if_pos c_1, if_neg c_3]), hN⟩, by rw [ht]; exact hP, va_K.moved hW.alike hK, hD⟩, hS.F ht⟩) hS.2.2 d_Mo_openingAt_84
  · obtain ⟨r, hr, er⟩ := in_of c_1 h10 (by omega)
    have hcl : Int32.toNatClampNeg p1 = r := by rw [er]; exact nI_clamp (by omega)
    refine lv_iload_n hx hb d_Mo_openingAt_15 rfl (lv_at hl 2 rfl) ?_
    refine lv_iconst (v := 0) hx hb d_Mo_openingAt_16 (by decide) ?_
    refine lv_iconst (v := 2) hx hb d_Mo_openingAt_17 (by decide) ?_
    refine kS_ri ⟨hx, hb, hml, hown, hG⟩ (c_Mo_in ) (cwS 3 hG (gS k773 k774 k2 k775) rfl rfl rfl hd_Mo_in ⟨Nat.le_of_ble_eq_true rfl, Nat.le_of_ble_eq_true rfl⟩) hK hP hS rfl hl.1 rfl (Nat.le_of_ble_eq_true rfl) ⟨Nat.le_of_ble_eq_true rfl, Nat.le_of_ble_eq_true rfl⟩ d_Mo_openingAt_18 (fun locs hS => ?_)
    refine lv_if_eq (tgt := 28) hx hb d_Mo_openingAt_21 (by decide) (fun c_4 => ?_) (fun c_4 => ?_)
    · refine lv_iconst (v := 1) hx hb d_Mo_openingAt_28 (by decide) ?_
      refine pg_put (C := "SmokeZonesModel") (T := T_Mo) (N := 47) (ty := .int) hx hb hG in_Mo ty_Mo ok_Mo nm_Mo hown hK hP hD hS hM.1.1 hM.1.2 rfl 0 (by decide) (hG _ k621) (fun _ h9 => h9) rfl (by decide +kernel) rfl rfl (Nat.le_of_ble_eq_true rfl) d_Mo_openingAt_29 (fun H locs hP hD hS => ?_)
      have hM := hM.putX (j := 0) (v := 1) rfl moF_0
      generalize va_up _ (AM 100) _ = f at hM hP hD
      refine lv_aload_n hx hb d_Mo_openingAt_32 rfl (lv_at hl 0 rfl) ?_
      refine pg_get (C := "SmokeZonesModel") (T := T_Mo) (N := 47) hx hb hG in_Mo hown hK hP hM.1.1 hM.1.2 rfl 0 (by decide) (hG _ k621) (fun _ h9 => h9) rfl d_Mo_openingAt_33 ?_
      refine lv_topi (fun y_5 ey_5 => ?_)
      obtain rfl : y_5 = 1 := ey_5.trans (by simp [up2])
      refine lv_if_le (tgt := 43) hx hb d_Mo_openingAt_36 (by decide) (fun c_6 => ?_) (fun c_6 => ?_)
      · exact absurd c_6 (by decide)
      · refine lv_lconst (v := 0) hx hb d_Mo_openingAt_39 (by decide) ?_
        refine lv_goto (tgt := 84) hx hb d_Mo_openingAt_40 (by decide) ?_
        have hN : MW ct AM L (xMopenAt X Y p1 p2) Y f := by
          (try simp only [vMopenAt, xMopenAt, if_neg c_1, if_pos c_4, if_neg c_6])
          exact hM
        exact W.lret hx hb hret (fun t ht hW => ⟨⟨_, f, rfl, ⟨(by simp only [vMopenAt, xMopenAt, if_neg c_1, if_pos c_4, if_neg c_6]), hN⟩, by rw [ht]; exact hP, va_K.moved hW.alike hK, hD⟩, hS.F ht⟩) hS.2.2 d_Mo_openingAt_84
    · refine lv_iconst (v := 0) hx hb d_Mo_openingAt_24 (by decide) ?_
      refine lv_goto (tgt := 29) hx hb d_Mo_openingAt_25 (by decide) ?_
      refine pg_put (C := "SmokeZonesModel") (T := T_Mo) (N := 47) (ty := .int) hx hb hG in_Mo ty_Mo ok_Mo nm_Mo hown hK hP hD hS hM.1.1 hM.1.2 rfl 0 (by decide) (hG _ k621) (fun _ h9 => h9) rfl (by decide +kernel) rfl rfl (Nat.le_of_ble_eq_true rfl) d_Mo_openingAt_29 (fun H locs hP hD hS => ?_)
      have hM := hM.putX (j := 0) (v := 0) rfl moF_0
      generalize va_up _ (AM 100) _ = f at hM hP hD
      refine lv_aload_n hx hb d_Mo_openingAt_32 rfl (lv_at hl 0 rfl) ?_
      refine pg_get (C := "SmokeZonesModel") (T := T_Mo) (N := 47) hx hb hG in_Mo hown hK hP hM.1.1 hM.1.2 rfl 0 (by decide) (hG _ k621) (fun _ h9 => h9) rfl d_Mo_openingAt_33 ?_
      refine lv_topi (fun y_7 ey_7 => ?_)
      obtain rfl : y_7 = 0 := ey_7.trans (by simp [up2])
      refine lv_if_le (tgt := 43) hx hb d_Mo_openingAt_36 (by decide) (fun c_8 => ?_) (fun c_8 => ?_)
      · refine lv_iload_n hx hb d_Mo_openingAt_43 rfl (lv_at hl 2 rfl) ?_
        refine lv_if_ne (tgt := 64) hx hb d_Mo_openingAt_44 (by decide) (fun c_9 => ?_) (fun c_9 => ?_)
        · refine lv_iload_n hx hb d_Mo_openingAt_64 rfl (lv_at hl 2 rfl) ?_
          refine lv_iconst (v := 1) hx hb d_Mo_openingAt_65 (by decide) ?_
          refine lv_icmp_ne (tgt := 78) hx hb d_Mo_openingAt_66 (by decide) (fun c_10 => ?_) (fun c_10 => ?_)
          · refine lv_aload_n hx hb d_Mo_openingAt_78 rfl (lv_at hl 0 rfl) ?_
            refine pg_get (C := "SmokeZonesModel") (T := T_Mo) (N := 47) hx hb hG in_Mo hown hK hP hM.1.1 hM.1.2 rfl 20 (by decide) (hG _ k641) (fun _ h9 => h9) rfl d_Mo_openingAt_79 ?_
            refine lv_iload_n hx hb d_Mo_openingAt_82 rfl (lv_at hl 1 rfl) ?_
            refine mw_lald hx hb hK hP hM (j := 20) rfl (by rw [er]; exact vp_in_nI (show r < 15 by omega) (by decide)) d_Mo_openingAt_83 ?_
            have hN : MW ct AM L (xMopenAt X Y p1 p2) Y f := by
              (try simp only [vMopenAt, xMopenAt, if_neg c_1, if_neg c_4, if_pos c_8, if_neg c_9, if_neg c_10])
              exact hM
            exact W.lret hx hb hret (fun t ht hW => ⟨⟨_, f, rfl, ⟨(by simp only [vMopenAt, xMopenAt, if_neg c_1, if_neg c_4, if_pos c_8, if_neg c_9, if_neg c_10]), hN⟩, by rw [ht]; exact hP, va_K.moved hW.alike hK, hD⟩, hS.F ht⟩) hS.2.2 d_Mo_openingAt_84
          · refine lv_aload_n hx hb d_Mo_openingAt_69 rfl (lv_at hl 0 rfl) ?_
            refine pg_get (C := "SmokeZonesModel") (T := T_Mo) (N := 47) hx hb hG in_Mo hown hK hP hM.1.1 hM.1.2 rfl 18 (by decide) (hG _ k639) (fun _ h9 => h9) rfl d_Mo_openingAt_70 ?_
            refine lv_iload_n hx hb d_Mo_openingAt_73 rfl (lv_at hl 1 rfl) ?_
            refine mw_lald hx hb hK hP hM (j := 18) rfl (by rw [er]; exact vp_in_nI (show r < 15 by omega) (by decide)) d_Mo_openingAt_74 ?_
            refine lv_goto (tgt := 84) hx hb d_Mo_openingAt_75 (by decide) ?_
            have hN : MW ct AM L (xMopenAt X Y p1 p2) Y f := by
              (try simp only [vMopenAt, xMopenAt, if_neg c_1, if_neg c_4, if_pos c_8, if_neg c_9, if_pos c_10])
              exact hM
            exact W.lret hx hb hret (fun t ht hW => ⟨⟨_, f, rfl, ⟨(by simp only [vMopenAt, xMopenAt, if_neg c_1, if_neg c_4, if_pos c_8, if_neg c_9, if_pos c_10]), hN⟩, by rw [ht]; exact hP, va_K.moved hW.alike hK, hD⟩, hS.F ht⟩) hS.2.2 d_Mo_openingAt_84
        · refine lv_aload_n hx hb d_Mo_openingAt_47 rfl (lv_at hl 0 rfl) ?_
          refine pg_get (C := "SmokeZonesModel") (T := T_Mo) (N := 47) hx hb hG in_Mo hown hK hP hM.1.1 hM.1.2 rfl 17 (by decide) (hG _ k638) (fun _ h9 => h9) rfl d_Mo_openingAt_48 ?_
          refine lv_iload_n hx hb d_Mo_openingAt_51 rfl (lv_at hl 1 rfl) ?_
          refine mw_zald hx hb hK hP hM (j := 17) rfl (by rw [er]; exact vp_in_nI (show r < 15 by omega) (by decide)) d_Mo_openingAt_52 ?_
          refine lv_topi (fun y_11 ey_11 => ?_)
          obtain rfl : y_11 = X 17 (Int32.toNatClampNeg p1) := ey_11.trans (by simp [up2])
          refine lv_if_eq (tgt := 60) hx hb d_Mo_openingAt_53 (by decide) (fun c_12 => ?_) (fun c_12 => ?_)
          · refine lv_lconst (v := 0) hx hb d_Mo_openingAt_60 (by decide) ?_
            refine lv_goto (tgt := 84) hx hb d_Mo_openingAt_61 (by decide) ?_
            have hN : MW ct AM L (xMopenAt X Y p1 p2) Y f := by
              (try simp only [vMopenAt, xMopenAt, if_neg c_1, if_neg c_4, if_pos c_8, if_pos c_9, if_pos c_12])
              exact hM
            exact W.lret hx hb hret (fun t ht hW => ⟨⟨_, f, rfl, ⟨(by simp only [vMopenAt, xMopenAt, if_neg c_1, if_neg c_4, if_pos c_8, if_pos c_9, if_pos c_12]), hN⟩, by rw [ht]; exact hP, va_K.moved hW.alike hK, hD⟩, hS.F ht⟩) hS.2.2 d_Mo_openingAt_84
          · refine lv_lconst (v := 1) hx hb d_Mo_openingAt_56 (by decide) ?_
            refine lv_goto (tgt := 84) hx hb d_Mo_openingAt_57 (by decide) ?_
            have hN : MW ct AM L (xMopenAt X Y p1 p2) Y f := by
              (try simp only [vMopenAt, xMopenAt, if_neg c_1, if_neg c_4, if_pos c_8, if_pos c_9, if_neg c_12])
              exact hM
            exact W.lret hx hb hret (fun t ht hW => ⟨⟨_, f, rfl, ⟨(by simp only [vMopenAt, xMopenAt, if_neg c_1, if_neg c_4, if_pos c_8, if_pos c_9, if_neg c_12]), hN⟩, by rw [ht]; exact hP, va_K.moved hW.alike hK, hD⟩, hS.F ht⟩) hS.2.2 d_Mo_openingAt_84
      · exact absurd (by decide) c_8

def vMpersAt (X : I2) (Y : J2) (p1 p2 : Int32) : Int64 := (if (m_in p1 0 ((X 35 0) - 1)) = 0 then 0 else (if (m_in p2 0 2) = 0 then 0 else (if p2 = 0 then Int32.toInt64 (X 36 (Int32.toNatClampNeg p1)) else (if p2 = 1 then Y 37 (Int32.toNatClampNeg p1) else Int32.toInt64 (X 38 (Int32.toNatClampNeg p1))))))
def xMpersAt (X : I2) (Y : J2) (p1 p2 : Int32) : I2 := (if (m_in p1 0 ((X 35 0) - 1)) = 0 then up2 X 0 0 1 else (if (m_in p2 0 2) = 0 then up2 X 0 0 1 else up2 X 0 0 0))
set_option maxHeartbeats 4000000 in
set_option maxRecDepth 100000 in
theorem c_Mo_personAt {l : Launch} {D : va_G} {ct : Nat → ClassId} {AM : Nat → Nat} {L : List Nat} {f : Nat → va_E} {X : I2} {Y : J2} {sz : Nat} {p1 p2 : Int32} {n5 : Nat} (hM : MW ct AM L X Y f) (h35 : X 35 0 = nI n5) (hc35 : n5 ≤ 9) : Met l y_Mo_personAt (WS y_Mo_personAt b_Mo_personAt 3 (some .long)) { frames := 1, cells := 0, slots := 0, locals := 22 } (va_Pc [.ref (AM 100), .int p1, .int p2] (WP D (TYS ct) L f sz)) (va_Ql (fun (r : Int64) f' => r = vMpersAt X Y p1 p2 ∧ MW ct AM L (xMpersAt X Y p1 p2) Y f') (fun f' t => WQ D (TYS ct) L f' (AA L f sz) t) (AA L f sz)) 0 0 (AA L f sz) := by
  refine Met.ofW (cc := b_Mo_personAt) (maxL := 3) (ret := (some .long)) (by decide) rfl ?_
  intro p e s m args below meth c s₁ B hml hv
  obtain ⟨rfl, hsz, hP, hK, hD0⟩ := hv
  subst hsz
  have hx := B.exec
  have hb := B.bytes
  have hret := B.returns
  have hts := atoms_spec (ws := WS y_Mo_personAt b_Mo_personAt 3 (some .long)) B.pre
  have hG : ∀ w ∈ GW, w.before _ s = true := fun w h => hts w (List.mem_cons_of_mem _ h)
  have hown : s.vm.findClass "SmokeZonesModel" = some m.cls := findClass_of_methodNamed B.named
  have hlocks := B.notSynchronized
  have hD : va_D (AA L f s.heap.size) (va_pl L f) := hD0.self (sz := s.heap.size)
  generalize hAe : AA L f s.heap.size = A at hD ⊢
  have hA : ∀ q : Nat, s.heap.size ≤ q → A q := fun q h => by rw [← hAe]; exact Or.inr h
  have hS : va_S A s.heap s.heap [] := va_S.rf
  have hl := lv_entry ([.ref (AM 100), .int p1, .int p2]) (n := 3) (Nat.le_of_ble_eq_true rfl)
  rw [lg_entry_eq]
  generalize (lg_sl ([.ref (AM 100), .int p1, .int p2]) ++ List.replicate (3 - (lg_sl ([.ref (AM 100), .int p1, .int p2])).length) Slot.unset).toArray = ls at hl ⊢
  have hl : lv_has ls 3 [(0, .ref (AM 100)), (1, .int p1), (2, .int p2)] := hl
  refine lv_aload_n hx hb d_Mo_personAt_0 rfl (lv_at hl 0 rfl) ?_
  refine lv_iload_n hx hb d_Mo_personAt_1 rfl (lv_at hl 1 rfl) ?_
  refine lv_iconst (v := 0) hx hb d_Mo_personAt_2 (by decide) ?_
  refine lv_aload_n hx hb d_Mo_personAt_3 rfl (lv_at hl 0 rfl) ?_
  refine pg_get (C := "SmokeZonesModel") (T := T_Mo) (N := 47) hx hb hG in_Mo hown hK hP hM.1.1 hM.1.2 rfl 35 (by decide) (hG _ k656) (fun _ h9 => h9) rfl d_Mo_personAt_4 ?_
  refine lv_iconst (v := 1) hx hb d_Mo_personAt_7 (by decide) ?_
  refine lv_isub hx hb d_Mo_personAt_8 ?_
  refine kS_ri ⟨hx, hb, hml, hown, hG⟩ (c_Mo_in ) (cwS 3 hG (gS k773 k774 k2 k775) rfl rfl rfl hd_Mo_in ⟨Nat.le_of_ble_eq_true rfl, Nat.le_of_ble_eq_true rfl⟩) hK hP hS rfl hl.1 rfl (Nat.le_of_ble_eq_true rfl) ⟨Nat.le_of_ble_eq_true rfl, Nat.le_of_ble_eq_true rfl⟩ d_Mo_personAt_9 (fun locs hS => ?_)
  refine lv_if_eq (tgt := 28) hx hb d_Mo_personAt_12 (by decide) (fun c_1 => ?_) (fun c_1 => ?_)
  · refine lv_iconst (v := 1) hx hb d_Mo_personAt_28 (by decide) ?_
    refine pg_put (C := "SmokeZonesModel") (T := T_Mo) (N := 47) (ty := .int) hx hb hG in_Mo ty_Mo ok_Mo nm_Mo hown hK hP hD hS hM.1.1 hM.1.2 rfl 0 (by decide) (hG _ k621) (fun _ h9 => h9) rfl (by decide +kernel) rfl rfl (Nat.le_of_ble_eq_true rfl) d_Mo_personAt_29 (fun H locs hP hD hS => ?_)
    have hM := hM.putX (j := 0) (v := 1) rfl moF_0
    generalize va_up _ (AM 100) _ = f at hM hP hD
    refine lv_aload_n hx hb d_Mo_personAt_32 rfl (lv_at hl 0 rfl) ?_
    refine pg_get (C := "SmokeZonesModel") (T := T_Mo) (N := 47) hx hb hG in_Mo hown hK hP hM.1.1 hM.1.2 rfl 0 (by decide) (hG _ k621) (fun _ h9 => h9) rfl d_Mo_personAt_33 ?_
    refine lv_topi (fun y_2 ey_2 => ?_)
    obtain rfl : y_2 = 1 := ey_2.trans (by simp [up2])
    refine lv_if_le (tgt := 43) hx hb d_Mo_personAt_36 (by decide) (fun c_3 => ?_) (fun c_3 => ?_)
    · exact absurd c_3 (by decide)
    · refine lv_lconst (v := 0) hx hb d_Mo_personAt_39 (by decide) ?_
      refine lv_goto (tgt := 78) hx hb d_Mo_personAt_40 (by decide) ?_
      have hN : MW ct AM L (xMpersAt X Y p1 p2) Y f := by
        (try simp only [vMpersAt, xMpersAt, if_pos c_1, if_neg c_3])
        exact hM
      exact W.lret hx hb hret (fun t ht hW => ⟨⟨_, f, rfl, ⟨(by simp only [vMpersAt, xMpersAt, if_pos c_1, if_neg c_3]), hN⟩, by rw [ht]; exact hP, va_K.moved hW.alike hK, hD⟩, hS.F ht⟩) hS.2.2 d_Mo_personAt_78
  · obtain ⟨r, hr, er⟩ := in_of c_1 h35 (by omega)
    have hcl : Int32.toNatClampNeg p1 = r := by rw [er]; exact nI_clamp (by omega)
    refine lv_iload_n hx hb d_Mo_personAt_15 rfl (lv_at hl 2 rfl) ?_
    refine lv_iconst (v := 0) hx hb d_Mo_personAt_16 (by decide) ?_
    refine lv_iconst (v := 2) hx hb d_Mo_personAt_17 (by decide) ?_
    refine kS_ri ⟨hx, hb, hml, hown, hG⟩ (c_Mo_in ) (cwS 3 hG (gS k773 k774 k2 k775) rfl rfl rfl hd_Mo_in ⟨Nat.le_of_ble_eq_true rfl, Nat.le_of_ble_eq_true rfl⟩) hK hP hS rfl hl.1 rfl (Nat.le_of_ble_eq_true rfl) ⟨Nat.le_of_ble_eq_true rfl, Nat.le_of_ble_eq_true rfl⟩ d_Mo_personAt_18 (fun locs hS => ?_)
    refine lv_if_eq (tgt := 28) hx hb d_Mo_personAt_21 (by decide) (fun c_4 => ?_) (fun c_4 => ?_)
    · refine lv_iconst (v := 1) hx hb d_Mo_personAt_28 (by decide) ?_
      refine pg_put (C := "SmokeZonesModel") (T := T_Mo) (N := 47) (ty := .int) hx hb hG in_Mo ty_Mo ok_Mo nm_Mo hown hK hP hD hS hM.1.1 hM.1.2 rfl 0 (by decide) (hG _ k621) (fun _ h9 => h9) rfl (by decide +kernel) rfl rfl (Nat.le_of_ble_eq_true rfl) d_Mo_personAt_29 (fun H locs hP hD hS => ?_)
      have hM := hM.putX (j := 0) (v := 1) rfl moF_0
      generalize va_up _ (AM 100) _ = f at hM hP hD
      refine lv_aload_n hx hb d_Mo_personAt_32 rfl (lv_at hl 0 rfl) ?_
      refine pg_get (C := "SmokeZonesModel") (T := T_Mo) (N := 47) hx hb hG in_Mo hown hK hP hM.1.1 hM.1.2 rfl 0 (by decide) (hG _ k621) (fun _ h9 => h9) rfl d_Mo_personAt_33 ?_
      refine lv_topi (fun y_5 ey_5 => ?_)
      obtain rfl : y_5 = 1 := ey_5.trans (by simp [up2])
      refine lv_if_le (tgt := 43) hx hb d_Mo_personAt_36 (by decide) (fun c_6 => ?_) (fun c_6 => ?_)
      · exact absurd c_6 (by decide)
      · refine lv_lconst (v := 0) hx hb d_Mo_personAt_39 (by decide) ?_
        refine lv_goto (tgt := 78) hx hb d_Mo_personAt_40 (by decide) ?_
        have hN : MW ct AM L (xMpersAt X Y p1 p2) Y f := by
          (try simp only [vMpersAt, xMpersAt, if_neg c_1, if_pos c_4, if_neg c_6])
          exact hM
        exact W.lret hx hb hret (fun t ht hW => ⟨⟨_, f, rfl, ⟨(by simp only [vMpersAt, xMpersAt, if_neg c_1, if_pos c_4, if_neg c_6]), hN⟩, by rw [ht]; exact hP, va_K.moved hW.alike hK, hD⟩, hS.F ht⟩) hS.2.2 d_Mo_personAt_78
    · refine lv_iconst (v := 0) hx hb d_Mo_personAt_24 (by decide) ?_
      refine lv_goto (tgt := 29) hx hb d_Mo_personAt_25 (by decide) ?_
      refine pg_put (C := "SmokeZonesModel") (T := T_Mo) (N := 47) (ty := .int) hx hb hG in_Mo ty_Mo ok_Mo nm_Mo hown hK hP hD hS hM.1.1 hM.1.2 rfl 0 (by decide) (hG _ k621) (fun _ h9 => h9) rfl (by decide +kernel) rfl rfl (Nat.le_of_ble_eq_true rfl) d_Mo_personAt_29 (fun H locs hP hD hS => ?_)
      have hM := hM.putX (j := 0) (v := 0) rfl moF_0
      generalize va_up _ (AM 100) _ = f at hM hP hD
      refine lv_aload_n hx hb d_Mo_personAt_32 rfl (lv_at hl 0 rfl) ?_
      refine pg_get (C := "SmokeZonesModel") (T := T_Mo) (N := 47) hx hb hG in_Mo hown hK hP hM.1.1 hM.1.2 rfl 0 (by decide) (hG _ k621) (fun _ h9 => h9) rfl d_Mo_personAt_33 ?_
      refine lv_topi (fun y_7 ey_7 => ?_)
      obtain rfl : y_7 = 0 := ey_7.trans (by simp [up2])
      refine lv_if_le (tgt := 43) hx hb d_Mo_personAt_36 (by decide) (fun c_8 => ?_) (fun c_8 => ?_)
      · refine lv_iload_n hx hb d_Mo_personAt_43 rfl (lv_at hl 2 rfl) ?_
        refine lv_if_ne (tgt := 57) hx hb d_Mo_personAt_44 (by decide) (fun c_9 => ?_) (fun c_9 => ?_)
        · refine lv_iload_n hx hb d_Mo_personAt_57 rfl (lv_at hl 2 rfl) ?_
          refine lv_iconst (v := 1) hx hb d_Mo_personAt_58 (by decide) ?_
          refine lv_icmp_ne (tgt := 71) hx hb d_Mo_personAt_59 (by decide) (fun c_10 => ?_) (fun c_10 => ?_)
          · refine lv_aload_n hx hb d_Mo_personAt_71 rfl (lv_at hl 0 rfl) ?_
            refine pg_get (C := "SmokeZonesModel") (T := T_Mo) (N := 47) hx hb hG in_Mo hown hK hP hM.1.1 hM.1.2 rfl 38 (by decide) (hG _ k659) (fun _ h9 => h9) rfl d_Mo_personAt_72 ?_
            refine lv_iload_n hx hb d_Mo_personAt_75 rfl (lv_at hl 1 rfl) ?_
            refine mw_iald hx hb hK hP hM (j := 38) rfl (by rw [er]; exact vp_in_nI (show r < 9 by omega) (by decide)) d_Mo_personAt_76 ?_
            refine lv_topi (fun y_11 ey_11 => ?_)
            obtain rfl : y_11 = X 38 (Int32.toNatClampNeg p1) := ey_11.trans (by simp [up2])
            refine lv_i2l hx hb d_Mo_personAt_77 rfl ?_
            have hN : MW ct AM L (xMpersAt X Y p1 p2) Y f := by
              (try simp only [vMpersAt, xMpersAt, if_neg c_1, if_neg c_4, if_pos c_8, if_neg c_9, if_neg c_10])
              exact hM
            exact W.lret hx hb hret (fun t ht hW => ⟨⟨_, f, rfl, ⟨(by simp only [vMpersAt, xMpersAt, if_neg c_1, if_neg c_4, if_pos c_8, if_neg c_9, if_neg c_10]), hN⟩, by rw [ht]; exact hP, va_K.moved hW.alike hK, hD⟩, hS.F ht⟩) hS.2.2 d_Mo_personAt_78
          · refine lv_aload_n hx hb d_Mo_personAt_62 rfl (lv_at hl 0 rfl) ?_
            refine pg_get (C := "SmokeZonesModel") (T := T_Mo) (N := 47) hx hb hG in_Mo hown hK hP hM.1.1 hM.1.2 rfl 37 (by decide) (hG _ k658) (fun _ h9 => h9) rfl d_Mo_personAt_63 ?_
            refine lv_iload_n hx hb d_Mo_personAt_66 rfl (lv_at hl 1 rfl) ?_
            refine mw_lald hx hb hK hP hM (j := 37) rfl (by rw [er]; exact vp_in_nI (show r < 9 by omega) (by decide)) d_Mo_personAt_67 ?_
            refine lv_goto (tgt := 78) hx hb d_Mo_personAt_68 (by decide) ?_
            have hN : MW ct AM L (xMpersAt X Y p1 p2) Y f := by
              (try simp only [vMpersAt, xMpersAt, if_neg c_1, if_neg c_4, if_pos c_8, if_neg c_9, if_pos c_10])
              exact hM
            exact W.lret hx hb hret (fun t ht hW => ⟨⟨_, f, rfl, ⟨(by simp only [vMpersAt, xMpersAt, if_neg c_1, if_neg c_4, if_pos c_8, if_neg c_9, if_pos c_10]), hN⟩, by rw [ht]; exact hP, va_K.moved hW.alike hK, hD⟩, hS.F ht⟩) hS.2.2 d_Mo_personAt_78
        · refine lv_aload_n hx hb d_Mo_personAt_47 rfl (lv_at hl 0 rfl) ?_
          refine pg_get (C := "SmokeZonesModel") (T := T_Mo) (N := 47) hx hb hG in_Mo hown hK hP hM.1.1 hM.1.2 rfl 36 (by decide) (hG _ k657) (fun _ h9 => h9) rfl d_Mo_personAt_48 ?_
          refine lv_iload_n hx hb d_Mo_personAt_51 rfl (lv_at hl 1 rfl) ?_
          refine mw_iald hx hb hK hP hM (j := 36) rfl (by rw [er]; exact vp_in_nI (show r < 9 by omega) (by decide)) d_Mo_personAt_52 ?_
          refine lv_topi (fun y_12 ey_12 => ?_)
          obtain rfl : y_12 = X 36 (Int32.toNatClampNeg p1) := ey_12.trans (by simp [up2])
          refine lv_i2l hx hb d_Mo_personAt_53 rfl ?_
          refine lv_goto (tgt := 78) hx hb d_Mo_personAt_54 (by decide) ?_
          have hN : MW ct AM L (xMpersAt X Y p1 p2) Y f := by
            (try simp only [vMpersAt, xMpersAt, if_neg c_1, if_neg c_4, if_pos c_8, if_pos c_9])
            exact hM
          exact W.lret hx hb hret (fun t ht hW => ⟨⟨_, f, rfl, ⟨(by simp only [vMpersAt, xMpersAt, if_neg c_1, if_neg c_4, if_pos c_8, if_pos c_9]), hN⟩, by rw [ht]; exact hP, va_K.moved hW.alike hK, hD⟩, hS.F ht⟩) hS.2.2 d_Mo_personAt_78
      · exact absurd (by decide) c_8
