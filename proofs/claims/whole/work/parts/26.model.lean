def m_in (v a b : Int32) : Int32 := if v < a then 0 else if b < v then 0 else 1
theorem m_in_z (v a b : Int32) : narrow .boolean (.int (m_in v a b)) = .int (m_in v a b) := by
  unfold m_in
  split
  · rfl
  · split <;> rfl
def mo_ro (X : I2) (p : Int32) : Int32 := if p = (-1) then 1 else if m_in p 0 (X 2 0 - 1) = 0 then 0 else 1
def mo_wa (Y : J2) (r : Nat) : Int64 := if Y 5 r = 0 then 0 else Y 6 r / Y 5 r
def mo_cl (X : I2) (Y : J2) (r : Nat) : Int64 := Int32.toInt64 (X 4 r) - Y 5 r / Int32.toInt64 (X 3 r)
def mo_fr (X : I2) (Y : J2) (o r : Nat) : Int64 := if mo_cl X Y r ≤ Int32.toInt64 (X 14 o) then Int32.toInt64 (X 14 o) else mo_cl X Y r
def mo_cv (X : I2) (Y : J2) (o r : Nat) : Int64 := if Int32.toInt64 (X 15 o) ≤ mo_fr X Y o r then 0 else Int32.toInt64 (X 15 o) - mo_fr X Y o r
def mo_hot (Y : J2) (r : Nat) (li : Int32) : Int32 := if li ≤ 0 then 0 else if mo_wa Y r < Int32.toInt64 li then 0 else 1

theorem nI_m1 {n : Nat} (h : n < 1000) : ¬ nI n = (-1) := fun e => by
  have h1 := congrArg Int32.toInt e
  rw [nI_toInt (by omega)] at h1
  have h2 : (-1 : Int32).toInt = -1 := by decide
  omega

set_option maxHeartbeats 4000000 in
set_option maxRecDepth 100000 in
theorem c_Mo_in {l : Launch} {D : va_G} {ct : Nat → ClassId} {L : List Nat} {f : Nat → va_E} {H : Heap} {v a b : Int32}   : Met l y_Mo_in (WS y_Mo_in b_Mo_in 3 (some .boolean)) { frames := 0, cells := 0, slots := 0, locals := 0 } (va_Pc [.int v, .int a, .int b] (RP D (TYS ct) L f H)) (Qi (m_in v a b) H) 0 0 No := by
  refine Met.ofW (cc := b_Mo_in) (maxL := 3) (ret := (some .boolean)) (by decide) rfl ?_
  intro p e s m args below meth c s₁ B hml hv
  obtain ⟨rfl, hH, hP, hK⟩ := hv
  subst hH
  have hx := B.exec
  have hb := B.bytes
  have hret := B.returns
  have hts := atoms_spec (ws := WS y_Mo_in b_Mo_in 3 (some .boolean)) B.pre
  have hG : ∀ w ∈ GW, w.before _ s = true := fun w h => hts w (List.mem_cons_of_mem _ h)
  have hown : s.vm.findClass "SmokeZonesModel" = some m.cls := findClass_of_methodNamed B.named
  have hlocks := B.notSynchronized
  have hS : va_S No s.heap s.heap [] := va_S.rf
  have hl := lv_entry ([.int v, .int a, .int b]) (n := 3) (Nat.le_of_ble_eq_true rfl)
  rw [lg_entry_eq]
  generalize (lg_sl ([.int v, .int a, .int b]) ++ List.replicate (3 - (lg_sl ([.int v, .int a, .int b])).length) Slot.unset).toArray = ls at hl ⊢
  have hl : lv_has ls 3 [(0, .int v), (1, .int a), (2, .int b)] := hl
  refine lv_iload_n hx hb d_Mo_in_0 rfl (lv_at hl 0 rfl) ?_
  refine lv_iload_n hx hb d_Mo_in_1 rfl (lv_at hl 1 rfl) ?_
  refine lv_icmp_lt (tgt := 14) hx hb d_Mo_in_2 (by decide) (fun c_1 => ?_) (fun c_1 => ?_)
  · refine lv_iconst (v := 0) hx hb d_Mo_in_14 (by decide) ?_
    exact W.zret hx hb hret rfl (fun t ht hW => ⟨⟨_, (), rfl, (by simp only [m_in, if_pos c_1]), ht⟩, hS.F ht⟩) hS.2.2 d_Mo_in_15
  · refine lv_iload_n hx hb d_Mo_in_5 rfl (lv_at hl 0 rfl) ?_
    refine lv_iload_n hx hb d_Mo_in_6 rfl (lv_at hl 2 rfl) ?_
    refine lv_icmp_gt (tgt := 14) hx hb d_Mo_in_7 (by decide) (fun c_2 => ?_) (fun c_2 => ?_)
    · refine lv_iconst (v := 0) hx hb d_Mo_in_14 (by decide) ?_
      exact W.zret hx hb hret rfl (fun t ht hW => ⟨⟨_, (), rfl, (by simp only [m_in, if_neg c_1, if_pos c_2]), ht⟩, hS.F ht⟩) hS.2.2 d_Mo_in_15
    · refine lv_iconst (v := 1) hx hb d_Mo_in_10 (by decide) ?_
      refine lv_goto (tgt := 15) hx hb d_Mo_in_11 (by decide) ?_
      exact W.zret hx hb hret rfl (fun t ht hW => ⟨⟨_, (), rfl, (by simp only [m_in, if_neg c_1, if_neg c_2]), ht⟩, hS.F ht⟩) hS.2.2 d_Mo_in_15

set_option maxHeartbeats 4000000 in
set_option maxRecDepth 100000 in
theorem c_Mo_thrown {l : Launch} {D : va_G} {ct : Nat → ClassId} {AM : Nat → Nat} {L : List Nat} {f : Nat → va_E} {X : I2} {Y : J2} {H : Heap}  (hM : MW ct AM L X Y f)  : Met l y_Mo_thrown (WS y_Mo_thrown b_Mo_thrown 1 (some .int)) { frames := 0, cells := 0, slots := 0, locals := 0 } (va_Pc [.ref (AM 100)] (RP D (TYS ct) L f H)) (Qi (X 0 0) H) 0 0 No := by
  refine Met.ofW (cc := b_Mo_thrown) (maxL := 1) (ret := (some .int)) (by decide) rfl ?_
  intro p e s m args below meth c s₁ B hml hv
  obtain ⟨rfl, hH, hP, hK⟩ := hv
  subst hH
  have hx := B.exec
  have hb := B.bytes
  have hret := B.returns
  have hts := atoms_spec (ws := WS y_Mo_thrown b_Mo_thrown 1 (some .int)) B.pre
  have hG : ∀ w ∈ GW, w.before _ s = true := fun w h => hts w (List.mem_cons_of_mem _ h)
  have hown : s.vm.findClass "SmokeZonesModel" = some m.cls := findClass_of_methodNamed B.named
  have hlocks := B.notSynchronized
  have hS : va_S No s.heap s.heap [] := va_S.rf
  have hl := lv_entry ([.ref (AM 100)]) (n := 1) (Nat.le_of_ble_eq_true rfl)
  rw [lg_entry_eq]
  generalize (lg_sl ([.ref (AM 100)]) ++ List.replicate (1 - (lg_sl ([.ref (AM 100)])).length) Slot.unset).toArray = ls at hl ⊢
  have hl : lv_has ls 1 [(0, .ref (AM 100))] := hl
  refine lv_aload_n hx hb d_Mo_thrown_0 rfl (lv_at hl 0 rfl) ?_
  refine pg_get (C := "SmokeZonesModel") (T := T_Mo) (N := 47) hx hb hG in_Mo hown hK hP hM.1.1 hM.1.2 rfl 0 (by decide) (hG _ k621) (fun _ h9 => h9) rfl d_Mo_thrown_1 ?_
  exact W.iret hx hb hret (fun t ht hW => ⟨⟨_, (), rfl, rfl, ht⟩, hS.F ht⟩) hS.2.2 d_Mo_thrown_4

set_option maxHeartbeats 4000000 in
set_option maxRecDepth 100000 in
theorem c_Mo_isRoom {l : Launch} {D : va_G} {ct : Nat → ClassId} {AM : Nat → Nat} {L : List Nat} {f : Nat → va_E} {X : I2} {Y : J2} {H : Heap} {p1 : Int32} (hM : MW ct AM L X Y f)  : Met l y_Mo_isRoom (WS y_Mo_isRoom b_Mo_isRoom 2 (some .boolean)) { frames := 1, cells := 0, slots := 0, locals := 22 } (va_Pc [.ref (AM 100), .int p1] (RP D (TYS ct) L f H)) (Qi (m_in p1 0 (X 2 0 - 1)) H) 0 0 No := by
  refine Met.ofW (cc := b_Mo_isRoom) (maxL := 2) (ret := (some .boolean)) (by decide) rfl ?_
  intro p e s m args below meth c s₁ B hml hv
  obtain ⟨rfl, hH, hP, hK⟩ := hv
  subst hH
  have hx := B.exec
  have hb := B.bytes
  have hret := B.returns
  have hts := atoms_spec (ws := WS y_Mo_isRoom b_Mo_isRoom 2 (some .boolean)) B.pre
  have hG : ∀ w ∈ GW, w.before _ s = true := fun w h => hts w (List.mem_cons_of_mem _ h)
  have hown : s.vm.findClass "SmokeZonesModel" = some m.cls := findClass_of_methodNamed B.named
  have hlocks := B.notSynchronized
  have hS : va_S No s.heap s.heap [] := va_S.rf
  have hl := lv_entry ([.ref (AM 100), .int p1]) (n := 2) (Nat.le_of_ble_eq_true rfl)
  rw [lg_entry_eq]
  generalize (lg_sl ([.ref (AM 100), .int p1]) ++ List.replicate (2 - (lg_sl ([.ref (AM 100), .int p1])).length) Slot.unset).toArray = ls at hl ⊢
  have hl : lv_has ls 2 [(0, .ref (AM 100)), (1, .int p1)] := hl
  refine lv_iload_n hx hb d_Mo_isRoom_0 rfl (lv_at hl 1 rfl) ?_
  refine lv_iconst (v := 0) hx hb d_Mo_isRoom_1 (by decide) ?_
  refine lv_aload_n hx hb d_Mo_isRoom_2 rfl (lv_at hl 0 rfl) ?_
  refine pg_get (C := "SmokeZonesModel") (T := T_Mo) (N := 47) hx hb hG in_Mo hown hK hP hM.1.1 hM.1.2 rfl 2 (by decide) (hG _ k623) (fun _ h9 => h9) rfl d_Mo_isRoom_3 ?_
  refine lv_iconst (v := 1) hx hb d_Mo_isRoom_6 (by decide) ?_
  refine lv_isub hx hb d_Mo_isRoom_7 ?_
  refine kS_ri ⟨hx, hb, hml, hown, hG⟩ (c_Mo_in ) (cwS 3 hG (gS k773 k774 k2 k775) rfl rfl rfl hd_Mo_in ⟨Nat.le_of_ble_eq_true rfl, Nat.le_of_ble_eq_true rfl⟩) hK hP hS rfl hl.1 rfl (Nat.le_of_ble_eq_true rfl) ⟨Nat.le_of_ble_eq_true rfl, Nat.le_of_ble_eq_true rfl⟩ d_Mo_isRoom_8 (fun locs hS => ?_)
  exact W.zret hx hb hret (m_in_z _ _ _) (fun t ht hW => ⟨⟨_, (), rfl, rfl, ht⟩, hS.F ht⟩) hS.2.2 d_Mo_isRoom_11

set_option maxHeartbeats 4000000 in
set_option maxRecDepth 100000 in
theorem c_Mo_isRoomOrOut {l : Launch} {D : va_G} {ct : Nat → ClassId} {AM : Nat → Nat} {L : List Nat} {f : Nat → va_E} {X : I2} {Y : J2} {H : Heap} {p1 : Int32} (hM : MW ct AM L X Y f)  : Met l y_Mo_isRoomOrOut (WS y_Mo_isRoomOrOut b_Mo_isRoomOrOut 2 (some .boolean)) { frames := 2, cells := 0, slots := 0, locals := 43 } (va_Pc [.ref (AM 100), .int p1] (RP D (TYS ct) L f H)) (Qi (mo_ro X p1) H) 0 0 No := by
  refine Met.ofW (cc := b_Mo_isRoomOrOut) (maxL := 2) (ret := (some .boolean)) (by decide) rfl ?_
  intro p e s m args below meth c s₁ B hml hv
  obtain ⟨rfl, hH, hP, hK⟩ := hv
  subst hH
  have hx := B.exec
  have hb := B.bytes
  have hret := B.returns
  have hts := atoms_spec (ws := WS y_Mo_isRoomOrOut b_Mo_isRoomOrOut 2 (some .boolean)) B.pre
  have hG : ∀ w ∈ GW, w.before _ s = true := fun w h => hts w (List.mem_cons_of_mem _ h)
  have hown : s.vm.findClass "SmokeZonesModel" = some m.cls := findClass_of_methodNamed B.named
  have hlocks := B.notSynchronized
  have hS : va_S No s.heap s.heap [] := va_S.rf
  have hl := lv_entry ([.ref (AM 100), .int p1]) (n := 2) (Nat.le_of_ble_eq_true rfl)
  rw [lg_entry_eq]
  generalize (lg_sl ([.ref (AM 100), .int p1]) ++ List.replicate (2 - (lg_sl ([.ref (AM 100), .int p1])).length) Slot.unset).toArray = ls at hl ⊢
  have hl : lv_has ls 2 [(0, .ref (AM 100)), (1, .int p1)] := hl
  refine lv_iload_n hx hb d_Mo_isRoomOrOut_0 rfl (lv_at hl 1 rfl) ?_
  refine lv_iconst (v := (-1)) hx hb d_Mo_isRoomOrOut_1 (by decide) ?_
  refine lv_icmp_eq (tgt := 13) hx hb d_Mo_isRoomOrOut_2 (by decide) (fun c_1 => ?_) (fun c_1 => ?_)
  · refine lv_iconst (v := 1) hx hb d_Mo_isRoomOrOut_13 (by decide) ?_
    refine lv_goto (tgt := 18) hx hb d_Mo_isRoomOrOut_14 (by decide) ?_
    exact W.zret hx hb hret rfl (fun t ht hW => ⟨⟨_, (), rfl, (by simp only [mo_ro, if_pos c_1]), ht⟩, hS.F ht⟩) hS.2.2 d_Mo_isRoomOrOut_18
  · refine lv_aload_n hx hb d_Mo_isRoomOrOut_5 rfl (lv_at hl 0 rfl) ?_
    refine lv_iload_n hx hb d_Mo_isRoomOrOut_6 rfl (lv_at hl 1 rfl) ?_
    refine kV_ri ⟨hx, hb, hml, hown, hG⟩ (c_Mo_isRoom hM) (cwV 1 hG (gV k780 k782 ks_Mo_isRoom k2 k783) rfl rfl rfl hd_Mo_isRoom ⟨Nat.le_of_ble_eq_true rfl, Nat.le_of_ble_eq_true rfl⟩) hK hP hS hM.1.1 hM.1.2 rfl rfl hl.1 rfl (Nat.le_of_ble_eq_true rfl) ⟨Nat.le_of_ble_eq_true rfl, Nat.le_of_ble_eq_true rfl⟩ d_Mo_isRoomOrOut_7 (fun locs hS => ?_)
    refine lv_topi (fun y_2 ey_2 => ?_)
    obtain rfl : y_2 = m_in p1 0 ((X 2 0) - 1) := ey_2.trans (by simp [up2])
    refine lv_if_eq (tgt := 17) hx hb d_Mo_isRoomOrOut_10 (by decide) (fun c_3 => ?_) (fun c_3 => ?_)
    · refine lv_iconst (v := 0) hx hb d_Mo_isRoomOrOut_17 (by decide) ?_
      exact W.zret hx hb hret rfl (fun t ht hW => ⟨⟨_, (), rfl, (by simp only [mo_ro, if_neg c_1, if_pos c_3]), ht⟩, hS.F ht⟩) hS.2.2 d_Mo_isRoomOrOut_18
    · refine lv_iconst (v := 1) hx hb d_Mo_isRoomOrOut_13 (by decide) ?_
      refine lv_goto (tgt := 18) hx hb d_Mo_isRoomOrOut_14 (by decide) ?_
      exact W.zret hx hb hret rfl (fun t ht hW => ⟨⟨_, (), rfl, (by simp only [mo_ro, if_neg c_1, if_neg c_3]), ht⟩, hS.F ht⟩) hS.2.2 d_Mo_isRoomOrOut_18

set_option maxHeartbeats 4000000 in
set_option maxRecDepth 100000 in
theorem c_Mo_warmth {l : Launch} {D : va_G} {ct : Nat → ClassId} {AM : Nat → Nat} {L : List Nat} {f : Nat → va_E} {X : I2} {Y : J2} {H : Heap} {r : Nat} (hM : MW ct AM L X Y f) (hr : r < 10) : Met l y_Mo_warmth (WS y_Mo_warmth b_Mo_warmth 2 (some .long)) { frames := 0, cells := 0, slots := 0, locals := 0 } (va_Pc [.ref (AM 100), .int (nI r)] (RP D (TYS ct) L f H)) (Ql (mo_wa Y r) H) 0 0 No := by
  refine Met.ofW (cc := b_Mo_warmth) (maxL := 2) (ret := (some .long)) (by decide) rfl ?_
  intro p e s m args below meth c s₁ B hml hv
  obtain ⟨rfl, hH, hP, hK⟩ := hv
  subst hH
  have hx := B.exec
  have hb := B.bytes
  have hret := B.returns
  have hts := atoms_spec (ws := WS y_Mo_warmth b_Mo_warmth 2 (some .long)) B.pre
  have hG : ∀ w ∈ GW, w.before _ s = true := fun w h => hts w (List.mem_cons_of_mem _ h)
  have hown : s.vm.findClass "SmokeZonesModel" = some m.cls := findClass_of_methodNamed B.named
  have hlocks := B.notSynchronized
  have hS : va_S No s.heap s.heap [] := va_S.rf
  have hl := lv_entry ([.ref (AM 100), .int (nI r)]) (n := 2) (Nat.le_of_ble_eq_true rfl)
  rw [lg_entry_eq]
  generalize (lg_sl ([.ref (AM 100), .int (nI r)]) ++ List.replicate (2 - (lg_sl ([.ref (AM 100), .int (nI r)])).length) Slot.unset).toArray = ls at hl ⊢
  have hl : lv_has ls 2 [(0, .ref (AM 100)), (1, .int (nI r))] := hl
  have hcl_r : (nI r).toNatClampNeg = r := nI_clamp (by omega)
  refine lv_aload_n hx hb d_Mo_warmth_0 rfl (lv_at hl 0 rfl) ?_
  refine pg_get (C := "SmokeZonesModel") (T := T_Mo) (N := 47) hx hb hG in_Mo hown hK hP hM.1.1 hM.1.2 rfl 5 (by decide) (hG _ k626) (fun _ h9 => h9) rfl d_Mo_warmth_1 ?_
  refine lv_iload_n hx hb d_Mo_warmth_4 rfl (lv_at hl 1 rfl) ?_
  refine mw_lald hx hb hK hP hM (j := 5) rfl (vp_in_nI (show r < 10 by omega) (by decide)) d_Mo_warmth_5 ?_
  refine lv_topl (fun y_1 ey_1 => ?_)
  obtain rfl : y_1 = Y 5 r := ey_1.trans (by simp [up2, hcl_r])
  refine lv_lconst (v := 0) hx hb d_Mo_warmth_6 (by decide) ?_
  refine lc_ne (tgt := 15) hx hb d_Mo_warmth_7 d_Mo_warmth_8 (by decide) (fun c_2 => ?_) (fun c_2 => ?_)
  · refine lv_aload_n hx hb d_Mo_warmth_15 rfl (lv_at hl 0 rfl) ?_
    refine pg_get (C := "SmokeZonesModel") (T := T_Mo) (N := 47) hx hb hG in_Mo hown hK hP hM.1.1 hM.1.2 rfl 6 (by decide) (hG _ k627) (fun _ h9 => h9) rfl d_Mo_warmth_16 ?_
    refine lv_iload_n hx hb d_Mo_warmth_19 rfl (lv_at hl 1 rfl) ?_
    refine mw_lald hx hb hK hP hM (j := 6) rfl (vp_in_nI (show r < 10 by omega) (by decide)) d_Mo_warmth_20 ?_
    refine lv_topl (fun y_3 ey_3 => ?_)
    obtain rfl : y_3 = Y 6 r := ey_3.trans (by simp [up2, hcl_r])
    refine lv_aload_n hx hb d_Mo_warmth_21 rfl (lv_at hl 0 rfl) ?_
    refine pg_get (C := "SmokeZonesModel") (T := T_Mo) (N := 47) hx hb hG in_Mo hown hK hP hM.1.1 hM.1.2 rfl 5 (by decide) (hG _ k626) (fun _ h9 => h9) rfl d_Mo_warmth_22 ?_
    refine lv_iload_n hx hb d_Mo_warmth_25 rfl (lv_at hl 1 rfl) ?_
    refine mw_lald hx hb hK hP hM (j := 5) rfl (vp_in_nI (show r < 10 by omega) (by decide)) d_Mo_warmth_26 ?_
    refine lv_topl (fun y_4 ey_4 => ?_)
    obtain rfl : y_4 = Y 5 r := ey_4.trans (by simp [up2, hcl_r])
    refine lv_ldiv hx hb d_Mo_warmth_27 c_2 ?_
    exact W.lret hx hb hret (fun t ht hW => ⟨⟨_, (), rfl, (by simp only [mo_wa, if_neg c_2]), ht⟩, hS.F ht⟩) hS.2.2 d_Mo_warmth_28
  · refine lv_lconst (v := 0) hx hb d_Mo_warmth_11 (by decide) ?_
    refine lv_goto (tgt := 28) hx hb d_Mo_warmth_12 (by decide) ?_
    exact W.lret hx hb hret (fun t ht hW => ⟨⟨_, (), rfl, (by simp only [mo_wa, if_pos c_2]), ht⟩, hS.F ht⟩) hS.2.2 d_Mo_warmth_28

set_option maxHeartbeats 4000000 in
set_option maxRecDepth 100000 in
theorem c_Mo_clearTo {l : Launch} {D : va_G} {ct : Nat → ClassId} {AM : Nat → Nat} {L : List Nat} {f : Nat → va_E} {X : I2} {Y : J2} {H : Heap} {r : Nat} (hM : MW ct AM L X Y f) (hr : r < 10) (ha : ¬ Int32.toInt64 (X 3 r) = 0) : Met l y_Mo_clearTo (WS y_Mo_clearTo b_Mo_clearTo 2 (some .long)) { frames := 0, cells := 0, slots := 0, locals := 0 } (va_Pc [.ref (AM 100), .int (nI r)] (RP D (TYS ct) L f H)) (Ql (mo_cl X Y r) H) 0 0 No := by
  refine Met.ofW (cc := b_Mo_clearTo) (maxL := 2) (ret := (some .long)) (by decide) rfl ?_
  intro p e s m args below meth c s₁ B hml hv
  obtain ⟨rfl, hH, hP, hK⟩ := hv
  subst hH
  have hx := B.exec
  have hb := B.bytes
  have hret := B.returns
  have hts := atoms_spec (ws := WS y_Mo_clearTo b_Mo_clearTo 2 (some .long)) B.pre
  have hG : ∀ w ∈ GW, w.before _ s = true := fun w h => hts w (List.mem_cons_of_mem _ h)
  have hown : s.vm.findClass "SmokeZonesModel" = some m.cls := findClass_of_methodNamed B.named
  have hlocks := B.notSynchronized
  have hS : va_S No s.heap s.heap [] := va_S.rf
  have hl := lv_entry ([.ref (AM 100), .int (nI r)]) (n := 2) (Nat.le_of_ble_eq_true rfl)
  rw [lg_entry_eq]
  generalize (lg_sl ([.ref (AM 100), .int (nI r)]) ++ List.replicate (2 - (lg_sl ([.ref (AM 100), .int (nI r)])).length) Slot.unset).toArray = ls at hl ⊢
  have hl : lv_has ls 2 [(0, .ref (AM 100)), (1, .int (nI r))] := hl
  have hcl_r : (nI r).toNatClampNeg = r := nI_clamp (by omega)
  refine lv_aload_n hx hb d_Mo_clearTo_0 rfl (lv_at hl 0 rfl) ?_
  refine pg_get (C := "SmokeZonesModel") (T := T_Mo) (N := 47) hx hb hG in_Mo hown hK hP hM.1.1 hM.1.2 rfl 4 (by decide) (hG _ k625) (fun _ h9 => h9) rfl d_Mo_clearTo_1 ?_
  refine lv_iload_n hx hb d_Mo_clearTo_4 rfl (lv_at hl 1 rfl) ?_
  refine mw_iald hx hb hK hP hM (j := 4) rfl (vp_in_nI (show r < 10 by omega) (by decide)) d_Mo_clearTo_5 ?_
  refine lv_topi (fun y_1 ey_1 => ?_)
  obtain rfl : y_1 = X 4 r := ey_1.trans (by simp [up2, hcl_r])
  refine lv_i2l hx hb d_Mo_clearTo_6 rfl ?_
  refine lv_aload_n hx hb d_Mo_clearTo_7 rfl (lv_at hl 0 rfl) ?_
  refine pg_get (C := "SmokeZonesModel") (T := T_Mo) (N := 47) hx hb hG in_Mo hown hK hP hM.1.1 hM.1.2 rfl 5 (by decide) (hG _ k626) (fun _ h9 => h9) rfl d_Mo_clearTo_8 ?_
  refine lv_iload_n hx hb d_Mo_clearTo_11 rfl (lv_at hl 1 rfl) ?_
  refine mw_lald hx hb hK hP hM (j := 5) rfl (vp_in_nI (show r < 10 by omega) (by decide)) d_Mo_clearTo_12 ?_
  refine lv_topl (fun y_2 ey_2 => ?_)
  obtain rfl : y_2 = Y 5 r := ey_2.trans (by simp [up2, hcl_r])
  refine lv_aload_n hx hb d_Mo_clearTo_13 rfl (lv_at hl 0 rfl) ?_
  refine pg_get (C := "SmokeZonesModel") (T := T_Mo) (N := 47) hx hb hG in_Mo hown hK hP hM.1.1 hM.1.2 rfl 3 (by decide) (hG _ k624) (fun _ h9 => h9) rfl d_Mo_clearTo_14 ?_
  refine lv_iload_n hx hb d_Mo_clearTo_17 rfl (lv_at hl 1 rfl) ?_
  refine mw_iald hx hb hK hP hM (j := 3) rfl (vp_in_nI (show r < 10 by omega) (by decide)) d_Mo_clearTo_18 ?_
  refine lv_topi (fun y_3 ey_3 => ?_)
  obtain rfl : y_3 = X 3 r := ey_3.trans (by simp [up2, hcl_r])
  refine lv_i2l hx hb d_Mo_clearTo_19 rfl ?_
  refine lv_ldiv hx hb d_Mo_clearTo_20 ha ?_
  refine lv_lsub hx hb d_Mo_clearTo_21 ?_
  exact W.lret hx hb hret (fun t ht hW => ⟨⟨_, (), rfl, rfl, ht⟩, hS.F ht⟩) hS.2.2 d_Mo_clearTo_22

set_option maxHeartbeats 4000000 in
set_option maxRecDepth 100000 in
theorem c_Mo_covered_n {l : Launch} {D : va_G} {ct : Nat → ClassId} {AM : Nat → Nat} {L : List Nat} {f : Nat → va_E} {X : I2} {Y : J2} {H : Heap} {o : Nat} (hM : MW ct AM L X Y f) (ho : o < 15) : Met l y_Mo_covered (WS y_Mo_covered b_Mo_covered 5 (some .long)) { frames := 0, cells := 0, slots := 0, locals := 0 } (va_Pc [.ref (AM 100), .int (nI o), .int (-1)] (RP D (TYS ct) L f H)) (Ql (0) H) 0 0 No := by
  refine Met.ofW (cc := b_Mo_covered) (maxL := 5) (ret := (some .long)) (by decide) rfl ?_
  intro p e s m args below meth c s₁ B hml hv
  obtain ⟨rfl, hH, hP, hK⟩ := hv
  subst hH
  have hx := B.exec
  have hb := B.bytes
  have hret := B.returns
  have hts := atoms_spec (ws := WS y_Mo_covered b_Mo_covered 5 (some .long)) B.pre
  have hG : ∀ w ∈ GW, w.before _ s = true := fun w h => hts w (List.mem_cons_of_mem _ h)
  have hown : s.vm.findClass "SmokeZonesModel" = some m.cls := findClass_of_methodNamed B.named
  have hlocks := B.notSynchronized
  have hS : va_S No s.heap s.heap [] := va_S.rf
  have hl := lv_entry ([.ref (AM 100), .int (nI o), .int (-1)]) (n := 5) (Nat.le_of_ble_eq_true rfl)
  rw [lg_entry_eq]
  generalize (lg_sl ([.ref (AM 100), .int (nI o), .int (-1)]) ++ List.replicate (5 - (lg_sl ([.ref (AM 100), .int (nI o), .int (-1)])).length) Slot.unset).toArray = ls at hl ⊢
  have hl : lv_has ls 5 [(0, .ref (AM 100)), (1, .int (nI o)), (2, .int (-1))] := hl
  have hcl_o : (nI o).toNatClampNeg = o := nI_clamp (by omega)
  refine lv_iload_n hx hb d_Mo_covered_0 rfl (lv_at hl 2 rfl) ?_
  refine lv_iconst (v := (-1)) hx hb d_Mo_covered_1 (by decide) ?_
  refine lv_icmp_ne (tgt := 7) hx hb d_Mo_covered_2 (by decide) (fun c_1 => ?_) (fun c_1 => ?_)
  · exact absurd (by decide) c_1
  · refine lv_lconst (v := 0) hx hb d_Mo_covered_5 (by decide) ?_
    exact W.lret hx hb hret (fun t ht hW => ⟨⟨_, (), rfl, rfl, ht⟩, hS.F ht⟩) hS.2.2 d_Mo_covered_6

set_option maxHeartbeats 4000000 in
set_option maxRecDepth 100000 in
theorem c_Mo_covered_s {l : Launch} {D : va_G} {ct : Nat → ClassId} {AM : Nat → Nat} {L : List Nat} {f : Nat → va_E} {X : I2} {Y : J2} {H : Heap} {o r : Nat} (hM : MW ct AM L X Y f) (ho : o < 15) (hr : r < 10) (ha : ¬ Int32.toInt64 (X 3 r) = 0) : Met l y_Mo_covered (WS y_Mo_covered b_Mo_covered 5 (some .long)) { frames := 1, cells := 0, slots := 0, locals := 21 } (va_Pc [.ref (AM 100), .int (nI o), .int (nI r)] (RP D (TYS ct) L f H)) (Ql (mo_cv X Y o r) H) 0 0 No := by
  refine Met.ofW (cc := b_Mo_covered) (maxL := 5) (ret := (some .long)) (by decide) rfl ?_
  intro p e s m args below meth c s₁ B hml hv
  obtain ⟨rfl, hH, hP, hK⟩ := hv
  subst hH
  have hx := B.exec
  have hb := B.bytes
  have hret := B.returns
  have hts := atoms_spec (ws := WS y_Mo_covered b_Mo_covered 5 (some .long)) B.pre
  have hG : ∀ w ∈ GW, w.before _ s = true := fun w h => hts w (List.mem_cons_of_mem _ h)
  have hown : s.vm.findClass "SmokeZonesModel" = some m.cls := findClass_of_methodNamed B.named
  have hlocks := B.notSynchronized
  have hS : va_S No s.heap s.heap [] := va_S.rf
  have hl := lv_entry ([.ref (AM 100), .int (nI o), .int (nI r)]) (n := 5) (Nat.le_of_ble_eq_true rfl)
  rw [lg_entry_eq]
  generalize (lg_sl ([.ref (AM 100), .int (nI o), .int (nI r)]) ++ List.replicate (5 - (lg_sl ([.ref (AM 100), .int (nI o), .int (nI r)])).length) Slot.unset).toArray = ls at hl ⊢
  have hl : lv_has ls 5 [(0, .ref (AM 100)), (1, .int (nI o)), (2, .int (nI r))] := hl
  have hcl_o : (nI o).toNatClampNeg = o := nI_clamp (by omega)
  have hcl_r : (nI r).toNatClampNeg = r := nI_clamp (by omega)
  refine lv_iload_n hx hb d_Mo_covered_0 rfl (lv_at hl 2 rfl) ?_
  refine lv_iconst (v := (-1)) hx hb d_Mo_covered_1 (by decide) ?_
  refine lv_icmp_ne (tgt := 7) hx hb d_Mo_covered_2 (by decide) (fun c_1 => ?_) (fun c_1 => ?_)
  · refine lv_aload_n hx hb d_Mo_covered_7 rfl (lv_at hl 0 rfl) ?_
    refine lv_iload_n hx hb d_Mo_covered_8 rfl (lv_at hl 2 rfl) ?_
    refine kV_rl ⟨hx, hb, hml, hown, hG⟩ (c_Mo_clearTo hM (by omega) ha) (cwV 1 hG (gV k834 k836 ks_Mo_clearTo k2 k837) rfl rfl rfl hd_Mo_clearTo ⟨Nat.le_of_ble_eq_true rfl, Nat.le_of_ble_eq_true rfl⟩) hK hP hS hM.1.1 hM.1.2 rfl rfl hl.1 rfl (Nat.le_of_ble_eq_true rfl) ⟨Nat.le_of_ble_eq_true rfl, Nat.le_of_ble_eq_true rfl⟩ d_Mo_covered_9 (fun locs hS => ?_)
    refine lv_aload_n hx hb d_Mo_covered_12 rfl (lv_at hl 0 rfl) ?_
    refine pg_get (C := "SmokeZonesModel") (T := T_Mo) (N := 47) hx hb hG in_Mo hown hK hP hM.1.1 hM.1.2 rfl 14 (by decide) (hG _ k635) (fun _ h9 => h9) rfl d_Mo_covered_13 ?_
    refine lv_iload_n hx hb d_Mo_covered_16 rfl (lv_at hl 1 rfl) ?_
    refine mw_iald hx hb hK hP hM (j := 14) rfl (vp_in_nI (show o < 15 by omega) (by decide)) d_Mo_covered_17 ?_
    refine lv_topi (fun y_2 ey_2 => ?_)
    obtain rfl : y_2 = X 14 o := ey_2.trans (by simp [up2, hcl_o, hcl_r])
    refine lv_i2l hx hb d_Mo_covered_18 rfl ?_
    refine lc_le (tgt := 31) hx hb d_Mo_covered_19 d_Mo_covered_20 (by decide) (fun c_3 => ?_) (fun c_3 => ?_)
    · refine lv_aload_n hx hb d_Mo_covered_31 rfl (lv_at hl 0 rfl) ?_
      refine pg_get (C := "SmokeZonesModel") (T := T_Mo) (N := 47) hx hb hG in_Mo hown hK hP hM.1.1 hM.1.2 rfl 14 (by decide) (hG _ k635) (fun _ h9 => h9) rfl d_Mo_covered_32 ?_
      refine lv_iload_n hx hb d_Mo_covered_35 rfl (lv_at hl 1 rfl) ?_
      refine mw_iald hx hb hK hP hM (j := 14) rfl (vp_in_nI (show o < 15 by omega) (by decide)) d_Mo_covered_36 ?_
      refine lv_topi (fun y_4 ey_4 => ?_)
      obtain rfl : y_4 = X 14 o := ey_4.trans (by simp [up2, hcl_o, hcl_r])
      refine lv_i2l hx hb d_Mo_covered_37 rfl ?_
      refine lv_lstore_n (lv' := [(3, .long (Int32.toInt64 (X 14 o))), (0, .ref (AM 100)), (1, .int (nI o)), (2, .int (nI r))]) hx hb d_Mo_covered_38 rfl hl (by decide) rfl (fun ls hl => ?_)
      refine lv_aload_n hx hb d_Mo_covered_39 rfl (lv_at hl 1 rfl) ?_
      refine pg_get (C := "SmokeZonesModel") (T := T_Mo) (N := 47) hx hb hG in_Mo hown hK hP hM.1.1 hM.1.2 rfl 15 (by decide) (hG _ k636) (fun _ h9 => h9) rfl d_Mo_covered_40 ?_
      refine lv_iload_n hx hb d_Mo_covered_43 rfl (lv_at hl 2 rfl) ?_
      refine mw_iald hx hb hK hP hM (j := 15) rfl (vp_in_nI (show o < 15 by omega) (by decide)) d_Mo_covered_44 ?_
      refine lv_topi (fun y_5 ey_5 => ?_)
      obtain rfl : y_5 = X 15 o := ey_5.trans (by simp [up2, hcl_o, hcl_r])
      refine lv_i2l hx hb d_Mo_covered_45 rfl ?_
      refine lv_lload_n hx hb d_Mo_covered_46 rfl (lv_at hl 0 rfl) ?_
      refine lc_le (tgt := 63) hx hb d_Mo_covered_47 d_Mo_covered_48 (by decide) (fun c_6 => ?_) (fun c_6 => ?_)
      · refine lv_lconst (v := 0) hx hb d_Mo_covered_63 (by decide) ?_
        exact W.lret hx hb hret (fun t ht hW => ⟨⟨_, (), rfl, (by simp only [mo_cv, mo_fr, if_neg c_1, if_pos c_3, if_pos c_6]), ht⟩, hS.F ht⟩) hS.2.2 d_Mo_covered_64
      · refine lv_aload_n hx hb d_Mo_covered_51 rfl (lv_at hl 1 rfl) ?_
        refine pg_get (C := "SmokeZonesModel") (T := T_Mo) (N := 47) hx hb hG in_Mo hown hK hP hM.1.1 hM.1.2 rfl 15 (by decide) (hG _ k636) (fun _ h9 => h9) rfl d_Mo_covered_52 ?_
        refine lv_iload_n hx hb d_Mo_covered_55 rfl (lv_at hl 2 rfl) ?_
        refine mw_iald hx hb hK hP hM (j := 15) rfl (vp_in_nI (show o < 15 by omega) (by decide)) d_Mo_covered_56 ?_
        refine lv_topi (fun y_7 ey_7 => ?_)
        obtain rfl : y_7 = X 15 o := ey_7.trans (by simp [up2, hcl_o, hcl_r])
        refine lv_i2l hx hb d_Mo_covered_57 rfl ?_
        refine lv_lload_n hx hb d_Mo_covered_58 rfl (lv_at hl 0 rfl) ?_
        refine lv_lsub hx hb d_Mo_covered_59 ?_
        refine lv_goto (tgt := 64) hx hb d_Mo_covered_60 (by decide) ?_
        exact W.lret hx hb hret (fun t ht hW => ⟨⟨_, (), rfl, (by simp only [mo_cv, mo_fr, if_neg c_1, if_pos c_3, if_neg c_6]), ht⟩, hS.F ht⟩) hS.2.2 d_Mo_covered_64
    · refine lv_aload_n hx hb d_Mo_covered_23 rfl (lv_at hl 0 rfl) ?_
      refine lv_iload_n hx hb d_Mo_covered_24 rfl (lv_at hl 2 rfl) ?_
      refine kV_rl ⟨hx, hb, hml, hown, hG⟩ (c_Mo_clearTo hM (by omega) ha) (cwV 1 hG (gV k834 k836 ks_Mo_clearTo k2 k837) rfl rfl rfl hd_Mo_clearTo ⟨Nat.le_of_ble_eq_true rfl, Nat.le_of_ble_eq_true rfl⟩) hK hP hS hM.1.1 hM.1.2 rfl rfl hl.1 rfl (Nat.le_of_ble_eq_true rfl) ⟨Nat.le_of_ble_eq_true rfl, Nat.le_of_ble_eq_true rfl⟩ d_Mo_covered_25 (fun locs hS => ?_)
      refine lv_goto (tgt := 38) hx hb d_Mo_covered_28 (by decide) ?_
      refine lv_lstore_n (lv' := [(3, .long (mo_cl X Y r)), (0, .ref (AM 100)), (1, .int (nI o)), (2, .int (nI r))]) hx hb d_Mo_covered_38 rfl hl (by decide) rfl (fun ls hl => ?_)
      refine lv_aload_n hx hb d_Mo_covered_39 rfl (lv_at hl 1 rfl) ?_
      refine pg_get (C := "SmokeZonesModel") (T := T_Mo) (N := 47) hx hb hG in_Mo hown hK hP hM.1.1 hM.1.2 rfl 15 (by decide) (hG _ k636) (fun _ h9 => h9) rfl d_Mo_covered_40 ?_
      refine lv_iload_n hx hb d_Mo_covered_43 rfl (lv_at hl 2 rfl) ?_
      refine mw_iald hx hb hK hP hM (j := 15) rfl (vp_in_nI (show o < 15 by omega) (by decide)) d_Mo_covered_44 ?_
      refine lv_topi (fun y_8 ey_8 => ?_)
      obtain rfl : y_8 = X 15 o := ey_8.trans (by simp [up2, hcl_o, hcl_r])
      refine lv_i2l hx hb d_Mo_covered_45 rfl ?_
      refine lv_lload_n hx hb d_Mo_covered_46 rfl (lv_at hl 0 rfl) ?_
      refine lc_le (tgt := 63) hx hb d_Mo_covered_47 d_Mo_covered_48 (by decide) (fun c_9 => ?_) (fun c_9 => ?_)
      · refine lv_lconst (v := 0) hx hb d_Mo_covered_63 (by decide) ?_
        exact W.lret hx hb hret (fun t ht hW => ⟨⟨_, (), rfl, (by simp only [mo_cv, mo_fr, if_neg c_1, if_neg c_3, if_pos c_9]), ht⟩, hS.F ht⟩) hS.2.2 d_Mo_covered_64
      · refine lv_aload_n hx hb d_Mo_covered_51 rfl (lv_at hl 1 rfl) ?_
        refine pg_get (C := "SmokeZonesModel") (T := T_Mo) (N := 47) hx hb hG in_Mo hown hK hP hM.1.1 hM.1.2 rfl 15 (by decide) (hG _ k636) (fun _ h9 => h9) rfl d_Mo_covered_52 ?_
        refine lv_iload_n hx hb d_Mo_covered_55 rfl (lv_at hl 2 rfl) ?_
        refine mw_iald hx hb hK hP hM (j := 15) rfl (vp_in_nI (show o < 15 by omega) (by decide)) d_Mo_covered_56 ?_
        refine lv_topi (fun y_10 ey_10 => ?_)
        obtain rfl : y_10 = X 15 o := ey_10.trans (by simp [up2, hcl_o, hcl_r])
        refine lv_i2l hx hb d_Mo_covered_57 rfl ?_
        refine lv_lload_n hx hb d_Mo_covered_58 rfl (lv_at hl 0 rfl) ?_
        refine lv_lsub hx hb d_Mo_covered_59 ?_
        refine lv_goto (tgt := 64) hx hb d_Mo_covered_60 (by decide) ?_
        exact W.lret hx hb hret (fun t ht hW => ⟨⟨_, (), rfl, (by simp only [mo_cv, mo_fr, if_neg c_1, if_neg c_3, if_neg c_9]), ht⟩, hS.F ht⟩) hS.2.2 d_Mo_covered_64
  · exact absurd c_1 (nI_m1 (by omega))

set_option maxHeartbeats 4000000 in
set_option maxRecDepth 100000 in
theorem c_Mo_isHot_n {l : Launch} {D : va_G} {ct : Nat → ClassId} {AM : Nat → Nat} {L : List Nat} {f : Nat → va_E} {X : I2} {Y : J2} {H : Heap} {li : Int32} (hM : MW ct AM L X Y f)  : Met l y_Mo_isHot (WS y_Mo_isHot b_Mo_isHot 3 (some .boolean)) { frames := 0, cells := 0, slots := 0, locals := 0 } (va_Pc [.ref (AM 100), .int (-1), .int li] (RP D (TYS ct) L f H)) (Qi (0) H) 0 0 No := by
  refine Met.ofW (cc := b_Mo_isHot) (maxL := 3) (ret := (some .boolean)) (by decide) rfl ?_
  intro p e s m args below meth c s₁ B hml hv
  obtain ⟨rfl, hH, hP, hK⟩ := hv
  subst hH
  have hx := B.exec
  have hb := B.bytes
  have hret := B.returns
  have hts := atoms_spec (ws := WS y_Mo_isHot b_Mo_isHot 3 (some .boolean)) B.pre
  have hG : ∀ w ∈ GW, w.before _ s = true := fun w h => hts w (List.mem_cons_of_mem _ h)
  have hown : s.vm.findClass "SmokeZonesModel" = some m.cls := findClass_of_methodNamed B.named
  have hlocks := B.notSynchronized
  have hS : va_S No s.heap s.heap [] := va_S.rf
  have hl := lv_entry ([.ref (AM 100), .int (-1), .int li]) (n := 3) (Nat.le_of_ble_eq_true rfl)
  rw [lg_entry_eq]
  generalize (lg_sl ([.ref (AM 100), .int (-1), .int li]) ++ List.replicate (3 - (lg_sl ([.ref (AM 100), .int (-1), .int li])).length) Slot.unset).toArray = ls at hl ⊢
  have hl : lv_has ls 3 [(0, .ref (AM 100)), (1, .int (-1)), (2, .int li)] := hl
  refine lv_iload_n hx hb d_Mo_isHot_0 rfl (lv_at hl 1 rfl) ?_
  refine lv_iconst (v := (-1)) hx hb d_Mo_isHot_1 (by decide) ?_
  refine lv_icmp_eq (tgt := 24) hx hb d_Mo_isHot_2 (by decide) (fun c_1 => ?_) (fun c_1 => ?_)
  · refine lv_iconst (v := 0) hx hb d_Mo_isHot_24 (by decide) ?_
    exact W.zret hx hb hret rfl (fun t ht hW => ⟨⟨_, (), rfl, rfl, ht⟩, hS.F ht⟩) hS.2.2 d_Mo_isHot_25
  · exact absurd (by decide) c_1

set_option maxHeartbeats 4000000 in
set_option maxRecDepth 100000 in
theorem c_Mo_isHot_s {l : Launch} {D : va_G} {ct : Nat → ClassId} {AM : Nat → Nat} {L : List Nat} {f : Nat → va_E} {X : I2} {Y : J2} {H : Heap} {r : Nat} {li : Int32} (hM : MW ct AM L X Y f) (hr : r < 10) : Met l y_Mo_isHot (WS y_Mo_isHot b_Mo_isHot 3 (some .boolean)) { frames := 1, cells := 0, slots := 0, locals := 21 } (va_Pc [.ref (AM 100), .int (nI r), .int li] (RP D (TYS ct) L f H)) (Qi (mo_hot Y r li) H) 0 0 No := by
  refine Met.ofW (cc := b_Mo_isHot) (maxL := 3) (ret := (some .boolean)) (by decide) rfl ?_
  intro p e s m args below meth c s₁ B hml hv
  obtain ⟨rfl, hH, hP, hK⟩ := hv
  subst hH
  have hx := B.exec
  have hb := B.bytes
  have hret := B.returns
  have hts := atoms_spec (ws := WS y_Mo_isHot b_Mo_isHot 3 (some .boolean)) B.pre
  have hG : ∀ w ∈ GW, w.before _ s = true := fun w h => hts w (List.mem_cons_of_mem _ h)
  have hown : s.vm.findClass "SmokeZonesModel" = some m.cls := findClass_of_methodNamed B.named
  have hlocks := B.notSynchronized
  have hS : va_S No s.heap s.heap [] := va_S.rf
  have hl := lv_entry ([.ref (AM 100), .int (nI r), .int li]) (n := 3) (Nat.le_of_ble_eq_true rfl)
  rw [lg_entry_eq]
  generalize (lg_sl ([.ref (AM 100), .int (nI r), .int li]) ++ List.replicate (3 - (lg_sl ([.ref (AM 100), .int (nI r), .int li])).length) Slot.unset).toArray = ls at hl ⊢
  have hl : lv_has ls 3 [(0, .ref (AM 100)), (1, .int (nI r)), (2, .int li)] := hl
  have hcl_r : (nI r).toNatClampNeg = r := nI_clamp (by omega)
  refine lv_iload_n hx hb d_Mo_isHot_0 rfl (lv_at hl 1 rfl) ?_
  refine lv_iconst (v := (-1)) hx hb d_Mo_isHot_1 (by decide) ?_
  refine lv_icmp_eq (tgt := 24) hx hb d_Mo_isHot_2 (by decide) (fun c_1 => ?_) (fun c_1 => ?_)
  · exact absurd c_1 (nI_m1 (by omega))
  · refine lv_iload_n hx hb d_Mo_isHot_5 rfl (lv_at hl 2 rfl) ?_
    refine lv_if_le (tgt := 24) hx hb d_Mo_isHot_6 (by decide) (fun c_2 => ?_) (fun c_2 => ?_)
    · refine lv_iconst (v := 0) hx hb d_Mo_isHot_24 (by decide) ?_
      exact W.zret hx hb hret rfl (fun t ht hW => ⟨⟨_, (), rfl, (by simp only [mo_hot, if_neg c_1, if_pos c_2]), ht⟩, hS.F ht⟩) hS.2.2 d_Mo_isHot_25
    · refine lv_aload_n hx hb d_Mo_isHot_9 rfl (lv_at hl 0 rfl) ?_
      refine lv_iload_n hx hb d_Mo_isHot_10 rfl (lv_at hl 1 rfl) ?_
      refine kV_rl ⟨hx, hb, hml, hown, hG⟩ (c_Mo_warmth hM (by omega)) (cwV 1 hG (gV k856 k858 ks_Mo_warmth k2 k859) rfl rfl rfl hd_Mo_warmth ⟨Nat.le_of_ble_eq_true rfl, Nat.le_of_ble_eq_true rfl⟩) hK hP hS hM.1.1 hM.1.2 rfl rfl hl.1 rfl (Nat.le_of_ble_eq_true rfl) ⟨Nat.le_of_ble_eq_true rfl, Nat.le_of_ble_eq_true rfl⟩ d_Mo_isHot_11 (fun locs hS => ?_)
      refine lv_iload_n hx hb d_Mo_isHot_14 rfl (lv_at hl 2 rfl) ?_
      refine lv_i2l hx hb d_Mo_isHot_15 rfl ?_
      refine lc_lt (tgt := 24) hx hb d_Mo_isHot_16 d_Mo_isHot_17 (by decide) (fun c_3 => ?_) (fun c_3 => ?_)
      · refine lv_iconst (v := 0) hx hb d_Mo_isHot_24 (by decide) ?_
        exact W.zret hx hb hret rfl (fun t ht hW => ⟨⟨_, (), rfl, (by simp only [mo_hot, if_neg c_1, if_neg c_2, if_pos c_3]), ht⟩, hS.F ht⟩) hS.2.2 d_Mo_isHot_25
      · refine lv_iconst (v := 1) hx hb d_Mo_isHot_20 (by decide) ?_
        refine lv_goto (tgt := 25) hx hb d_Mo_isHot_21 (by decide) ?_
        exact W.zret hx hb hret rfl (fun t ht hW => ⟨⟨_, (), rfl, (by simp only [mo_hot, if_neg c_1, if_neg c_2, if_neg c_3]), ht⟩, hS.F ht⟩) hS.2.2 d_Mo_isHot_25
