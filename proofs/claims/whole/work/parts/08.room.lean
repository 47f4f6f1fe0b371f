/-! SmokeZones$Room: its cell, what its methods answer -/
abbrev roomE (ar he : Int32) (ho sm ht : Int64) (sl sa fl : Int32) : va_E := .inr (0, [.int ar, .int he, .long ho, .long sm, .long ht, .int sl, .int sa, .int fl])
def m_max (x y : Int64) : Int64 := if y < x then x else y
def m_min (x y : Int64) : Int64 := if y < x then y else x
def m_abs (x : Int64) : Int64 := if 0 < x then x else -x
def m_depth (ar : Int32) (sm : Int64) : Int64 := if 1 ≤ ar then sm / Int32.toInt64 ar else 0
def m_warmth (sm ht : Int64) : Int64 := if 1 ≤ sm then ht / sm else 0
def m_clear (ar he : Int32) (sm : Int64) : Int64 := Int32.toInt64 he - m_depth ar sm
def m_low (ar he : Int32) (sm : Int64) : Int32 := if 18 ≤ m_clear ar he sm then 0 else 1
def m_cov (ar he : Int32) (sm : Int64) (si to : Int32) : Int64 := m_max 0 (Int32.toInt64 to - m_max (Int32.toInt64 si) (m_clear ar he sm))
def m_hw (sm ht li : Int64) : Int64 := if 1 ≤ sm then (ht * li) / sm else 0
theorem nz32 {x : Int32} (h : 1 ≤ x) : ¬ Int32.toInt64 x = 0 := by
  intro q
  have h1 := congrArg Int64.toInt q
  rw [Int32.toInt_toInt64] at h1
  have h2 := Int32.le_iff_toInt_le.mp h
  have h3 : (1 : Int32).toInt = 1 := by decide
  have h4 : (0 : Int64).toInt = 0 := by decide
  omega
theorem nz64 {x : Int64} (h : 1 ≤ x) : ¬ x = 0 := by
  intro q
  subst q
  exact absurd h (by decide)
theorem up_same {α : Type} {f : Nat → α} {k : Nat} {v : α} (h : f k = v) : va_up f k v = f := by
  funext j
  by_cases hj : j = k
  · subst hj; rw [va_up_self]; exact h.symm
  · exact va_up_ne _ _ hj

set_option maxHeartbeats 4000000 in
set_option maxRecDepth 100000 in
theorem c_Ro_depth {l : Launch} {D : va_G} {TY : List (ClassId × FieldType)} {L : List Nat} {f : Nat → va_E} {H : Heap} {r : Nat} {ar : Int32} {he : Int32} {ho : Int64} {sm : Int64} {ht : Int64} {sl : Int32} {sa : Int32} {fl : Int32} (h_r : r ∈ L) (e_r : f r = roomE ar he ho sm ht sl sa fl) : Met l y_Ro_depth (WS y_Ro_depth b_Ro_depth 1 (some .long)) { frames := 0, cells := 0, slots := 0, locals := 0 } (va_Pc [.ref r] (RP D TY L f H)) (Ql (m_depth ar sm) H) 0 0 No := by
  refine Met.ofW (cc := b_Ro_depth) (maxL := 1) (ret := (some .long)) (by decide) rfl ?_
  intro p e s m args below meth c s₁ B hml hv
  obtain ⟨rfl, hH, hP, hK⟩ := hv
  subst hH
  have hx := B.exec
  have hb := B.bytes
  have hret := B.returns
  have hts := atoms_spec (ws := WS y_Ro_depth b_Ro_depth 1 (some .long)) B.pre
  have hG : ∀ w ∈ GW, w.before _ s = true := fun w h => hts w (List.mem_cons_of_mem _ h)
  have hown : s.vm.findClass "SmokeZones$Room" = some m.cls := findClass_of_methodNamed B.named
  have hlocks := B.notSynchronized
  have hS : va_S No s.heap s.heap [] := va_S.rf
  have hl := lv_entry ([.ref r]) (n := 1) (Nat.le_of_ble_eq_true rfl)
  rw [lg_entry_eq]
  generalize (lg_sl ([.ref r]) ++ List.replicate (1 - (lg_sl ([.ref r])).length) Slot.unset).toArray = ls at hl ⊢
  have hl : lv_has ls 1 [(0, .ref r)] := hl
  refine lv_aload_n hx hb d_Ro_depth_0 rfl (lv_at hl 0 rfl) ?_
  refine pg_get (C := "SmokeZones$Room") (T := T_Ro) (N := 8) hx hb hG in_Ro hown hK hP h_r e_r rfl 0 (by decide) (hG _ k196) (fun _ h9 => h9) rfl d_Ro_depth_1 ?_
  refine lv_iconst (v := 1) hx hb d_Ro_depth_4 (by decide) ?_
  refine lv_icmp_ge (tgt := 12) hx hb d_Ro_depth_5 (by decide) (fun c_1 => ?_) (fun c_1 => ?_)
  · refine lv_aload_n hx hb d_Ro_depth_12 rfl (lv_at hl 0 rfl) ?_
    refine pg_get (C := "SmokeZones$Room") (T := T_Ro) (N := 8) hx hb hG in_Ro hown hK hP h_r e_r rfl 3 (by decide) (hG _ k200) (fun _ h9 => h9) rfl d_Ro_depth_13 ?_
    refine lv_aload_n hx hb d_Ro_depth_16 rfl (lv_at hl 0 rfl) ?_
    refine pg_get (C := "SmokeZones$Room") (T := T_Ro) (N := 8) hx hb hG in_Ro hown hK hP h_r e_r rfl 0 (by decide) (hG _ k196) (fun _ h9 => h9) rfl d_Ro_depth_17 ?_
    refine lv_i2l hx hb d_Ro_depth_20 rfl ?_
    refine lv_ldiv hx hb d_Ro_depth_21 (nz32 c_1) ?_
    exact W.lret hx hb hret (fun t ht hW => ⟨⟨_, (), rfl, (by simp only [m_depth, if_pos c_1]), ht⟩, hS.F ht⟩) hS.2.2 d_Ro_depth_22
  · refine lv_lconst (v := 0) hx hb d_Ro_depth_8 (by decide) ?_
    refine lv_goto (tgt := 22) hx hb d_Ro_depth_9 (by decide) ?_
    exact W.lret hx hb hret (fun t ht hW => ⟨⟨_, (), rfl, (by simp only [m_depth, if_neg c_1]), ht⟩, hS.F ht⟩) hS.2.2 d_Ro_depth_22

set_option maxHeartbeats 4000000 in
set_option maxRecDepth 100000 in
theorem c_Ro_warmth {l : Launch} {D : va_G} {TY : List (ClassId × FieldType)} {L : List Nat} {f : Nat → va_E} {H : Heap} {r : Nat} {ar : Int32} {he : Int32} {ho : Int64} {sm : Int64} {ht : Int64} {sl : Int32} {sa : Int32} {fl : Int32} (h_r : r ∈ L) (e_r : f r = roomE ar he ho sm ht sl sa fl) : Met l y_Ro_warmth (WS y_Ro_warmth b_Ro_warmth 1 (some .long)) { frames := 0, cells := 0, slots := 0, locals := 0 } (va_Pc [.ref r] (RP D TY L f H)) (Ql (m_warmth sm ht) H) 0 0 No := by
  refine Met.ofW (cc := b_Ro_warmth) (maxL := 1) (ret := (some .long)) (by decide) rfl ?_
  intro p e s m args below meth c s₁ B hml hv
  obtain ⟨rfl, hH, hP, hK⟩ := hv
  subst hH
  have hx := B.exec
  have hb := B.bytes
  have hret := B.returns
  have hts := atoms_spec (ws := WS y_Ro_warmth b_Ro_warmth 1 (some .long)) B.pre
  have hG : ∀ w ∈ GW, w.before _ s = true := fun w h => hts w (List.mem_cons_of_mem _ h)
  have hown : s.vm.findClass "SmokeZones$Room" = some m.cls := findClass_of_methodNamed B.named
  have hlocks := B.notSynchronized
  have hS : va_S No s.heap s.heap [] := va_S.rf
  have hl := lv_entry ([.ref r]) (n := 1) (Nat.le_of_ble_eq_true rfl)
  rw [lg_entry_eq]
  generalize (lg_sl ([.ref r]) ++ List.replicate (1 - (lg_sl ([.ref r])).length) Slot.unset).toArray = ls at hl ⊢
  have hl : lv_has ls 1 [(0, .ref r)] := hl
  refine lv_aload_n hx hb d_Ro_warmth_0 rfl (lv_at hl 0 rfl) ?_
  refine pg_get (C := "SmokeZones$Room") (T := T_Ro) (N := 8) hx hb hG in_Ro hown hK hP h_r e_r rfl 3 (by decide) (hG _ k200) (fun _ h9 => h9) rfl d_Ro_warmth_1 ?_
  refine lv_lconst (v := 1) hx hb d_Ro_warmth_4 (by decide) ?_
  refine lc_ge (tgt := 13) hx hb d_Ro_warmth_5 d_Ro_warmth_6 (by decide) (fun c_1 => ?_) (fun c_1 => ?_)
  · refine lv_aload_n hx hb d_Ro_warmth_13 rfl (lv_at hl 0 rfl) ?_
    refine pg_get (C := "SmokeZones$Room") (T := T_Ro) (N := 8) hx hb hG in_Ro hown hK hP h_r e_r rfl 4 (by decide) (hG _ k204) (fun _ h9 => h9) rfl d_Ro_warmth_14 ?_
    refine lv_aload_n hx hb d_Ro_warmth_17 rfl (lv_at hl 0 rfl) ?_
    refine pg_get (C := "SmokeZones$Room") (T := T_Ro) (N := 8) hx hb hG in_Ro hown hK hP h_r e_r rfl 3 (by decide) (hG _ k200) (fun _ h9 => h9) rfl d_Ro_warmth_18 ?_
    refine lv_ldiv hx hb d_Ro_warmth_21 (nz64 c_1) ?_
    exact W.lret hx hb hret (fun t ht hW => ⟨⟨_, (), rfl, (by simp only [m_warmth, if_pos c_1]), ht⟩, hS.F ht⟩) hS.2.2 d_Ro_warmth_22
  · refine lv_lconst (v := 0) hx hb d_Ro_warmth_9 (by decide) ?_
    refine lv_goto (tgt := 22) hx hb d_Ro_warmth_10 (by decide) ?_
    exact W.lret hx hb hret (fun t ht hW => ⟨⟨_, (), rfl, (by simp only [m_warmth, if_neg c_1]), ht⟩, hS.F ht⟩) hS.2.2 d_Ro_warmth_22

set_option maxHeartbeats 4000000 in
set_option maxRecDepth 100000 in
theorem c_Ro_clear {l : Launch} {D : va_G} {TY : List (ClassId × FieldType)} {L : List Nat} {f : Nat → va_E} {H : Heap} {r : Nat} {ar : Int32} {he : Int32} {ho : Int64} {sm : Int64} {ht : Int64} {sl : Int32} {sa : Int32} {fl : Int32} (h_r : r ∈ L) (e_r : f r = roomE ar he ho sm ht sl sa fl) : Met l y_Ro_clear (WS y_Ro_clear b_Ro_clear 1 (some .long)) { frames := 1, cells := 0, slots := 0, locals := 20 } (va_Pc [.ref r] (RP D TY L f H)) (Ql (m_clear ar he sm) H) 0 0 No := by
  refine Met.ofW (cc := b_Ro_clear) (maxL := 1) (ret := (some .long)) (by decide) rfl ?_
  intro p e s m args below meth c s₁ B hml hv
  obtain ⟨rfl, hH, hP, hK⟩ := hv
  subst hH
  have hx := B.exec
  have hb := B.bytes
  have hret := B.returns
  have hts := atoms_spec (ws := WS y_Ro_clear b_Ro_clear 1 (some .long)) B.pre
  have hG : ∀ w ∈ GW, w.before _ s = true := fun w h => hts w (List.mem_cons_of_mem _ h)
  have hown : s.vm.findClass "SmokeZones$Room" = some m.cls := findClass_of_methodNamed B.named
  have hlocks := B.notSynchronized
  have hS : va_S No s.heap s.heap [] := va_S.rf
  have hl := lv_entry ([.ref r]) (n := 1) (Nat.le_of_ble_eq_true rfl)
  rw [lg_entry_eq]
  generalize (lg_sl ([.ref r]) ++ List.replicate (1 - (lg_sl ([.ref r])).length) Slot.unset).toArray = ls at hl ⊢
  have hl : lv_has ls 1 [(0, .ref r)] := hl
  refine lv_aload_n hx hb d_Ro_clear_0 rfl (lv_at hl 0 rfl) ?_
  refine pg_get (C := "SmokeZones$Room") (T := T_Ro) (N := 8) hx hb hG in_Ro hown hK hP h_r e_r rfl 1 (by decide) (hG _ k197) (fun _ h9 => h9) rfl d_Ro_clear_1 ?_
  refine lv_i2l hx hb d_Ro_clear_4 rfl ?_
  refine lv_aload_n hx hb d_Ro_clear_5 rfl (lv_at hl 0 rfl) ?_
  refine kV_rl ⟨hx, hb, hml, hown, hG⟩ (c_Ro_depth h_r e_r) (cwV 0 hG (gV k474 k475 k476 k8 k477) rfl rfl rfl hd_Ro_depth ⟨Nat.le_of_ble_eq_true rfl, Nat.le_of_ble_eq_true rfl⟩) hK hP hS h_r e_r rfl rfl hl.1 rfl (Nat.le_of_ble_eq_true rfl) ⟨Nat.le_of_ble_eq_true rfl, Nat.le_of_ble_eq_true rfl⟩ d_Ro_clear_6 (fun locs hS => ?_)
  refine lv_lsub hx hb d_Ro_clear_9 ?_
  exact W.lret hx hb hret (fun t ht hW => ⟨⟨_, (), rfl, rfl, ht⟩, hS.F ht⟩) hS.2.2 d_Ro_clear_10

set_option maxHeartbeats 4000000 in
set_option maxRecDepth 100000 in
theorem c_Ro_isLow {l : Launch} {D : va_G} {TY : List (ClassId × FieldType)} {L : List Nat} {f : Nat → va_E} {H : Heap} {r : Nat} {ar : Int32} {he : Int32} {ho : Int64} {sm : Int64} {ht : Int64} {sl : Int32} {sa : Int32} {fl : Int32} (h_r : r ∈ L) (e_r : f r = roomE ar he ho sm ht sl sa fl) : Met l y_Ro_isLow (WS y_Ro_isLow b_Ro_isLow 1 (some .boolean)) { frames := 2, cells := 0, slots := 0, locals := 40 } (va_Pc [.ref r] (RP D TY L f H)) (Qi (m_low ar he sm) H) 0 0 No := by
  refine Met.ofW (cc := b_Ro_isLow) (maxL := 1) (ret := (some .boolean)) (by decide) rfl ?_
  intro p e s m args below meth c s₁ B hml hv
  obtain ⟨rfl, hH, hP, hK⟩ := hv
  subst hH
  have hx := B.exec
  have hb := B.bytes
  have hret := B.returns
  have hts := atoms_spec (ws := WS y_Ro_isLow b_Ro_isLow 1 (some .boolean)) B.pre
  have hG : ∀ w ∈ GW, w.before _ s = true := fun w h => hts w (List.mem_cons_of_mem _ h)
  have hown : s.vm.findClass "SmokeZones$Room" = some m.cls := findClass_of_methodNamed B.named
  have hlocks := B.notSynchronized
  have hS : va_S No s.heap s.heap [] := va_S.rf
  have hl := lv_entry ([.ref r]) (n := 1) (Nat.le_of_ble_eq_true rfl)
  rw [lg_entry_eq]
  generalize (lg_sl ([.ref r]) ++ List.replicate (1 - (lg_sl ([.ref r])).length) Slot.unset).toArray = ls at hl ⊢
  have hl : lv_has ls 1 [(0, .ref r)] := hl
  refine lv_aload_n hx hb d_Ro_isLow_0 rfl (lv_at hl 0 rfl) ?_
  refine kV_rl ⟨hx, hb, hml, hown, hG⟩ (c_Ro_clear h_r e_r) (cwV 0 hG (gV k470 k471 k472 k8 k473) rfl rfl rfl hd_Ro_clear ⟨Nat.le_of_ble_eq_true rfl, Nat.le_of_ble_eq_true rfl⟩) hK hP hS h_r e_r rfl rfl hl.1 rfl (Nat.le_of_ble_eq_true rfl) ⟨Nat.le_of_ble_eq_true rfl, Nat.le_of_ble_eq_true rfl⟩ d_Ro_isLow_1 (fun locs hS => ?_)
  refine lv_ldc2 hx hb hown (hG _ k561) d_Ro_isLow_4 ?_
  refine lc_ge (tgt := 15) hx hb d_Ro_isLow_7 d_Ro_isLow_8 (by decide) (fun c_1 => ?_) (fun c_1 => ?_)
  · refine lv_iconst (v := 0) hx hb d_Ro_isLow_15 (by decide) ?_
    exact W.zret hx hb hret rfl (fun t ht hW => ⟨⟨_, (), rfl, (by simp only [m_low, if_pos c_1]), ht⟩, hS.F ht⟩) hS.2.2 d_Ro_isLow_16
  · refine lv_iconst (v := 1) hx hb d_Ro_isLow_11 (by decide) ?_
    refine lv_goto (tgt := 16) hx hb d_Ro_isLow_12 (by decide) ?_
    exact W.zret hx hb hret rfl (fun t ht hW => ⟨⟨_, (), rfl, (by simp only [m_low, if_neg c_1]), ht⟩, hS.F ht⟩) hS.2.2 d_Ro_isLow_16

set_option maxHeartbeats 4000000 in
set_option maxRecDepth 100000 in
theorem c_Ro_covered {l : Launch} {D : va_G} {TY : List (ClassId × FieldType)} {L : List Nat} {f : Nat → va_E} {H : Heap} {r : Nat} {ar : Int32} {he : Int32} {ho : Int64} {sm : Int64} {ht : Int64} {sl : Int32} {sa : Int32} {fl : Int32} {si : Int32} {to : Int32} (h_r : r ∈ L) (e_r : f r = roomE ar he ho sm ht sl sa fl) : Met l y_Ro_covered (WS y_Ro_covered b_Ro_covered 3 (some .long)) { frames := 2, cells := 0, slots := 0, locals := 40 } (va_Pc [.ref r, .int si, .int to] (RP D TY L f H)) (Ql (m_cov ar he sm si to) H) 0 0 No := by
  refine Met.ofW (cc := b_Ro_covered) (maxL := 3) (ret := (some .long)) (by decide) rfl ?_
  intro p e s m args below meth c s₁ B hml hv
  obtain ⟨rfl, hH, hP, hK⟩ := hv
  subst hH
  have hx := B.exec
  have hb := B.bytes
  have hret := B.returns
  have hts := atoms_spec (ws := WS y_Ro_covered b_Ro_covered 3 (some .long)) B.pre
  have hG : ∀ w ∈ GW, w.before _ s = true := fun w h => hts w (List.mem_cons_of_mem _ h)
  have hown : s.vm.findClass "SmokeZones$Room" = some m.cls := findClass_of_methodNamed B.named
  have hlocks := B.notSynchronized
  have hS : va_S No s.heap s.heap [] := va_S.rf
  have hl := lv_entry ([.ref r, .int si, .int to]) (n := 3) (Nat.le_of_ble_eq_true rfl)
  rw [lg_entry_eq]
  generalize (lg_sl ([.ref r, .int si, .int to]) ++ List.replicate (3 - (lg_sl ([.ref r, .int si, .int to])).length) Slot.unset).toArray = ls at hl ⊢
  have hl : lv_has ls 3 [(0, .ref r), (1, .int si), (2, .int to)] := hl
  refine lv_lconst (v := 0) hx hb d_Ro_covered_0 (by decide) ?_
  refine lv_iload_n hx hb d_Ro_covered_1 rfl (lv_at hl 2 rfl) ?_
  refine lv_i2l hx hb d_Ro_covered_2 rfl ?_
  refine lv_iload_n hx hb d_Ro_covered_3 rfl (lv_at hl 1 rfl) ?_
  refine lv_i2l hx hb d_Ro_covered_4 rfl ?_
  refine lv_aload_n hx hb d_Ro_covered_5 rfl (lv_at hl 0 rfl) ?_
  refine kV_rl ⟨hx, hb, hml, hown, hG⟩ (c_Ro_clear h_r e_r) (cwV 0 hG (gV k470 k471 k472 k8 k473) rfl rfl rfl hd_Ro_clear ⟨Nat.le_of_ble_eq_true rfl, Nat.le_of_ble_eq_true rfl⟩) hK hP hS h_r e_r rfl rfl hl.1 rfl (Nat.le_of_ble_eq_true rfl) ⟨Nat.le_of_ble_eq_true rfl, Nat.le_of_ble_eq_true rfl⟩ d_Ro_covered_6 (fun locs hS => ?_)
  refine va_mmax_long hx hb (hml.trans hl.1.symm) hown (hG _ k478) (hG _ km_max_s) (hG _ k14) (hG _ km_max_c) (Nat.le_of_ble_eq_true rfl) (Nat.le_of_ble_eq_true rfl) (Nat.le_of_ble_eq_true rfl) (Nat.le_of_ble_eq_true rfl) d_Ro_covered_9 ?_
  refine lv_lsub hx hb d_Ro_covered_12 ?_
  refine va_mmax_long hx hb (hml.trans hl.1.symm) hown (hG _ k478) (hG _ km_max_s) (hG _ k14) (hG _ km_max_c) (Nat.le_of_ble_eq_true rfl) (Nat.le_of_ble_eq_true rfl) (Nat.le_of_ble_eq_true rfl) (Nat.le_of_ble_eq_true rfl) d_Ro_covered_13 ?_
  exact W.lret hx hb hret (fun t ht hW => ⟨⟨_, (), rfl, rfl, ht⟩, hS.F ht⟩) hS.2.2 d_Ro_covered_16

set_option maxHeartbeats 4000000 in
set_option maxRecDepth 100000 in
theorem c_Ro_heatWith {l : Launch} {D : va_G} {TY : List (ClassId × FieldType)} {L : List Nat} {f : Nat → va_E} {H : Heap} {r : Nat} {ar : Int32} {he : Int32} {ho : Int64} {sm : Int64} {ht : Int64} {sl : Int32} {sa : Int32} {fl : Int32} {li : Int64} (h_r : r ∈ L) (e_r : f r = roomE ar he ho sm ht sl sa fl) : Met l y_Ro_heatWith (WS y_Ro_heatWith b_Ro_heatWith 3 (some .long)) { frames := 0, cells := 0, slots := 0, locals := 0 } (va_Pc [.ref r, .long li] (RP D TY L f H)) (Ql (m_hw sm ht li) H) 0 0 No := by
  refine Met.ofW (cc := b_Ro_heatWith) (maxL := 3) (ret := (some .long)) (by decide) rfl ?_
  intro p e s m args below meth c s₁ B hml hv
  obtain ⟨rfl, hH, hP, hK⟩ := hv
  subst hH
  have hx := B.exec
  have hb := B.bytes
  have hret := B.returns
  have hts := atoms_spec (ws := WS y_Ro_heatWith b_Ro_heatWith 3 (some .long)) B.pre
  have hG : ∀ w ∈ GW, w.before _ s = true := fun w h => hts w (List.mem_cons_of_mem _ h)
  have hown : s.vm.findClass "SmokeZones$Room" = some m.cls := findClass_of_methodNamed B.named
  have hlocks := B.notSynchronized
  have hS : va_S No s.heap s.heap [] := va_S.rf
  have hl := lv_entry ([.ref r, .long li]) (n := 3) (Nat.le_of_ble_eq_true rfl)
  rw [lg_entry_eq]
  generalize (lg_sl ([.ref r, .long li]) ++ List.replicate (3 - (lg_sl ([.ref r, .long li])).length) Slot.unset).toArray = ls at hl ⊢
  have hl : lv_has ls 3 [(0, .ref r), (1, .long li)] := hl
  refine lv_aload_n hx hb d_Ro_heatWith_0 rfl (lv_at hl 0 rfl) ?_
  refine pg_get (C := "SmokeZones$Room") (T := T_Ro) (N := 8) hx hb hG in_Ro hown hK hP h_r e_r rfl 3 (by decide) (hG _ k200) (fun _ h9 => h9) rfl d_Ro_heatWith_1 ?_
  refine lv_lconst (v := 1) hx hb d_Ro_heatWith_4 (by decide) ?_
  refine lc_ge (tgt := 13) hx hb d_Ro_heatWith_5 d_Ro_heatWith_6 (by decide) (fun c_1 => ?_) (fun c_1 => ?_)
  · refine lv_aload_n hx hb d_Ro_heatWith_13 rfl (lv_at hl 0 rfl) ?_
    refine pg_get (C := "SmokeZones$Room") (T := T_Ro) (N := 8) hx hb hG in_Ro hown hK hP h_r e_r rfl 4 (by decide) (hG _ k204) (fun _ h9 => h9) rfl d_Ro_heatWith_14 ?_
    refine lv_lload_n hx hb d_Ro_heatWith_17 rfl (lv_at hl 1 rfl) ?_
    refine lv_lmul hx hb d_Ro_heatWith_18 ?_
    refine lv_aload_n hx hb d_Ro_heatWith_19 rfl (lv_at hl 0 rfl) ?_
    refine pg_get (C := "SmokeZones$Room") (T := T_Ro) (N := 8) hx hb hG in_Ro hown hK hP h_r e_r rfl 3 (by decide) (hG _ k200) (fun _ h9 => h9) rfl d_Ro_heatWith_20 ?_
    refine lv_ldiv hx hb d_Ro_heatWith_23 (nz64 c_1) ?_
    exact W.lret hx hb hret (fun t ht hW => ⟨⟨_, (), rfl, (by simp only [m_hw, if_pos c_1]), ht⟩, hS.F ht⟩) hS.2.2 d_Ro_heatWith_24
  · refine lv_lconst (v := 0) hx hb d_Ro_heatWith_9 (by decide) ?_
    refine lv_goto (tgt := 24) hx hb d_Ro_heatWith_10 (by decide) ?_
    exact W.lret hx hb hret (fun t ht hW => ⟨⟨_, (), rfl, (by simp only [m_hw, if_neg c_1]), ht⟩, hS.F ht⟩) hS.2.2 d_Ro_heatWith_24

set_option maxHeartbeats 4000000 in
set_option maxRecDepth 100000 in
theorem c_Ro_add {l : Launch} {D : va_G} {TY : List (ClassId × FieldType)} {L : List Nat} {f : Nat → va_E} {sz : Nat} {r : Nat} {ar : Int32} {he : Int32} {ho : Int64} {sm : Int64} {ht : Int64} {sl : Int32} {sa : Int32} {fl : Int32} {li : Int64} {ih : Int64} (h_r : r ∈ L) (e_r : f r = roomE ar he ho sm ht sl sa fl) : Met l y_Ro_add (WS y_Ro_add b_Ro_add 5 none) { frames := 0, cells := 0, slots := 0, locals := 0 } (va_Pc [.ref r, .long li, .long ih] (WP D TY L f sz)) (Xv D TY L (va_up f r (roomE ar he ho (sm + li) (ht + ih) sl sa fl)) (AA L f sz)) 0 0 (AA L f sz) := by
  refine Met.ofW (cc := b_Ro_add) (maxL := 5) (ret := none) (by decide) rfl ?_
  intro p e s m args below meth c s₁ B hml hv
  obtain ⟨rfl, hsz, hP, hK, hD0⟩ := hv
  subst hsz
  have hx := B.exec
  have hb := B.bytes
  have hret := B.returns
  have hts := atoms_spec (ws := WS y_Ro_add b_Ro_add 5 none) B.pre
  have hG : ∀ w ∈ GW, w.before _ s = true := fun w h => hts w (List.mem_cons_of_mem _ h)
  have hown : s.vm.findClass "SmokeZones$Room" = some m.cls := findClass_of_methodNamed B.named
  have hlocks := B.notSynchronized
  have hD : va_D (AA L f s.heap.size) (va_pl L f) := hD0.self (sz := s.heap.size)
  generalize hAe : AA L f s.heap.size = A at hD ⊢
  have hA : ∀ q : Nat, s.heap.size ≤ q → A q := fun q h => by rw [← hAe]; exact Or.inr h
  have hS : va_S A s.heap s.heap [] := va_S.rf
  have hl := lv_entry ([.ref r, .long li, .long ih]) (n := 5) (Nat.le_of_ble_eq_true rfl)
  rw [lg_entry_eq]
  generalize (lg_sl ([.ref r, .long li, .long ih]) ++ List.replicate (5 - (lg_sl ([.ref r, .long li, .long ih])).length) Slot.unset).toArray = ls at hl ⊢
  have hl : lv_has ls 5 [(0, .ref r), (1, .long li), (3, .long ih)] := hl
  refine lv_aload_n hx hb d_Ro_add_0 rfl (lv_at hl 0 rfl) ?_
  refine lv_dup hx hb d_Ro_add_1 rfl ?_
  refine pg_get (C := "SmokeZones$Room") (T := T_Ro) (N := 8) hx hb hG in_Ro hown hK hP h_r e_r rfl 3 (by decide) (hG _ k200) (fun _ h9 => h9) rfl d_Ro_add_2 ?_
  refine lv_lload_n hx hb d_Ro_add_5 rfl (lv_at hl 1 rfl) ?_
  refine lv_ladd hx hb d_Ro_add_6 ?_
  refine pg_put (C := "SmokeZones$Room") (T := T_Ro) (N := 8) (ty := .long) hx hb hG in_Ro ty_Ro ok_Ro nm_Ro hown hK hP hD hS h_r e_r rfl 3 (by decide) (hG _ k200) (fun _ h9 => h9) rfl (by decide +kernel) rfl rfl (Nat.le_of_ble_eq_true rfl) d_Ro_add_7 (fun H locs hP hD hS => ?_)
  have hP : va_P D vwCl (va_pl L (va_up f r (.inr (0, [.int ar, .int he, .long ho, .long (sm + li), .long ht, .int sl, .int sa, .int fl])))) H := hP
  have hD : va_D A (va_pl L (va_up f r (.inr (0, [.int ar, .int he, .long ho, .long (sm + li), .long ht, .int sl, .int sa, .int fl])))) := hD
  have e_1 : (va_up f r (.inr (0, [.int ar, .int he, .long ho, .long (sm + li), .long ht, .int sl, .int sa, .int fl]))) r = .inr (0, [.int ar, .int he, .long ho, .long (sm + li), .long ht, .int sl, .int sa, .int fl]) := va_up_self _ _ _
  refine lv_aload_n hx hb d_Ro_add_10 rfl (lv_at hl 0 rfl) ?_
  refine lv_dup hx hb d_Ro_add_11 rfl ?_
  refine pg_get (C := "SmokeZones$Room") (T := T_Ro) (N := 8) hx hb hG in_Ro hown hK hP h_r e_1 rfl 4 (by decide) (hG _ k204) (fun _ h9 => h9) rfl d_Ro_add_12 ?_
  refine lv_lload_n hx hb d_Ro_add_15 rfl (lv_at hl 2 rfl) ?_
  refine lv_ladd hx hb d_Ro_add_16 ?_
  refine pg_put (C := "SmokeZones$Room") (T := T_Ro) (N := 8) (ty := .long) hx hb hG in_Ro ty_Ro ok_Ro nm_Ro hown hK hP hD hS h_r e_1 rfl 4 (by decide) (hG _ k204) (fun _ h9 => h9) rfl (by decide +kernel) rfl rfl (Nat.le_of_ble_eq_true rfl) d_Ro_add_17 (fun H locs hP hD hS => ?_)
  rw [bx_uu] at hP hD
  have hP : va_P D vwCl (va_pl L (va_up f r (.inr (0, [.int ar, .int he, .long ho, .long (sm + li), .long (ht + ih), .int sl, .int sa, .int fl])))) H := hP
  have hD : va_D A (va_pl L (va_up f r (.inr (0, [.int ar, .int he, .long ho, .long (sm + li), .long (ht + ih), .int sl, .int sa, .int fl])))) := hD
  have e_2 : (va_up f r (.inr (0, [.int ar, .int he, .long ho, .long (sm + li), .long (ht + ih), .int sl, .int sa, .int fl]))) r = .inr (0, [.int ar, .int he, .long ho, .long (sm + li), .long (ht + ih), .int sl, .int sa, .int fl]) := va_up_self _ _ _
  have hF : (va_up f r (roomE ar he ho (sm + li) (ht + ih) sl sa fl)) = (va_up f r (.inr (0, [.int ar, .int he, .long ho, .long (sm + li), .long (ht + ih), .int sl, .int sa, .int fl]))) := by
    first | done | exact rfl
  rw [← hF] at hP hD
  exact W.vret hx hb hret (fun t ht hW => ⟨⟨(), rfl, trivial, by rw [ht]; exact hP, va_K.moved hW.alike hK, hD⟩, hS.F ht⟩) hS.2.2 d_Ro_add_20

def m_psm (ho sm : Int64) : Int64 := if ho < sm then ho else sm
def m_pht (ho sm ht : Int64) : Int64 := if ho < sm then m_hw sm ht ho else ht
def m_pout (ho sm : Int64) : Int64 := if ho < sm then sm - ho else 0
def m_act (sm ht : Int64) (sl sa : Int32) : Int32 := if sl = (-1) then sa else if m_warmth sm ht < Int32.toInt64 sl then sa else 1
def m_fl (ar he : Int32) (sm : Int64) (fl t : Int32) : Int32 := if fl = (-1) then (if m_low ar he sm = 0 then fl else t) else fl

set_option maxHeartbeats 4000000 in
set_option maxRecDepth 100000 in
theorem c_Ro_pressOut {l : Launch} {D : va_G} {TY : List (ClassId × FieldType)} {L : List Nat} {f : Nat → va_E} {sz : Nat} {r : Nat} {ar : Int32} {he : Int32} {ho : Int64} {sm : Int64} {ht : Int64} {sl : Int32} {sa : Int32} {fl : Int32} (h_r : r ∈ L) (e_r : f r = roomE ar he ho sm ht sl sa fl) : Met l y_Ro_pressOut (WS y_Ro_pressOut b_Ro_pressOut 3 (some .long)) { frames := 1, cells := 0, slots := 0, locals := 22 } (va_Pc [.ref r] (WP D TY L f sz)) (Xl D TY L (va_up f r (roomE ar he ho (m_psm ho sm) (m_pht ho sm ht) sl sa fl)) (AA L f sz) (m_pout ho sm)) 0 0 (AA L f sz) := by
  refine Met.ofW (cc := b_Ro_pressOut) (maxL := 3) (ret := (some .long)) (by decide) rfl ?_
  intro p e s m args below meth c s₁ B hml hv
  obtain ⟨rfl, hsz, hP, hK, hD0⟩ := hv
  subst hsz
  have hx := B.exec
  have hb := B.bytes
  have hret := B.returns
  have hts := atoms_spec (ws := WS y_Ro_pressOut b_Ro_pressOut 3 (some .long)) B.pre
  have hG : ∀ w ∈ GW, w.before _ s = true := fun w h => hts w (List.mem_cons_of_mem _ h)
  have hown : s.vm.findClass "SmokeZones$Room" = some m.cls := findClass_of_methodNamed B.named
  have hlocks := B.notSynchronized
  have hD : va_D (AA L f s.heap.size) (va_pl L f) := hD0.self (sz := s.heap.size)
  generalize hAe : AA L f s.heap.size = A at hD ⊢
  have hA : ∀ q : Nat, s.heap.size ≤ q → A q := fun q h => by rw [← hAe]; exact Or.inr h
  have hS : va_S A s.heap s.heap [] := va_S.rf
  have hl := lv_entry ([.ref r]) (n := 3) (Nat.le_of_ble_eq_true rfl)
  rw [lg_entry_eq]
  generalize (lg_sl ([.ref r]) ++ List.replicate (3 - (lg_sl ([.ref r])).length) Slot.unset).toArray = ls at hl ⊢
  have hl : lv_has ls 3 [(0, .ref r)] := hl
  refine lv_aload_n hx hb d_Ro_pressOut_0 rfl (lv_at hl 0 rfl) ?_
  refine pg_get (C := "SmokeZones$Room") (T := T_Ro) (N := 8) hx hb hG in_Ro hown hK hP h_r e_r rfl 3 (by decide) (hG _ k200) (fun _ h9 => h9) rfl d_Ro_pressOut_1 ?_
  refine lv_aload_n hx hb d_Ro_pressOut_4 rfl (lv_at hl 0 rfl) ?_
  refine pg_get (C := "SmokeZones$Room") (T := T_Ro) (N := 8) hx hb hG in_Ro hown hK hP h_r e_r rfl 2 (by decide) (hG _ k199) (fun _ h9 => h9) rfl d_Ro_pressOut_5 ?_
  refine lc_gt (tgt := 14) hx hb d_Ro_pressOut_8 d_Ro_pressOut_9 (by decide) (fun c_1 => ?_) (fun c_1 => ?_)
  · refine lv_aload_n hx hb d_Ro_pressOut_14 rfl (lv_at hl 0 rfl) ?_
    refine pg_get (C := "SmokeZones$Room") (T := T_Ro) (N := 8) hx hb hG in_Ro hown hK hP h_r e_r rfl 3 (by decide) (hG _ k200) (fun _ h9 => h9) rfl d_Ro_pressOut_15 ?_
    refine lv_aload_n hx hb d_Ro_pressOut_18 rfl (lv_at hl 0 rfl) ?_
    refine pg_get (C := "SmokeZones$Room") (T := T_Ro) (N := 8) hx hb hG in_Ro hown hK hP h_r e_r rfl 2 (by decide) (hG _ k199) (fun _ h9 => h9) rfl d_Ro_pressOut_19 ?_
    refine lv_lsub hx hb d_Ro_pressOut_22 ?_
    refine lv_lstore_n (lv' := [(1, .long (sm - ho)), (0, .ref r)]) hx hb d_Ro_pressOut_23 rfl hl (by decide) rfl (fun ls hl => ?_)
    refine lv_aload_n hx hb d_Ro_pressOut_24 rfl (lv_at hl 1 rfl) ?_
    refine lv_aload_n hx hb d_Ro_pressOut_25 rfl (lv_at hl 1 rfl) ?_
    refine lv_aload_n hx hb d_Ro_pressOut_26 rfl (lv_at hl 1 rfl) ?_
    refine pg_get (C := "SmokeZones$Room") (T := T_Ro) (N := 8) hx hb hG in_Ro hown hK hP h_r e_r rfl 2 (by decide) (hG _ k199) (fun _ h9 => h9) rfl d_Ro_pressOut_27 ?_
    refine kV_rl ⟨hx, hb, hml, hown, hG⟩ (c_Ro_heatWith h_r e_r) (cwV 1 hG (gV k518 k488 k489 k8 k490) rfl rfl rfl hd_Ro_heatWith ⟨Nat.le_of_ble_eq_true rfl, Nat.le_of_ble_eq_true rfl⟩) hK hP hS h_r e_r rfl rfl hl.1 rfl (Nat.le_of_ble_eq_true rfl) ⟨Nat.le_of_ble_eq_true rfl, Nat.le_of_ble_eq_true rfl⟩ d_Ro_pressOut_30 (fun locs hS => ?_)
    refine pg_put (C := "SmokeZones$Room") (T := T_Ro) (N := 8) (ty := .long) hx hb hG in_Ro ty_Ro ok_Ro nm_Ro hown hK hP hD hS h_r e_r rfl 4 (by decide) (hG _ k204) (fun _ h9 => h9) rfl (by decide +kernel) rfl rfl (Nat.le_of_ble_eq_true rfl) d_Ro_pressOut_33 (fun H locs hP hD hS => ?_)
    have hP : va_P D vwCl (va_pl L (va_up f r (.inr (0, [.int ar, .int he, .long ho, .long sm, .long (m_hw sm ht ho), .int sl, .int sa, .int fl])))) H := hP
    have hD : va_D A (va_pl L (va_up f r (.inr (0, [.int ar, .int he, .long ho, .long sm, .long (m_hw sm ht ho), .int sl, .int sa, .int fl])))) := hD
    have e_2 : (va_up f r (.inr (0, [.int ar, .int he, .long ho, .long sm, .long (m_hw sm ht ho), .int sl, .int sa, .int fl]))) r = .inr (0, [.int ar, .int he, .long ho, .long sm, .long (m_hw sm ht ho), .int sl, .int sa, .int fl]) := va_up_self _ _ _
    refine lv_aload_n hx hb d_Ro_pressOut_36 rfl (lv_at hl 1 rfl) ?_
    refine lv_aload_n hx hb d_Ro_pressOut_37 rfl (lv_at hl 1 rfl) ?_
    refine pg_get (C := "SmokeZones$Room") (T := T_Ro) (N := 8) hx hb hG in_Ro hown hK hP h_r e_2 rfl 2 (by decide) (hG _ k199) (fun _ h9 => h9) rfl d_Ro_pressOut_38 ?_
    refine pg_put (C := "SmokeZones$Room") (T := T_Ro) (N := 8) (ty := .long) hx hb hG in_Ro ty_Ro ok_Ro nm_Ro hown hK hP hD hS h_r e_2 rfl 3 (by decide) (hG _ k200) (fun _ h9 => h9) rfl (by decide +kernel) rfl rfl (Nat.le_of_ble_eq_true rfl) d_Ro_pressOut_41 (fun H locs hP hD hS => ?_)
    rw [bx_uu] at hP hD
    have hP : va_P D vwCl (va_pl L (va_up f r (.inr (0, [.int ar, .int he, .long ho, .long ho, .long (m_hw sm ht ho), .int sl, .int sa, .int fl])))) H := hP
    have hD : va_D A (va_pl L (va_up f r (.inr (0, [.int ar, .int he, .long ho, .long ho, .long (m_hw sm ht ho), .int sl, .int sa, .int fl])))) := hD
    have e_3 : (va_up f r (.inr (0, [.int ar, .int he, .long ho, .long ho, .long (m_hw sm ht ho), .int sl, .int sa, .int fl]))) r = .inr (0, [.int ar, .int he, .long ho, .long ho, .long (m_hw sm ht ho), .int sl, .int sa, .int fl]) := va_up_self _ _ _
    refine lv_lload_n hx hb d_Ro_pressOut_44 rfl (lv_at hl 0 rfl) ?_
    have hF : (va_up f r (roomE ar he ho (m_psm ho sm) (m_pht ho sm ht) sl sa fl)) = (va_up f r (.inr (0, [.int ar, .int he, .long ho, .long ho, .long (m_hw sm ht ho), .int sl, .int sa, .int fl]))) := by
      (try simp only [m_psm, m_pht, m_pout, if_pos c_1])
      first | done | exact rfl | exact up_same e_r
    rw [← hF] at hP hD
    exact W.lret hx hb hret (fun t ht hW => ⟨⟨_, (), rfl, (by simp only [m_psm, m_pht, m_pout, if_pos c_1]), by rw [ht]; exact hP, va_K.moved hW.alike hK, hD⟩, hS.F ht⟩) hS.2.2 d_Ro_pressOut_45
  · refine lv_lconst (v := 0) hx hb d_Ro_pressOut_12 (by decide) ?_
    have hF : (va_up f r (roomE ar he ho (m_psm ho sm) (m_pht ho sm ht) sl sa fl)) = (f) := by
      (try simp only [m_psm, m_pht, m_pout, if_neg c_1])
      first | done | exact rfl | exact up_same e_r
    rw [← hF] at hP hD
    exact W.lret hx hb hret (fun t ht hW => ⟨⟨_, (), rfl, (by simp only [m_psm, m_pht, m_pout, if_neg c_1]), by rw [ht]; exact hP, va_K.moved hW.alike hK, hD⟩, hS.F ht⟩) hS.2.2 d_Ro_pressOut_13

set_option maxHeartbeats 4000000 in
set_option maxRecDepth 100000 in
theorem c_Ro_testSprinkler {l : Launch} {D : va_G} {TY : List (ClassId × FieldType)} {L : List Nat} {f : Nat → va_E} {sz : Nat} {r : Nat} {ar : Int32} {he : Int32} {ho : Int64} {sm : Int64} {ht : Int64} {sl : Int32} {sa : Int32} {fl : Int32} (h_r : r ∈ L) (e_r : f r = roomE ar he ho sm ht sl sa fl) : Met l y_Ro_testSprinkler (WS y_Ro_testSprinkler b_Ro_testSprinkler 1 none) { frames := 1, cells := 0, slots := 0, locals := 20 } (va_Pc [.ref r] (WP D TY L f sz)) (Xv D TY L (va_up f r (roomE ar he ho sm ht sl (m_act sm ht sl sa) fl)) (AA L f sz)) 0 0 (AA L f sz) := by
  refine Met.ofW (cc := b_Ro_testSprinkler) (maxL := 1) (ret := none) (by decide) rfl ?_
  intro p e s m args below meth c s₁ B hml hv
  obtain ⟨rfl, hsz, hP, hK, hD0⟩ := hv
  subst hsz
  have hx := B.exec
  have hb := B.bytes
  have hret := B.returns
  have hts := atoms_spec (ws := WS y_Ro_testSprinkler b_Ro_testSprinkler 1 none) B.pre
  have hG : ∀ w ∈ GW, w.before _ s = true := fun w h => hts w (List.mem_cons_of_mem _ h)
  have hown : s.vm.findClass "SmokeZones$Room" = some m.cls := findClass_of_methodNamed B.named
  have hlocks := B.notSynchronized
  have hD : va_D (AA L f s.heap.size) (va_pl L f) := hD0.self (sz := s.heap.size)
  generalize hAe : AA L f s.heap.size = A at hD ⊢
  have hA : ∀ q : Nat, s.heap.size ≤ q → A q := fun q h => by rw [← hAe]; exact Or.inr h
  have hS : va_S A s.heap s.heap [] := va_S.rf
  have hl := lv_entry ([.ref r]) (n := 1) (Nat.le_of_ble_eq_true rfl)
  rw [lg_entry_eq]
  generalize (lg_sl ([.ref r]) ++ List.replicate (1 - (lg_sl ([.ref r])).length) Slot.unset).toArray = ls at hl ⊢
  have hl : lv_has ls 1 [(0, .ref r)] := hl
  refine lv_aload_n hx hb d_Ro_testSprinkler_0 rfl (lv_at hl 0 rfl) ?_
  refine pg_get (C := "SmokeZones$Room") (T := T_Ro) (N := 8) hx hb hG in_Ro hown hK hP h_r e_r rfl 5 (by decide) (hG _ k206) (fun _ h9 => h9) rfl d_Ro_testSprinkler_1 ?_
  refine lv_iconst (v := (-1)) hx hb d_Ro_testSprinkler_4 (by decide) ?_
  refine lv_icmp_eq (tgt := 26) hx hb d_Ro_testSprinkler_5 (by decide) (fun c_1 => ?_) (fun c_1 => ?_)
  · have hF : (va_up f r (roomE ar he ho sm ht sl (m_act sm ht sl sa) fl)) = (f) := by
      (try simp only [m_act, if_pos c_1])
      first | done | exact rfl | exact up_same e_r
    rw [← hF] at hP hD
    exact W.vret hx hb hret (fun t ht hW => ⟨⟨(), rfl, trivial, by rw [ht]; exact hP, va_K.moved hW.alike hK, hD⟩, hS.F ht⟩) hS.2.2 d_Ro_testSprinkler_26
  · refine lv_aload_n hx hb d_Ro_testSprinkler_8 rfl (lv_at hl 0 rfl) ?_
    refine kV_rl ⟨hx, hb, hml, hown, hG⟩ (c_Ro_warmth h_r e_r) (cwV 0 hG (gV k527 k528 k529 k8 k530) rfl rfl rfl hd_Ro_warmth ⟨Nat.le_of_ble_eq_true rfl, Nat.le_of_ble_eq_true rfl⟩) hK hP hS h_r e_r rfl rfl hl.1 rfl (Nat.le_of_ble_eq_true rfl) ⟨Nat.le_of_ble_eq_true rfl, Nat.le_of_ble_eq_true rfl⟩ d_Ro_testSprinkler_9 (fun locs hS => ?_)
    refine lv_aload_n hx hb d_Ro_testSprinkler_12 rfl (lv_at hl 0 rfl) ?_
    refine pg_get (C := "SmokeZones$Room") (T := T_Ro) (N := 8) hx hb hG in_Ro hown hK hP h_r e_r rfl 5 (by decide) (hG _ k206) (fun _ h9 => h9) rfl d_Ro_testSprinkler_13 ?_
    refine lv_i2l hx hb d_Ro_testSprinkler_16 rfl ?_
    refine lc_lt (tgt := 26) hx hb d_Ro_testSprinkler_17 d_Ro_testSprinkler_18 (by decide) (fun c_2 => ?_) (fun c_2 => ?_)
    · have hF : (va_up f r (roomE ar he ho sm ht sl (m_act sm ht sl sa) fl)) = (f) := by
        (try simp only [m_act, if_neg c_1, if_pos c_2])
        first | done | exact rfl | exact up_same e_r
      rw [← hF] at hP hD
      exact W.vret hx hb hret (fun t ht hW => ⟨⟨(), rfl, trivial, by rw [ht]; exact hP, va_K.moved hW.alike hK, hD⟩, hS.F ht⟩) hS.2.2 d_Ro_testSprinkler_26
    · refine lv_aload_n hx hb d_Ro_testSprinkler_21 rfl (lv_at hl 0 rfl) ?_
      refine lv_iconst (v := 1) hx hb d_Ro_testSprinkler_22 (by decide) ?_
      refine pg_put (C := "SmokeZones$Room") (T := T_Ro) (N := 8) (ty := .boolean) hx hb hG in_Ro ty_Ro ok_Ro nm_Ro hown hK hP hD hS h_r e_r rfl 6 (by decide) (hG _ k209) (fun _ h9 => h9) rfl (by decide +kernel) rfl rfl (Nat.le_of_ble_eq_true rfl) d_Ro_testSprinkler_23 (fun H locs hP hD hS => ?_)
      have hP : va_P D vwCl (va_pl L (va_up f r (.inr (0, [.int ar, .int he, .long ho, .long sm, .long ht, .int sl, .int 1, .int fl])))) H := hP
      have hD : va_D A (va_pl L (va_up f r (.inr (0, [.int ar, .int he, .long ho, .long sm, .long ht, .int sl, .int 1, .int fl])))) := hD
      have e_3 : (va_up f r (.inr (0, [.int ar, .int he, .long ho, .long sm, .long ht, .int sl, .int 1, .int fl]))) r = .inr (0, [.int ar, .int he, .long ho, .long sm, .long ht, .int sl, .int 1, .int fl]) := va_up_self _ _ _
      have hF : (va_up f r (roomE ar he ho sm ht sl (m_act sm ht sl sa) fl)) = (va_up f r (.inr (0, [.int ar, .int he, .long ho, .long sm, .long ht, .int sl, .int 1, .int fl]))) := by
        (try simp only [m_act, if_neg c_1, if_neg c_2])
        first | done | exact rfl | exact up_same e_r
      rw [← hF] at hP hD
      exact W.vret hx hb hret (fun t ht hW => ⟨⟨(), rfl, trivial, by rw [ht]; exact hP, va_K.moved hW.alike hK, hD⟩, hS.F ht⟩) hS.2.2 d_Ro_testSprinkler_26

set_option maxHeartbeats 4000000 in
set_option maxRecDepth 100000 in
theorem c_Ro_noteIfLow {l : Launch} {D : va_G} {TY : List (ClassId × FieldType)} {L : List Nat} {f : Nat → va_E} {sz : Nat} {r : Nat} {ar : Int32} {he : Int32} {ho : Int64} {sm : Int64} {ht : Int64} {sl : Int32} {sa : Int32} {fl : Int32} {t0 : Int32} (h_r : r ∈ L) (e_r : f r = roomE ar he ho sm ht sl sa fl) : Met l y_Ro_noteIfLow (WS y_Ro_noteIfLow b_Ro_noteIfLow 2 none) { frames := 3, cells := 0, slots := 0, locals := 60 } (va_Pc [.ref r, .int t0] (WP D TY L f sz)) (Xv D TY L (va_up f r (roomE ar he ho sm ht sl sa (m_fl ar he sm fl t0))) (AA L f sz)) 0 0 (AA L f sz) := by
  refine Met.ofW (cc := b_Ro_noteIfLow) (maxL := 2) (ret := none) (by decide) rfl ?_
  intro p e s m args below meth c s₁ B hml hv
  obtain ⟨rfl, hsz, hP, hK, hD0⟩ := hv
  subst hsz
  have hx := B.exec
  have hb := B.bytes
  have hret := B.returns
  have hts := atoms_spec (ws := WS y_Ro_noteIfLow b_Ro_noteIfLow 2 none) B.pre
  have hG : ∀ w ∈ GW, w.before _ s = true := fun w h => hts w (List.mem_cons_of_mem _ h)
  have hown : s.vm.findClass "SmokeZones$Room" = some m.cls := findClass_of_methodNamed B.named
  have hlocks := B.notSynchronized
  have hD : va_D (AA L f s.heap.size) (va_pl L f) := hD0.self (sz := s.heap.size)
  generalize hAe : AA L f s.heap.size = A at hD ⊢
  have hA : ∀ q : Nat, s.heap.size ≤ q → A q := fun q h => by rw [← hAe]; exact Or.inr h
  have hS : va_S A s.heap s.heap [] := va_S.rf
  have hl := lv_entry ([.ref r, .int t0]) (n := 2) (Nat.le_of_ble_eq_true rfl)
  rw [lg_entry_eq]
  generalize (lg_sl ([.ref r, .int t0]) ++ List.replicate (2 - (lg_sl ([.ref r, .int t0])).length) Slot.unset).toArray = ls at hl ⊢
  have hl : lv_has ls 2 [(0, .ref r), (1, .int t0)] := hl
  refine lv_aload_n hx hb d_Ro_noteIfLow_0 rfl (lv_at hl 0 rfl) ?_
  refine pg_get (C := "SmokeZones$Room") (T := T_Ro) (N := 8) hx hb hG in_Ro hown hK hP h_r e_r rfl 7 (by decide) (hG _ k211) (fun _ h9 => h9) rfl d_Ro_noteIfLow_1 ?_
  refine lv_iconst (v := (-1)) hx hb d_Ro_noteIfLow_4 (by decide) ?_
  refine lv_icmp_ne (tgt := 20) hx hb d_Ro_noteIfLow_5 (by decide) (fun c_1 => ?_) (fun c_1 => ?_)
  · have hF : (va_up f r (roomE ar he ho sm ht sl sa (m_fl ar he sm fl t0))) = (f) := by
      (try simp only [m_fl, if_neg c_1])
      first | done | exact rfl | exact up_same e_r
    rw [← hF] at hP hD
    exact W.vret hx hb hret (fun t ht hW => ⟨⟨(), rfl, trivial, by rw [ht]; exact hP, va_K.moved hW.alike hK, hD⟩, hS.F ht⟩) hS.2.2 d_Ro_noteIfLow_20
  · refine lv_aload_n hx hb d_Ro_noteIfLow_8 rfl (lv_at hl 0 rfl) ?_
    refine kV_ri ⟨hx, hb, hml, hown, hG⟩ (c_Ro_isLow h_r e_r) (cwV 0 hG (gV k571 k558 k559 k8 k560) rfl rfl rfl hd_Ro_isLow ⟨Nat.le_of_ble_eq_true rfl, Nat.le_of_ble_eq_true rfl⟩) hK hP hS h_r e_r rfl rfl hl.1 rfl (Nat.le_of_ble_eq_true rfl) ⟨Nat.le_of_ble_eq_true rfl, Nat.le_of_ble_eq_true rfl⟩ d_Ro_noteIfLow_9 (fun locs hS => ?_)
    refine lv_if_eq (tgt := 20) hx hb d_Ro_noteIfLow_12 (by decide) (fun c_2 => ?_) (fun c_2 => ?_)
    · have hF : (va_up f r (roomE ar he ho sm ht sl sa (m_fl ar he sm fl t0))) = (f) := by
        (try simp only [m_fl, if_pos c_1, if_pos c_2])
        first | done | exact rfl | exact up_same e_r
      rw [← hF] at hP hD
      exact W.vret hx hb hret (fun t ht hW => ⟨⟨(), rfl, trivial, by rw [ht]; exact hP, va_K.moved hW.alike hK, hD⟩, hS.F ht⟩) hS.2.2 d_Ro_noteIfLow_20
    · refine lv_aload_n hx hb d_Ro_noteIfLow_15 rfl (lv_at hl 0 rfl) ?_
      refine lv_iload_n hx hb d_Ro_noteIfLow_16 rfl (lv_at hl 1 rfl) ?_
      refine pg_put (C := "SmokeZones$Room") (T := T_Ro) (N := 8) (ty := .int) hx hb hG in_Ro ty_Ro ok_Ro nm_Ro hown hK hP hD hS h_r e_r rfl 7 (by decide) (hG _ k211) (fun _ h9 => h9) rfl (by decide +kernel) rfl rfl (Nat.le_of_ble_eq_true rfl) d_Ro_noteIfLow_17 (fun H locs hP hD hS => ?_)
      have hP : va_P D vwCl (va_pl L (va_up f r (.inr (0, [.int ar, .int he, .long ho, .long sm, .long ht, .int sl, .int sa, .int t0])))) H := hP
      have hD : va_D A (va_pl L (va_up f r (.inr (0, [.int ar, .int he, .long ho, .long sm, .long ht, .int sl, .int sa, .int t0])))) := hD
      have e_3 : (va_up f r (.inr (0, [.int ar, .int he, .long ho, .long sm, .long ht, .int sl, .int sa, .int t0]))) r = .inr (0, [.int ar, .int he, .long ho, .long sm, .long ht, .int sl, .int sa, .int t0]) := va_up_self _ _ _
      have hF : (va_up f r (roomE ar he ho sm ht sl sa (m_fl ar he sm fl t0))) = (va_up f r (.inr (0, [.int ar, .int he, .long ho, .long sm, .long ht, .int sl, .int sa, .int t0]))) := by
        (try simp only [m_fl, if_pos c_1, if_neg c_2])
        first | done | exact rfl | exact up_same e_r
      rw [← hF] at hP hD
      exact W.vret hx hb hret (fun t ht hW => ⟨⟨(), rfl, trivial, by rw [ht]; exact hP, va_K.moved hW.alike hK, hD⟩, hS.F ht⟩) hS.2.2 d_Ro_noteIfLow_20
