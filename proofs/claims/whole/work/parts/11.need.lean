set_option maxHeartbeats 4000000 in
set_option maxRecDepth 100000 in
theorem c_Sz_needBetween {l : Launch} (hl0 : l.stackTraces = false) {D : va_G} {TY : List (ClassId × FieldType)} {L : List Nat} {f : Nat → va_E} {sa sb : Nat} {H : Heap} {v : Int32} {lo : Int32} {hi : Int32}   : CK l y_Sz_needBetween (WS y_Sz_needBetween b_Sz_needBetween 3 none) { frames := 7, cells := 1, slots := 6, locals := 110 } [.int v, .int lo, .int hi] D TY L f sa sb H (lo ≤ v ∧ v ≤ hi) IAE := by
  refine vx_ofW (cc := b_Sz_needBetween) (maxL := 3) (ret := none) (by decide) rfl ?_
  intro p e s m args below meth c s₁ B hml htab hv
  obtain ⟨rfl, hH, hP, hK, hE⟩ := hv
  subst hH
  have hx := B.exec
  have hb := B.bytes
  have hret := B.returns
  have hts := atoms_spec (ws := WS y_Sz_needBetween b_Sz_needBetween 3 none) B.pre
  have hG : ∀ w ∈ GW, w.before _ s = true := fun w h => hts w (List.mem_cons_of_mem _ h)
  have hown : s.vm.findClass "SmokeZones" = some m.cls := findClass_of_methodNamed B.named
  have hlocks := B.notSynchronized
  have hS : va_S (New s.heap) s.heap s.heap [] := va_S.rf
  have hA : ∀ q : Nat, s.heap.size ≤ q → New s.heap q := fun _ h => h
  have hl := lv_entry ([.int v, .int lo, .int hi]) (n := 3) (Nat.le_of_ble_eq_true rfl)
  rw [lg_entry_eq]
  generalize (lg_sl ([.int v, .int lo, .int hi]) ++ List.replicate (3 - (lg_sl ([.int v, .int lo, .int hi])).length) Slot.unset).toArray = ls at hl ⊢
  have hl : lv_has ls 3 [(0, .int v), (1, .int lo), (2, .int hi)] := hl
  refine lv_iload_n hx hb d_Sz_needBetween_0 rfl (lv_at hl 0 rfl) ?_
  refine lv_iload_n hx hb d_Sz_needBetween_1 rfl (lv_at hl 1 rfl) ?_
  refine lv_icmp_lt (tgt := 14) hx hb d_Sz_needBetween_2 (by decide) (fun c_1 => ?_) (fun c_1 => ?_)
  · refine lv_iconst (v := 0) hx hb d_Sz_needBetween_14 (by decide) ?_
    refine kS_ck ⟨hx, hb, hml, hown, hG⟩ (c_Sz_needArgument hl0 ) (cwS 1 hG (gS k99 k100 k1 k101) rfl rfl rfl hd_Sz_needArgument ⟨Nat.le_of_ble_eq_true rfl, Nat.le_of_ble_eq_true rfl⟩) hK hP hS hA hE rfl hl.1 rfl (Nat.le_of_ble_eq_true rfl) ⟨Nat.le_of_ble_eq_true rfl, Nat.le_of_ble_eq_true rfl⟩ d_Sz_needBetween_15 (fun k_2 ce q9 H1 locs hz hk hS h1 h2 h3 => ?_) (fun k_2 locs hS => ?_)
    · exact vx_out (fun x hx9 => (htab x hx9).elim) hlocks h1 h2 h3 (fun t ht hvm => ⟨(), (fun h => Int32.not_lt.mpr h.1 c_1), rfl, by rw [ht]; exact hz, fun q g1 _ => by rw [ht]; exact hk q g1⟩) hS.2.2 (by decide) (by decide)
    · exact absurd rfl k_2
  · refine lv_iload_n hx hb d_Sz_needBetween_5 rfl (lv_at hl 0 rfl) ?_
    refine lv_iload_n hx hb d_Sz_needBetween_6 rfl (lv_at hl 2 rfl) ?_
    refine lv_icmp_gt (tgt := 14) hx hb d_Sz_needBetween_7 (by decide) (fun c_3 => ?_) (fun c_3 => ?_)
    · refine lv_iconst (v := 0) hx hb d_Sz_needBetween_14 (by decide) ?_
      refine kS_ck ⟨hx, hb, hml, hown, hG⟩ (c_Sz_needArgument hl0 ) (cwS 1 hG (gS k99 k100 k1 k101) rfl rfl rfl hd_Sz_needArgument ⟨Nat.le_of_ble_eq_true rfl, Nat.le_of_ble_eq_true rfl⟩) hK hP hS hA hE rfl hl.1 rfl (Nat.le_of_ble_eq_true rfl) ⟨Nat.le_of_ble_eq_true rfl, Nat.le_of_ble_eq_true rfl⟩ d_Sz_needBetween_15 (fun k_4 ce q9 H1 locs hz hk hS h1 h2 h3 => ?_) (fun k_4 locs hS => ?_)
      · exact vx_out (fun x hx9 => (htab x hx9).elim) hlocks h1 h2 h3 (fun t ht hvm => ⟨(), (fun h => Int32.not_lt.mpr h.2 c_3), rfl, by rw [ht]; exact hz, fun q g1 _ => by rw [ht]; exact hk q g1⟩) hS.2.2 (by decide) (by decide)
      · exact absurd rfl k_4
    · refine lv_iconst (v := 1) hx hb d_Sz_needBetween_10 (by decide) ?_
      refine lv_goto (tgt := 15) hx hb d_Sz_needBetween_11 (by decide) ?_
      refine kS_ck ⟨hx, hb, hml, hown, hG⟩ (c_Sz_needArgument hl0 ) (cwS 1 hG (gS k99 k100 k1 k101) rfl rfl rfl hd_Sz_needArgument ⟨Nat.le_of_ble_eq_true rfl, Nat.le_of_ble_eq_true rfl⟩) hK hP hS hA hE rfl hl.1 rfl (Nat.le_of_ble_eq_true rfl) ⟨Nat.le_of_ble_eq_true rfl, Nat.le_of_ble_eq_true rfl⟩ d_Sz_needBetween_15 (fun k_5 ce q9 H1 locs hz hk hS h1 h2 h3 => ?_) (fun k_5 locs hS => ?_)
      · exact absurd (by decide) k_5
      · refine W.widen (k := 1) (n := 6) (by decide) (by decide) ?_
        exact vx_ret (W.vret hx hb hret (fun t ht hW => ⟨⟨(), rfl, ⟨Int32.not_lt.mp c_1, Int32.not_lt.mp c_3⟩, ht⟩, ⟨by rw [ht]; exact Nat.le_refl _, fun q h1 h2 => by rw [ht]⟩⟩) hS.2.2 d_Sz_needBetween_18)

set_option maxHeartbeats 4000000 in
set_option maxRecDepth 100000 in
theorem c_Sz_needNumber {l : Launch} (hl0 : l.stackTraces = false) {D : va_G} {TY : List (ClassId × FieldType)} {L : List Nat} {f : Nat → va_E} {sa sb : Nat} {H : Heap} {v : Int32} {cn : Int32}   : CK l y_Sz_needNumber (WS y_Sz_needNumber b_Sz_needNumber 2 none) { frames := 7, cells := 1, slots := 6, locals := 110 } [.int v, .int cn] D TY L f sa sb H (0 ≤ v ∧ v < cn) IAE := by
  refine vx_ofW (cc := b_Sz_needNumber) (maxL := 2) (ret := none) (by decide) rfl ?_
  intro p e s m args below meth c s₁ B hml htab hv
  obtain ⟨rfl, hH, hP, hK, hE⟩ := hv
  subst hH
  have hx := B.exec
  have hb := B.bytes
  have hret := B.returns
  have hts := atoms_spec (ws := WS y_Sz_needNumber b_Sz_needNumber 2 none) B.pre
  have hG : ∀ w ∈ GW, w.before _ s = true := fun w h => hts w (List.mem_cons_of_mem _ h)
  have hown : s.vm.findClass "SmokeZones" = some m.cls := findClass_of_methodNamed B.named
  have hlocks := B.notSynchronized
  have hS : va_S (New s.heap) s.heap s.heap [] := va_S.rf
  have hA : ∀ q : Nat, s.heap.size ≤ q → New s.heap q := fun _ h => h
  have hl := lv_entry ([.int v, .int cn]) (n := 2) (Nat.le_of_ble_eq_true rfl)
  rw [lg_entry_eq]
  generalize (lg_sl ([.int v, .int cn]) ++ List.replicate (2 - (lg_sl ([.int v, .int cn])).length) Slot.unset).toArray = ls at hl ⊢
  have hl : lv_has ls 2 [(0, .int v), (1, .int cn)] := hl
  refine lv_iload_n hx hb d_Sz_needNumber_0 rfl (lv_at hl 0 rfl) ?_
  refine lv_if_lt (tgt := 13) hx hb d_Sz_needNumber_1 (by decide) (fun c_1 => ?_) (fun c_1 => ?_)
  · refine lv_iconst (v := 0) hx hb d_Sz_needNumber_13 (by decide) ?_
    refine kS_ck ⟨hx, hb, hml, hown, hG⟩ (c_Sz_needArgument hl0 ) (cwS 1 hG (gS k99 k100 k1 k101) rfl rfl rfl hd_Sz_needArgument ⟨Nat.le_of_ble_eq_true rfl, Nat.le_of_ble_eq_true rfl⟩) hK hP hS hA hE rfl hl.1 rfl (Nat.le_of_ble_eq_true rfl) ⟨Nat.le_of_ble_eq_true rfl, Nat.le_of_ble_eq_true rfl⟩ d_Sz_needNumber_14 (fun k_2 ce q9 H1 locs hz hk hS h1 h2 h3 => ?_) (fun k_2 locs hS => ?_)
    · exact vx_out (fun x hx9 => (htab x hx9).elim) hlocks h1 h2 h3 (fun t ht hvm => ⟨(), (fun h => Int32.not_lt.mpr h.1 c_1), rfl, by rw [ht]; exact hz, fun q g1 _ => by rw [ht]; exact hk q g1⟩) hS.2.2 (by decide) (by decide)
    · exact absurd rfl k_2
  · refine lv_iload_n hx hb d_Sz_needNumber_4 rfl (lv_at hl 0 rfl) ?_
    refine lv_iload_n hx hb d_Sz_needNumber_5 rfl (lv_at hl 1 rfl) ?_
    refine lv_icmp_ge (tgt := 13) hx hb d_Sz_needNumber_6 (by decide) (fun c_3 => ?_) (fun c_3 => ?_)
    · refine lv_iconst (v := 0) hx hb d_Sz_needNumber_13 (by decide) ?_
      refine kS_ck ⟨hx, hb, hml, hown, hG⟩ (c_Sz_needArgument hl0 ) (cwS 1 hG (gS k99 k100 k1 k101) rfl rfl rfl hd_Sz_needArgument ⟨Nat.le_of_ble_eq_true rfl, Nat.le_of_ble_eq_true rfl⟩) hK hP hS hA hE rfl hl.1 rfl (Nat.le_of_ble_eq_true rfl) ⟨Nat.le_of_ble_eq_true rfl, Nat.le_of_ble_eq_true rfl⟩ d_Sz_needNumber_14 (fun k_4 ce q9 H1 locs hz hk hS h1 h2 h3 => ?_) (fun k_4 locs hS => ?_)
      · exact vx_out (fun x hx9 => (htab x hx9).elim) hlocks h1 h2 h3 (fun t ht hvm => ⟨(), (fun h => Int32.not_lt.mpr c_3 h.2), rfl, by rw [ht]; exact hz, fun q g1 _ => by rw [ht]; exact hk q g1⟩) hS.2.2 (by decide) (by decide)
      · exact absurd rfl k_4
    · refine lv_iconst (v := 1) hx hb d_Sz_needNumber_9 (by decide) ?_
      refine lv_goto (tgt := 14) hx hb d_Sz_needNumber_10 (by decide) ?_
      refine kS_ck ⟨hx, hb, hml, hown, hG⟩ (c_Sz_needArgument hl0 ) (cwS 1 hG (gS k99 k100 k1 k101) rfl rfl rfl hd_Sz_needArgument ⟨Nat.le_of_ble_eq_true rfl, Nat.le_of_ble_eq_true rfl⟩) hK hP hS hA hE rfl hl.1 rfl (Nat.le_of_ble_eq_true rfl) ⟨Nat.le_of_ble_eq_true rfl, Nat.le_of_ble_eq_true rfl⟩ d_Sz_needNumber_14 (fun k_5 ce q9 H1 locs hz hk hS h1 h2 h3 => ?_) (fun k_5 locs hS => ?_)
      · exact absurd (by decide) k_5
      · refine W.widen (k := 1) (n := 6) (by decide) (by decide) ?_
        exact vx_ret (W.vret hx hb hret (fun t ht hW => ⟨⟨(), rfl, ⟨Int32.not_lt.mp c_1, Int32.not_le.mp c_3⟩, ht⟩, ⟨by rw [ht]; exact Nat.le_refl _, fun q h1 h2 => by rw [ht]⟩⟩) hS.2.2 d_Sz_needNumber_17)

set_option maxHeartbeats 4000000 in
set_option maxRecDepth 100000 in
theorem c_Sz_needSpace {l : Launch} (hl0 : l.stackTraces = false) {D : va_G} {TY : List (ClassId × FieldType)} {L : List Nat} {f : Nat → va_E} {sa sb : Nat} {H : Heap} {cn : Int32} {mo : Int32}   : CK l y_Sz_needSpace (WS y_Sz_needSpace b_Sz_needSpace 2 none) { frames := 7, cells := 1, slots := 6, locals := 110 } [.int cn, .int mo] D TY L f sa sb H (cn < mo) ISE := by
  refine vx_ofW (cc := b_Sz_needSpace) (maxL := 2) (ret := none) (by decide) rfl ?_
  intro p e s m args below meth c s₁ B hml htab hv
  obtain ⟨rfl, hH, hP, hK, hE⟩ := hv
  subst hH
  have hx := B.exec
  have hb := B.bytes
  have hret := B.returns
  have hts := atoms_spec (ws := WS y_Sz_needSpace b_Sz_needSpace 2 none) B.pre
  have hG : ∀ w ∈ GW, w.before _ s = true := fun w h => hts w (List.mem_cons_of_mem _ h)
  have hown : s.vm.findClass "SmokeZones" = some m.cls := findClass_of_methodNamed B.named
  have hlocks := B.notSynchronized
  have hS : va_S (New s.heap) s.heap s.heap [] := va_S.rf
  have hA : ∀ q : Nat, s.heap.size ≤ q → New s.heap q := fun _ h => h
  have hl := lv_entry ([.int cn, .int mo]) (n := 2) (Nat.le_of_ble_eq_true rfl)
  rw [lg_entry_eq]
  generalize (lg_sl ([.int cn, .int mo]) ++ List.replicate (2 - (lg_sl ([.int cn, .int mo])).length) Slot.unset).toArray = ls at hl ⊢
  have hl : lv_has ls 2 [(0, .int cn), (1, .int mo)] := hl
  refine lv_iload_n hx hb d_Sz_needSpace_0 rfl (lv_at hl 0 rfl) ?_
  refine lv_iload_n hx hb d_Sz_needSpace_1 rfl (lv_at hl 1 rfl) ?_
  refine lv_icmp_ge (tgt := 9) hx hb d_Sz_needSpace_2 (by decide) (fun c_1 => ?_) (fun c_1 => ?_)
  · refine lv_iconst (v := 0) hx hb d_Sz_needSpace_9 (by decide) ?_
    refine kS_ck ⟨hx, hb, hml, hown, hG⟩ (c_Sz_needState hl0 ) (cwS 1 hG (gS k172 k173 k1 k174) rfl rfl rfl hd_Sz_needState ⟨Nat.le_of_ble_eq_true rfl, Nat.le_of_ble_eq_true rfl⟩) hK hP hS hA hE rfl hl.1 rfl (Nat.le_of_ble_eq_true rfl) ⟨Nat.le_of_ble_eq_true rfl, Nat.le_of_ble_eq_true rfl⟩ d_Sz_needSpace_10 (fun k_2 ce q9 H1 locs hz hk hS h1 h2 h3 => ?_) (fun k_2 locs hS => ?_)
    · exact vx_out (fun x hx9 => (htab x hx9).elim) hlocks h1 h2 h3 (fun t ht hvm => ⟨(), (fun h => Int32.not_lt.mpr c_1 h), rfl, by rw [ht]; exact hz, fun q g1 _ => by rw [ht]; exact hk q g1⟩) hS.2.2 (by decide) (by decide)
    · exact absurd rfl k_2
  · refine lv_iconst (v := 1) hx hb d_Sz_needSpace_5 (by decide) ?_
    refine lv_goto (tgt := 10) hx hb d_Sz_needSpace_6 (by decide) ?_
    refine kS_ck ⟨hx, hb, hml, hown, hG⟩ (c_Sz_needState hl0 ) (cwS 1 hG (gS k172 k173 k1 k174) rfl rfl rfl hd_Sz_needState ⟨Nat.le_of_ble_eq_true rfl, Nat.le_of_ble_eq_true rfl⟩) hK hP hS hA hE rfl hl.1 rfl (Nat.le_of_ble_eq_true rfl) ⟨Nat.le_of_ble_eq_true rfl, Nat.le_of_ble_eq_true rfl⟩ d_Sz_needSpace_10 (fun k_3 ce q9 H1 locs hz hk hS h1 h2 h3 => ?_) (fun k_3 locs hS => ?_)
    · exact absurd (by decide) k_3
    · refine W.widen (k := 1) (n := 6) (by decide) (by decide) ?_
      exact vx_ret (W.vret hx hb hret (fun t ht hW => ⟨⟨(), rfl, (Int32.not_le.mp c_1), ht⟩, ⟨by rw [ht]; exact Nat.le_refl _, fun q h1 h2 => by rw [ht]⟩⟩) hS.2.2 d_Sz_needSpace_13)

abbrev mainE (AD : Nat → Nat → Nat) (n : Nat → Nat) (I : Nat → Nat → Int32) (J : Nat → Nat → Int64) : va_E := .inr (6, [.ref (AD 8 0), .ref (AD 8 1), .ref (AD 8 2), .ref (AD 8 3), .ref (AD 8 4), .ref (AD 8 5), .int (nI (n 0)), .int (nI (n 1)), .int (nI (n 2)), .int (nI (n 3)), .int (nI (n 4)), .int (nI (n 5)), .int (I 99 0), .long (J 99 0), .long (J 99 1), .long (J 99 2), .long (J 99 3)])
def m_isR (n0 : Nat) (p : Int32) : Int32 := if p < 0 then 0 else if nI n0 ≤ p then 0 else 1

set_option maxHeartbeats 4000000 in
set_option maxRecDepth 100000 in
theorem c_Sz_isRoom {l : Launch} {D : va_G} {TY : List (ClassId × FieldType)} {L : List Nat} {f : Nat → va_E} {H : Heap} {AD : Nat → Nat → Nat} {n : Nat → Nat} {I : Nat → Nat → Int32} {J : Nat → Nat → Int64} {h0 : Nat} {p0 : Int32} (h_h0 : h0 ∈ L) (e_h0 : f h0 = mainE AD n I J) : Met l y_Sz_isRoom (WS y_Sz_isRoom b_Sz_isRoom 2 (some .boolean)) { frames := 0, cells := 0, slots := 0, locals := 0 } (va_Pc [.ref h0, .int p0] (RP D TY L f H)) (Qi (m_isR (n 0) p0) H) 0 0 No := by
  refine Met.ofW (cc := b_Sz_isRoom) (maxL := 2) (ret := (some .boolean)) (by decide) rfl ?_
  intro p e s m args below meth c s₁ B hml hv
  obtain ⟨rfl, hH, hP, hK⟩ := hv
  subst hH
  have hx := B.exec
  have hb := B.bytes
  have hret := B.returns
  have hts := atoms_spec (ws := WS y_Sz_isRoom b_Sz_isRoom 2 (some .boolean)) B.pre
  have hG : ∀ w ∈ GW, w.before _ s = true := fun w h => hts w (List.mem_cons_of_mem _ h)
  have hown : s.vm.findClass "SmokeZones" = some m.cls := findClass_of_methodNamed B.named
  have hlocks := B.notSynchronized
  have hS : va_S No s.heap s.heap [] := va_S.rf
  have hl := lv_entry ([.ref h0, .int p0]) (n := 2) (Nat.le_of_ble_eq_true rfl)
  rw [lg_entry_eq]
  generalize (lg_sl ([.ref h0, .int p0]) ++ List.replicate (2 - (lg_sl ([.ref h0, .int p0])).length) Slot.unset).toArray = ls at hl ⊢
  have hl : lv_has ls 2 [(0, .ref h0), (1, .int p0)] := hl
  refine lv_iload_n hx hb d_Sz_isRoom_0 rfl (lv_at hl 1 rfl) ?_
  refine lv_if_lt (tgt := 16) hx hb d_Sz_isRoom_1 (by decide) (fun c_1 => ?_) (fun c_1 => ?_)
  · refine lv_iconst (v := 0) hx hb d_Sz_isRoom_16 (by decide) ?_
    exact W.zret hx hb hret rfl (fun t ht hW => ⟨⟨_, (), rfl, (by simp only [m_isR, if_pos c_1]), ht⟩, hS.F ht⟩) hS.2.2 d_Sz_isRoom_17
  · refine lv_iload_n hx hb d_Sz_isRoom_4 rfl (lv_at hl 1 rfl) ?_
    refine lv_aload_n hx hb d_Sz_isRoom_5 rfl (lv_at hl 0 rfl) ?_
    refine pg_get (C := "SmokeZones") (T := T_Sz) (N := 17) hx hb hG in_Sz hown hK hP h_h0 e_h0 rfl 6 (by decide) (hG _ k41) (fun _ h9 => h9) rfl d_Sz_isRoom_6 ?_
    refine lv_icmp_ge (tgt := 16) hx hb d_Sz_isRoom_9 (by decide) (fun c_2 => ?_) (fun c_2 => ?_)
    · refine lv_iconst (v := 0) hx hb d_Sz_isRoom_16 (by decide) ?_
      exact W.zret hx hb hret rfl (fun t ht hW => ⟨⟨_, (), rfl, (by simp only [m_isR, if_neg c_1, if_pos c_2]), ht⟩, hS.F ht⟩) hS.2.2 d_Sz_isRoom_17
    · refine lv_iconst (v := 1) hx hb d_Sz_isRoom_12 (by decide) ?_
      refine lv_goto (tgt := 17) hx hb d_Sz_isRoom_13 (by decide) ?_
      exact W.zret hx hb hret rfl (fun t ht hW => ⟨⟨_, (), rfl, (by simp only [m_isR, if_neg c_1, if_neg c_2]), ht⟩, hS.F ht⟩) hS.2.2 d_Sz_isRoom_17

set_option maxHeartbeats 4000000 in
set_option maxRecDepth 100000 in
theorem c_Sz_needPlace {l : Launch} (hl0 : l.stackTraces = false) {D : va_G} {TY : List (ClassId × FieldType)} {L : List Nat} {f : Nat → va_E} {sa sb : Nat} {H : Heap} {AD : Nat → Nat → Nat} {n : Nat → Nat} {I : Nat → Nat → Int32} {J : Nat → Nat → Int64} {h0 : Nat} {p0 : Int32} (h_h0 : h0 ∈ L) (e_h0 : f h0 = .inr (6, [.ref (AD 8 0), .ref (AD 8 1), .ref (AD 8 2), .ref (AD 8 3), .ref (AD 8 4), .ref (AD 8 5), .int (nI (n 0)), .int (nI (n 1)), .int (nI (n 2)), .int (nI (n 3)), .int (nI (n 4)), .int (nI (n 5)), .int (I 99 0), .long (J 99 0), .long (J 99 1), .long (J 99 2), .long (J 99 3)]))  : CK l y_Sz_needPlace (WS y_Sz_needPlace b_Sz_needPlace 2 none) { frames := 7, cells := 1, slots := 6, locals := 110 } [.ref h0, .int p0] D TY L f sa sb H (p0 = (-1) ∨ ¬ m_isR (n 0) p0 = 0) IAE := by
  refine vx_ofW (cc := b_Sz_needPlace) (maxL := 2) (ret := none) (by decide) rfl ?_
  intro p e s m args below meth c s₁ B hml htab hv
  obtain ⟨rfl, hH, hP, hK, hE⟩ := hv
  subst hH
  have hx := B.exec
  have hb := B.bytes
  have hret := B.returns
  have hts := atoms_spec (ws := WS y_Sz_needPlace b_Sz_needPlace 2 none) B.pre
  have hG : ∀ w ∈ GW, w.before _ s = true := fun w h => hts w (List.mem_cons_of_mem _ h)
  have hown : s.vm.findClass "SmokeZones" = some m.cls := findClass_of_methodNamed B.named
  have hlocks := B.notSynchronized
  have hS : va_S (New s.heap) s.heap s.heap [] := va_S.rf
  have hA : ∀ q : Nat, s.heap.size ≤ q → New s.heap q := fun _ h => h
  have hl := lv_entry ([.ref h0, .int p0]) (n := 2) (Nat.le_of_ble_eq_true rfl)
  rw [lg_entry_eq]
  generalize (lg_sl ([.ref h0, .int p0]) ++ List.replicate (2 - (lg_sl ([.ref h0, .int p0])).length) Slot.unset).toArray = ls at hl ⊢
  have hl : lv_has ls 2 [(0, .ref h0), (1, .int p0)] := hl
  refine lv_iload_n hx hb d_Sz_needPlace_0 rfl (lv_at hl 1 rfl) ?_
  refine lv_iconst (v := (-1)) hx hb d_Sz_needPlace_1 (by decide) ?_
  refine lv_icmp_eq (tgt := 13) hx hb d_Sz_needPlace_2 (by decide) (fun c_1 => ?_) (fun c_1 => ?_)
  · refine lv_iconst (v := 1) hx hb d_Sz_needPlace_13 (by decide) ?_
    refine lv_goto (tgt := 18) hx hb d_Sz_needPlace_14 (by decide) ?_
    refine kS_ck ⟨hx, hb, hml, hown, hG⟩ (c_Sz_needArgument hl0 ) (cwS 1 hG (gS k99 k100 k1 k101) rfl rfl rfl hd_Sz_needArgument ⟨Nat.le_of_ble_eq_true rfl, Nat.le_of_ble_eq_true rfl⟩) hK hP hS hA hE rfl hl.1 rfl (Nat.le_of_ble_eq_true rfl) ⟨Nat.le_of_ble_eq_true rfl, Nat.le_of_ble_eq_true rfl⟩ d_Sz_needPlace_18 (fun k_2 ce q9 H1 locs hz hk hS h1 h2 h3 => ?_) (fun k_2 locs hS => ?_)
    · exact absurd (by decide) k_2
    · refine W.widen (k := 1) (n := 6) (by decide) (by decide) ?_
      exact vx_ret (W.vret hx hb hret (fun t ht hW => ⟨⟨(), rfl, (Or.inl c_1), ht⟩, ⟨by rw [ht]; exact Nat.le_refl _, fun q h1 h2 => by rw [ht]⟩⟩) hS.2.2 d_Sz_needPlace_21)
  · refine lv_aload_n hx hb d_Sz_needPlace_5 rfl (lv_at hl 0 rfl) ?_
    refine lv_iload_n hx hb d_Sz_needPlace_6 rfl (lv_at hl 1 rfl) ?_
    refine kV_ri ⟨hx, hb, hml, hown, hG⟩ (c_Sz_isRoom h_h0 e_h0) (cwV 1 hG (gV k244 k246 ks_Sz_isRoom k1 k247) rfl rfl rfl hd_Sz_isRoom ⟨Nat.le_of_ble_eq_true rfl, Nat.le_of_ble_eq_true rfl⟩) hK hP hS h_h0 e_h0 rfl rfl hl.1 rfl (Nat.le_of_ble_eq_true rfl) ⟨Nat.le_of_ble_eq_true rfl, Nat.le_of_ble_eq_true rfl⟩ d_Sz_needPlace_7 (fun locs hS => ?_)
    refine lv_if_eq (tgt := 17) hx hb d_Sz_needPlace_10 (by decide) (fun c_3 => ?_) (fun c_3 => ?_)
    · refine lv_iconst (v := 0) hx hb d_Sz_needPlace_17 (by decide) ?_
      refine kS_ck ⟨hx, hb, hml, hown, hG⟩ (c_Sz_needArgument hl0 ) (cwS 1 hG (gS k99 k100 k1 k101) rfl rfl rfl hd_Sz_needArgument ⟨Nat.le_of_ble_eq_true rfl, Nat.le_of_ble_eq_true rfl⟩) hK hP hS hA hE rfl hl.1 rfl (Nat.le_of_ble_eq_true rfl) ⟨Nat.le_of_ble_eq_true rfl, Nat.le_of_ble_eq_true rfl⟩ d_Sz_needPlace_18 (fun k_4 ce q9 H1 locs hz hk hS h1 h2 h3 => ?_) (fun k_4 locs hS => ?_)
      · exact vx_out (fun x hx9 => (htab x hx9).elim) hlocks h1 h2 h3 (fun t ht hvm => ⟨(), (fun h => h.elim c_1 (fun g => g c_3)), rfl, by rw [ht]; exact hz, fun q g1 _ => by rw [ht]; exact hk q g1⟩) hS.2.2 (by decide) (by decide)
      · exact absurd rfl k_4
    · refine lv_iconst (v := 1) hx hb d_Sz_needPlace_13 (by decide) ?_
      refine lv_goto (tgt := 18) hx hb d_Sz_needPlace_14 (by decide) ?_
      refine kS_ck ⟨hx, hb, hml, hown, hG⟩ (c_Sz_needArgument hl0 ) (cwS 1 hG (gS k99 k100 k1 k101) rfl rfl rfl hd_Sz_needArgument ⟨Nat.le_of_ble_eq_true rfl, Nat.le_of_ble_eq_true rfl⟩) hK hP hS hA hE rfl hl.1 rfl (Nat.le_of_ble_eq_true rfl) ⟨Nat.le_of_ble_eq_true rfl, Nat.le_of_ble_eq_true rfl⟩ d_Sz_needPlace_18 (fun k_5 ce q9 H1 locs hz hk hS h1 h2 h3 => ?_) (fun k_5 locs hS => ?_)
      · exact absurd (by decide) k_5
      · refine W.widen (k := 1) (n := 6) (by decide) (by decide) ?_
        exact vx_ret (W.vret hx hb hret (fun t ht hW => ⟨⟨(), rfl, (Or.inr c_3), ht⟩, ⟨by rw [ht]; exact Nat.le_refl _, fun q h1 h2 => by rw [ht]⟩⟩) hS.2.2 d_Sz_needPlace_21)
