theorem lt3 {j : Nat} (h : j < 3) : j = 0 ∨ j = 1 ∨ j = 2 := by omega
theorem lt5 {j : Nat} (h : j < 5) : j = 0 ∨ j = 1 ∨ j = 2 ∨ j = 3 ∨ j = 4 := by omega
theorem lt8 {j : Nat} (h : j < 8) : j = 0 ∨ j = 1 ∨ j = 2 ∨ j = 3 ∨ j = 4 ∨ j = 5 ∨ j = 6 ∨ j = 7 := by omega
theorem lt10 {j : Nat} (h : j < 10) : j = 0 ∨ j = 1 ∨ j = 2 ∨ j = 3 ∨ j = 4 ∨ j = 5 ∨ j = 6 ∨ j = 7 ∨ j = 8 ∨ j = 9 := by omega
set_option maxHeartbeats 4000000 in
set_option maxRecDepth 100000 in
theorem c_Op_init_n {l : Launch} {D : va_G} {TY : List (ClassId × FieldType)} {L : List Nat} {f : Nat → va_E} {sz : Nat} {q : Nat} {r : Nat} {p2 : Int32} {p3 : Int32} {p4 : Int32} (h_q : q ∈ L) (e_q : f q = .inr (1, [.null, .null, .int 0, .int 0, .int 0, .int 0, .int 0, .long 0, .long 0, .long 0])) : Met l y_Op_init (WS y_Op_init b_Op_init 6 none) { frames := 1, cells := 0, slots := 0, locals := 12 } (va_Pc [.ref q, .ref r, .null, .int p2, .int p3, .int p4] (WP D TY L f sz)) (Xv D TY L (va_up f q (openE r .null p2 p3 p4 (-1) 0 0 0 0)) (AA L f sz)) 0 0 (AA L f sz) := by
  refine Met.ofW (cc := b_Op_init) (maxL := 6) (ret := none) (by decide) rfl ?_
  intro p e s m args below meth c s₁ B hml hv
  obtain ⟨rfl, hsz, hP, hK, hD0⟩ := hv
  subst hsz
  have hx := B.exec
  have hb := B.bytes
  have hret := B.returns
  have hts := atoms_spec (ws := WS y_Op_init b_Op_init 6 none) B.pre
  have hG : ∀ w ∈ GW, w.before _ s = true := fun w h => hts w (List.mem_cons_of_mem _ h)
  have hown : s.vm.findClass "SmokeZones$Opening" = some m.cls := findClass_of_methodNamed B.named
  have hlocks := B.notSynchronized
  have hin : meth.name = "<init>" := (name_of_methodNamed B.named B.method).1
  have hD : va_D (AA L f s.heap.size) (va_pl L f) := hD0.self (sz := s.heap.size)
  generalize hAe : AA L f s.heap.size = A at hD ⊢
  have hA : ∀ q : Nat, s.heap.size ≤ q → A q := fun q h => by rw [← hAe]; exact Or.inr h
  have hS : va_S A s.heap s.heap [] := va_S.rf
  have hl := lv_entry ([.ref q, .ref r, .null, .int p2, .int p3, .int p4]) (n := 6) (Nat.le_of_ble_eq_true rfl)
  rw [lg_entry_eq]
  generalize (lg_sl ([.ref q, .ref r, .null, .int p2, .int p3, .int p4]) ++ List.replicate (6 - (lg_sl ([.ref q, .ref r, .null, .int p2, .int p3, .int p4])).length) Slot.unset).toArray = ls at hl ⊢
  have hl : lv_has ls 6 [(0, .ref q), (1, .ref r), (2, .null), (3, .int p2), (4, .int p3), (5, .int p4)] := hl
  refine lv_aload_n hx hb d_Op_init_0 rfl (lv_at hl 0 rfl) ?_
  refine pg_objInit hx hb hown (hml.trans hl.1.symm) (hG _ k252) (hG _ k21) (hG _ ko_c) (Nat.le_of_ble_eq_true rfl) (Nat.le_of_ble_eq_true rfl) d_Op_init_1 ?_
  refine lv_aload_n hx hb d_Op_init_4 rfl (lv_at hl 0 rfl) ?_
  refine lv_aload_n hx hb d_Op_init_5 rfl (lv_at hl 1 rfl) ?_
  refine pg_putF (C := "SmokeZones$Opening") (T := T_Op) (N := 10) (ty := (.object "SmokeZones$Room")) hx hb hG in_Op ty_Op ok_Op nm_Op hown hK hP hD hS h_q e_q rfl 0 (by decide) (hG _ k253) (fun _ h9 => h9) rfl hin rfl (by decide +kernel) rfl rfl (Nat.le_of_ble_eq_true rfl) d_Op_init_6 (fun H locs hP hD hS => ?_)
  have hP : va_P D vwCl (va_pl (L) (va_up f q (.inr (1, [.ref r, .null, .int 0, .int 0, .int 0, .int 0, .int 0, .long 0, .long 0, .long 0])))) H := hP
  have hD : va_D A (va_pl (L) (va_up f q (.inr (1, [.ref r, .null, .int 0, .int 0, .int 0, .int 0, .int 0, .long 0, .long 0, .long 0])))) := hD
  have e_1 : (va_up f q (.inr (1, [.ref r, .null, .int 0, .int 0, .int 0, .int 0, .int 0, .long 0, .long 0, .long 0]))) q = .inr (1, [.ref r, .null, .int 0, .int 0, .int 0, .int 0, .int 0, .long 0, .long 0, .long 0]) := va_up_self _ _ _
  refine lv_aload_n hx hb d_Op_init_9 rfl (lv_at hl 0 rfl) ?_
  refine lv_aload_nN hx hb d_Op_init_10 rfl (lv_at hl 2 rfl) ?_
  refine pg_putF (C := "SmokeZones$Opening") (T := T_Op) (N := 10) (ty := (.object "SmokeZones$Room")) hx hb hG in_Op ty_Op ok_Op nm_Op hown hK hP hD hS h_q e_1 rfl 1 (by decide) (hG _ k254) (fun _ h9 => h9) rfl hin rfl (by decide +kernel) rfl rfl (Nat.le_of_ble_eq_true rfl) d_Op_init_11 (fun H locs hP hD hS => ?_)
  rw [bx_uu] at hP hD
  have hP : va_P D vwCl (va_pl (L) (va_up f q (.inr (1, [.ref r, .null, .int 0, .int 0, .int 0, .int 0, .int 0, .long 0, .long 0, .long 0])))) H := hP
  have hD : va_D A (va_pl (L) (va_up f q (.inr (1, [.ref r, .null, .int 0, .int 0, .int 0, .int 0, .int 0, .long 0, .long 0, .long 0])))) := hD
  have e_2 : (va_up f q (.inr (1, [.ref r, .null, .int 0, .int 0, .int 0, .int 0, .int 0, .long 0, .long 0, .long 0]))) q = .inr (1, [.ref r, .null, .int 0, .int 0, .int 0, .int 0, .int 0, .long 0, .long 0, .long 0]) := va_up_self _ _ _
  refine lv_aload_n hx hb d_Op_init_14 rfl (lv_at hl 0 rfl) ?_
  refine lv_iload_n hx hb d_Op_init_15 rfl (lv_at hl 3 rfl) ?_
  refine pg_putF (C := "SmokeZones$Opening") (T := T_Op) (N := 10) (ty := .int) hx hb hG in_Op ty_Op ok_Op nm_Op hown hK hP hD hS h_q e_2 rfl 2 (by decide) (hG _ k255) (fun _ h9 => h9) rfl hin rfl (by decide +kernel) rfl rfl (Nat.le_of_ble_eq_true rfl) d_Op_init_16 (fun H locs hP hD hS => ?_)
  rw [bx_uu] at hP hD
  have hP : va_P D vwCl (va_pl (L) (va_up f q (.inr (1, [.ref r, .null, .int p2, .int 0, .int 0, .int 0, .int 0, .long 0, .long 0, .long 0])))) H := hP
  have hD : va_D A (va_pl (L) (va_up f q (.inr (1, [.ref r, .null, .int p2, .int 0, .int 0, .int 0, .int 0, .long 0, .long 0, .long 0])))) := hD
  have e_3 : (va_up f q (.inr (1, [.ref r, .null, .int p2, .int 0, .int 0, .int 0, .int 0, .long 0, .long 0, .long 0]))) q = .inr (1, [.ref r, .null, .int p2, .int 0, .int 0, .int 0, .int 0, .long 0, .long 0, .long 0]) := va_up_self _ _ _
  refine lv_aload_n hx hb d_Op_init_19 rfl (lv_at hl 0 rfl) ?_
  refine lv_iload hx hb d_Op_init_20 (lv_at hl 4 rfl) ?_
  refine pg_putF (C := "SmokeZones$Opening") (T := T_Op) (N := 10) (ty := .int) hx hb hG in_Op ty_Op ok_Op nm_Op hown hK hP hD hS h_q e_3 rfl 3 (by decide) (hG _ k256) (fun _ h9 => h9) rfl hin rfl (by decide +kernel) rfl rfl (Nat.le_of_ble_eq_true rfl) d_Op_init_22 (fun H locs hP hD hS => ?_)
  rw [bx_uu] at hP hD
  have hP : va_P D vwCl (va_pl (L) (va_up f q (.inr (1, [.ref r, .null, .int p2, .int p3, .int 0, .int 0, .int 0, .long 0, .long 0, .long 0])))) H := hP
  have hD : va_D A (va_pl (L) (va_up f q (.inr (1, [.ref r, .null, .int p2, .int p3, .int 0, .int 0, .int 0, .long 0, .long 0, .long 0])))) := hD
  have e_4 : (va_up f q (.inr (1, [.ref r, .null, .int p2, .int p3, .int 0, .int 0, .int 0, .long 0, .long 0, .long 0]))) q = .inr (1, [.ref r, .null, .int p2, .int p3, .int 0, .int 0, .int 0, .long 0, .long 0, .long 0]) := va_up_self _ _ _
  refine lv_aload_n hx hb d_Op_init_25 rfl (lv_at hl 0 rfl) ?_
  refine lv_iload hx hb d_Op_init_26 (lv_at hl 5 rfl) ?_
  refine pg_putF (C := "SmokeZones$Opening") (T := T_Op) (N := 10) (ty := .int) hx hb hG in_Op ty_Op ok_Op nm_Op hown hK hP hD hS h_q e_4 rfl 4 (by decide) (hG _ k257) (fun _ h9 => h9) rfl hin rfl (by decide +kernel) rfl rfl (Nat.le_of_ble_eq_true rfl) d_Op_init_28 (fun H locs hP hD hS => ?_)
  rw [bx_uu] at hP hD
  have hP : va_P D vwCl (va_pl (L) (va_up f q (.inr (1, [.ref r, .null, .int p2, .int p3, .int p4, .int 0, .int 0, .long 0, .long 0, .long 0])))) H := hP
  have hD : va_D A (va_pl (L) (va_up f q (.inr (1, [.ref r, .null, .int p2, .int p3, .int p4, .int 0, .int 0, .long 0, .long 0, .long 0])))) := hD
  have e_5 : (va_up f q (.inr (1, [.ref r, .null, .int p2, .int p3, .int p4, .int 0, .int 0, .long 0, .long 0, .long 0]))) q = .inr (1, [.ref r, .null, .int p2, .int p3, .int p4, .int 0, .int 0, .long 0, .long 0, .long 0]) := va_up_self _ _ _
  refine lv_aload_n hx hb d_Op_init_31 rfl (lv_at hl 0 rfl) ?_
  refine lv_iconst (v := (-1)) hx hb d_Op_init_32 (by decide) ?_
  refine pg_put (C := "SmokeZones$Opening") (T := T_Op) (N := 10) (ty := .int) hx hb hG in_Op ty_Op ok_Op nm_Op hown hK hP hD hS h_q e_5 rfl 5 (by decide) (hG _ k258) (fun _ h9 => h9) rfl (by decide +kernel) rfl rfl (Nat.le_of_ble_eq_true rfl) d_Op_init_33 (fun H locs hP hD hS => ?_)
  rw [bx_uu] at hP hD
  have hP : va_P D vwCl (va_pl (L) (va_up f q (.inr (1, [.ref r, .null, .int p2, .int p3, .int p4, .int (-1), .int 0, .long 0, .long 0, .long 0])))) H := hP
  have hD : va_D A (va_pl (L) (va_up f q (.inr (1, [.ref r, .null, .int p2, .int p3, .int p4, .int (-1), .int 0, .long 0, .long 0, .long 0])))) := hD
  have e_6 : (va_up f q (.inr (1, [.ref r, .null, .int p2, .int p3, .int p4, .int (-1), .int 0, .long 0, .long 0, .long 0]))) q = .inr (1, [.ref r, .null, .int p2, .int p3, .int p4, .int (-1), .int 0, .long 0, .long 0, .long 0]) := va_up_self _ _ _
  have hF : (va_up f q (openE r .null p2 p3 p4 (-1) 0 0 0 0)) = (va_up f q (.inr (1, [.ref r, .null, .int p2, .int p3, .int p4, .int (-1), .int 0, .long 0, .long 0, .long 0]))) := by
    first | done | exact rfl
  rw [← hF] at hP hD
  exact W.vret hx hb hret (fun t ht hW => ⟨⟨(), rfl, trivial, by rw [ht]; exact hP, va_K.moved hW.alike hK, hD⟩, hS.F ht⟩) hS.2.2 d_Op_init_36

set_option maxHeartbeats 4000000 in
set_option maxRecDepth 100000 in
theorem c_Op_init_s {l : Launch} {D : va_G} {TY : List (ClassId × FieldType)} {L : List Nat} {f : Nat → va_E} {sz : Nat} {q : Nat} {r : Nat} {g : Nat} {p2 : Int32} {p3 : Int32} {p4 : Int32} (h_q : q ∈ L) (e_q : f q = .inr (1, [.null, .null, .int 0, .int 0, .int 0, .int 0, .int 0, .long 0, .long 0, .long 0])) : Met l y_Op_init (WS y_Op_init b_Op_init 6 none) { frames := 1, cells := 0, slots := 0, locals := 12 } (va_Pc [.ref q, .ref r, .ref g, .int p2, .int p3, .int p4] (WP D TY L f sz)) (Xv D TY L (va_up f q (openE r (.ref g) p2 p3 p4 (-1) 0 0 0 0)) (AA L f sz)) 0 0 (AA L f sz) := by
  refine Met.ofW (cc := b_Op_init) (maxL := 6) (ret := none) (by decide) rfl ?_
  intro p e s m args below meth c s₁ B hml hv
  obtain ⟨rfl, hsz, hP, hK, hD0⟩ := hv
  subst hsz
  have hx := B.exec
  have hb := B.bytes
  have hret := B.returns
  have hts := atoms_spec (ws := WS y_Op_init b_Op_init 6 none) B.pre
  have hG : ∀ w ∈ GW, w.before _ s = true := fun w h => hts w (List.mem_cons_of_mem _ h)
  have hown : s.vm.findClass "SmokeZones$Opening" = some m.cls := findClass_of_methodNamed B.named
  have hlocks := B.notSynchronized
  have hin : meth.name = "<init>" := (name_of_methodNamed B.named B.method).1
  have hD : va_D (AA L f s.heap.size) (va_pl L f) := hD0.self (sz := s.heap.size)
  generalize hAe : AA L f s.heap.size = A at hD ⊢
  have hA : ∀ q : Nat, s.heap.size ≤ q → A q := fun q h => by rw [← hAe]; exact Or.inr h
  have hS : va_S A s.heap s.heap [] := va_S.rf
  have hl := lv_entry ([.ref q, .ref r, .ref g, .int p2, .int p3, .int p4]) (n := 6) (Nat.le_of_ble_eq_true rfl)
  rw [lg_entry_eq]
  generalize (lg_sl ([.ref q, .ref r, .ref g, .int p2, .int p3, .int p4]) ++ List.replicate (6 - (lg_sl ([.ref q, .ref r, .ref g, .int p2, .int p3, .int p4])).length) Slot.unset).toArray = ls at hl ⊢
  have hl : lv_has ls 6 [(0, .ref q), (1, .ref r), (2, .ref g), (3, .int p2), (4, .int p3), (5, .int p4)] := hl
  refine lv_aload_n hx hb d_Op_init_0 rfl (lv_at hl 0 rfl) ?_
  refine pg_objInit hx hb hown (hml.trans hl.1.symm) (hG _ k252) (hG _ k21) (hG _ ko_c) (Nat.le_of_ble_eq_true rfl) (Nat.le_of_ble_eq_true rfl) d_Op_init_1 ?_
  refine lv_aload_n hx hb d_Op_init_4 rfl (lv_at hl 0 rfl) ?_
  refine lv_aload_n hx hb d_Op_init_5 rfl (lv_at hl 1 rfl) ?_
  refine pg_putF (C := "SmokeZones$Opening") (T := T_Op) (N := 10) (ty := (.object "SmokeZones$Room")) hx hb hG in_Op ty_Op ok_Op nm_Op hown hK hP hD hS h_q e_q rfl 0 (by decide) (hG _ k253) (fun _ h9 => h9) rfl hin rfl (by decide +kernel) rfl rfl (Nat.le_of_ble_eq_true rfl) d_Op_init_6 (fun H locs hP hD hS => ?_)
  have hP : va_P D vwCl (va_pl (L) (va_up f q (.inr (1, [.ref r, .null, .int 0, .int 0, .int 0, .int 0, .int 0, .long 0, .long 0, .long 0])))) H := hP
  have hD : va_D A (va_pl (L) (va_up f q (.inr (1, [.ref r, .null, .int 0, .int 0, .int 0, .int 0, .int 0, .long 0, .long 0, .long 0])))) := hD
  have e_1 : (va_up f q (.inr (1, [.ref r, .null, .int 0, .int 0, .int 0, .int 0, .int 0, .long 0, .long 0, .long 0]))) q = .inr (1, [.ref r, .null, .int 0, .int 0, .int 0, .int 0, .int 0, .long 0, .long 0, .long 0]) := va_up_self _ _ _
  refine lv_aload_n hx hb d_Op_init_9 rfl (lv_at hl 0 rfl) ?_
  refine lv_aload_n hx hb d_Op_init_10 rfl (lv_at hl 2 rfl) ?_
  refine pg_putF (C := "SmokeZones$Opening") (T := T_Op) (N := 10) (ty := (.object "SmokeZones$Room")) hx hb hG in_Op ty_Op ok_Op nm_Op hown hK hP hD hS h_q e_1 rfl 1 (by decide) (hG _ k254) (fun _ h9 => h9) rfl hin rfl (by decide +kernel) rfl rfl (Nat.le_of_ble_eq_true rfl) d_Op_init_11 (fun H locs hP hD hS => ?_)
  rw [bx_uu] at hP hD
  have hP : va_P D vwCl (va_pl (L) (va_up f q (.inr (1, [.ref r, .ref g, .int 0, .int 0, .int 0, .int 0, .int 0, .long 0, .long 0, .long 0])))) H := hP
  have hD : va_D A (va_pl (L) (va_up f q (.inr (1, [.ref r, .ref g, .int 0, .int 0, .int 0, .int 0, .int 0, .long 0, .long 0, .long 0])))) := hD
  have e_2 : (va_up f q (.inr (1, [.ref r, .ref g, .int 0, .int 0, .int 0, .int 0, .int 0, .long 0, .long 0, .long 0]))) q = .inr (1, [.ref r, .ref g, .int 0, .int 0, .int 0, .int 0, .int 0, .long 0, .long 0, .long 0]) := va_up_self _ _ _
  refine lv_aload_n hx hb d_Op_init_14 rfl (lv_at hl 0 rfl) ?_
  refine lv_iload_n hx hb d_Op_init_15 rfl (lv_at hl 3 rfl) ?_
  refine pg_putF (C := "SmokeZones$Opening") (T := T_Op) (N := 10) (ty := .int) hx hb hG in_Op ty_Op ok_Op nm_Op hown hK hP hD hS h_q e_2 rfl 2 (by decide) (hG _ k255) (fun _ h9 => h9) rfl hin rfl (by decide +kernel) rfl rfl (Nat.le_of_ble_eq_true rfl) d_Op_init_16 (fun H locs hP hD hS => ?_)
  rw [bx_uu] at hP hD
  have hP : va_P D vwCl (va_pl (L) (va_up f q (.inr (1, [.ref r, .ref g, .int p2, .int 0, .int 0, .int 0, .int 0, .long 0, .long 0, .long 0])))) H := hP
  have hD : va_D A (va_pl (L) (va_up f q (.inr (1, [.ref r, .ref g, .int p2, .int 0, .int 0, .int 0, .int 0, .long 0, .long 0, .long 0])))) := hD
  have e_3 : (va_up f q (.inr (1, [.ref r, .ref g, .int p2, .int 0, .int 0, .int 0, .int 0, .long 0, .long 0, .long 0]))) q = .inr (1, [.ref r, .ref g, .int p2, .int 0, .int 0, .int 0, .int 0, .long 0, .long 0, .long 0]) := va_up_self _ _ _
  refine lv_aload_n hx hb d_Op_init_19 rfl (lv_at hl 0 rfl) ?_
  refine lv_iload hx hb d_Op_init_20 (lv_at hl 4 rfl) ?_
  refine pg_putF (C := "SmokeZones$Opening") (T := T_Op) (N := 10) (ty := .int) hx hb hG in_Op ty_Op ok_Op nm_Op hown hK hP hD hS h_q e_3 rfl 3 (by decide) (hG _ k256) (fun _ h9 => h9) rfl hin rfl (by decide +kernel) rfl rfl (Nat.le_of_ble_eq_true rfl) d_Op_init_22 (fun H locs hP hD hS => ?_)
  rw [bx_uu] at hP hD
  have hP : va_P D vwCl (va_pl (L) (va_up f q (.inr (1, [.ref r, .ref g, .int p2, .int p3, .int 0, .int 0, .int 0, .long 0, .long 0, .long 0])))) H := hP
  have hD : va_D A (va_pl (L) (va_up f q (.inr (1, [.ref r, .ref g, .int p2, .int p3, .int 0, .int 0, .int 0, .long 0, .long 0, .long 0])))) := hD
  have e_4 : (va_up f q (.inr (1, [.ref r, .ref g, .int p2, .int p3, .int 0, .int 0, .int 0, .long 0, .long 0, .long 0]))) q = .inr (1, [.ref r, .ref g, .int p2, .int p3, .int 0, .int 0, .int 0, .long 0, .long 0, .long 0]) := va_up_self _ _ _
  refine lv_aload_n hx hb d_Op_init_25 rfl (lv_at hl 0 rfl) ?_
  refine lv_iload hx hb d_Op_init_26 (lv_at hl 5 rfl) ?_
  refine pg_putF (C := "SmokeZones$Opening") (T := T_Op) (N := 10) (ty := .int) hx hb hG in_Op ty_Op ok_Op nm_Op hown hK hP hD hS h_q e_4 rfl 4 (by decide) (hG _ k257) (fun _ h9 => h9) rfl hin rfl (by decide +kernel) rfl rfl (Nat.le_of_ble_eq_true rfl) d_Op_init_28 (fun H locs hP hD hS => ?_)
  rw [bx_uu] at hP hD
  have hP : va_P D vwCl (va_pl (L) (va_up f q (.inr (1, [.ref r, .ref g, .int p2, .int p3, .int p4, .int 0, .int 0, .long 0, .long 0, .long 0])))) H := hP
  have hD : va_D A (va_pl (L) (va_up f q (.inr (1, [.ref r, .ref g, .int p2, .int p3, .int p4, .int 0, .int 0, .long 0, .long 0, .long 0])))) := hD
  have e_5 : (va_up f q (.inr (1, [.ref r, .ref g, .int p2, .int p3, .int p4, .int 0, .int 0, .long 0, .long 0, .long 0]))) q = .inr (1, [.ref r, .ref g, .int p2, .int p3, .int p4, .int 0, .int 0, .long 0, .long 0, .long 0]) := va_up_self _ _ _
  refine lv_aload_n hx hb d_Op_init_31 rfl (lv_at hl 0 rfl) ?_
  refine lv_iconst (v := (-1)) hx hb d_Op_init_32 (by decide) ?_
  refine pg_put (C := "SmokeZones$Opening") (T := T_Op) (N := 10) (ty := .int) hx hb hG in_Op ty_Op ok_Op nm_Op hown hK hP hD hS h_q e_5 rfl 5 (by decide) (hG _ k258) (fun _ h9 => h9) rfl (by decide +kernel) rfl rfl (Nat.le_of_ble_eq_true rfl) d_Op_init_33 (fun H locs hP hD hS => ?_)
  rw [bx_uu] at hP hD
  have hP : va_P D vwCl (va_pl (L) (va_up f q (.inr (1, [.ref r, .ref g, .int p2, .int p3, .int p4, .int (-1), .int 0, .long 0, .long 0, .long 0])))) H := hP
  have hD : va_D A (va_pl (L) (va_up f q (.inr (1, [.ref r, .ref g, .int p2, .int p3, .int p4, .int (-1), .int 0, .long 0, .long 0, .long 0])))) := hD
  have e_6 : (va_up f q (.inr (1, [.ref r, .ref g, .int p2, .int p3, .int p4, .int (-1), .int 0, .long 0, .long 0, .long 0]))) q = .inr (1, [.ref r, .ref g, .int p2, .int p3, .int p4, .int (-1), .int 0, .long 0, .long 0, .long 0]) := va_up_self _ _ _
  have hF : (va_up f q (openE r (.ref g) p2 p3 p4 (-1) 0 0 0 0)) = (va_up f q (.inr (1, [.ref r, .ref g, .int p2, .int p3, .int p4, .int (-1), .int 0, .long 0, .long 0, .long 0]))) := by
    first | done | exact rfl
  rw [← hF] at hP hD
  exact W.vret hx hb hret (fun t ht hW => ⟨⟨(), rfl, trivial, by rw [ht]; exact hP, va_K.moved hW.alike hK, hD⟩, hS.F ht⟩) hS.2.2 d_Op_init_36

set_option maxHeartbeats 4000000 in
set_option maxRecDepth 100000 in
theorem c_Fi_init {l : Launch} {D : va_G} {TY : List (ClassId × FieldType)} {L : List Nat} {f : Nat → va_E} {sz : Nat} {q : Nat} {r : Nat} {p1 : Int32} {p2 : Int32} {p3 : Int32} {p4 : Int32} (h_q : q ∈ L) (e_q : f q = .inr (2, [.null, .int 0, .int 0, .int 0, .int 0])) : Met l y_Fi_init (WS y_Fi_init b_Fi_init 6 none) { frames := 1, cells := 0, slots := 0, locals := 12 } (va_Pc [.ref q, .ref r, .int p1, .int p2, .int p3, .int p4] (WP D TY L f sz)) (Xv D TY L (va_up f q (fireE r p1 p2 p3 p4)) (AA L f sz)) 0 0 (AA L f sz) := by
  refine Met.ofW (cc := b_Fi_init) (maxL := 6) (ret := none) (by decide) rfl ?_
  intro p e s m args below meth c s₁ B hml hv
  obtain ⟨rfl, hsz, hP, hK, hD0⟩ := hv
  subst hsz
  have hx := B.exec
  have hb := B.bytes
  have hret := B.returns
  have hts := atoms_spec (ws := WS y_Fi_init b_Fi_init 6 none) B.pre
  have hG : ∀ w ∈ GW, w.before _ s = true := fun w h => hts w (List.mem_cons_of_mem _ h)
  have hown : s.vm.findClass "SmokeZones$Fire" = some m.cls := findClass_of_methodNamed B.named
  have hlocks := B.notSynchronized
  have hin : meth.name = "<init>" := (name_of_methodNamed B.named B.method).1
  have hD : va_D (AA L f s.heap.size) (va_pl L f) := hD0.self (sz := s.heap.size)
  generalize hAe : AA L f s.heap.size = A at hD ⊢
  have hA : ∀ q : Nat, s.heap.size ≤ q → A q := fun q h => by rw [← hAe]; exact Or.inr h
  have hS : va_S A s.heap s.heap [] := va_S.rf
  have hl := lv_entry ([.ref q, .ref r, .int p1, .int p2, .int p3, .int p4]) (n := 6) (Nat.le_of_ble_eq_true rfl)
  rw [lg_entry_eq]
  generalize (lg_sl ([.ref q, .ref r, .int p1, .int p2, .int p3, .int p4]) ++ List.replicate (6 - (lg_sl ([.ref q, .ref r, .int p1, .int p2, .int p3, .int p4])).length) Slot.unset).toArray = ls at hl ⊢
  have hl : lv_has ls 6 [(0, .ref q), (1, .ref r), (2, .int p1), (3, .int p2), (4, .int p3), (5, .int p4)] := hl
  refine lv_aload_n hx hb d_Fi_init_0 rfl (lv_at hl 0 rfl) ?_
  refine pg_objInit hx hb hown (hml.trans hl.1.symm) (hG _ k306) (hG _ k21) (hG _ ko_c) (Nat.le_of_ble_eq_true rfl) (Nat.le_of_ble_eq_true rfl) d_Fi_init_1 ?_
  refine lv_aload_n hx hb d_Fi_init_4 rfl (lv_at hl 0 rfl) ?_
  refine lv_aload_n hx hb d_Fi_init_5 rfl (lv_at hl 1 rfl) ?_
  refine pg_putF (C := "SmokeZones$Fire") (T := T_Fi) (N := 5) (ty := (.object "SmokeZones$Room")) hx hb hG in_Fi ty_Fi ok_Fi nm_Fi hown hK hP hD hS h_q e_q rfl 0 (by decide) (hG _ k307) (fun _ h9 => h9) rfl hin rfl (by decide +kernel) rfl rfl (Nat.le_of_ble_eq_true rfl) d_Fi_init_6 (fun H locs hP hD hS => ?_)
  have hP : va_P D vwCl (va_pl (L) (va_up f q (.inr (2, [.ref r, .int 0, .int 0, .int 0, .int 0])))) H := hP
  have hD : va_D A (va_pl (L) (va_up f q (.inr (2, [.ref r, .int 0, .int 0, .int 0, .int 0])))) := hD
  have e_1 : (va_up f q (.inr (2, [.ref r, .int 0, .int 0, .int 0, .int 0]))) q = .inr (2, [.ref r, .int 0, .int 0, .int 0, .int 0]) := va_up_self _ _ _
  refine lv_aload_n hx hb d_Fi_init_9 rfl (lv_at hl 0 rfl) ?_
  refine lv_iload_n hx hb d_Fi_init_10 rfl (lv_at hl 2 rfl) ?_
  refine pg_putF (C := "SmokeZones$Fire") (T := T_Fi) (N := 5) (ty := .int) hx hb hG in_Fi ty_Fi ok_Fi nm_Fi hown hK hP hD hS h_q e_1 rfl 1 (by decide) (hG _ k308) (fun _ h9 => h9) rfl hin rfl (by decide +kernel) rfl rfl (Nat.le_of_ble_eq_true rfl) d_Fi_init_11 (fun H locs hP hD hS => ?_)
  rw [bx_uu] at hP hD
  have hP : va_P D vwCl (va_pl (L) (va_up f q (.inr (2, [.ref r, .int p1, .int 0, .int 0, .int 0])))) H := hP
  have hD : va_D A (va_pl (L) (va_up f q (.inr (2, [.ref r, .int p1, .int 0, .int 0, .int 0])))) := hD
  have e_2 : (va_up f q (.inr (2, [.ref r, .int p1, .int 0, .int 0, .int 0]))) q = .inr (2, [.ref r, .int p1, .int 0, .int 0, .int 0]) := va_up_self _ _ _
  refine lv_aload_n hx hb d_Fi_init_14 rfl (lv_at hl 0 rfl) ?_
  refine lv_iload_n hx hb d_Fi_init_15 rfl (lv_at hl 3 rfl) ?_
  refine pg_putF (C := "SmokeZones$Fire") (T := T_Fi) (N := 5) (ty := .int) hx hb hG in_Fi ty_Fi ok_Fi nm_Fi hown hK hP hD hS h_q e_2 rfl 2 (by decide) (hG _ k309) (fun _ h9 => h9) rfl hin rfl (by decide +kernel) rfl rfl (Nat.le_of_ble_eq_true rfl) d_Fi_init_16 (fun H locs hP hD hS => ?_)
  rw [bx_uu] at hP hD
  have hP : va_P D vwCl (va_pl (L) (va_up f q (.inr (2, [.ref r, .int p1, .int p2, .int 0, .int 0])))) H := hP
  have hD : va_D A (va_pl (L) (va_up f q (.inr (2, [.ref r, .int p1, .int p2, .int 0, .int 0])))) := hD
  have e_3 : (va_up f q (.inr (2, [.ref r, .int p1, .int p2, .int 0, .int 0]))) q = .inr (2, [.ref r, .int p1, .int p2, .int 0, .int 0]) := va_up_self _ _ _
  refine lv_aload_n hx hb d_Fi_init_19 rfl (lv_at hl 0 rfl) ?_
  refine lv_iload hx hb d_Fi_init_20 (lv_at hl 4 rfl) ?_
  refine pg_putF (C := "SmokeZones$Fire") (T := T_Fi) (N := 5) (ty := .int) hx hb hG in_Fi ty_Fi ok_Fi nm_Fi hown hK hP hD hS h_q e_3 rfl 3 (by decide) (hG _ k310) (fun _ h9 => h9) rfl hin rfl (by decide +kernel) rfl rfl (Nat.le_of_ble_eq_true rfl) d_Fi_init_22 (fun H locs hP hD hS => ?_)
  rw [bx_uu] at hP hD
  have hP : va_P D vwCl (va_pl (L) (va_up f q (.inr (2, [.ref r, .int p1, .int p2, .int p3, .int 0])))) H := hP
  have hD : va_D A (va_pl (L) (va_up f q (.inr (2, [.ref r, .int p1, .int p2, .int p3, .int 0])))) := hD
  have e_4 : (va_up f q (.inr (2, [.ref r, .int p1, .int p2, .int p3, .int 0]))) q = .inr (2, [.ref r, .int p1, .int p2, .int p3, .int 0]) := va_up_self _ _ _
  refine lv_aload_n hx hb d_Fi_init_25 rfl (lv_at hl 0 rfl) ?_
  refine lv_iload hx hb d_Fi_init_26 (lv_at hl 5 rfl) ?_
  refine pg_putF (C := "SmokeZones$Fire") (T := T_Fi) (N := 5) (ty := .int) hx hb hG in_Fi ty_Fi ok_Fi nm_Fi hown hK hP hD hS h_q e_4 rfl 4 (by decide) (hG _ k311) (fun _ h9 => h9) rfl hin rfl (by decide +kernel) rfl rfl (Nat.le_of_ble_eq_true rfl) d_Fi_init_28 (fun H locs hP hD hS => ?_)
  rw [bx_uu] at hP hD
  have hP : va_P D vwCl (va_pl (L) (va_up f q (.inr (2, [.ref r, .int p1, .int p2, .int p3, .int p4])))) H := hP
  have hD : va_D A (va_pl (L) (va_up f q (.inr (2, [.ref r, .int p1, .int p2, .int p3, .int p4])))) := hD
  have e_5 : (va_up f q (.inr (2, [.ref r, .int p1, .int p2, .int p3, .int p4]))) q = .inr (2, [.ref r, .int p1, .int p2, .int p3, .int p4]) := va_up_self _ _ _
  have hF : (va_up f q (fireE r p1 p2 p3 p4)) = (va_up f q (.inr (2, [.ref r, .int p1, .int p2, .int p3, .int p4]))) := by
    first | done | exact rfl
  rw [← hF] at hP hD
  exact W.vret hx hb hret (fun t ht hW => ⟨⟨(), rfl, trivial, by rw [ht]; exact hP, va_K.moved hW.alike hK, hD⟩, hS.F ht⟩) hS.2.2 d_Fi_init_31

set_option maxHeartbeats 4000000 in
set_option maxRecDepth 100000 in
theorem c_Fa_init {l : Launch} {D : va_G} {TY : List (ClassId × FieldType)} {L : List Nat} {f : Nat → va_E} {sz : Nat} {q : Nat} {r : Nat} {p1 : Int32} {p2 : Int32} (h_q : q ∈ L) (e_q : f q = .inr (3, [.null, .int 0, .int 0])) : Met l y_Fa_init (WS y_Fa_init b_Fa_init 4 none) { frames := 1, cells := 0, slots := 0, locals := 12 } (va_Pc [.ref q, .ref r, .int p1, .int p2] (WP D TY L f sz)) (Xv D TY L (va_up f q (fanE r p1 p2)) (AA L f sz)) 0 0 (AA L f sz) := by
  refine Met.ofW (cc := b_Fa_init) (maxL := 4) (ret := none) (by decide) rfl ?_
  intro p e s m args below meth c s₁ B hml hv
  obtain ⟨rfl, hsz, hP, hK, hD0⟩ := hv
  subst hsz
  have hx := B.exec
  have hb := B.bytes
  have hret := B.returns
  have hts := atoms_spec (ws := WS y_Fa_init b_Fa_init 4 none) B.pre
  have hG : ∀ w ∈ GW, w.before _ s = true := fun w h => hts w (List.mem_cons_of_mem _ h)
  have hown : s.vm.findClass "SmokeZones$Fan" = some m.cls := findClass_of_methodNamed B.named
  have hlocks := B.notSynchronized
  have hin : meth.name = "<init>" := (name_of_methodNamed B.named B.method).1
  have hD : va_D (AA L f s.heap.size) (va_pl L f) := hD0.self (sz := s.heap.size)
  generalize hAe : AA L f s.heap.size = A at hD ⊢
  have hA : ∀ q : Nat, s.heap.size ≤ q → A q := fun q h => by rw [← hAe]; exact Or.inr h
  have hS : va_S A s.heap s.heap [] := va_S.rf
  have hl := lv_entry ([.ref q, .ref r, .int p1, .int p2]) (n := 4) (Nat.le_of_ble_eq_true rfl)
  rw [lg_entry_eq]
  generalize (lg_sl ([.ref q, .ref r, .int p1, .int p2]) ++ List.replicate (4 - (lg_sl ([.ref q, .ref r, .int p1, .int p2])).length) Slot.unset).toArray = ls at hl ⊢
  have hl : lv_has ls 4 [(0, .ref q), (1, .ref r), (2, .int p1), (3, .int p2)] := hl
  refine lv_aload_n hx hb d_Fa_init_0 rfl (lv_at hl 0 rfl) ?_
  refine pg_objInit hx hb hown (hml.trans hl.1.symm) (hG _ k341) (hG _ k21) (hG _ ko_c) (Nat.le_of_ble_eq_true rfl) (Nat.le_of_ble_eq_true rfl) d_Fa_init_1 ?_
  refine lv_aload_n hx hb d_Fa_init_4 rfl (lv_at hl 0 rfl) ?_
  refine lv_aload_n hx hb d_Fa_init_5 rfl (lv_at hl 1 rfl) ?_
  refine pg_putF (C := "SmokeZones$Fan") (T := T_Fa) (N := 3) (ty := (.object "SmokeZones$Room")) hx hb hG in_Fa ty_Fa ok_Fa nm_Fa hown hK hP hD hS h_q e_q rfl 0 (by decide) (hG _ k342) (fun _ h9 => h9) rfl hin rfl (by decide +kernel) rfl rfl (Nat.le_of_ble_eq_true rfl) d_Fa_init_6 (fun H locs hP hD hS => ?_)
  have hP : va_P D vwCl (va_pl (L) (va_up f q (.inr (3, [.ref r, .int 0, .int 0])))) H := hP
  have hD : va_D A (va_pl (L) (va_up f q (.inr (3, [.ref r, .int 0, .int 0])))) := hD
  have e_1 : (va_up f q (.inr (3, [.ref r, .int 0, .int 0]))) q = .inr (3, [.ref r, .int 0, .int 0]) := va_up_self _ _ _
  refine lv_aload_n hx hb d_Fa_init_9 rfl (lv_at hl 0 rfl) ?_
  refine lv_iload_n hx hb d_Fa_init_10 rfl (lv_at hl 2 rfl) ?_
  refine pg_putF (C := "SmokeZones$Fan") (T := T_Fa) (N := 3) (ty := .int) hx hb hG in_Fa ty_Fa ok_Fa nm_Fa hown hK hP hD hS h_q e_1 rfl 1 (by decide) (hG _ k343) (fun _ h9 => h9) rfl hin rfl (by decide +kernel) rfl rfl (Nat.le_of_ble_eq_true rfl) d_Fa_init_11 (fun H locs hP hD hS => ?_)
  rw [bx_uu] at hP hD
  have hP : va_P D vwCl (va_pl (L) (va_up f q (.inr (3, [.ref r, .int p1, .int 0])))) H := hP
  have hD : va_D A (va_pl (L) (va_up f q (.inr (3, [.ref r, .int p1, .int 0])))) := hD
  have e_2 : (va_up f q (.inr (3, [.ref r, .int p1, .int 0]))) q = .inr (3, [.ref r, .int p1, .int 0]) := va_up_self _ _ _
  refine lv_aload_n hx hb d_Fa_init_14 rfl (lv_at hl 0 rfl) ?_
  refine lv_iload_n hx hb d_Fa_init_15 rfl (lv_at hl 3 rfl) ?_
  refine pg_putF (C := "SmokeZones$Fan") (T := T_Fa) (N := 3) (ty := .int) hx hb hG in_Fa ty_Fa ok_Fa nm_Fa hown hK hP hD hS h_q e_2 rfl 2 (by decide) (hG _ k344) (fun _ h9 => h9) rfl hin rfl (by decide +kernel) rfl rfl (Nat.le_of_ble_eq_true rfl) d_Fa_init_16 (fun H locs hP hD hS => ?_)
  rw [bx_uu] at hP hD
  have hP : va_P D vwCl (va_pl (L) (va_up f q (.inr (3, [.ref r, .int p1, .int p2])))) H := hP
  have hD : va_D A (va_pl (L) (va_up f q (.inr (3, [.ref r, .int p1, .int p2])))) := hD
  have e_3 : (va_up f q (.inr (3, [.ref r, .int p1, .int p2]))) q = .inr (3, [.ref r, .int p1, .int p2]) := va_up_self _ _ _
  have hF : (va_up f q (fanE r p1 p2)) = (va_up f q (.inr (3, [.ref r, .int p1, .int p2]))) := by
    first | done | exact rfl
  rw [← hF] at hP hD
  exact W.vret hx hb hret (fun t ht hW => ⟨⟨(), rfl, trivial, by rw [ht]; exact hP, va_K.moved hW.alike hK, hD⟩, hS.F ht⟩) hS.2.2 d_Fa_init_19

set_option maxHeartbeats 4000000 in
set_option maxRecDepth 100000 in
theorem c_St_init {l : Launch} {D : va_G} {TY : List (ClassId × FieldType)} {L : List Nat} {f : Nat → va_E} {sz : Nat} {q : Nat} {r : Nat} {p1 : Int32} (h_q : q ∈ L) (e_q : f q = .inr (4, [.null, .int 0, .int 0])) : Met l y_St_init (WS y_St_init b_St_init 3 none) { frames := 1, cells := 0, slots := 0, locals := 12 } (va_Pc [.ref q, .ref r, .int p1] (WP D TY L f sz)) (Xv D TY L (va_up f q (steelE r p1 0)) (AA L f sz)) 0 0 (AA L f sz) := by
  refine Met.ofW (cc := b_St_init) (maxL := 3) (ret := none) (by decide) rfl ?_
  intro p e s m args below meth c s₁ B hml hv
  obtain ⟨rfl, hsz, hP, hK, hD0⟩ := hv
  subst hsz
  have hx := B.exec
  have hb := B.bytes
  have hret := B.returns
  have hts := atoms_spec (ws := WS y_St_init b_St_init 3 none) B.pre
  have hG : ∀ w ∈ GW, w.before _ s = true := fun w h => hts w (List.mem_cons_of_mem _ h)
  have hown : s.vm.findClass "SmokeZones$Steel" = some m.cls := findClass_of_methodNamed B.named
  have hlocks := B.notSynchronized
  have hin : meth.name = "<init>" := (name_of_methodNamed B.named B.method).1
  have hD : va_D (AA L f s.heap.size) (va_pl L f) := hD0.self (sz := s.heap.size)
  generalize hAe : AA L f s.heap.size = A at hD ⊢
  have hA : ∀ q : Nat, s.heap.size ≤ q → A q := fun q h => by rw [← hAe]; exact Or.inr h
  have hS : va_S A s.heap s.heap [] := va_S.rf
  have hl := lv_entry ([.ref q, .ref r, .int p1]) (n := 3) (Nat.le_of_ble_eq_true rfl)
  rw [lg_entry_eq]
  generalize (lg_sl ([.ref q, .ref r, .int p1]) ++ List.replicate (3 - (lg_sl ([.ref q, .ref r, .int p1])).length) Slot.unset).toArray = ls at hl ⊢
  have hl : lv_has ls 3 [(0, .ref q), (1, .ref r), (2, .int p1)] := hl
  refine lv_aload_n hx hb d_St_init_0 rfl (lv_at hl 0 rfl) ?_
  refine pg_objInit hx hb hown (hml.trans hl.1.symm) (hG _ k363) (hG _ k21) (hG _ ko_c) (Nat.le_of_ble_eq_true rfl) (Nat.le_of_ble_eq_true rfl) d_St_init_1 ?_
  refine lv_aload_n hx hb d_St_init_4 rfl (lv_at hl 0 rfl) ?_
  refine lv_aload_n hx hb d_St_init_5 rfl (lv_at hl 1 rfl) ?_
  refine pg_putF (C := "SmokeZones$Steel") (T := T_St) (N := 3) (ty := (.object "SmokeZones$Room")) hx hb hG in_St ty_St ok_St nm_St hown hK hP hD hS h_q e_q rfl 0 (by decide) (hG _ k364) (fun _ h9 => h9) rfl hin rfl (by decide +kernel) rfl rfl (Nat.le_of_ble_eq_true rfl) d_St_init_6 (fun H locs hP hD hS => ?_)
  have hP : va_P D vwCl (va_pl (L) (va_up f q (.inr (4, [.ref r, .int 0, .int 0])))) H := hP
  have hD : va_D A (va_pl (L) (va_up f q (.inr (4, [.ref r, .int 0, .int 0])))) := hD
  have e_1 : (va_up f q (.inr (4, [.ref r, .int 0, .int 0]))) q = .inr (4, [.ref r, .int 0, .int 0]) := va_up_self _ _ _
  refine lv_aload_n hx hb d_St_init_9 rfl (lv_at hl 0 rfl) ?_
  refine lv_iload_n hx hb d_St_init_10 rfl (lv_at hl 2 rfl) ?_
  refine pg_putF (C := "SmokeZones$Steel") (T := T_St) (N := 3) (ty := .int) hx hb hG in_St ty_St ok_St nm_St hown hK hP hD hS h_q e_1 rfl 1 (by decide) (hG _ k365) (fun _ h9 => h9) rfl hin rfl (by decide +kernel) rfl rfl (Nat.le_of_ble_eq_true rfl) d_St_init_11 (fun H locs hP hD hS => ?_)
  rw [bx_uu] at hP hD
  have hP : va_P D vwCl (va_pl (L) (va_up f q (.inr (4, [.ref r, .int p1, .int 0])))) H := hP
  have hD : va_D A (va_pl (L) (va_up f q (.inr (4, [.ref r, .int p1, .int 0])))) := hD
  have e_2 : (va_up f q (.inr (4, [.ref r, .int p1, .int 0]))) q = .inr (4, [.ref r, .int p1, .int 0]) := va_up_self _ _ _
  have hF : (va_up f q (steelE r p1 0)) = (va_up f q (.inr (4, [.ref r, .int p1, .int 0]))) := by
    first | done | exact rfl
  rw [← hF] at hP hD
  exact W.vret hx hb hret (fun t ht hW => ⟨⟨(), rfl, trivial, by rw [ht]; exact hP, va_K.moved hW.alike hK, hD⟩, hS.F ht⟩) hS.2.2 d_St_init_14

def PeF (f : Nat → va_E) (a1 a2 q : Nat) (ct : Nat → ClassId) (p0 : Int32) : Nat → va_E := va_up (va_up (va_up f a1 (.inl (ct 6, 20, .inl (fun _ => 0)))) a2 (.inl (ct 6, 20, .inl (fun _ => 0)))) q (personE p0 0 0 a1 a2 0 (-1) 0)
set_option maxHeartbeats 4000000 in
set_option maxRecDepth 100000 in
theorem c_Pe_init {l : Launch} {D : va_G} {ct : Nat → ClassId} {L : List Nat} {f : Nat → va_E} {sz q : Nat} {p0 : Int32} (h_q : q ∈ L) (e_q : f q = .inr (5, [.int 0, .long 0, .long 0, .null, .null, .int 0, .int 0, .int 0])) : Met l y_Pe_init (WS y_Pe_init b_Pe_init 2 none) { frames := 1, cells := 2, slots := 40, locals := 12 } (va_Pc [.ref q, .int p0] (WP D (TYS ct) L f sz)) (va_Qv (fun (u : Nat × Nat) => u.1 ∉ L ∧ u.2 ∉ L ++ [u.1]) (fun u t => WQ D (TYS ct) (L ++ [u.1] ++ [u.2]) (PeF f u.1 u.2 q ct p0) (AA L f sz) t) (AA L f sz)) 2 40 (AA L f sz) := by
  refine Met.ofW (cc := b_Pe_init) (maxL := 2) (ret := none) (by decide) rfl ?_
  intro p e s m args below meth c s₁ B hml hv
  obtain ⟨rfl, hsz, hP, hK, hD0⟩ := hv
  subst hsz
  have hx := B.exec
  have hb := B.bytes
  have hret := B.returns
  have hts := atoms_spec (ws := WS y_Pe_init b_Pe_init 2 none) B.pre
  have hG : ∀ w ∈ GW, w.before _ s = true := fun w h => hts w (List.mem_cons_of_mem _ h)
  have hown : s.vm.findClass "SmokeZones$Person" = some m.cls := findClass_of_methodNamed B.named
  have hlocks := B.notSynchronized
  have hin : meth.name = "<init>" := (name_of_methodNamed B.named B.method).1
  have hD : va_D (AA L f s.heap.size) (va_pl L f) := hD0.self (sz := s.heap.size)
  generalize hAe : AA L f s.heap.size = A at hD ⊢
  have hA : ∀ q : Nat, s.heap.size ≤ q → A q := fun q h => by rw [← hAe]; exact Or.inr h
  have hS : va_S A s.heap s.heap [] := va_S.rf
  have hl := lv_entry ([.ref q, .int p0]) (n := 2) (Nat.le_of_ble_eq_true rfl)
  rw [lg_entry_eq]
  generalize (lg_sl ([.ref q, .int p0]) ++ List.replicate (2 - (lg_sl ([.ref q, .int p0])).length) Slot.unset).toArray = ls at hl ⊢
  have hl : lv_has ls 2 [(0, .ref q), (1, .int p0)] := hl
  refine lv_aload_n hx hb d_Pe_init_0 rfl (lv_at hl 0 rfl) ?_
  refine pg_objInit hx hb hown (hml.trans hl.1.symm) (hG _ k386) (hG _ k21) (hG _ ko_c) (Nat.le_of_ble_eq_true rfl) (Nat.le_of_ble_eq_true rfl) d_Pe_init_1 ?_
  refine lv_aload_n hx hb d_Pe_init_4 rfl (lv_at hl 0 rfl) ?_
  refine lv_iload_n hx hb d_Pe_init_5 rfl (lv_at hl 1 rfl) ?_
  refine pg_put (C := "SmokeZones$Person") (T := T_Pe) (N := 8) (ty := .int) hx hb hG in_Pe ty_Pe ok_Pe nm_Pe hown hK hP hD hS h_q e_q rfl 0 (by decide) (hG _ k387) (fun _ h9 => h9) rfl (by decide +kernel) rfl rfl (Nat.le_of_ble_eq_true rfl) d_Pe_init_6 (fun H locs hP hD hS => ?_)
  have hP : va_P D vwCl (va_pl (L) (va_up f q (.inr (5, [.int p0, .long 0, .long 0, .null, .null, .int 0, .int 0, .int 0])))) H := hP
  have hD : va_D A (va_pl (L) (va_up f q (.inr (5, [.int p0, .long 0, .long 0, .null, .null, .int 0, .int 0, .int 0])))) := hD
  have e_1 : (va_up f q (.inr (5, [.int p0, .long 0, .long 0, .null, .null, .int 0, .int 0, .int 0]))) q = .inr (5, [.int p0, .long 0, .long 0, .null, .null, .int 0, .int 0, .int 0]) := va_up_self _ _ _
  refine lv_aload_n hx hb d_Pe_init_9 rfl (lv_at hl 0 rfl) ?_
  refine lv_bipush (v := 20) hx hb d_Pe_init_10 (by decide) ?_
  refine pg_newa (atype := .int) (ty := .int) (N' := 20) (a0 := (20, .inl (fun _ => 0))) hx hb (hG _ k415) rfl hK hP hD hS hA (fun _ => rfl) (by decide) (by decide) (by decide) (Nat.le_of_ble_eq_true rfl) (Nat.le_of_ble_eq_true rfl) 6 rfl d_Pe_init_12 (fun q_2 H hn_q_2 hP hD hS => ?_)
  have ne_q_q_2 : q ≠ q_2 := fun h => hn_q_2 (h ▸ h_q)
  have ne_q_2_q : q_2 ≠ q := fun h => ne_q_q_2 h.symm
  have m_3 : q ∈ L ++ [q_2] := List.mem_append_left _ h_q
  have m_4 : q_2 ∈ L ++ [q_2] := List.mem_append_right _ (List.mem_singleton.mpr rfl)
  have hP : va_P D vwCl (va_pl (L ++ [q_2]) (va_up (va_up f q (.inr (5, [.int p0, .long 0, .long 0, .null, .null, .int 0, .int 0, .int 0]))) q_2 (.inl (ct 6, 20, .inl (fun _ => 0))))) H := hP
  have hD : va_D A (va_pl (L ++ [q_2]) (va_up (va_up f q (.inr (5, [.int p0, .long 0, .long 0, .null, .null, .int 0, .int 0, .int 0]))) q_2 (.inl (ct 6, 20, .inl (fun _ => 0))))) := hD
  have e_5 : (va_up (va_up f q (.inr (5, [.int p0, .long 0, .long 0, .null, .null, .int 0, .int 0, .int 0]))) q_2 (.inl (ct 6, 20, .inl (fun _ => 0)))) q_2 = .inl (ct 6, 20, .inl (fun _ => 0)) := va_up_self _ _ _
  have e_6 : (va_up (va_up f q (.inr (5, [.int p0, .long 0, .long 0, .null, .null, .int 0, .int 0, .int 0]))) q_2 (.inl (ct 6, 20, .inl (fun _ => 0)))) q = .inr (5, [.int p0, .long 0, .long 0, .null, .null, .int 0, .int 0, .int 0]) := (va_up_ne _ _ ne_q_q_2).trans e_1
  refine pg_putF (C := "SmokeZones$Person") (T := T_Pe) (N := 8) (ty := (.array .int)) hx hb hG in_Pe ty_Pe ok_Pe nm_Pe hown hK hP hD hS m_3 e_6 rfl 3 (by decide) (hG _ k393) (fun _ h9 => h9) rfl hin rfl (by decide +kernel) rfl rfl (Nat.le_of_ble_eq_true rfl) d_Pe_init_14 (fun H locs hP hD hS => ?_)
  have hP : va_P D vwCl (va_pl (L ++ [q_2]) (va_up (va_up (va_up f q (.inr (5, [.int p0, .long 0, .long 0, .null, .null, .int 0, .int 0, .int 0]))) q_2 (.inl (ct 6, 20, .inl (fun _ => 0)))) q (.inr (5, [.int p0, .long 0, .long 0, .ref q_2, .null, .int 0, .int 0, .int 0])))) H := hP
  have hD : va_D A (va_pl (L ++ [q_2]) (va_up (va_up (va_up f q (.inr (5, [.int p0, .long 0, .long 0, .null, .null, .int 0, .int 0, .int 0]))) q_2 (.inl (ct 6, 20, .inl (fun _ => 0)))) q (.inr (5, [.int p0, .long 0, .long 0, .ref q_2, .null, .int 0, .int 0, .int 0])))) := hD
  have e_7 : (va_up (va_up (va_up f q (.inr (5, [.int p0, .long 0, .long 0, .null, .null, .int 0, .int 0, .int 0]))) q_2 (.inl (ct 6, 20, .inl (fun _ => 0)))) q (.inr (5, [.int p0, .long 0, .long 0, .ref q_2, .null, .int 0, .int 0, .int 0]))) q = .inr (5, [.int p0, .long 0, .long 0, .ref q_2, .null, .int 0, .int 0, .int 0]) := va_up_self _ _ _
  have e_8 : (va_up (va_up (va_up f q (.inr (5, [.int p0, .long 0, .long 0, .null, .null, .int 0, .int 0, .int 0]))) q_2 (.inl (ct 6, 20, .inl (fun _ => 0)))) q (.inr (5, [.int p0, .long 0, .long 0, .ref q_2, .null, .int 0, .int 0, .int 0]))) q_2 = .inl (ct 6, 20, .inl (fun _ => 0)) := (va_up_ne _ _ ne_q_2_q).trans e_5
  refine lv_aload_n hx hb d_Pe_init_17 rfl (lv_at hl 0 rfl) ?_
  refine lv_bipush (v := 20) hx hb d_Pe_init_18 (by decide) ?_
  refine pg_newa (atype := .int) (ty := .int) (N' := 20) (a0 := (20, .inl (fun _ => 0))) hx hb (hG _ k415) rfl hK hP hD hS hA (fun _ => rfl) (by decide) (by decide) (by decide) (Nat.le_of_ble_eq_true rfl) (Nat.le_of_ble_eq_true rfl) 6 rfl d_Pe_init_20 (fun q_9 H hn_q_9 hP hD hS => ?_)
  have ne_q_q_9 : q ≠ q_9 := fun h => hn_q_9 (h ▸ m_3)
  have ne_q_9_q : q_9 ≠ q := fun h => ne_q_q_9 h.symm
  have m_10 : q ∈ L ++ [q_2] ++ [q_9] := List.mem_append_left _ m_3
  have ne_q_2_q_9 : q_2 ≠ q_9 := fun h => hn_q_9 (h ▸ m_4)
  have ne_q_9_q_2 : q_9 ≠ q_2 := fun h => ne_q_2_q_9 h.symm
  have m_11 : q_2 ∈ L ++ [q_2] ++ [q_9] := List.mem_append_left _ m_4
  have m_12 : q_9 ∈ L ++ [q_2] ++ [q_9] := List.mem_append_right _ (List.mem_singleton.mpr rfl)
  have hP : va_P D vwCl (va_pl (L ++ [q_2] ++ [q_9]) (va_up (va_up (va_up (va_up f q (.inr (5, [.int p0, .long 0, .long 0, .null, .null, .int 0, .int 0, .int 0]))) q_2 (.inl (ct 6, 20, .inl (fun _ => 0)))) q (.inr (5, [.int p0, .long 0, .long 0, .ref q_2, .null, .int 0, .int 0, .int 0]))) q_9 (.inl (ct 6, 20, .inl (fun _ => 0))))) H := hP
  have hD : va_D A (va_pl (L ++ [q_2] ++ [q_9]) (va_up (va_up (va_up (va_up f q (.inr (5, [.int p0, .long 0, .long 0, .null, .null, .int 0, .int 0, .int 0]))) q_2 (.inl (ct 6, 20, .inl (fun _ => 0)))) q (.inr (5, [.int p0, .long 0, .long 0, .ref q_2, .null, .int 0, .int 0, .int 0]))) q_9 (.inl (ct 6, 20, .inl (fun _ => 0))))) := hD
  have e_13 : (va_up (va_up (va_up (va_up f q (.inr (5, [.int p0, .long 0, .long 0, .null, .null, .int 0, .int 0, .int 0]))) q_2 (.inl (ct 6, 20, .inl (fun _ => 0)))) q (.inr (5, [.int p0, .long 0, .long 0, .ref q_2, .null, .int 0, .int 0, .int 0]))) q_9 (.inl (ct 6, 20, .inl (fun _ => 0)))) q_9 = .inl (ct 6, 20, .inl (fun _ => 0)) := va_up_self _ _ _
  have e_14 : (va_up (va_up (va_up (va_up f q (.inr (5, [.int p0, .long 0, .long 0, .null, .null, .int 0, .int 0, .int 0]))) q_2 (.inl (ct 6, 20, .inl (fun _ => 0)))) q (.inr (5, [.int p0, .long 0, .long 0, .ref q_2, .null, .int 0, .int 0, .int 0]))) q_9 (.inl (ct 6, 20, .inl (fun _ => 0)))) q = .inr (5, [.int p0, .long 0, .long 0, .ref q_2, .null, .int 0, .int 0, .int 0]) := (va_up_ne _ _ ne_q_q_9).trans e_7
  have e_15 : (va_up (va_up (va_up (va_up f q (.inr (5, [.int p0, .long 0, .long 0, .null, .null, .int 0, .int 0, .int 0]))) q_2 (.inl (ct 6, 20, .inl (fun _ => 0)))) q (.inr (5, [.int p0, .long 0, .long 0, .ref q_2, .null, .int 0, .int 0, .int 0]))) q_9 (.inl (ct 6, 20, .inl (fun _ => 0)))) q_2 = .inl (ct 6, 20, .inl (fun _ => 0)) := (va_up_ne _ _ ne_q_2_q_9).trans e_8
  refine pg_putF (C := "SmokeZones$Person") (T := T_Pe) (N := 8) (ty := (.array .int)) hx hb hG in_Pe ty_Pe ok_Pe nm_Pe hown hK hP hD hS m_10 e_14 rfl 4 (by decide) (hG _ k394) (fun _ h9 => h9) rfl hin rfl (by decide +kernel) rfl rfl (Nat.le_of_ble_eq_true rfl) d_Pe_init_22 (fun H locs hP hD hS => ?_)
  have hP : va_P D vwCl (va_pl (L ++ [q_2] ++ [q_9]) (va_up (va_up (va_up (va_up (va_up f q (.inr (5, [.int p0, .long 0, .long 0, .null, .null, .int 0, .int 0, .int 0]))) q_2 (.inl (ct 6, 20, .inl (fun _ => 0)))) q (.inr (5, [.int p0, .long 0, .long 0, .ref q_2, .null, .int 0, .int 0, .int 0]))) q_9 (.inl (ct 6, 20, .inl (fun _ => 0)))) q (.inr (5, [.int p0, .long 0, .long 0, .ref q_2, .ref q_9, .int 0, .int 0, .int 0])))) H := hP
  have hD : va_D A (va_pl (L ++ [q_2] ++ [q_9]) (va_up (va_up (va_up (va_up (va_up f q (.inr (5, [.int p0, .long 0, .long 0, .null, .null, .int 0, .int 0, .int 0]))) q_2 (.inl (ct 6, 20, .inl (fun _ => 0)))) q (.inr (5, [.int p0, .long 0, .long 0, .ref q_2, .null, .int 0, .int 0, .int 0]))) q_9 (.inl (ct 6, 20, .inl (fun _ => 0)))) q (.inr (5, [.int p0, .long 0, .long 0, .ref q_2, .ref q_9, .int 0, .int 0, .int 0])))) := hD
  have e_16 : (va_up (va_up (va_up (va_up (va_up f q (.inr (5, [.int p0, .long 0, .long 0, .null, .null, .int 0, .int 0, .int 0]))) q_2 (.inl (ct 6, 20, .inl (fun _ => 0)))) q (.inr (5, [.int p0, .long 0, .long 0, .ref q_2, .null, .int 0, .int 0, .int 0]))) q_9 (.inl (ct 6, 20, .inl (fun _ => 0)))) q (.inr (5, [.int p0, .long 0, .long 0, .ref q_2, .ref q_9, .int 0, .int 0, .int 0]))) q = .inr (5, [.int p0, .long 0, .long 0, .ref q_2, .ref q_9, .int 0, .int 0, .int 0]) := va_up_self _ _ _
  have e_17 : (va_up (va_up (va_up (va_up (va_up f q (.inr (5, [.int p0, .long 0, .long 0, .null, .null, .int 0, .int 0, .int 0]))) q_2 (.inl (ct 6, 20, .inl (fun _ => 0)))) q (.inr (5, [.int p0, .long 0, .long 0, .ref q_2, .null, .int 0, .int 0, .int 0]))) q_9 (.inl (ct 6, 20, .inl (fun _ => 0)))) q (.inr (5, [.int p0, .long 0, .long 0, .ref q_2, .ref q_9, .int 0, .int 0, .int 0]))) q_2 = .inl (ct 6, 20, .inl (fun _ => 0)) := (va_up_ne _ _ ne_q_2_q).trans e_15
  have e_18 : (va_up (va_up (va_up (va_up (va_up f q (.inr (5, [.int p0, .long 0, .long 0, .null, .null, .int 0, .int 0, .int 0]))) q_2 (.inl (ct 6, 20, .inl (fun _ => 0)))) q (.inr (5, [.int p0, .long 0, .long 0, .ref q_2, .null, .int 0, .int 0, .int 0]))) q_9 (.inl (ct 6, 20, .inl (fun _ => 0)))) q (.inr (5, [.int p0, .long 0, .long 0, .ref q_2, .ref q_9, .int 0, .int 0, .int 0]))) q_9 = .inl (ct 6, 20, .inl (fun _ => 0)) := (va_up_ne _ _ ne_q_9_q).trans e_13
  refine lv_aload_n hx hb d_Pe_init_25 rfl (lv_at hl 0 rfl) ?_
  refine lv_iconst (v := (-1)) hx hb d_Pe_init_26 (by decide) ?_
  refine pg_put (C := "SmokeZones$Person") (T := T_Pe) (N := 8) (ty := .int) hx hb hG in_Pe ty_Pe ok_Pe nm_Pe hown hK hP hD hS m_10 e_16 rfl 6 (by decide) (hG _ k396) (fun _ h9 => h9) rfl (by decide +kernel) rfl rfl (Nat.le_of_ble_eq_true rfl) d_Pe_init_27 (fun H locs hP hD hS => ?_)
  rw [bx_uu] at hP hD
  have hP : va_P D vwCl (va_pl (L ++ [q_2] ++ [q_9]) (va_up (va_up (va_up (va_up (va_up f q (.inr (5, [.int p0, .long 0, .long 0, .null, .null, .int 0, .int 0, .int 0]))) q_2 (.inl (ct 6, 20, .inl (fun _ => 0)))) q (.inr (5, [.int p0, .long 0, .long 0, .ref q_2, .null, .int 0, .int 0, .int 0]))) q_9 (.inl (ct 6, 20, .inl (fun _ => 0)))) q (.inr (5, [.int p0, .long 0, .long 0, .ref q_2, .ref q_9, .int 0, .int (-1), .int 0])))) H := hP
  have hD : va_D A (va_pl (L ++ [q_2] ++ [q_9]) (va_up (va_up (va_up (va_up (va_up f q (.inr (5, [.int p0, .long 0, .long 0, .null, .null, .int 0, .int 0, .int 0]))) q_2 (.inl (ct 6, 20, .inl (fun _ => 0)))) q (.inr (5, [.int p0, .long 0, .long 0, .ref q_2, .null, .int 0, .int 0, .int 0]))) q_9 (.inl (ct 6, 20, .inl (fun _ => 0)))) q (.inr (5, [.int p0, .long 0, .long 0, .ref q_2, .ref q_9, .int 0, .int (-1), .int 0])))) := hD
  have e_19 : (va_up (va_up (va_up (va_up (va_up f q (.inr (5, [.int p0, .long 0, .long 0, .null, .null, .int 0, .int 0, .int 0]))) q_2 (.inl (ct 6, 20, .inl (fun _ => 0)))) q (.inr (5, [.int p0, .long 0, .long 0, .ref q_2, .null, .int 0, .int 0, .int 0]))) q_9 (.inl (ct 6, 20, .inl (fun _ => 0)))) q (.inr (5, [.int p0, .long 0, .long 0, .ref q_2, .ref q_9, .int 0, .int (-1), .int 0]))) q = .inr (5, [.int p0, .long 0, .long 0, .ref q_2, .ref q_9, .int 0, .int (-1), .int 0]) := va_up_self _ _ _
  have e_20 : (va_up (va_up (va_up (va_up (va_up f q (.inr (5, [.int p0, .long 0, .long 0, .null, .null, .int 0, .int 0, .int 0]))) q_2 (.inl (ct 6, 20, .inl (fun _ => 0)))) q (.inr (5, [.int p0, .long 0, .long 0, .ref q_2, .null, .int 0, .int 0, .int 0]))) q_9 (.inl (ct 6, 20, .inl (fun _ => 0)))) q (.inr (5, [.int p0, .long 0, .long 0, .ref q_2, .ref q_9, .int 0, .int (-1), .int 0]))) q_2 = .inl (ct 6, 20, .inl (fun _ => 0)) := (va_up_ne _ _ ne_q_2_q).trans e_15
  have e_21 : (va_up (va_up (va_up (va_up (va_up f q (.inr (5, [.int p0, .long 0, .long 0, .null, .null, .int 0, .int 0, .int 0]))) q_2 (.inl (ct 6, 20, .inl (fun _ => 0)))) q (.inr (5, [.int p0, .long 0, .long 0, .ref q_2, .null, .int 0, .int 0, .int 0]))) q_9 (.inl (ct 6, 20, .inl (fun _ => 0)))) q (.inr (5, [.int p0, .long 0, .long 0, .ref q_2, .ref q_9, .int 0, .int (-1), .int 0]))) q_9 = .inl (ct 6, 20, .inl (fun _ => 0)) := (va_up_ne _ _ ne_q_9_q).trans e_13
  have hF : (va_up (va_up (va_up (va_up (va_up f q (.inr (5, [.int p0, .long 0, .long 0, .null, .null, .int 0, .int 0, .int 0]))) q_2 (.inl (ct 6, 20, .inl (fun _ => 0)))) q (.inr (5, [.int p0, .long 0, .long 0, .ref q_2, .null, .int 0, .int 0, .int 0]))) q_9 (.inl (ct 6, 20, .inl (fun _ => 0)))) q (.inr (5, [.int p0, .long 0, .long 0, .ref q_2, .ref q_9, .int 0, .int (-1), .int 0]))) = PeF f q_2 q_9 q ct p0 := by
    funext j
    by_cases h : j = q
    · simp [va_up, h, PeF]
    · simp [va_up, h, PeF]
  rw [hF] at hP hD
  exact W.vret hx hb hret (fun t ht hW => ⟨⟨(q_2, q_9), rfl, ⟨hn_q_2, hn_q_9⟩, by rw [ht]; exact hP, va_K.moved hW.alike hK, hD⟩, hS.F ht⟩) hS.2.2 d_Pe_init_30
