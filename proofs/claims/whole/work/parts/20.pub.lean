abbrev I2 : Type := Nat → Nat → Int32
abbrev J2 : Type := Nat → Nat → Int64
abbrev P2 : Type := Nat → Nat → Nat
def nwRoI (I : I2) (m : Nat) (a h : Int32) : I2 := up2 (up2 (up2 (up2 (up2 I 0 m a) 1 m h) 2 m (-1)) 3 m 0) 4 m (-1)
def nwRoJ (J : J2) (m : Nat) (a h : Int32) : J2 := up2 (up2 (up2 J 0 m (Int32.toInt64 a * Int32.toInt64 h)) 1 m 0) 2 m 0
def nwOpI (I : I2) (m : Nat) (w s t : Int32) : I2 := up2 (up2 (up2 (up2 (up2 I 12 m w) 13 m s) 14 m t) 15 m (-1)) 16 m 0
def nwOpJ (J : J2) (m : Nat) : J2 := up2 (up2 (up2 J 10 m 0) 11 m 0) 12 m 0
def nwOpP (P : P2) (m r g : Nat) : P2 := up2 (up2 P 1 m r) 2 m g
def nwFiI (I : I2) (m : Nat) (a b c d : Int32) : I2 := up2 (up2 (up2 (up2 I 21 m a) 22 m b) 23 m c) 24 m d
def nwFaI (I : I2) (m : Nat) (a b : Int32) : I2 := up2 (up2 I 31 m a) 32 m b
def nwStI (I : I2) (m : Nat) (a : Int32) : I2 := up2 (up2 I 41 m a) 42 m 0
def farIx (p : Int32) : Nat := if p = (-1) then 0 else p.toNatClampNeg + 1
def kdRoom (n : Nat → Nat) (a h : Int32) : Int32 := if 1 ≤ a ∧ a ≤ 10000 then (if 1 ≤ h ∧ h ≤ 100 then (if nI (n 0) < 10 then 0 else 2) else 1) else 1
def kdFire (n : Nat → Nat) (I : I2) (p1 p2 p3 p4 p5 : Int32) : Int32 := if 0 ≤ p1 ∧ p1 < nI (n 0) then (if I 99 0 ≤ p2 ∧ p2 ≤ 100000 then (if 1 ≤ p3 ∧ p3 ≤ 1000 then (if 1 ≤ p4 ∧ p4 ≤ 100000 then (if 0 ≤ p5 ∧ p5 ≤ 1000 then (if nI (n 2) < 5 then 0 else 2) else 1) else 1) else 1) else 1) else 1
def kdFan (n : Nat → Nat) (I : I2) (p1 p2 p3 : Int32) : Int32 := if 0 ≤ p1 ∧ p1 < nI (n 0) then (if I 99 0 ≤ p2 ∧ p2 ≤ 100000 then (if 1 ≤ p3 ∧ p3 ≤ 100000 then (if nI (n 3) < 9 then 0 else 2) else 1) else 1) else 1
def kdSteel (n : Nat → Nat) (p1 p2 : Int32) : Int32 := if 0 ≤ p1 ∧ p1 < nI (n 0) then (if 1 ≤ p2 ∧ p2 ≤ 1000 then (if nI (n 4) < 9 then 0 else 2) else 1) else 1
def kdOpen (n : Nat → Nat) (I : I2) (p1 p2 p3 p4 p5 : Int32) : Int32 := if 0 ≤ p1 ∧ p1 < nI (n 0) then (if p2 = (-1) ∨ ¬ m_isR (n 0) p2 = 0 then (if p1 = p2 then 1 else (if 1 ≤ p3 ∧ p3 ≤ 50 then (if 1 ≤ p5 ∧ p5 ≤ I 1 p1.toNatClampNeg then (if 0 ≤ p4 ∧ p4 ≤ p5 - 1 then (if p2 = (-1) then (if nI (n 1) < 15 then 0 else 2) else (if I 1 p2.toNatClampNeg < p5 then 1 else (if nI (n 1) < 15 then 0 else 2))) else 1) else 1) else 1)) else 1) else 1

set_option maxHeartbeats 4000000 in
set_option maxRecDepth 100000 in
theorem c_Sz_room {l : Launch} (hl0 : l.stackTraces = false) {D : va_G} {ct : Nat → ClassId} {AD : Nat → Nat → Nat} {L : List Nat} {f : Nat → va_E} {sz : Nat} {n : Nat → Nat} {I : Nat → Nat → Int32} {J : Nat → Nat → Int64} {P : Nat → Nat → Nat} {sa sb : Nat} {p1 p2 : Int32} (hCW : CW ct AD L n I J P f)  : vx_Met l y_Sz_room (WS y_Sz_room b_Sz_room 3 (some .int)) { frames := 8, cells := 12, slots := 100, locals := 132 } (va_Pc [.ref (AD 9 0), .int p1, .int p2] (MP D ct L f sa sb sz)) (va_Qi (fun (r : Int32) (u : CSt) => (kdRoom n p1 p2) = 0 ∧ r = nI (n 0) ∧ CW ct u.1 u.2.1 (va_up n 0 (n 0 + 1)) (nwRoI I (n 0) p1 p2) (nwRoJ J (n 0) p1 p2) P u.2.2 ∧ u.1 9 0 = AD 9 0) (fun u t => WQ D (TYS ct) u.2.1 u.2.2 (AA L f sz) t) (AA L f sz)) (XE D ct L f (AA L f sz) (kdRoom n p1 p2)) 12 100 (AA L f sz) := by
  refine vx_ofW (cc := b_Sz_room) (maxL := 3) (ret := (some .int)) (by decide) rfl ?_
  intro p e s m args below meth c s₁ B hml htab hv
  obtain ⟨rfl, hsz, hP, hK, hD0, hE⟩ := hv
  subst hsz
  have hx := B.exec
  have hb := B.bytes
  have hret := B.returns
  have hts := atoms_spec (ws := WS y_Sz_room b_Sz_room 3 (some .int)) B.pre
  have hG : ∀ w ∈ GW, w.before _ s = true := fun w h => hts w (List.mem_cons_of_mem _ h)
  have hown : s.vm.findClass "SmokeZones" = some m.cls := findClass_of_methodNamed B.named
  have hlocks := B.notSynchronized
  have hD : va_D (AA L f s.heap.size) (va_pl L f) := hD0.self (sz := s.heap.size)
  generalize hAe : AA L f s.heap.size = A at hD hE ⊢
  have hA : ∀ q : Nat, s.heap.size ≤ q → A q := fun q h => by rw [← hAe]; exact Or.inr h
  have hS : va_S A s.heap s.heap [] := va_S.rf
  have hl := lv_entry ([.ref (AD 9 0), .int p1, .int p2]) (n := 3) (Nat.le_of_ble_eq_true rfl)
  rw [lg_entry_eq]
  generalize (lg_sl ([.ref (AD 9 0), .int p1, .int p2]) ++ List.replicate (3 - (lg_sl ([.ref (AD 9 0), .int p1, .int p2])).length) Slot.unset).toArray = ls at hl ⊢
  have hl : lv_has ls 3 [(0, .ref (AD 9 0)), (1, .int p1), (2, .int p2)] := hl
  obtain ⟨g0L, g0E⟩ := hCW.ma
  have hc0 := hCW.cap0
  have hc1 := hCW.cap1
  have hc2 := hCW.cap2
  have hc3 := hCW.cap3
  have hc4 := hCW.cap4
  have hc5 := hCW.cap5
  refine lv_iload_n hx hb d_Sz_room_0 rfl (lv_at hl 1 rfl) ?_
  refine lv_iconst (v := 1) hx hb d_Sz_room_1 (by decide) ?_
  refine lv_sipush (v := 10000) hx hb d_Sz_room_2 (by decide) ?_
  refine kS_ck ⟨hx, hb, hml, hown, hG⟩ (c_Sz_needBetween hl0 ) (cwS 3 hG (gS k96 k97 k1 k98) rfl rfl rfl hd_Sz_needBetween ⟨Nat.le_of_ble_eq_true rfl, Nat.le_of_ble_eq_true rfl⟩) hK hP hS hA hE rfl hl.1 rfl (Nat.le_of_ble_eq_true rfl) ⟨Nat.le_of_ble_eq_true rfl, Nat.le_of_ble_eq_true rfl⟩ d_Sz_room_5 (fun k_1 ce q9 H1 locs hz hk hS h1 h2 h3 => ?_) (fun k_1 locs hS => ?_)
  · exact vx_out (fun x hx9 => (htab x hx9).elim) hlocks h1 h2 h3 (fun t ht hvm => ⟨(), trivial, ⟨Or.inl ⟨(by simp only [kdRoom, if_neg k_1]), rfl⟩, by rw [ht]; exact P_keep hP hk, va_K.moved hvm hK, hD⟩, hS.F ht⟩) hS.2.2 (by decide) (by decide)
  · refine lv_iload_n hx hb d_Sz_room_8 rfl (lv_at hl 2 rfl) ?_
    refine lv_iconst (v := 1) hx hb d_Sz_room_9 (by decide) ?_
    refine lv_bipush (v := 100) hx hb d_Sz_room_10 (by decide) ?_
    refine kS_ck ⟨hx, hb, hml, hown, hG⟩ (c_Sz_needBetween hl0 ) (cwS 3 hG (gS k96 k97 k1 k98) rfl rfl rfl hd_Sz_needBetween ⟨Nat.le_of_ble_eq_true rfl, Nat.le_of_ble_eq_true rfl⟩) hK hP hS hA hE rfl hl.1 rfl (Nat.le_of_ble_eq_true rfl) ⟨Nat.le_of_ble_eq_true rfl, Nat.le_of_ble_eq_true rfl⟩ d_Sz_room_12 (fun k_2 ce q9 H1 locs hz hk hS h1 h2 h3 => ?_) (fun k_2 locs hS => ?_)
    · exact vx_out (fun x hx9 => (htab x hx9).elim) hlocks h1 h2 h3 (fun t ht hvm => ⟨(), trivial, ⟨Or.inl ⟨(by simp only [kdRoom, if_pos k_1, if_neg k_2]), rfl⟩, by rw [ht]; exact P_keep hP hk, va_K.moved hvm hK, hD⟩, hS.F ht⟩) hS.2.2 (by decide) (by decide)
    · refine lv_aload_n hx hb d_Sz_room_15 rfl (lv_at hl 0 rfl) ?_
      refine pg_get (C := "SmokeZones") (T := T_Sz) (N := 17) hx hb hG in_Sz hown hK hP g0L g0E rfl 6 (by decide) (hG _ k41) (fun _ h9 => h9) rfl d_Sz_room_16 ?_
      refine lv_bipush (v := 10) hx hb d_Sz_room_19 (by decide) ?_
      refine kS_ck ⟨hx, hb, hml, hown, hG⟩ (c_Sz_needSpace hl0 ) (cwS 2 hG (gS k169 k170 k1 k171) rfl rfl rfl hd_Sz_needSpace ⟨Nat.le_of_ble_eq_true rfl, Nat.le_of_ble_eq_true rfl⟩) hK hP hS hA hE rfl hl.1 rfl (Nat.le_of_ble_eq_true rfl) ⟨Nat.le_of_ble_eq_true rfl, Nat.le_of_ble_eq_true rfl⟩ d_Sz_room_21 (fun k_3 ce q9 H1 locs hz hk hS h1 h2 h3 => ?_) (fun k_3 locs hS => ?_)
      · exact vx_out (fun x hx9 => (htab x hx9).elim) hlocks h1 h2 h3 (fun t ht hvm => ⟨(), trivial, ⟨Or.inr ⟨(by simp only [kdRoom, if_pos k_1, if_pos k_2, if_neg k_3]), rfl⟩, by rw [ht]; exact P_keep hP hk, va_K.moved hvm hK, hD⟩, hS.F ht⟩) hS.2.2 (by decide) (by decide)
      · have hlt : n 0 < 10 := nI_lt_of (b := 10) (by omega) (by decide) k_3
        obtain ⟨g_4L, g_4E⟩ := hCW.a0
        have ne_AD_9_0_AD_8_0 : AD 9 0 ≠ AD 8 0 := hCW.ne (k := 9) (i := 0) (k' := 8) (i' := 0) (lv9) (lv8 (by decide)) (by omega)
        have ne_AD_8_0_AD_9_0 : AD 8 0 ≠ AD 9 0 := hCW.ne (k := 8) (i := 0) (k' := 9) (i' := 0) (lv8 (by decide)) (lv9) (by omega)
        refine lv_aload_n hx hb d_Sz_room_24 rfl (lv_at hl 0 rfl) ?_
        refine pg_get (C := "SmokeZones") (T := T_Sz) (N := 17) hx hb hG in_Sz hown hK hP g0L g0E rfl 0 (by decide) (hG _ k35) (fun _ h9 => h9) rfl d_Sz_room_25 ?_
        refine lv_aload_n hx hb d_Sz_room_28 rfl (lv_at hl 0 rfl) ?_
        refine pg_get (C := "SmokeZones") (T := T_Sz) (N := 17) hx hb hG in_Sz hown hK hP g0L g0E rfl 6 (by decide) (hG _ k41) (fun _ h9 => h9) rfl d_Sz_room_29 ?_
        refine pg_new (ci := 0) (fs := [.int 0, .int 0, .long 0, .long 0, .long 0, .int 0, .int 0, .int 0]) (C := "SmokeZones$Room") (T := T_Ro) (N := 8) hx hb hG in_Ro ty_Ro ok_Ro hown (hG _ k23) (hG _ k191) (hG _ k8) hK hP hD hS hA rfl (fun j hj => by first | (rcases lt8 hj with rfl | rfl | rfl | rfl | rfl | rfl | rfl | rfl <;> rfl)) (Nat.le_of_ble_eq_true rfl) (Nat.le_of_ble_eq_true rfl) d_Sz_room_32 (fun q_5 H hn_q_5 hP hD hS => ?_)
        have ne_AD_9_0_q_5 : AD 9 0 ≠ q_5 := fun h => hn_q_5 (h ▸ g0L)
        have ne_q_5_AD_9_0 : q_5 ≠ AD 9 0 := fun h => ne_AD_9_0_q_5 h.symm
        have m_6 : AD 9 0 ∈ L ++ [q_5] := List.mem_append_left _ g0L
        have ne_AD_8_0_q_5 : AD 8 0 ≠ q_5 := fun h => hn_q_5 (h ▸ g_4L)
        have ne_q_5_AD_8_0 : q_5 ≠ AD 8 0 := fun h => ne_AD_8_0_q_5 h.symm
        have m_7 : AD 8 0 ∈ L ++ [q_5] := List.mem_append_left _ g_4L
        have m_8 : q_5 ∈ L ++ [q_5] := List.mem_append_right _ (List.mem_singleton.mpr rfl)
        have hP : va_P D vwCl (va_pl (L ++ [q_5]) (va_up f q_5 (.inr (0, [.int 0, .int 0, .long 0, .long 0, .long 0, .int 0, .int 0, .int 0])))) H := hP
        have hD : va_D A (va_pl (L ++ [q_5]) (va_up f q_5 (.inr (0, [.int 0, .int 0, .long 0, .long 0, .long 0, .int 0, .int 0, .int 0])))) := hD
        have e_9 : (va_up f q_5 (.inr (0, [.int 0, .int 0, .long 0, .long 0, .long 0, .int 0, .int 0, .int 0]))) q_5 = .inr (0, [.int 0, .int 0, .long 0, .long 0, .long 0, .int 0, .int 0, .int 0]) := va_up_self _ _ _
        have e_10 : (va_up f q_5 (.inr (0, [.int 0, .int 0, .long 0, .long 0, .long 0, .int 0, .int 0, .int 0]))) (AD 9 0) = .inr (6, [.ref (AD 8 0), .ref (AD 8 1), .ref (AD 8 2), .ref (AD 8 3), .ref (AD 8 4), .ref (AD 8 5), .int (nI (n 0)), .int (nI (n 1)), .int (nI (n 2)), .int (nI (n 3)), .int (nI (n 4)), .int (nI (n 5)), .int (I 99 0), .long (J 99 0), .long (J 99 1), .long (J 99 2), .long (J 99 3)]) := (va_up_ne _ _ ne_AD_9_0_q_5).trans g0E
        have e_11 : (va_up f q_5 (.inr (0, [.int 0, .int 0, .long 0, .long 0, .long 0, .int 0, .int 0, .int 0]))) (AD 8 0) = .inl (ct 0, 10, .inr (.inr (.inr (.inr (fun j => if j < n 0 then some (AD 0 j) else none))))) := (va_up_ne _ _ ne_AD_8_0_q_5).trans g_4E
        refine lv_dup hx hb d_Sz_room_35 rfl ?_
        refine lv_iload_n hx hb d_Sz_room_36 rfl (lv_at hl 1 rfl) ?_
        refine lv_iload_n hx hb d_Sz_room_37 rfl (lv_at hl 2 rfl) ?_
        refine kI_wv (f' := va_up (va_up f q_5 (.inr (0, [.int 0, .int 0, .long 0, .long 0, .long 0, .int 0, .int 0, .int 0]))) q_5 (.inr (0, [.int p1, .int p2, .long (Int32.toInt64 p1 * Int32.toInt64 p2), .long 0, .long 0, .int (-1), .int 0, .int (-1)]))) ⟨hx, hb, hml, hown, hG⟩ (c_Ro_init m_8 e_9) (cwI 2 hG (gw_c k194) rfl rfl rfl (hG _ k8) (hG _ k192) (hG _ k193) rfl hd_Ro_init ⟨Nat.le_of_ble_eq_true rfl, Nat.le_of_ble_eq_true rfl⟩) hK hP hD hS hA rfl hl.1 rfl (Nat.le_of_ble_eq_true rfl) ⟨Nat.le_of_ble_eq_true rfl, Nat.le_of_ble_eq_true rfl⟩ d_Sz_room_38 (fun H locs hP hD hS => ?_)
        rw [bx_uu] at hP hD
        have hP : va_P D vwCl (va_pl (L ++ [q_5]) (va_up f q_5 (.inr (0, [.int p1, .int p2, .long (Int32.toInt64 p1 * Int32.toInt64 p2), .long 0, .long 0, .int (-1), .int 0, .int (-1)])))) H := hP
        have hD : va_D A (va_pl (L ++ [q_5]) (va_up f q_5 (.inr (0, [.int p1, .int p2, .long (Int32.toInt64 p1 * Int32.toInt64 p2), .long 0, .long 0, .int (-1), .int 0, .int (-1)])))) := hD
        have e_12 : (va_up f q_5 (.inr (0, [.int p1, .int p2, .long (Int32.toInt64 p1 * Int32.toInt64 p2), .long 0, .long 0, .int (-1), .int 0, .int (-1)]))) q_5 = .inr (0, [.int p1, .int p2, .long (Int32.toInt64 p1 * Int32.toInt64 p2), .long 0, .long 0, .int (-1), .int 0, .int (-1)]) := va_up_self _ _ _
        have e_13 : (va_up f q_5 (.inr (0, [.int p1, .int p2, .long (Int32.toInt64 p1 * Int32.toInt64 p2), .long 0, .long 0, .int (-1), .int 0, .int (-1)]))) (AD 9 0) = .inr (6, [.ref (AD 8 0), .ref (AD 8 1), .ref (AD 8 2), .ref (AD 8 3), .ref (AD 8 4), .ref (AD 8 5), .int (nI (n 0)), .int (nI (n 1)), .int (nI (n 2)), .int (nI (n 3)), .int (nI (n 4)), .int (nI (n 5)), .int (I 99 0), .long (J 99 0), .long (J 99 1), .long (J 99 2), .long (J 99 3)]) := (va_up_ne _ _ ne_AD_9_0_q_5).trans g0E
        have e_14 : (va_up f q_5 (.inr (0, [.int p1, .int p2, .long (Int32.toInt64 p1 * Int32.toInt64 p2), .long 0, .long 0, .int (-1), .int 0, .int (-1)]))) (AD 8 0) = .inl (ct 0, 10, .inr (.inr (.inr (.inr (fun j => if j < n 0 then some (AD 0 j) else none))))) := (va_up_ne _ _ ne_AD_8_0_q_5).trans g_4E
        refine pg_astq hx hb hK hP hD hS 0 0 m_7 e_14 rfl m_8 e_12 rfl (vp_in_nI hlt (by decide)) d_Sz_room_41 (fun H locs hP hD hS => ?_)
        have hP : va_P D vwCl (va_pl (L ++ [q_5]) (va_up (va_up f q_5 (.inr (0, [.int p1, .int p2, .long (Int32.toInt64 p1 * Int32.toInt64 p2), .long 0, .long 0, .int (-1), .int 0, .int (-1)]))) (AD 8 0) (.inl (ct 0, 10, .inr (.inr (.inr (.inr (va_up (fun j => if j < n 0 then some (AD 0 j) else none) (Int32.toNatClampNeg (nI (n 0))) (some q_5))))))))) H := hP
        have hD : va_D A (va_pl (L ++ [q_5]) (va_up (va_up f q_5 (.inr (0, [.int p1, .int p2, .long (Int32.toInt64 p1 * Int32.toInt64 p2), .long 0, .long 0, .int (-1), .int 0, .int (-1)]))) (AD 8 0) (.inl (ct 0, 10, .inr (.inr (.inr (.inr (va_up (fun j => if j < n 0 then some (AD 0 j) else none) (Int32.toNatClampNeg (nI (n 0))) (some q_5))))))))) := hD
        have e_15 : (va_up (va_up f q_5 (.inr (0, [.int p1, .int p2, .long (Int32.toInt64 p1 * Int32.toInt64 p2), .long 0, .long 0, .int (-1), .int 0, .int (-1)]))) (AD 8 0) (.inl (ct 0, 10, .inr (.inr (.inr (.inr (va_up (fun j => if j < n 0 then some (AD 0 j) else none) (Int32.toNatClampNeg (nI (n 0))) (some q_5)))))))) (AD 8 0) = .inl (ct 0, 10, .inr (.inr (.inr (.inr (va_up (fun j => if j < n 0 then some (AD 0 j) else none) (Int32.toNatClampNeg (nI (n 0))) (some q_5)))))) := va_up_self _ _ _
        have e_16 : (va_up (va_up f q_5 (.inr (0, [.int p1, .int p2, .long (Int32.toInt64 p1 * Int32.toInt64 p2), .long 0, .long 0, .int (-1), .int 0, .int (-1)]))) (AD 8 0) (.inl (ct 0, 10, .inr (.inr (.inr (.inr (va_up (fun j => if j < n 0 then some (AD 0 j) else none) (Int32.toNatClampNeg (nI (n 0))) (some q_5)))))))) (AD 9 0) = .inr (6, [.ref (AD 8 0), .ref (AD 8 1), .ref (AD 8 2), .ref (AD 8 3), .ref (AD 8 4), .ref (AD 8 5), .int (nI (n 0)), .int (nI (n 1)), .int (nI (n 2)), .int (nI (n 3)), .int (nI (n 4)), .int (nI (n 5)), .int (I 99 0), .long (J 99 0), .long (J 99 1), .long (J 99 2), .long (J 99 3)]) := (va_up_ne _ _ ne_AD_9_0_AD_8_0).trans e_13
        have e_17 : (va_up (va_up f q_5 (.inr (0, [.int p1, .int p2, .long (Int32.toInt64 p1 * Int32.toInt64 p2), .long 0, .long 0, .int (-1), .int 0, .int (-1)]))) (AD 8 0) (.inl (ct 0, 10, .inr (.inr (.inr (.inr (va_up (fun j => if j < n 0 then some (AD 0 j) else none) (Int32.toNatClampNeg (nI (n 0))) (some q_5)))))))) q_5 = .inr (0, [.int p1, .int p2, .long (Int32.toInt64 p1 * Int32.toInt64 p2), .long 0, .long 0, .int (-1), .int 0, .int (-1)]) := (va_up_ne _ _ ne_q_5_AD_8_0).trans e_12
        refine lv_aload_n hx hb d_Sz_room_42 rfl (lv_at hl 0 rfl) ?_
        refine lv_dup hx hb d_Sz_room_43 rfl ?_
        refine pg_get (C := "SmokeZones") (T := T_Sz) (N := 17) hx hb hG in_Sz hown hK hP m_6 e_16 rfl 6 (by decide) (hG _ k41) (fun _ h9 => h9) rfl d_Sz_room_44 ?_
        refine lv_iconst (v := 1) hx hb d_Sz_room_47 (by decide) ?_
        refine lv_iadd hx hb d_Sz_room_48 ?_
        refine pg_put (C := "SmokeZones") (T := T_Sz) (N := 17) (ty := .int) hx hb hG in_Sz ty_Sz ok_Sz nm_Sz hown hK hP hD hS m_6 e_16 rfl 6 (by decide) (hG _ k41) (fun _ h9 => h9) rfl (by decide +kernel) rfl rfl (Nat.le_of_ble_eq_true rfl) d_Sz_room_49 (fun H locs hP hD hS => ?_)
        have hP : va_P D vwCl (va_pl (L ++ [q_5]) (va_up (va_up (va_up f q_5 (.inr (0, [.int p1, .int p2, .long (Int32.toInt64 p1 * Int32.toInt64 p2), .long 0, .long 0, .int (-1), .int 0, .int (-1)]))) (AD 8 0) (.inl (ct 0, 10, .inr (.inr (.inr (.inr (va_up (fun j => if j < n 0 then some (AD 0 j) else none) (Int32.toNatClampNeg (nI (n 0))) (some q_5)))))))) (AD 9 0) (.inr (6, [.ref (AD 8 0), .ref (AD 8 1), .ref (AD 8 2), .ref (AD 8 3), .ref (AD 8 4), .ref (AD 8 5), .int ((nI (n 0)) + 1), .int (nI (n 1)), .int (nI (n 2)), .int (nI (n 3)), .int (nI (n 4)), .int (nI (n 5)), .int (I 99 0), .long (J 99 0), .long (J 99 1), .long (J 99 2), .long (J 99 3)])))) H := hP
        have hD : va_D A (va_pl (L ++ [q_5]) (va_up (va_up (va_up f q_5 (.inr (0, [.int p1, .int p2, .long (Int32.toInt64 p1 * Int32.toInt64 p2), .long 0, .long 0, .int (-1), .int 0, .int (-1)]))) (AD 8 0) (.inl (ct 0, 10, .inr (.inr (.inr (.inr (va_up (fun j => if j < n 0 then some (AD 0 j) else none) (Int32.toNatClampNeg (nI (n 0))) (some q_5)))))))) (AD 9 0) (.inr (6, [.ref (AD 8 0), .ref (AD 8 1), .ref (AD 8 2), .ref (AD 8 3), .ref (AD 8 4), .ref (AD 8 5), .int ((nI (n 0)) + 1), .int (nI (n 1)), .int (nI (n 2)), .int (nI (n 3)), .int (nI (n 4)), .int (nI (n 5)), .int (I 99 0), .long (J 99 0), .long (J 99 1), .long (J 99 2), .long (J 99 3)])))) := hD
        have e_18 : (va_up (va_up (va_up f q_5 (.inr (0, [.int p1, .int p2, .long (Int32.toInt64 p1 * Int32.toInt64 p2), .long 0, .long 0, .int (-1), .int 0, .int (-1)]))) (AD 8 0) (.inl (ct 0, 10, .inr (.inr (.inr (.inr (va_up (fun j => if j < n 0 then some (AD 0 j) else none) (Int32.toNatClampNeg (nI (n 0))) (some q_5)))))))) (AD 9 0) (.inr (6, [.ref (AD 8 0), .ref (AD 8 1), .ref (AD 8 2), .ref (AD 8 3), .ref (AD 8 4), .ref (AD 8 5), .int ((nI (n 0)) + 1), .int (nI (n 1)), .int (nI (n 2)), .int (nI (n 3)), .int (nI (n 4)), .int (nI (n 5)), .int (I 99 0), .long (J 99 0), .long (J 99 1), .long (J 99 2), .long (J 99 3)]))) (AD 9 0) = .inr (6, [.ref (AD 8 0), .ref (AD 8 1), .ref (AD 8 2), .ref (AD 8 3), .ref (AD 8 4), .ref (AD 8 5), .int ((nI (n 0)) + 1), .int (nI (n 1)), .int (nI (n 2)), .int (nI (n 3)), .int (nI (n 4)), .int (nI (n 5)), .int (I 99 0), .long (J 99 0), .long (J 99 1), .long (J 99 2), .long (J 99 3)]) := va_up_self _ _ _
        have e_19 : (va_up (va_up (va_up f q_5 (.inr (0, [.int p1, .int p2, .long (Int32.toInt64 p1 * Int32.toInt64 p2), .long 0, .long 0, .int (-1), .int 0, .int (-1)]))) (AD 8 0) (.inl (ct 0, 10, .inr (.inr (.inr (.inr (va_up (fun j => if j < n 0 then some (AD 0 j) else none) (Int32.toNatClampNeg (nI (n 0))) (some q_5)))))))) (AD 9 0) (.inr (6, [.ref (AD 8 0), .ref (AD 8 1), .ref (AD 8 2), .ref (AD 8 3), .ref (AD 8 4), .ref (AD 8 5), .int ((nI (n 0)) + 1), .int (nI (n 1)), .int (nI (n 2)), .int (nI (n 3)), .int (nI (n 4)), .int (nI (n 5)), .int (I 99 0), .long (J 99 0), .long (J 99 1), .long (J 99 2), .long (J 99 3)]))) (AD 8 0) = .inl (ct 0, 10, .inr (.inr (.inr (.inr (va_up (fun j => if j < n 0 then some (AD 0 j) else none) (Int32.toNatClampNeg (nI (n 0))) (some q_5)))))) := (va_up_ne _ _ ne_AD_8_0_AD_9_0).trans e_15
        have e_20 : (va_up (va_up (va_up f q_5 (.inr (0, [.int p1, .int p2, .long (Int32.toInt64 p1 * Int32.toInt64 p2), .long 0, .long 0, .int (-1), .int 0, .int (-1)]))) (AD 8 0) (.inl (ct 0, 10, .inr (.inr (.inr (.inr (va_up (fun j => if j < n 0 then some (AD 0 j) else none) (Int32.toNatClampNeg (nI (n 0))) (some q_5)))))))) (AD 9 0) (.inr (6, [.ref (AD 8 0), .ref (AD 8 1), .ref (AD 8 2), .ref (AD 8 3), .ref (AD 8 4), .ref (AD 8 5), .int ((nI (n 0)) + 1), .int (nI (n 1)), .int (nI (n 2)), .int (nI (n 3)), .int (nI (n 4)), .int (nI (n 5)), .int (I 99 0), .long (J 99 0), .long (J 99 1), .long (J 99 2), .long (J 99 3)]))) q_5 = .inr (0, [.int p1, .int p2, .long (Int32.toInt64 p1 * Int32.toInt64 p2), .long 0, .long 0, .int (-1), .int 0, .int (-1)]) := (va_up_ne _ _ ne_q_5_AD_9_0).trans e_17
        refine lv_aload_n hx hb d_Sz_room_52 rfl (lv_at hl 0 rfl) ?_
        refine pg_get (C := "SmokeZones") (T := T_Sz) (N := 17) hx hb hG in_Sz hown hK hP m_6 e_18 rfl 6 (by decide) (hG _ k41) (fun _ h9 => h9) rfl d_Sz_room_53 ?_
        refine lv_iconst (v := 1) hx hb d_Sz_room_56 (by decide) ?_
        refine lv_isub hx hb d_Sz_room_57 ?_
        have hN : CW ct (up2 AD 0 (n 0) q_5) (L ++ [q_5]) (va_up n 0 ((n 0) + 1)) (nwRoI I (n 0) p1 p2) (nwRoJ J (n 0) p1 p2) P (va_up (va_up (va_up f q_5 (.inr (0, [.int p1, .int p2, .long (Int32.toInt64 p1 * Int32.toInt64 p2), .long 0, .long 0, .int (-1), .int 0, .int (-1)]))) (AD 8 0) (.inl (ct 0, 10, .inr (.inr (.inr (.inr (va_up (fun j => if j < n 0 then some (AD 0 j) else none) (Int32.toNatClampNeg (nI (n 0))) (some q_5)))))))) (AD 9 0) (.inr (6, [.ref (AD 8 0), .ref (AD 8 1), .ref (AD 8 2), .ref (AD 8 3), .ref (AD 8 4), .ref (AD 8 5), .int ((nI (n 0)) + 1), .int (nI (n 1)), .int (nI (n 2)), .int (nI (n 3)), .int (nI (n 4)), .int (nI (n 5)), .int (I 99 0), .long (J 99 0), .long (J 99 1), .long (J 99 2), .long (J 99 3)]))) := by
          refine hCW.push (k := 0) (by decide) hn_q_5 (co_grow hCW.2.2 (by decide) (fun a b h => by unfold nwRoI; repeat' (first | rfl | rw [up2_ne _ _ _ _ (by omega)])) (fun a b h => by unfold nwRoJ; repeat' (first | rfl | rw [up2_ne _ _ _ _ (by omega)])) (fun _ _ _ => rfl)) ?_ ?_ ?_ ?_ (inv_grow hCW.2.2 (by decide) hlt (fun _ _ _ => rfl) (fun h => by omega) (fun h => by omega) (fun h => by omega) (fun h => by omega))
          · rw [e_20]; simp [cellOf, roomE, openE, fireE, fanE, steelE, farV, up2, va_up, nwRoI, nwRoJ]
          · rw [e_19, rf_push (k := 0) (by omega)]; simp [cellOf, cap, up2, va_up]
          · rw [e_18]; simp [cellOf, mainE, up2, va_up, nI_1, nwRoI, nwRoJ]
          · intro a h1 h2 h3; simp [va_up, h1, h2, h3]
        have had9 : up2 AD 0 (n 0) q_5 9 0 = AD 9 0 := up2_ne _ _ _ _ (by omega)
        refine W.widen (k := 12) (n := 100) (by decide) (by decide) ?_
        exact vx_ret (W.iret hx hb hret (fun t ht hW => ⟨⟨_, ((up2 AD 0 (n 0) q_5), (L ++ [q_5]), va_up (va_up (va_up f q_5 (.inr (0, [.int p1, .int p2, .long (Int32.toInt64 p1 * Int32.toInt64 p2), .long 0, .long 0, .int (-1), .int 0, .int (-1)]))) (AD 8 0) (.inl (ct 0, 10, .inr (.inr (.inr (.inr (va_up (fun j => if j < n 0 then some (AD 0 j) else none) (Int32.toNatClampNeg (nI (n 0))) (some q_5)))))))) (AD 9 0) (.inr (6, [.ref (AD 8 0), .ref (AD 8 1), .ref (AD 8 2), .ref (AD 8 3), .ref (AD 8 4), .ref (AD 8 5), .int ((nI (n 0)) + 1), .int (nI (n 1)), .int (nI (n 2)), .int (nI (n 3)), .int (nI (n 4)), .int (nI (n 5)), .int (I 99 0), .long (J 99 0), .long (J 99 1), .long (J 99 2), .long (J 99 3)]))), rfl, ⟨(by simp only [kdRoom, if_pos k_1, if_pos k_2, if_pos k_3]), (by rw [nI_1, nI_pred]), hN, had9⟩, by rw [ht]; exact hP, va_K.moved hW.alike hK, hD⟩, hS.F ht⟩) hS.2.2 d_Sz_room_58)

set_option maxHeartbeats 4000000 in
set_option maxRecDepth 100000 in
theorem c_Sz_fire {l : Launch} (hl0 : l.stackTraces = false) {D : va_G} {ct : Nat → ClassId} {AD : Nat → Nat → Nat} {L : List Nat} {f : Nat → va_E} {sz : Nat} {n : Nat → Nat} {I : Nat → Nat → Int32} {J : Nat → Nat → Int64} {P : Nat → Nat → Nat} {sa sb : Nat} {p1 p2 p3 p4 p5 : Int32} (hCW : CW ct AD L n I J P f)  : vx_Met l y_Sz_fire (WS y_Sz_fire b_Sz_fire 6 (some .int)) { frames := 8, cells := 12, slots := 100, locals := 132 } (va_Pc [.ref (AD 9 0), .int p1, .int p2, .int p3, .int p4, .int p5] (MP D ct L f sa sb sz)) (va_Qi (fun (r : Int32) (u : CSt) => (kdFire n I p1 p2 p3 p4 p5) = 0 ∧ r = nI (n 2) ∧ CW ct u.1 u.2.1 (va_up n 2 (n 2 + 1)) (nwFiI I (n 2) p2 p3 p4 p5) J (up2 P 3 (n 2) p1.toNatClampNeg) u.2.2 ∧ u.1 9 0 = AD 9 0) (fun u t => WQ D (TYS ct) u.2.1 u.2.2 (AA L f sz) t) (AA L f sz)) (XE D ct L f (AA L f sz) (kdFire n I p1 p2 p3 p4 p5)) 12 100 (AA L f sz) := by
  refine vx_ofW (cc := b_Sz_fire) (maxL := 6) (ret := (some .int)) (by decide) rfl ?_
  intro p e s m args below meth c s₁ B hml htab hv
  obtain ⟨rfl, hsz, hP, hK, hD0, hE⟩ := hv
  subst hsz
  have hx := B.exec
  have hb := B.bytes
  have hret := B.returns
  have hts := atoms_spec (ws := WS y_Sz_fire b_Sz_fire 6 (some .int)) B.pre
  have hG : ∀ w ∈ GW, w.before _ s = true := fun w h => hts w (List.mem_cons_of_mem _ h)
  have hown : s.vm.findClass "SmokeZones" = some m.cls := findClass_of_methodNamed B.named
  have hlocks := B.notSynchronized
  have hD : va_D (AA L f s.heap.size) (va_pl L f) := hD0.self (sz := s.heap.size)
  generalize hAe : AA L f s.heap.size = A at hD hE ⊢
  have hA : ∀ q : Nat, s.heap.size ≤ q → A q := fun q h => by rw [← hAe]; exact Or.inr h
  have hS : va_S A s.heap s.heap [] := va_S.rf
  have hl := lv_entry ([.ref (AD 9 0), .int p1, .int p2, .int p3, .int p4, .int p5]) (n := 6) (Nat.le_of_ble_eq_true rfl)
  rw [lg_entry_eq]
  generalize (lg_sl ([.ref (AD 9 0), .int p1, .int p2, .int p3, .int p4, .int p5]) ++ List.replicate (6 - (lg_sl ([.ref (AD 9 0), .int p1, .int p2, .int p3, .int p4, .int p5])).length) Slot.unset).toArray = ls at hl ⊢
  have hl : lv_has ls 6 [(0, .ref (AD 9 0)), (1, .int p1), (2, .int p2), (3, .int p3), (4, .int p4), (5, .int p5)] := hl
  obtain ⟨g0L, g0E⟩ := hCW.ma
  have hc0 := hCW.cap0
  have hc1 := hCW.cap1
  have hc2 := hCW.cap2
  have hc3 := hCW.cap3
  have hc4 := hCW.cap4
  have hc5 := hCW.cap5
  refine lv_iload_n hx hb d_Sz_fire_0 rfl (lv_at hl 1 rfl) ?_
  refine lv_aload_n hx hb d_Sz_fire_1 rfl (lv_at hl 0 rfl) ?_
  refine pg_get (C := "SmokeZones") (T := T_Sz) (N := 17) hx hb hG in_Sz hown hK hP g0L g0E rfl 6 (by decide) (hG _ k41) (fun _ h9 => h9) rfl d_Sz_fire_2 ?_
  refine kS_ck ⟨hx, hb, hml, hown, hG⟩ (c_Sz_needNumber hl0 ) (cwS 2 hG (gS k237 k238 k1 k239) rfl rfl rfl hd_Sz_needNumber ⟨Nat.le_of_ble_eq_true rfl, Nat.le_of_ble_eq_true rfl⟩) hK hP hS hA hE rfl hl.1 rfl (Nat.le_of_ble_eq_true rfl) ⟨Nat.le_of_ble_eq_true rfl, Nat.le_of_ble_eq_true rfl⟩ d_Sz_fire_5 (fun k_1 ce q9 H1 locs hz hk hS h1 h2 h3 => ?_) (fun k_1 locs hS => ?_)
  · exact vx_out (fun x hx9 => (htab x hx9).elim) hlocks h1 h2 h3 (fun t ht hvm => ⟨(), trivial, ⟨Or.inl ⟨(by simp only [kdFire, if_neg k_1]), rfl⟩, by rw [ht]; exact P_keep hP hk, va_K.moved hvm hK, hD⟩, hS.F ht⟩) hS.2.2 (by decide) (by decide)
  · obtain ⟨r, hr, er⟩ := num_of k_1 (by omega)
    have hcl : (p1).toNatClampNeg = r := by rw [er]; exact nI_clamp (by omega)
    obtain ⟨g_2L, g_2E⟩ := hCW.ro hr
    obtain ⟨g_3L, g_3E⟩ := hCW.a0
    refine lv_iload_n hx hb d_Sz_fire_8 rfl (lv_at hl 2 rfl) ?_
    refine lv_aload_n hx hb d_Sz_fire_9 rfl (lv_at hl 0 rfl) ?_
    refine pg_get (C := "SmokeZones") (T := T_Sz) (N := 17) hx hb hG in_Sz hown hK hP g0L g0E rfl 12 (by decide) (hG _ k47) (fun _ h9 => h9) rfl d_Sz_fire_10 ?_
    refine lv_ldc hx hb hown (hG _ k301) d_Sz_fire_13 ?_
    refine kS_ck ⟨hx, hb, hml, hown, hG⟩ (c_Sz_needBetween hl0 ) (cwS 3 hG (gS k96 k97 k1 k98) rfl rfl rfl hd_Sz_needBetween ⟨Nat.le_of_ble_eq_true rfl, Nat.le_of_ble_eq_true rfl⟩) hK hP hS hA hE rfl hl.1 rfl (Nat.le_of_ble_eq_true rfl) ⟨Nat.le_of_ble_eq_true rfl, Nat.le_of_ble_eq_true rfl⟩ d_Sz_fire_15 (fun k_4 ce q9 H1 locs hz hk hS h1 h2 h3 => ?_) (fun k_4 locs hS => ?_)
    · exact vx_out (fun x hx9 => (htab x hx9).elim) hlocks h1 h2 h3 (fun t ht hvm => ⟨(), trivial, ⟨Or.inl ⟨(by simp only [kdFire, if_pos k_1, if_neg k_4]), rfl⟩, by rw [ht]; exact P_keep hP hk, va_K.moved hvm hK, hD⟩, hS.F ht⟩) hS.2.2 (by decide) (by decide)
    · refine lv_iload_n hx hb d_Sz_fire_18 rfl (lv_at hl 3 rfl) ?_
      refine lv_iconst (v := 1) hx hb d_Sz_fire_19 (by decide) ?_
      refine lv_sipush (v := 1000) hx hb d_Sz_fire_20 (by decide) ?_
      refine kS_ck ⟨hx, hb, hml, hown, hG⟩ (c_Sz_needBetween hl0 ) (cwS 3 hG (gS k96 k97 k1 k98) rfl rfl rfl hd_Sz_needBetween ⟨Nat.le_of_ble_eq_true rfl, Nat.le_of_ble_eq_true rfl⟩) hK hP hS hA hE rfl hl.1 rfl (Nat.le_of_ble_eq_true rfl) ⟨Nat.le_of_ble_eq_true rfl, Nat.le_of_ble_eq_true rfl⟩ d_Sz_fire_23 (fun k_5 ce q9 H1 locs hz hk hS h1 h2 h3 => ?_) (fun k_5 locs hS => ?_)
      · exact vx_out (fun x hx9 => (htab x hx9).elim) hlocks h1 h2 h3 (fun t ht hvm => ⟨(), trivial, ⟨Or.inl ⟨(by simp only [kdFire, if_pos k_1, if_pos k_4, if_neg k_5]), rfl⟩, by rw [ht]; exact P_keep hP hk, va_K.moved hvm hK, hD⟩, hS.F ht⟩) hS.2.2 (by decide) (by decide)
      · refine lv_iload hx hb d_Sz_fire_26 (lv_at hl 4 rfl) ?_
        refine lv_iconst (v := 1) hx hb d_Sz_fire_28 (by decide) ?_
        refine lv_ldc hx hb hown (hG _ k301) d_Sz_fire_29 ?_
        refine kS_ck ⟨hx, hb, hml, hown, hG⟩ (c_Sz_needBetween hl0 ) (cwS 3 hG (gS k96 k97 k1 k98) rfl rfl rfl hd_Sz_needBetween ⟨Nat.le_of_ble_eq_true rfl, Nat.le_of_ble_eq_true rfl⟩) hK hP hS hA hE rfl hl.1 rfl (Nat.le_of_ble_eq_true rfl) ⟨Nat.le_of_ble_eq_true rfl, Nat.le_of_ble_eq_true rfl⟩ d_Sz_fire_31 (fun k_6 ce q9 H1 locs hz hk hS h1 h2 h3 => ?_) (fun k_6 locs hS => ?_)
        · exact vx_out (fun x hx9 => (htab x hx9).elim) hlocks h1 h2 h3 (fun t ht hvm => ⟨(), trivial, ⟨Or.inl ⟨(by simp only [kdFire, if_pos k_1, if_pos k_4, if_pos k_5, if_neg k_6]), rfl⟩, by rw [ht]; exact P_keep hP hk, va_K.moved hvm hK, hD⟩, hS.F ht⟩) hS.2.2 (by decide) (by decide)
        · refine lv_iload hx hb d_Sz_fire_34 (lv_at hl 5 rfl) ?_
          refine lv_iconst (v := 0) hx hb d_Sz_fire_36 (by decide) ?_
          refine lv_sipush (v := 1000) hx hb d_Sz_fire_37 (by decide) ?_
          refine kS_ck ⟨hx, hb, hml, hown, hG⟩ (c_Sz_needBetween hl0 ) (cwS 3 hG (gS k96 k97 k1 k98) rfl rfl rfl hd_Sz_needBetween ⟨Nat.le_of_ble_eq_true rfl, Nat.le_of_ble_eq_true rfl⟩) hK hP hS hA hE rfl hl.1 rfl (Nat.le_of_ble_eq_true rfl) ⟨Nat.le_of_ble_eq_true rfl, Nat.le_of_ble_eq_true rfl⟩ d_Sz_fire_40 (fun k_7 ce q9 H1 locs hz hk hS h1 h2 h3 => ?_) (fun k_7 locs hS => ?_)
          · exact vx_out (fun x hx9 => (htab x hx9).elim) hlocks h1 h2 h3 (fun t ht hvm => ⟨(), trivial, ⟨Or.inl ⟨(by simp only [kdFire, if_pos k_1, if_pos k_4, if_pos k_5, if_pos k_6, if_neg k_7]), rfl⟩, by rw [ht]; exact P_keep hP hk, va_K.moved hvm hK, hD⟩, hS.F ht⟩) hS.2.2 (by decide) (by decide)
          · refine lv_aload_n hx hb d_Sz_fire_43 rfl (lv_at hl 0 rfl) ?_
            refine pg_get (C := "SmokeZones") (T := T_Sz) (N := 17) hx hb hG in_Sz hown hK hP g0L g0E rfl 8 (by decide) (hG _ k43) (fun _ h9 => h9) rfl d_Sz_fire_44 ?_
            refine lv_iconst (v := 5) hx hb d_Sz_fire_47 (by decide) ?_
            refine kS_ck ⟨hx, hb, hml, hown, hG⟩ (c_Sz_needSpace hl0 ) (cwS 2 hG (gS k169 k170 k1 k171) rfl rfl rfl hd_Sz_needSpace ⟨Nat.le_of_ble_eq_true rfl, Nat.le_of_ble_eq_true rfl⟩) hK hP hS hA hE rfl hl.1 rfl (Nat.le_of_ble_eq_true rfl) ⟨Nat.le_of_ble_eq_true rfl, Nat.le_of_ble_eq_true rfl⟩ d_Sz_fire_48 (fun k_8 ce q9 H1 locs hz hk hS h1 h2 h3 => ?_) (fun k_8 locs hS => ?_)
            · exact vx_out (fun x hx9 => (htab x hx9).elim) hlocks h1 h2 h3 (fun t ht hvm => ⟨(), trivial, ⟨Or.inr ⟨(by simp only [kdFire, if_pos k_1, if_pos k_4, if_pos k_5, if_pos k_6, if_pos k_7, if_neg k_8]), rfl⟩, by rw [ht]; exact P_keep hP hk, va_K.moved hvm hK, hD⟩, hS.F ht⟩) hS.2.2 (by decide) (by decide)
            · have hlt : n 2 < 5 := nI_lt_of (b := 5) (by omega) (by decide) k_8
              obtain ⟨g_9L, g_9E⟩ := hCW.a2
              have ne_AD_9_0_AD_8_2 : AD 9 0 ≠ AD 8 2 := hCW.ne (k := 9) (i := 0) (k' := 8) (i' := 2) (lv9) (lv8 (by decide)) (by omega)
              have ne_AD_9_0_AD_0_r : AD 9 0 ≠ AD 0 r := hCW.ne (k := 9) (i := 0) (k' := 0) (i' := r) (lv9) (lv0 (by decide) hr) (by omega)
              have ne_AD_9_0_AD_8_0 : AD 9 0 ≠ AD 8 0 := hCW.ne (k := 9) (i := 0) (k' := 8) (i' := 0) (lv9) (lv8 (by decide)) (by omega)
              have ne_AD_8_2_AD_9_0 : AD 8 2 ≠ AD 9 0 := hCW.ne (k := 8) (i := 2) (k' := 9) (i' := 0) (lv8 (by decide)) (lv9) (by omega)
              have ne_AD_8_2_AD_0_r : AD 8 2 ≠ AD 0 r := hCW.ne (k := 8) (i := 2) (k' := 0) (i' := r) (lv8 (by decide)) (lv0 (by decide) hr) (by omega)
              have ne_AD_8_2_AD_8_0 : AD 8 2 ≠ AD 8 0 := hCW.ne (k := 8) (i := 2) (k' := 8) (i' := 0) (lv8 (by decide)) (lv8 (by decide)) (by omega)
              have ne_AD_0_r_AD_9_0 : AD 0 r ≠ AD 9 0 := hCW.ne (k := 0) (i := r) (k' := 9) (i' := 0) (lv0 (by decide) hr) (lv9) (by omega)
              have ne_AD_0_r_AD_8_2 : AD 0 r ≠ AD 8 2 := hCW.ne (k := 0) (i := r) (k' := 8) (i' := 2) (lv0 (by decide) hr) (lv8 (by decide)) (by omega)
              have ne_AD_0_r_AD_8_0 : AD 0 r ≠ AD 8 0 := hCW.ne (k := 0) (i := r) (k' := 8) (i' := 0) (lv0 (by decide) hr) (lv8 (by decide)) (by omega)
              have ne_AD_8_0_AD_9_0 : AD 8 0 ≠ AD 9 0 := hCW.ne (k := 8) (i := 0) (k' := 9) (i' := 0) (lv8 (by decide)) (lv9) (by omega)
              have ne_AD_8_0_AD_8_2 : AD 8 0 ≠ AD 8 2 := hCW.ne (k := 8) (i := 0) (k' := 8) (i' := 2) (lv8 (by decide)) (lv8 (by decide)) (by omega)
              have ne_AD_8_0_AD_0_r : AD 8 0 ≠ AD 0 r := hCW.ne (k := 8) (i := 0) (k' := 0) (i' := r) (lv8 (by decide)) (lv0 (by decide) hr) (by omega)
              refine lv_aload_n hx hb d_Sz_fire_51 rfl (lv_at hl 0 rfl) ?_
              refine pg_get (C := "SmokeZones") (T := T_Sz) (N := 17) hx hb hG in_Sz hown hK hP g0L g0E rfl 2 (by decide) (hG _ k37) (fun _ h9 => h9) rfl d_Sz_fire_52 ?_
              refine lv_aload_n hx hb d_Sz_fire_55 rfl (lv_at hl 0 rfl) ?_
              refine pg_get (C := "SmokeZones") (T := T_Sz) (N := 17) hx hb hG in_Sz hown hK hP g0L g0E rfl 8 (by decide) (hG _ k43) (fun _ h9 => h9) rfl d_Sz_fire_56 ?_
              refine pg_new (ci := 2) (fs := [.null, .int 0, .int 0, .int 0, .int 0]) (C := "SmokeZones$Fire") (T := T_Fi) (N := 5) hx hb hG in_Fi ty_Fi ok_Fi hown (hG _ k27) (hG _ k302) (hG _ k10) hK hP hD hS hA rfl (fun j hj => by first | (rcases lt5 hj with rfl | rfl | rfl | rfl | rfl <;> rfl)) (Nat.le_of_ble_eq_true rfl) (Nat.le_of_ble_eq_true rfl) d_Sz_fire_59 (fun q_10 H hn_q_10 hP hD hS => ?_)
              have ne_AD_9_0_q_10 : AD 9 0 ≠ q_10 := fun h => hn_q_10 (h ▸ g0L)
              have ne_q_10_AD_9_0 : q_10 ≠ AD 9 0 := fun h => ne_AD_9_0_q_10 h.symm
              have m_11 : AD 9 0 ∈ L ++ [q_10] := List.mem_append_left _ g0L
              have ne_AD_0_r_q_10 : AD 0 r ≠ q_10 := fun h => hn_q_10 (h ▸ g_2L)
              have ne_q_10_AD_0_r : q_10 ≠ AD 0 r := fun h => ne_AD_0_r_q_10 h.symm
              have m_12 : AD 0 r ∈ L ++ [q_10] := List.mem_append_left _ g_2L
              have ne_AD_8_0_q_10 : AD 8 0 ≠ q_10 := fun h => hn_q_10 (h ▸ g_3L)
              have ne_q_10_AD_8_0 : q_10 ≠ AD 8 0 := fun h => ne_AD_8_0_q_10 h.symm
              have m_13 : AD 8 0 ∈ L ++ [q_10] := List.mem_append_left _ g_3L
              have ne_AD_8_2_q_10 : AD 8 2 ≠ q_10 := fun h => hn_q_10 (h ▸ g_9L)
              have ne_q_10_AD_8_2 : q_10 ≠ AD 8 2 := fun h => ne_AD_8_2_q_10 h.symm
              have m_14 : AD 8 2 ∈ L ++ [q_10] := List.mem_append_left _ g_9L
              have m_15 : q_10 ∈ L ++ [q_10] := List.mem_append_right _ (List.mem_singleton.mpr rfl)
              have hP : va_P D vwCl (va_pl (L ++ [q_10]) (va_up f q_10 (.inr (2, [.null, .int 0, .int 0, .int 0, .int 0])))) H := hP
              have hD : va_D A (va_pl (L ++ [q_10]) (va_up f q_10 (.inr (2, [.null, .int 0, .int 0, .int 0, .int 0])))) := hD
              have e_16 : (va_up f q_10 (.inr (2, [.null, .int 0, .int 0, .int 0, .int 0]))) q_10 = .inr (2, [.null, .int 0, .int 0, .int 0, .int 0]) := va_up_self _ _ _
              have e_17 : (va_up f q_10 (.inr (2, [.null, .int 0, .int 0, .int 0, .int 0]))) (AD 9 0) = .inr (6, [.ref (AD 8 0), .ref (AD 8 1), .ref (AD 8 2), .ref (AD 8 3), .ref (AD 8 4), .ref (AD 8 5), .int (nI (n 0)), .int (nI (n 1)), .int (nI (n 2)), .int (nI (n 3)), .int (nI (n 4)), .int (nI (n 5)), .int (I 99 0), .long (J 99 0), .long (J 99 1), .long (J 99 2), .long (J 99 3)]) := (va_up_ne _ _ ne_AD_9_0_q_10).trans g0E
              have e_18 : (va_up f q_10 (.inr (2, [.null, .int 0, .int 0, .int 0, .int 0]))) (AD 0 r) = .inr (0, [.int (I 0 r), .int (I 1 r), .long (J 0 r), .long (J 1 r), .long (J 2 r), .int (I 2 r), .int (I 3 r), .int (I 4 r)]) := (va_up_ne _ _ ne_AD_0_r_q_10).trans g_2E
              have e_19 : (va_up f q_10 (.inr (2, [.null, .int 0, .int 0, .int 0, .int 0]))) (AD 8 0) = .inl (ct 0, 10, .inr (.inr (.inr (.inr (fun j => if j < n 0 then some (AD 0 j) else none))))) := (va_up_ne _ _ ne_AD_8_0_q_10).trans g_3E
              have e_20 : (va_up f q_10 (.inr (2, [.null, .int 0, .int 0, .int 0, .int 0]))) (AD 8 2) = .inl (ct 2, 5, .inr (.inr (.inr (.inr (fun j => if j < n 2 then some (AD 2 j) else none))))) := (va_up_ne _ _ ne_AD_8_2_q_10).trans g_9E
              refine lv_dup hx hb d_Sz_fire_62 rfl ?_
              refine lv_aload_n hx hb d_Sz_fire_63 rfl (lv_at hl 0 rfl) ?_
              refine pg_get (C := "SmokeZones") (T := T_Sz) (N := 17) hx hb hG in_Sz hown hK hP m_11 e_17 rfl 0 (by decide) (hG _ k35) (fun _ h9 => h9) rfl d_Sz_fire_64 ?_
              refine lv_iload_n hx hb d_Sz_fire_67 rfl (lv_at hl 1 rfl) ?_
              refine pg_ald hx hb hK hP 0 m_13 e_19 rfl (by rw [er]; exact vp_in_nI (by omega) (by decide)) (by rw [er]; exact rf_at hr (by omega)) d_Sz_fire_68 ?_
              refine lv_iload_n hx hb d_Sz_fire_69 rfl (lv_at hl 2 rfl) ?_
              refine lv_iload_n hx hb d_Sz_fire_70 rfl (lv_at hl 3 rfl) ?_
              refine lv_iload hx hb d_Sz_fire_71 (lv_at hl 4 rfl) ?_
              refine lv_iload hx hb d_Sz_fire_73 (lv_at hl 5 rfl) ?_
              refine kI_wv (f' := va_up (va_up f q_10 (.inr (2, [.null, .int 0, .int 0, .int 0, .int 0]))) q_10 (.inr (2, [.ref (AD 0 r), .int p2, .int p3, .int p4, .int p5]))) ⟨hx, hb, hml, hown, hG⟩ (c_Fi_init m_15 e_16) (cwI 5 hG (gw_c k305) rfl rfl rfl (hG _ k10) (hG _ k303) (hG _ k304) rfl hd_Fi_init ⟨Nat.le_of_ble_eq_true rfl, Nat.le_of_ble_eq_true rfl⟩) hK hP hD hS hA rfl hl.1 rfl (Nat.le_of_ble_eq_true rfl) ⟨Nat.le_of_ble_eq_true rfl, Nat.le_of_ble_eq_true rfl⟩ d_Sz_fire_75 (fun H locs hP hD hS => ?_)
              rw [bx_uu] at hP hD
              have hP : va_P D vwCl (va_pl (L ++ [q_10]) (va_up f q_10 (.inr (2, [.ref (AD 0 r), .int p2, .int p3, .int p4, .int p5])))) H := hP
              have hD : va_D A (va_pl (L ++ [q_10]) (va_up f q_10 (.inr (2, [.ref (AD 0 r), .int p2, .int p3, .int p4, .int p5])))) := hD
              have e_21 : (va_up f q_10 (.inr (2, [.ref (AD 0 r), .int p2, .int p3, .int p4, .int p5]))) q_10 = .inr (2, [.ref (AD 0 r), .int p2, .int p3, .int p4, .int p5]) := va_up_self _ _ _
              have e_22 : (va_up f q_10 (.inr (2, [.ref (AD 0 r), .int p2, .int p3, .int p4, .int p5]))) (AD 9 0) = .inr (6, [.ref (AD 8 0), .ref (AD 8 1), .ref (AD 8 2), .ref (AD 8 3), .ref (AD 8 4), .ref (AD 8 5), .int (nI (n 0)), .int (nI (n 1)), .int (nI (n 2)), .int (nI (n 3)), .int (nI (n 4)), .int (nI (n 5)), .int (I 99 0), .long (J 99 0), .long (J 99 1), .long (J 99 2), .long (J 99 3)]) := (va_up_ne _ _ ne_AD_9_0_q_10).trans g0E
              have e_23 : (va_up f q_10 (.inr (2, [.ref (AD 0 r), .int p2, .int p3, .int p4, .int p5]))) (AD 0 r) = .inr (0, [.int (I 0 r), .int (I 1 r), .long (J 0 r), .long (J 1 r), .long (J 2 r), .int (I 2 r), .int (I 3 r), .int (I 4 r)]) := (va_up_ne _ _ ne_AD_0_r_q_10).trans g_2E
              have e_24 : (va_up f q_10 (.inr (2, [.ref (AD 0 r), .int p2, .int p3, .int p4, .int p5]))) (AD 8 0) = .inl (ct 0, 10, .inr (.inr (.inr (.inr (fun j => if j < n 0 then some (AD 0 j) else none))))) := (va_up_ne _ _ ne_AD_8_0_q_10).trans g_3E
              have e_25 : (va_up f q_10 (.inr (2, [.ref (AD 0 r), .int p2, .int p3, .int p4, .int p5]))) (AD 8 2) = .inl (ct 2, 5, .inr (.inr (.inr (.inr (fun j => if j < n 2 then some (AD 2 j) else none))))) := (va_up_ne _ _ ne_AD_8_2_q_10).trans g_9E
              refine pg_astq hx hb hK hP hD hS 2 2 m_14 e_25 rfl m_15 e_21 rfl (vp_in_nI hlt (by decide)) d_Sz_fire_78 (fun H locs hP hD hS => ?_)
              have hP : va_P D vwCl (va_pl (L ++ [q_10]) (va_up (va_up f q_10 (.inr (2, [.ref (AD 0 r), .int p2, .int p3, .int p4, .int p5]))) (AD 8 2) (.inl (ct 2, 5, .inr (.inr (.inr (.inr (va_up (fun j => if j < n 2 then some (AD 2 j) else none) (Int32.toNatClampNeg (nI (n 2))) (some q_10))))))))) H := hP
              have hD : va_D A (va_pl (L ++ [q_10]) (va_up (va_up f q_10 (.inr (2, [.ref (AD 0 r), .int p2, .int p3, .int p4, .int p5]))) (AD 8 2) (.inl (ct 2, 5, .inr (.inr (.inr (.inr (va_up (fun j => if j < n 2 then some (AD 2 j) else none) (Int32.toNatClampNeg (nI (n 2))) (some q_10))))))))) := hD
              have e_26 : (va_up (va_up f q_10 (.inr (2, [.ref (AD 0 r), .int p2, .int p3, .int p4, .int p5]))) (AD 8 2) (.inl (ct 2, 5, .inr (.inr (.inr (.inr (va_up (fun j => if j < n 2 then some (AD 2 j) else none) (Int32.toNatClampNeg (nI (n 2))) (some q_10)))))))) (AD 8 2) = .inl (ct 2, 5, .inr (.inr (.inr (.inr (va_up (fun j => if j < n 2 then some (AD 2 j) else none) (Int32.toNatClampNeg (nI (n 2))) (some q_10)))))) := va_up_self _ _ _
              have e_27 : (va_up (va_up f q_10 (.inr (2, [.ref (AD 0 r), .int p2, .int p3, .int p4, .int p5]))) (AD 8 2) (.inl (ct 2, 5, .inr (.inr (.inr (.inr (va_up (fun j => if j < n 2 then some (AD 2 j) else none) (Int32.toNatClampNeg (nI (n 2))) (some q_10)))))))) (AD 9 0) = .inr (6, [.ref (AD 8 0), .ref (AD 8 1), .ref (AD 8 2), .ref (AD 8 3), .ref (AD 8 4), .ref (AD 8 5), .int (nI (n 0)), .int (nI (n 1)), .int (nI (n 2)), .int (nI (n 3)), .int (nI (n 4)), .int (nI (n 5)), .int (I 99 0), .long (J 99 0), .long (J 99 1), .long (J 99 2), .long (J 99 3)]) := (va_up_ne _ _ ne_AD_9_0_AD_8_2).trans e_22
              have e_28 : (va_up (va_up f q_10 (.inr (2, [.ref (AD 0 r), .int p2, .int p3, .int p4, .int p5]))) (AD 8 2) (.inl (ct 2, 5, .inr (.inr (.inr (.inr (va_up (fun j => if j < n 2 then some (AD 2 j) else none) (Int32.toNatClampNeg (nI (n 2))) (some q_10)))))))) (AD 0 r) = .inr (0, [.int (I 0 r), .int (I 1 r), .long (J 0 r), .long (J 1 r), .long (J 2 r), .int (I 2 r), .int (I 3 r), .int (I 4 r)]) := (va_up_ne _ _ ne_AD_0_r_AD_8_2).trans e_23
              have e_29 : (va_up (va_up f q_10 (.inr (2, [.ref (AD 0 r), .int p2, .int p3, .int p4, .int p5]))) (AD 8 2) (.inl (ct 2, 5, .inr (.inr (.inr (.inr (va_up (fun j => if j < n 2 then some (AD 2 j) else none) (Int32.toNatClampNeg (nI (n 2))) (some q_10)))))))) (AD 8 0) = .inl (ct 0, 10, .inr (.inr (.inr (.inr (fun j => if j < n 0 then some (AD 0 j) else none))))) := (va_up_ne _ _ ne_AD_8_0_AD_8_2).trans e_24
              have e_30 : (va_up (va_up f q_10 (.inr (2, [.ref (AD 0 r), .int p2, .int p3, .int p4, .int p5]))) (AD 8 2) (.inl (ct 2, 5, .inr (.inr (.inr (.inr (va_up (fun j => if j < n 2 then some (AD 2 j) else none) (Int32.toNatClampNeg (nI (n 2))) (some q_10)))))))) q_10 = .inr (2, [.ref (AD 0 r), .int p2, .int p3, .int p4, .int p5]) := (va_up_ne _ _ ne_q_10_AD_8_2).trans e_21
              refine lv_aload_n hx hb d_Sz_fire_79 rfl (lv_at hl 0 rfl) ?_
              refine lv_dup hx hb d_Sz_fire_80 rfl ?_
              refine pg_get (C := "SmokeZones") (T := T_Sz) (N := 17) hx hb hG in_Sz hown hK hP m_11 e_27 rfl 8 (by decide) (hG _ k43) (fun _ h9 => h9) rfl d_Sz_fire_81 ?_
              refine lv_iconst (v := 1) hx hb d_Sz_fire_84 (by decide) ?_
              refine lv_iadd hx hb d_Sz_fire_85 ?_
              refine pg_put (C := "SmokeZones") (T := T_Sz) (N := 17) (ty := .int) hx hb hG in_Sz ty_Sz ok_Sz nm_Sz hown hK hP hD hS m_11 e_27 rfl 8 (by decide) (hG _ k43) (fun _ h9 => h9) rfl (by decide +kernel) rfl rfl (Nat.le_of_ble_eq_true rfl) d_Sz_fire_86 (fun H locs hP hD hS => ?_)
              have hP : va_P D vwCl (va_pl (L ++ [q_10]) (va_up (va_up (va_up f q_10 (.inr (2, [.ref (AD 0 r), .int p2, .int p3, .int p4, .int p5]))) (AD 8 2) (.inl (ct 2, 5, .inr (.inr (.inr (.inr (va_up (fun j => if j < n 2 then some (AD 2 j) else none) (Int32.toNatClampNeg (nI (n 2))) (some q_10)))))))) (AD 9 0) (.inr (6, [.ref (AD 8 0), .ref (AD 8 1), .ref (AD 8 2), .ref (AD 8 3), .ref (AD 8 4), .ref (AD 8 5), .int (nI (n 0)), .int (nI (n 1)), .int ((nI (n 2)) + 1), .int (nI (n 3)), .int (nI (n 4)), .int (nI (n 5)), .int (I 99 0), .long (J 99 0), .long (J 99 1), .long (J 99 2), .long (J 99 3)])))) H := hP
              have hD : va_D A (va_pl (L ++ [q_10]) (va_up (va_up (va_up f q_10 (.inr (2, [.ref (AD 0 r), .int p2, .int p3, .int p4, .int p5]))) (AD 8 2) (.inl (ct 2, 5, .inr (.inr (.inr (.inr (va_up (fun j => if j < n 2 then some (AD 2 j) else none) (Int32.toNatClampNeg (nI (n 2))) (some q_10)))))))) (AD 9 0) (.inr (6, [.ref (AD 8 0), .ref (AD 8 1), .ref (AD 8 2), .ref (AD 8 3), .ref (AD 8 4), .ref (AD 8 5), .int (nI (n 0)), .int (nI (n 1)), .int ((nI (n 2)) + 1), .int (nI (n 3)), .int (nI (n 4)), .int (nI (n 5)), .int (I 99 0), .long (J 99 0), .long (J 99 1), .long (J 99 2), .long (J 99 3)])))) := hD
              have e_31 : (va_up (va_up (va_up f q_10 (.inr (2, [.ref (AD 0 r), .int p2, .int p3, .int p4, .int p5]))) (AD 8 2) (.inl (ct 2, 5, .inr (.inr (.inr (.inr (va_up (fun j => if j < n 2 then some (AD 2 j) else none) (Int32.toNatClampNeg (nI (n 2))) (some q_10)))))))) (AD 9 0) (.inr (6, [.ref (AD 8 0), .ref (AD 8 1), .ref (AD 8 2), .ref (AD 8 3), .ref (AD 8 4), .ref (AD 8 5), .int (nI (n 0)), .int (nI (n 1)), .int ((nI (n 2)) + 1), .int (nI (n 3)), .int (nI (n 4)), .int (nI (n 5)), .int (I 99 0), .long (J 99 0), .long (J 99 1), .long (J 99 2), .long (J 99 3)]))) (AD 9 0) = .inr (6, [.ref (AD 8 0), .ref (AD 8 1), .ref (AD 8 2), .ref (AD 8 3), .ref (AD 8 4), .ref (AD 8 5), .int (nI (n 0)), .int (nI (n 1)), .int ((nI (n 2)) + 1), .int (nI (n 3)), .int (nI (n 4)), .int (nI (n 5)), .int (I 99 0), .long (J 99 0), .long (J 99 1), .long (J 99 2), .long (J 99 3)]) := va_up_self _ _ _
              have e_32 : (va_up (va_up (va_up f q_10 (.inr (2, [.ref (AD 0 r), .int p2, .int p3, .int p4, .int p5]))) (AD 8 2) (.inl (ct 2, 5, .inr (.inr (.inr (.inr (va_up (fun j => if j < n 2 then some (AD 2 j) else none) (Int32.toNatClampNeg (nI (n 2))) (some q_10)))))))) (AD 9 0) (.inr (6, [.ref (AD 8 0), .ref (AD 8 1), .ref (AD 8 2), .ref (AD 8 3), .ref (AD 8 4), .ref (AD 8 5), .int (nI (n 0)), .int (nI (n 1)), .int ((nI (n 2)) + 1), .int (nI (n 3)), .int (nI (n 4)), .int (nI (n 5)), .int (I 99 0), .long (J 99 0), .long (J 99 1), .long (J 99 2), .long (J 99 3)]))) (AD 0 r) = .inr (0, [.int (I 0 r), .int (I 1 r), .long (J 0 r), .long (J 1 r), .long (J 2 r), .int (I 2 r), .int (I 3 r), .int (I 4 r)]) := (va_up_ne _ _ ne_AD_0_r_AD_9_0).trans e_28
              have e_33 : (va_up (va_up (va_up f q_10 (.inr (2, [.ref (AD 0 r), .int p2, .int p3, .int p4, .int p5]))) (AD 8 2) (.inl (ct 2, 5, .inr (.inr (.inr (.inr (va_up (fun j => if j < n 2 then some (AD 2 j) else none) (Int32.toNatClampNeg (nI (n 2))) (some q_10)))))))) (AD 9 0) (.inr (6, [.ref (AD 8 0), .ref (AD 8 1), .ref (AD 8 2), .ref (AD 8 3), .ref (AD 8 4), .ref (AD 8 5), .int (nI (n 0)), .int (nI (n 1)), .int ((nI (n 2)) + 1), .int (nI (n 3)), .int (nI (n 4)), .int (nI (n 5)), .int (I 99 0), .long (J 99 0), .long (J 99 1), .long (J 99 2), .long (J 99 3)]))) (AD 8 0) = .inl (ct 0, 10, .inr (.inr (.inr (.inr (fun j => if j < n 0 then some (AD 0 j) else none))))) := (va_up_ne _ _ ne_AD_8_0_AD_9_0).trans e_29
              have e_34 : (va_up (va_up (va_up f q_10 (.inr (2, [.ref (AD 0 r), .int p2, .int p3, .int p4, .int p5]))) (AD 8 2) (.inl (ct 2, 5, .inr (.inr (.inr (.inr (va_up (fun j => if j < n 2 then some (AD 2 j) else none) (Int32.toNatClampNeg (nI (n 2))) (some q_10)))))))) (AD 9 0) (.inr (6, [.ref (AD 8 0), .ref (AD 8 1), .ref (AD 8 2), .ref (AD 8 3), .ref (AD 8 4), .ref (AD 8 5), .int (nI (n 0)), .int (nI (n 1)), .int ((nI (n 2)) + 1), .int (nI (n 3)), .int (nI (n 4)), .int (nI (n 5)), .int (I 99 0), .long (J 99 0), .long (J 99 1), .long (J 99 2), .long (J 99 3)]))) (AD 8 2) = .inl (ct 2, 5, .inr (.inr (.inr (.inr (va_up (fun j => if j < n 2 then some (AD 2 j) else none) (Int32.toNatClampNeg (nI (n 2))) (some q_10)))))) := (va_up_ne _ _ ne_AD_8_2_AD_9_0).trans e_26
              have e_35 : (va_up (va_up (va_up f q_10 (.inr (2, [.ref (AD 0 r), .int p2, .int p3, .int p4, .int p5]))) (AD 8 2) (.inl (ct 2, 5, .inr (.inr (.inr (.inr (va_up (fun j => if j < n 2 then some (AD 2 j) else none) (Int32.toNatClampNeg (nI (n 2))) (some q_10)))))))) (AD 9 0) (.inr (6, [.ref (AD 8 0), .ref (AD 8 1), .ref (AD 8 2), .ref (AD 8 3), .ref (AD 8 4), .ref (AD 8 5), .int (nI (n 0)), .int (nI (n 1)), .int ((nI (n 2)) + 1), .int (nI (n 3)), .int (nI (n 4)), .int (nI (n 5)), .int (I 99 0), .long (J 99 0), .long (J 99 1), .long (J 99 2), .long (J 99 3)]))) q_10 = .inr (2, [.ref (AD 0 r), .int p2, .int p3, .int p4, .int p5]) := (va_up_ne _ _ ne_q_10_AD_9_0).trans e_30
              refine lv_aload_n hx hb d_Sz_fire_89 rfl (lv_at hl 0 rfl) ?_
              refine pg_get (C := "SmokeZones") (T := T_Sz) (N := 17) hx hb hG in_Sz hown hK hP m_11 e_31 rfl 8 (by decide) (hG _ k43) (fun _ h9 => h9) rfl d_Sz_fire_90 ?_
              refine lv_iconst (v := 1) hx hb d_Sz_fire_93 (by decide) ?_
              refine lv_isub hx hb d_Sz_fire_94 ?_
              have hPk : ∀ a i, ¬ (i = n 2 ∧ pk a = 2) → (up2 P 3 (n 2) p1.toNatClampNeg) a i = P a i := by
                intro a i h
                rw [up2_ne _ _ _ _ (fun e => h ⟨e.2, by rw [e.1]; rfl⟩)]
              have hN : CW ct (up2 AD 2 (n 2) q_10) (L ++ [q_10]) (va_up n 2 ((n 2) + 1)) (nwFiI I (n 2) p2 p3 p4 p5) J (up2 P 3 (n 2) p1.toNatClampNeg) (va_up (va_up (va_up f q_10 (.inr (2, [.ref (AD 0 r), .int p2, .int p3, .int p4, .int p5]))) (AD 8 2) (.inl (ct 2, 5, .inr (.inr (.inr (.inr (va_up (fun j => if j < n 2 then some (AD 2 j) else none) (Int32.toNatClampNeg (nI (n 2))) (some q_10)))))))) (AD 9 0) (.inr (6, [.ref (AD 8 0), .ref (AD 8 1), .ref (AD 8 2), .ref (AD 8 3), .ref (AD 8 4), .ref (AD 8 5), .int (nI (n 0)), .int (nI (n 1)), .int ((nI (n 2)) + 1), .int (nI (n 3)), .int (nI (n 4)), .int (nI (n 5)), .int (I 99 0), .long (J 99 0), .long (J 99 1), .long (J 99 2), .long (J 99 3)]))) := by
                refine hCW.push (k := 2) (by decide) hn_q_10 (co_grow hCW.2.2 (by decide) (fun a b h => by unfold nwFiI; repeat' (first | rfl | rw [up2_ne _ _ _ _ (by omega)])) (fun _ _ _ => rfl) hPk) ?_ ?_ ?_ ?_ (inv_grow hCW.2.2 (by decide) hlt hPk (fun h => by omega) (fun _ => by rw [up2_at, hcl]; exact hr) (fun h => by omega) (fun h => by omega) )
                · rw [e_35]; simp [cellOf, roomE, openE, fireE, fanE, steelE, farV, up2, va_up, nwFiI, hcl]
                · rw [e_34, rf_push (k := 0) (by omega)]; simp [cellOf, cap, up2, va_up]
                · rw [e_31]; simp [cellOf, mainE, up2, va_up, nI_1, nwFiI]
                · intro a h1 h2 h3; simp [va_up, h1, h2, h3]
              have had9 : up2 AD 2 (n 2) q_10 9 0 = AD 9 0 := up2_ne _ _ _ _ (by omega)
              refine W.widen (k := 12) (n := 100) (by decide) (by decide) ?_
              exact vx_ret (W.iret hx hb hret (fun t ht hW => ⟨⟨_, ((up2 AD 2 (n 2) q_10), (L ++ [q_10]), va_up (va_up (va_up f q_10 (.inr (2, [.ref (AD 0 r), .int p2, .int p3, .int p4, .int p5]))) (AD 8 2) (.inl (ct 2, 5, .inr (.inr (.inr (.inr (va_up (fun j => if j < n 2 then some (AD 2 j) else none) (Int32.toNatClampNeg (nI (n 2))) (some q_10)))))))) (AD 9 0) (.inr (6, [.ref (AD 8 0), .ref (AD 8 1), .ref (AD 8 2), .ref (AD 8 3), .ref (AD 8 4), .ref (AD 8 5), .int (nI (n 0)), .int (nI (n 1)), .int ((nI (n 2)) + 1), .int (nI (n 3)), .int (nI (n 4)), .int (nI (n 5)), .int (I 99 0), .long (J 99 0), .long (J 99 1), .long (J 99 2), .long (J 99 3)]))), rfl, ⟨(by simp only [kdFire, if_pos k_1, if_pos k_4, if_pos k_5, if_pos k_6, if_pos k_7, if_pos k_8]), (by rw [nI_1, nI_pred]), hN, had9⟩, by rw [ht]; exact hP, va_K.moved hW.alike hK, hD⟩, hS.F ht⟩) hS.2.2 d_Sz_fire_95)

set_option maxHeartbeats 4000000 in
set_option maxRecDepth 100000 in
theorem c_Sz_fan {l : Launch} (hl0 : l.stackTraces = false) {D : va_G} {ct : Nat → ClassId} {AD : Nat → Nat → Nat} {L : List Nat} {f : Nat → va_E} {sz : Nat} {n : Nat → Nat} {I : Nat → Nat → Int32} {J : Nat → Nat → Int64} {P : Nat → Nat → Nat} {sa sb : Nat} {p1 p2 p3 : Int32} (hCW : CW ct AD L n I J P f)  : vx_Met l y_Sz_fan (WS y_Sz_fan b_Sz_fan 4 (some .int)) { frames := 8, cells := 12, slots := 100, locals := 132 } (va_Pc [.ref (AD 9 0), .int p1, .int p2, .int p3] (MP D ct L f sa sb sz)) (va_Qi (fun (r : Int32) (u : CSt) => (kdFan n I p1 p2 p3) = 0 ∧ r = nI (n 3) ∧ CW ct u.1 u.2.1 (va_up n 3 (n 3 + 1)) (nwFaI I (n 3) p2 p3) J (up2 P 4 (n 3) p1.toNatClampNeg) u.2.2 ∧ u.1 9 0 = AD 9 0) (fun u t => WQ D (TYS ct) u.2.1 u.2.2 (AA L f sz) t) (AA L f sz)) (XE D ct L f (AA L f sz) (kdFan n I p1 p2 p3)) 12 100 (AA L f sz) := by
  refine vx_ofW (cc := b_Sz_fan) (maxL := 4) (ret := (some .int)) (by decide) rfl ?_
  intro p e s m args below meth c s₁ B hml htab hv
  obtain ⟨rfl, hsz, hP, hK, hD0, hE⟩ := hv
  subst hsz
  have hx := B.exec
  have hb := B.bytes
  have hret := B.returns
  have hts := atoms_spec (ws := WS y_Sz_fan b_Sz_fan 4 (some .int)) B.pre
  have hG : ∀ w ∈ GW, w.before _ s = true := fun w h => hts w (List.mem_cons_of_mem _ h)
  have hown : s.vm.findClass "SmokeZones" = some m.cls := findClass_of_methodNamed B.named
  have hlocks := B.notSynchronized
  have hD : va_D (AA L f s.heap.size) (va_pl L f) := hD0.self (sz := s.heap.size)
  generalize hAe : AA L f s.heap.size = A at hD hE ⊢
  have hA : ∀ q : Nat, s.heap.size ≤ q → A q := fun q h => by rw [← hAe]; exact Or.inr h
  have hS : va_S A s.heap s.heap [] := va_S.rf
  have hl := lv_entry ([.ref (AD 9 0), .int p1, .int p2, .int p3]) (n := 4) (Nat.le_of_ble_eq_true rfl)
  rw [lg_entry_eq]
  generalize (lg_sl ([.ref (AD 9 0), .int p1, .int p2, .int p3]) ++ List.replicate (4 - (lg_sl ([.ref (AD 9 0), .int p1, .int p2, .int p3])).length) Slot.unset).toArray = ls at hl ⊢
  have hl : lv_has ls 4 [(0, .ref (AD 9 0)), (1, .int p1), (2, .int p2), (3, .int p3)] := hl
  obtain ⟨g0L, g0E⟩ := hCW.ma
  have hc0 := hCW.cap0
  have hc1 := hCW.cap1
  have hc2 := hCW.cap2
  have hc3 := hCW.cap3
  have hc4 := hCW.cap4
  have hc5 := hCW.cap5
  refine lv_iload_n hx hb d_Sz_fan_0 rfl (lv_at hl 1 rfl) ?_
  refine lv_aload_n hx hb d_Sz_fan_1 rfl (lv_at hl 0 rfl) ?_
  refine pg_get (C := "SmokeZones") (T := T_Sz) (N := 17) hx hb hG in_Sz hown hK hP g0L g0E rfl 6 (by decide) (hG _ k41) (fun _ h9 => h9) rfl d_Sz_fan_2 ?_
  refine kS_ck ⟨hx, hb, hml, hown, hG⟩ (c_Sz_needNumber hl0 ) (cwS 2 hG (gS k237 k238 k1 k239) rfl rfl rfl hd_Sz_needNumber ⟨Nat.le_of_ble_eq_true rfl, Nat.le_of_ble_eq_true rfl⟩) hK hP hS hA hE rfl hl.1 rfl (Nat.le_of_ble_eq_true rfl) ⟨Nat.le_of_ble_eq_true rfl, Nat.le_of_ble_eq_true rfl⟩ d_Sz_fan_5 (fun k_1 ce q9 H1 locs hz hk hS h1 h2 h3 => ?_) (fun k_1 locs hS => ?_)
  · exact vx_out (fun x hx9 => (htab x hx9).elim) hlocks h1 h2 h3 (fun t ht hvm => ⟨(), trivial, ⟨Or.inl ⟨(by simp only [kdFan, if_neg k_1]), rfl⟩, by rw [ht]; exact P_keep hP hk, va_K.moved hvm hK, hD⟩, hS.F ht⟩) hS.2.2 (by decide) (by decide)
  · obtain ⟨r, hr, er⟩ := num_of k_1 (by omega)
    have hcl : (p1).toNatClampNeg = r := by rw [er]; exact nI_clamp (by omega)
    obtain ⟨g_2L, g_2E⟩ := hCW.ro hr
    obtain ⟨g_3L, g_3E⟩ := hCW.a0
    refine lv_iload_n hx hb d_Sz_fan_8 rfl (lv_at hl 2 rfl) ?_
    refine lv_aload_n hx hb d_Sz_fan_9 rfl (lv_at hl 0 rfl) ?_
    refine pg_get (C := "SmokeZones") (T := T_Sz) (N := 17) hx hb hG in_Sz hown hK hP g0L g0E rfl 12 (by decide) (hG _ k47) (fun _ h9 => h9) rfl d_Sz_fan_10 ?_
    refine lv_ldc hx hb hown (hG _ k301) d_Sz_fan_13 ?_
    refine kS_ck ⟨hx, hb, hml, hown, hG⟩ (c_Sz_needBetween hl0 ) (cwS 3 hG (gS k96 k97 k1 k98) rfl rfl rfl hd_Sz_needBetween ⟨Nat.le_of_ble_eq_true rfl, Nat.le_of_ble_eq_true rfl⟩) hK hP hS hA hE rfl hl.1 rfl (Nat.le_of_ble_eq_true rfl) ⟨Nat.le_of_ble_eq_true rfl, Nat.le_of_ble_eq_true rfl⟩ d_Sz_fan_15 (fun k_4 ce q9 H1 locs hz hk hS h1 h2 h3 => ?_) (fun k_4 locs hS => ?_)
    · exact vx_out (fun x hx9 => (htab x hx9).elim) hlocks h1 h2 h3 (fun t ht hvm => ⟨(), trivial, ⟨Or.inl ⟨(by simp only [kdFan, if_pos k_1, if_neg k_4]), rfl⟩, by rw [ht]; exact P_keep hP hk, va_K.moved hvm hK, hD⟩, hS.F ht⟩) hS.2.2 (by decide) (by decide)
    · refine lv_iload_n hx hb d_Sz_fan_18 rfl (lv_at hl 3 rfl) ?_
      refine lv_iconst (v := 1) hx hb d_Sz_fan_19 (by decide) ?_
      refine lv_ldc hx hb hown (hG _ k301) d_Sz_fan_20 ?_
      refine kS_ck ⟨hx, hb, hml, hown, hG⟩ (c_Sz_needBetween hl0 ) (cwS 3 hG (gS k96 k97 k1 k98) rfl rfl rfl hd_Sz_needBetween ⟨Nat.le_of_ble_eq_true rfl, Nat.le_of_ble_eq_true rfl⟩) hK hP hS hA hE rfl hl.1 rfl (Nat.le_of_ble_eq_true rfl) ⟨Nat.le_of_ble_eq_true rfl, Nat.le_of_ble_eq_true rfl⟩ d_Sz_fan_22 (fun k_5 ce q9 H1 locs hz hk hS h1 h2 h3 => ?_) (fun k_5 locs hS => ?_)
      · exact vx_out (fun x hx9 => (htab x hx9).elim) hlocks h1 h2 h3 (fun t ht hvm => ⟨(), trivial, ⟨Or.inl ⟨(by simp only [kdFan, if_pos k_1, if_pos k_4, if_neg k_5]), rfl⟩, by rw [ht]; exact P_keep hP hk, va_K.moved hvm hK, hD⟩, hS.F ht⟩) hS.2.2 (by decide) (by decide)
      · refine lv_aload_n hx hb d_Sz_fan_25 rfl (lv_at hl 0 rfl) ?_
        refine pg_get (C := "SmokeZones") (T := T_Sz) (N := 17) hx hb hG in_Sz hown hK hP g0L g0E rfl 9 (by decide) (hG _ k44) (fun _ h9 => h9) rfl d_Sz_fan_26 ?_
        refine lv_bipush (v := 9) hx hb d_Sz_fan_29 (by decide) ?_
        refine kS_ck ⟨hx, hb, hml, hown, hG⟩ (c_Sz_needSpace hl0 ) (cwS 2 hG (gS k169 k170 k1 k171) rfl rfl rfl hd_Sz_needSpace ⟨Nat.le_of_ble_eq_true rfl, Nat.le_of_ble_eq_true rfl⟩) hK hP hS hA hE rfl hl.1 rfl (Nat.le_of_ble_eq_true rfl) ⟨Nat.le_of_ble_eq_true rfl, Nat.le_of_ble_eq_true rfl⟩ d_Sz_fan_31 (fun k_6 ce q9 H1 locs hz hk hS h1 h2 h3 => ?_) (fun k_6 locs hS => ?_)
        · exact vx_out (fun x hx9 => (htab x hx9).elim) hlocks h1 h2 h3 (fun t ht hvm => ⟨(), trivial, ⟨Or.inr ⟨(by simp only [kdFan, if_pos k_1, if_pos k_4, if_pos k_5, if_neg k_6]), rfl⟩, by rw [ht]; exact P_keep hP hk, va_K.moved hvm hK, hD⟩, hS.F ht⟩) hS.2.2 (by decide) (by decide)
        · have hlt : n 3 < 9 := nI_lt_of (b := 9) (by omega) (by decide) k_6
          obtain ⟨g_7L, g_7E⟩ := hCW.a3
          have ne_AD_9_0_AD_8_3 : AD 9 0 ≠ AD 8 3 := hCW.ne (k := 9) (i := 0) (k' := 8) (i' := 3) (lv9) (lv8 (by decide)) (by omega)
          have ne_AD_9_0_AD_0_r : AD 9 0 ≠ AD 0 r := hCW.ne (k := 9) (i := 0) (k' := 0) (i' := r) (lv9) (lv0 (by decide) hr) (by omega)
          have ne_AD_9_0_AD_8_0 : AD 9 0 ≠ AD 8 0 := hCW.ne (k := 9) (i := 0) (k' := 8) (i' := 0) (lv9) (lv8 (by decide)) (by omega)
          have ne_AD_8_3_AD_9_0 : AD 8 3 ≠ AD 9 0 := hCW.ne (k := 8) (i := 3) (k' := 9) (i' := 0) (lv8 (by decide)) (lv9) (by omega)
          have ne_AD_8_3_AD_0_r : AD 8 3 ≠ AD 0 r := hCW.ne (k := 8) (i := 3) (k' := 0) (i' := r) (lv8 (by decide)) (lv0 (by decide) hr) (by omega)
          have ne_AD_8_3_AD_8_0 : AD 8 3 ≠ AD 8 0 := hCW.ne (k := 8) (i := 3) (k' := 8) (i' := 0) (lv8 (by decide)) (lv8 (by decide)) (by omega)
          have ne_AD_0_r_AD_9_0 : AD 0 r ≠ AD 9 0 := hCW.ne (k := 0) (i := r) (k' := 9) (i' := 0) (lv0 (by decide) hr) (lv9) (by omega)
          have ne_AD_0_r_AD_8_3 : AD 0 r ≠ AD 8 3 := hCW.ne (k := 0) (i := r) (k' := 8) (i' := 3) (lv0 (by decide) hr) (lv8 (by decide)) (by omega)
          have ne_AD_0_r_AD_8_0 : AD 0 r ≠ AD 8 0 := hCW.ne (k := 0) (i := r) (k' := 8) (i' := 0) (lv0 (by decide) hr) (lv8 (by decide)) (by omega)
          have ne_AD_8_0_AD_9_0 : AD 8 0 ≠ AD 9 0 := hCW.ne (k := 8) (i := 0) (k' := 9) (i' := 0) (lv8 (by decide)) (lv9) (by omega)
          have ne_AD_8_0_AD_8_3 : AD 8 0 ≠ AD 8 3 := hCW.ne (k := 8) (i := 0) (k' := 8) (i' := 3) (lv8 (by decide)) (lv8 (by decide)) (by omega)
          have ne_AD_8_0_AD_0_r : AD 8 0 ≠ AD 0 r := hCW.ne (k := 8) (i := 0) (k' := 0) (i' := r) (lv8 (by decide)) (lv0 (by decide) hr) (by omega)
          refine lv_aload_n hx hb d_Sz_fan_34 rfl (lv_at hl 0 rfl) ?_
          refine pg_get (C := "SmokeZones") (T := T_Sz) (N := 17) hx hb hG in_Sz hown hK hP g0L g0E rfl 3 (by decide) (hG _ k38) (fun _ h9 => h9) rfl d_Sz_fan_35 ?_
          refine lv_aload_n hx hb d_Sz_fan_38 rfl (lv_at hl 0 rfl) ?_
          refine pg_get (C := "SmokeZones") (T := T_Sz) (N := 17) hx hb hG in_Sz hown hK hP g0L g0E rfl 9 (by decide) (hG _ k44) (fun _ h9 => h9) rfl d_Sz_fan_39 ?_
          refine pg_new (ci := 3) (fs := [.null, .int 0, .int 0]) (C := "SmokeZones$Fan") (T := T_Fa) (N := 3) hx hb hG in_Fa ty_Fa ok_Fa hown (hG _ k29) (hG _ k337) (hG _ k11) hK hP hD hS hA rfl (fun j hj => by first | (rcases lt3 hj with rfl | rfl | rfl <;> rfl)) (Nat.le_of_ble_eq_true rfl) (Nat.le_of_ble_eq_true rfl) d_Sz_fan_42 (fun q_8 H hn_q_8 hP hD hS => ?_)
          have ne_AD_9_0_q_8 : AD 9 0 ≠ q_8 := fun h => hn_q_8 (h ▸ g0L)
          have ne_q_8_AD_9_0 : q_8 ≠ AD 9 0 := fun h => ne_AD_9_0_q_8 h.symm
          have m_9 : AD 9 0 ∈ L ++ [q_8] := List.mem_append_left _ g0L
          have ne_AD_0_r_q_8 : AD 0 r ≠ q_8 := fun h => hn_q_8 (h ▸ g_2L)
          have ne_q_8_AD_0_r : q_8 ≠ AD 0 r := fun h => ne_AD_0_r_q_8 h.symm
          have m_10 : AD 0 r ∈ L ++ [q_8] := List.mem_append_left _ g_2L
          have ne_AD_8_0_q_8 : AD 8 0 ≠ q_8 := fun h => hn_q_8 (h ▸ g_3L)
          have ne_q_8_AD_8_0 : q_8 ≠ AD 8 0 := fun h => ne_AD_8_0_q_8 h.symm
          have m_11 : AD 8 0 ∈ L ++ [q_8] := List.mem_append_left _ g_3L
          have ne_AD_8_3_q_8 : AD 8 3 ≠ q_8 := fun h => hn_q_8 (h ▸ g_7L)
          have ne_q_8_AD_8_3 : q_8 ≠ AD 8 3 := fun h => ne_AD_8_3_q_8 h.symm
          have m_12 : AD 8 3 ∈ L ++ [q_8] := List.mem_append_left _ g_7L
          have m_13 : q_8 ∈ L ++ [q_8] := List.mem_append_right _ (List.mem_singleton.mpr rfl)
          have hP : va_P D vwCl (va_pl (L ++ [q_8]) (va_up f q_8 (.inr (3, [.null, .int 0, .int 0])))) H := hP
          have hD : va_D A (va_pl (L ++ [q_8]) (va_up f q_8 (.inr (3, [.null, .int 0, .int 0])))) := hD
          have e_14 : (va_up f q_8 (.inr (3, [.null, .int 0, .int 0]))) q_8 = .inr (3, [.null, .int 0, .int 0]) := va_up_self _ _ _
          have e_15 : (va_up f q_8 (.inr (3, [.null, .int 0, .int 0]))) (AD 9 0) = .inr (6, [.ref (AD 8 0), .ref (AD 8 1), .ref (AD 8 2), .ref (AD 8 3), .ref (AD 8 4), .ref (AD 8 5), .int (nI (n 0)), .int (nI (n 1)), .int (nI (n 2)), .int (nI (n 3)), .int (nI (n 4)), .int (nI (n 5)), .int (I 99 0), .long (J 99 0), .long (J 99 1), .long (J 99 2), .long (J 99 3)]) := (va_up_ne _ _ ne_AD_9_0_q_8).trans g0E
          have e_16 : (va_up f q_8 (.inr (3, [.null, .int 0, .int 0]))) (AD 0 r) = .inr (0, [.int (I 0 r), .int (I 1 r), .long (J 0 r), .long (J 1 r), .long (J 2 r), .int (I 2 r), .int (I 3 r), .int (I 4 r)]) := (va_up_ne _ _ ne_AD_0_r_q_8).trans g_2E
          have e_17 : (va_up f q_8 (.inr (3, [.null, .int 0, .int 0]))) (AD 8 0) = .inl (ct 0, 10, .inr (.inr (.inr (.inr (fun j => if j < n 0 then some (AD 0 j) else none))))) := (va_up_ne _ _ ne_AD_8_0_q_8).trans g_3E
          have e_18 : (va_up f q_8 (.inr (3, [.null, .int 0, .int 0]))) (AD 8 3) = .inl (ct 3, 9, .inr (.inr (.inr (.inr (fun j => if j < n 3 then some (AD 3 j) else none))))) := (va_up_ne _ _ ne_AD_8_3_q_8).trans g_7E
          refine lv_dup hx hb d_Sz_fan_45 rfl ?_
          refine lv_aload_n hx hb d_Sz_fan_46 rfl (lv_at hl 0 rfl) ?_
          refine pg_get (C := "SmokeZones") (T := T_Sz) (N := 17) hx hb hG in_Sz hown hK hP m_9 e_15 rfl 0 (by decide) (hG _ k35) (fun _ h9 => h9) rfl d_Sz_fan_47 ?_
          refine lv_iload_n hx hb d_Sz_fan_50 rfl (lv_at hl 1 rfl) ?_
          refine pg_ald hx hb hK hP 0 m_11 e_17 rfl (by rw [er]; exact vp_in_nI (by omega) (by decide)) (by rw [er]; exact rf_at hr (by omega)) d_Sz_fan_51 ?_
          refine lv_iload_n hx hb d_Sz_fan_52 rfl (lv_at hl 2 rfl) ?_
          refine lv_iload_n hx hb d_Sz_fan_53 rfl (lv_at hl 3 rfl) ?_
          refine kI_wv (f' := va_up (va_up f q_8 (.inr (3, [.null, .int 0, .int 0]))) q_8 (.inr (3, [.ref (AD 0 r), .int p2, .int p3]))) ⟨hx, hb, hml, hown, hG⟩ (c_Fa_init m_13 e_14) (cwI 3 hG (gw_c k340) rfl rfl rfl (hG _ k11) (hG _ k338) (hG _ k339) rfl hd_Fa_init ⟨Nat.le_of_ble_eq_true rfl, Nat.le_of_ble_eq_true rfl⟩) hK hP hD hS hA rfl hl.1 rfl (Nat.le_of_ble_eq_true rfl) ⟨Nat.le_of_ble_eq_true rfl, Nat.le_of_ble_eq_true rfl⟩ d_Sz_fan_54 (fun H locs hP hD hS => ?_)
          rw [bx_uu] at hP hD
          have hP : va_P D vwCl (va_pl (L ++ [q_8]) (va_up f q_8 (.inr (3, [.ref (AD 0 r), .int p2, .int p3])))) H := hP
          have hD : va_D A (va_pl (L ++ [q_8]) (va_up f q_8 (.inr (3, [.ref (AD 0 r), .int p2, .int p3])))) := hD
          have e_19 : (va_up f q_8 (.inr (3, [.ref (AD 0 r), .int p2, .int p3]))) q_8 = .inr (3, [.ref (AD 0 r), .int p2, .int p3]) := va_up_self _ _ _
          have e_20 : (va_up f q_8 (.inr (3, [.ref (AD 0 r), .int p2, .int p3]))) (AD 9 0) = .inr (6, [.ref (AD 8 0), .ref (AD 8 1), .ref (AD 8 2), .ref (AD 8 3), .ref (AD 8 4), .ref (AD 8 5), .int (nI (n 0)), .int (nI (n 1)), .int (nI (n 2)), .int (nI (n 3)), .int (nI (n 4)), .int (nI (n 5)), .int (I 99 0), .long (J 99 0), .long (J 99 1), .long (J 99 2), .long (J 99 3)]) := (va_up_ne _ _ ne_AD_9_0_q_8).trans g0E
          have e_21 : (va_up f q_8 (.inr (3, [.ref (AD 0 r), .int p2, .int p3]))) (AD 0 r) = .inr (0, [.int (I 0 r), .int (I 1 r), .long (J 0 r), .long (J 1 r), .long (J 2 r), .int (I 2 r), .int (I 3 r), .int (I 4 r)]) := (va_up_ne _ _ ne_AD_0_r_q_8).trans g_2E
          have e_22 : (va_up f q_8 (.inr (3, [.ref (AD 0 r), .int p2, .int p3]))) (AD 8 0) = .inl (ct 0, 10, .inr (.inr (.inr (.inr (fun j => if j < n 0 then some (AD 0 j) else none))))) := (va_up_ne _ _ ne_AD_8_0_q_8).trans g_3E
          have e_23 : (va_up f q_8 (.inr (3, [.ref (AD 0 r), .int p2, .int p3]))) (AD 8 3) = .inl (ct 3, 9, .inr (.inr (.inr (.inr (fun j => if j < n 3 then some (AD 3 j) else none))))) := (va_up_ne _ _ ne_AD_8_3_q_8).trans g_7E
          refine pg_astq hx hb hK hP hD hS 3 3 m_12 e_23 rfl m_13 e_19 rfl (vp_in_nI hlt (by decide)) d_Sz_fan_57 (fun H locs hP hD hS => ?_)
          have hP : va_P D vwCl (va_pl (L ++ [q_8]) (va_up (va_up f q_8 (.inr (3, [.ref (AD 0 r), .int p2, .int p3]))) (AD 8 3) (.inl (ct 3, 9, .inr (.inr (.inr (.inr (va_up (fun j => if j < n 3 then some (AD 3 j) else none) (Int32.toNatClampNeg (nI (n 3))) (some q_8))))))))) H := hP
          have hD : va_D A (va_pl (L ++ [q_8]) (va_up (va_up f q_8 (.inr (3, [.ref (AD 0 r), .int p2, .int p3]))) (AD 8 3) (.inl (ct 3, 9, .inr (.inr (.inr (.inr (va_up (fun j => if j < n 3 then some (AD 3 j) else none) (Int32.toNatClampNeg (nI (n 3))) (some q_8))))))))) := hD
          have e_24 : (va_up (va_up f q_8 (.inr (3, [.ref (AD 0 r), .int p2, .int p3]))) (AD 8 3) (.inl (ct 3, 9, .inr (.inr (.inr (.inr (va_up (fun j => if j < n 3 then some (AD 3 j) else none) (Int32.toNatClampNeg (nI (n 3))) (some q_8)))))))) (AD 8 3) = .inl (ct 3, 9, .inr (.inr (.inr (.inr (va_up (fun j => if j < n 3 then some (AD 3 j) else none) (Int32.toNatClampNeg (nI (n 3))) (some q_8)))))) := va_up_self _ _ _
          have e_25 : (va_up (va_up f q_8 (.inr (3, [.ref (AD 0 r), .int p2, .int p3]))) (AD 8 3) (.inl (ct 3, 9, .inr (.inr (.inr (.inr (va_up (fun j => if j < n 3 then some (AD 3 j) else none) (Int32.toNatClampNeg (nI (n 3))) (some q_8)))))))) (AD 9 0) = .inr (6, [.ref (AD 8 0), .ref (AD 8 1), .ref (AD 8 2), .ref (AD 8 3), .ref (AD 8 4), .ref (AD 8 5), .int (nI (n 0)), .int (nI (n 1)), .int (nI (n 2)), .int (nI (n 3)), .int (nI (n 4)), .int (nI (n 5)), .int (I 99 0), .long (J 99 0), .long (J 99 1), .long (J 99 2), .long (J 99 3)]) := (va_up_ne _ _ ne_AD_9_0_AD_8_3).trans e_20
          have e_26 : (va_up (va_up f q_8 (.inr (3, [.ref (AD 0 r), .int p2, .int p3]))) (AD 8 3) (.inl (ct 3, 9, .inr (.inr (.inr (.inr (va_up (fun j => if j < n 3 then some (AD 3 j) else none) (Int32.toNatClampNeg (nI (n 3))) (some q_8)))))))) (AD 0 r) = .inr (0, [.int (I 0 r), .int (I 1 r), .long (J 0 r), .long (J 1 r), .long (J 2 r), .int (I 2 r), .int (I 3 r), .int (I 4 r)]) := (va_up_ne _ _ ne_AD_0_r_AD_8_3).trans e_21
          have e_27 : (va_up (va_up f q_8 (.inr (3, [.ref (AD 0 r), .int p2, .int p3]))) (AD 8 3) (.inl (ct 3, 9, .inr (.inr (.inr (.inr (va_up (fun j => if j < n 3 then some (AD 3 j) else none) (Int32.toNatClampNeg (nI (n 3))) (some q_8)))))))) (AD 8 0) = .inl (ct 0, 10, .inr (.inr (.inr (.inr (fun j => if j < n 0 then some (AD 0 j) else none))))) := (va_up_ne _ _ ne_AD_8_0_AD_8_3).trans e_22
          have e_28 : (va_up (va_up f q_8 (.inr (3, [.ref (AD 0 r), .int p2, .int p3]))) (AD 8 3) (.inl (ct 3, 9, .inr (.inr (.inr (.inr (va_up (fun j => if j < n 3 then some (AD 3 j) else none) (Int32.toNatClampNeg (nI (n 3))) (some q_8)))))))) q_8 = .inr (3, [.ref (AD 0 r), .int p2, .int p3]) := (va_up_ne _ _ ne_q_8_AD_8_3).trans e_19
          refine lv_aload_n hx hb d_Sz_fan_58 rfl (lv_at hl 0 rfl) ?_
          refine lv_dup hx hb d_Sz_fan_59 rfl ?_
          refine pg_get (C := "SmokeZones") (T := T_Sz) (N := 17) hx hb hG in_Sz hown hK hP m_9 e_25 rfl 9 (by decide) (hG _ k44) (fun _ h9 => h9) rfl d_Sz_fan_60 ?_
          refine lv_iconst (v := 1) hx hb d_Sz_fan_63 (by decide) ?_
          refine lv_iadd hx hb d_Sz_fan_64 ?_
          refine pg_put (C := "SmokeZones") (T := T_Sz) (N := 17) (ty := .int) hx hb hG in_Sz ty_Sz ok_Sz nm_Sz hown hK hP hD hS m_9 e_25 rfl 9 (by decide) (hG _ k44) (fun _ h9 => h9) rfl (by decide +kernel) rfl rfl (Nat.le_of_ble_eq_true rfl) d_Sz_fan_65 (fun H locs hP hD hS => ?_)
          have hP : va_P D vwCl (va_pl (L ++ [q_8]) (va_up (va_up (va_up f q_8 (.inr (3, [.ref (AD 0 r), .int p2, .int p3]))) (AD 8 3) (.inl (ct 3, 9, .inr (.inr (.inr (.inr (va_up (fun j => if j < n 3 then some (AD 3 j) else none) (Int32.toNatClampNeg (nI (n 3))) (some q_8)))))))) (AD 9 0) (.inr (6, [.ref (AD 8 0), .ref (AD 8 1), .ref (AD 8 2), .ref (AD 8 3), .ref (AD 8 4), .ref (AD 8 5), .int (nI (n 0)), .int (nI (n 1)), .int (nI (n 2)), .int ((nI (n 3)) + 1), .int (nI (n 4)), .int (nI (n 5)), .int (I 99 0), .long (J 99 0), .long (J 99 1), .long (J 99 2), .long (J 99 3)])))) H := hP
          have hD : va_D A (va_pl (L ++ [q_8]) (va_up (va_up (va_up f q_8 (.inr (3, [.ref (AD 0 r), .int p2, .int p3]))) (AD 8 3) (.inl (ct 3, 9, .inr (.inr (.inr (.inr (va_up (fun j => if j < n 3 then some (AD 3 j) else none) (Int32.toNatClampNeg (nI (n 3))) (some q_8)))))))) (AD 9 0) (.inr (6, [.ref (AD 8 0), .ref (AD 8 1), .ref (AD 8 2), .ref (AD 8 3), .ref (AD 8 4), .ref (AD 8 5), .int (nI (n 0)), .int (nI (n 1)), .int (nI (n 2)), .int ((nI (n 3)) + 1), .int (nI (n 4)), .int (nI (n 5)), .int (I 99 0), .long (J 99 0), .long (J 99 1), .long (J 99 2), .long (J 99 3)])))) := hD
          have e_29 : (va_up (va_up (va_up f q_8 (.inr (3, [.ref (AD 0 r), .int p2, .int p3]))) (AD 8 3) (.inl (ct 3, 9, .inr (.inr (.inr (.inr (va_up (fun j => if j < n 3 then some (AD 3 j) else none) (Int32.toNatClampNeg (nI (n 3))) (some q_8)))))))) (AD 9 0) (.inr (6, [.ref (AD 8 0), .ref (AD 8 1), .ref (AD 8 2), .ref (AD 8 3), .ref (AD 8 4), .ref (AD 8 5), .int (nI (n 0)), .int (nI (n 1)), .int (nI (n 2)), .int ((nI (n 3)) + 1), .int (nI (n 4)), .int (nI (n 5)), .int (I 99 0), .long (J 99 0), .long (J 99 1), .long (J 99 2), .long (J 99 3)]))) (AD 9 0) = .inr (6, [.ref (AD 8 0), .ref (AD 8 1), .ref (AD 8 2), .ref (AD 8 3), .ref (AD 8 4), .ref (AD 8 5), .int (nI (n 0)), .int (nI (n 1)), .int (nI (n 2)), .int ((nI (n 3)) + 1), .int (nI (n 4)), .int (nI (n 5)), .int (I 99 0), .long (J 99 0), .long (J 99 1), .long (J 99 2), .long (J 99 3)]) := va_up_self _ _ _
          have e_30 : (va_up (va_up (va_up f q_8 (.inr (3, [.ref (AD 0 r), .int p2, .int p3]))) (AD 8 3) (.inl (ct 3, 9, .inr (.inr (.inr (.inr (va_up (fun j => if j < n 3 then some (AD 3 j) else none) (Int32.toNatClampNeg (nI (n 3))) (some q_8)))))))) (AD 9 0) (.inr (6, [.ref (AD 8 0), .ref (AD 8 1), .ref (AD 8 2), .ref (AD 8 3), .ref (AD 8 4), .ref (AD 8 5), .int (nI (n 0)), .int (nI (n 1)), .int (nI (n 2)), .int ((nI (n 3)) + 1), .int (nI (n 4)), .int (nI (n 5)), .int (I 99 0), .long (J 99 0), .long (J 99 1), .long (J 99 2), .long (J 99 3)]))) (AD 0 r) = .inr (0, [.int (I 0 r), .int (I 1 r), .long (J 0 r), .long (J 1 r), .long (J 2 r), .int (I 2 r), .int (I 3 r), .int (I 4 r)]) := (va_up_ne _ _ ne_AD_0_r_AD_9_0).trans e_26
          have e_31 : (va_up (va_up (va_up f q_8 (.inr (3, [.ref (AD 0 r), .int p2, .int p3]))) (AD 8 3) (.inl (ct 3, 9, .inr (.inr (.inr (.inr (va_up (fun j => if j < n 3 then some (AD 3 j) else none) (Int32.toNatClampNeg (nI (n 3))) (some q_8)))))))) (AD 9 0) (.inr (6, [.ref (AD 8 0), .ref (AD 8 1), .ref (AD 8 2), .ref (AD 8 3), .ref (AD 8 4), .ref (AD 8 5), .int (nI (n 0)), .int (nI (n 1)), .int (nI (n 2)), .int ((nI (n 3)) + 1), .int (nI (n 4)), .int (nI (n 5)), .int (I 99 0), .long (J 99 0), .long (J 99 1), .long (J 99 2), .long (J 99 3)]))) (AD 8 0) = .inl (ct 0, 10, .inr (.inr (.inr (.inr (fun j => if j < n 0 then some (AD 0 j) else none))))) := (va_up_ne _ _ ne_AD_8_0_AD_9_0).trans e_27
          have e_32 : (va_up (va_up (va_up f q_8 (.inr (3, [.ref (AD 0 r), .int p2, .int p3]))) (AD 8 3) (.inl (ct 3, 9, .inr (.inr (.inr (.inr (va_up (fun j => if j < n 3 then some (AD 3 j) else none) (Int32.toNatClampNeg (nI (n 3))) (some q_8)))))))) (AD 9 0) (.inr (6, [.ref (AD 8 0), .ref (AD 8 1), .ref (AD 8 2), .ref (AD 8 3), .ref (AD 8 4), .ref (AD 8 5), .int (nI (n 0)), .int (nI (n 1)), .int (nI (n 2)), .int ((nI (n 3)) + 1), .int (nI (n 4)), .int (nI (n 5)), .int (I 99 0), .long (J 99 0), .long (J 99 1), .long (J 99 2), .long (J 99 3)]))) (AD 8 3) = .inl (ct 3, 9, .inr (.inr (.inr (.inr (va_up (fun j => if j < n 3 then some (AD 3 j) else none) (Int32.toNatClampNeg (nI (n 3))) (some q_8)))))) := (va_up_ne _ _ ne_AD_8_3_AD_9_0).trans e_24
          have e_33 : (va_up (va_up (va_up f q_8 (.inr (3, [.ref (AD 0 r), .int p2, .int p3]))) (AD 8 3) (.inl (ct 3, 9, .inr (.inr (.inr (.inr (va_up (fun j => if j < n 3 then some (AD 3 j) else none) (Int32.toNatClampNeg (nI (n 3))) (some q_8)))))))) (AD 9 0) (.inr (6, [.ref (AD 8 0), .ref (AD 8 1), .ref (AD 8 2), .ref (AD 8 3), .ref (AD 8 4), .ref (AD 8 5), .int (nI (n 0)), .int (nI (n 1)), .int (nI (n 2)), .int ((nI (n 3)) + 1), .int (nI (n 4)), .int (nI (n 5)), .int (I 99 0), .long (J 99 0), .long (J 99 1), .long (J 99 2), .long (J 99 3)]))) q_8 = .inr (3, [.ref (AD 0 r), .int p2, .int p3]) := (va_up_ne _ _ ne_q_8_AD_9_0).trans e_28
          refine lv_aload_n hx hb d_Sz_fan_68 rfl (lv_at hl 0 rfl) ?_
          refine pg_get (C := "SmokeZones") (T := T_Sz) (N := 17) hx hb hG in_Sz hown hK hP m_9 e_29 rfl 9 (by decide) (hG _ k44) (fun _ h9 => h9) rfl d_Sz_fan_69 ?_
          refine lv_iconst (v := 1) hx hb d_Sz_fan_72 (by decide) ?_
          refine lv_isub hx hb d_Sz_fan_73 ?_
          have hPk : ∀ a i, ¬ (i = n 3 ∧ pk a = 3) → (up2 P 4 (n 3) p1.toNatClampNeg) a i = P a i := by
            intro a i h
            rw [up2_ne _ _ _ _ (fun e => h ⟨e.2, by rw [e.1]; rfl⟩)]
          have hN : CW ct (up2 AD 3 (n 3) q_8) (L ++ [q_8]) (va_up n 3 ((n 3) + 1)) (nwFaI I (n 3) p2 p3) J (up2 P 4 (n 3) p1.toNatClampNeg) (va_up (va_up (va_up f q_8 (.inr (3, [.ref (AD 0 r), .int p2, .int p3]))) (AD 8 3) (.inl (ct 3, 9, .inr (.inr (.inr (.inr (va_up (fun j => if j < n 3 then some (AD 3 j) else none) (Int32.toNatClampNeg (nI (n 3))) (some q_8)))))))) (AD 9 0) (.inr (6, [.ref (AD 8 0), .ref (AD 8 1), .ref (AD 8 2), .ref (AD 8 3), .ref (AD 8 4), .ref (AD 8 5), .int (nI (n 0)), .int (nI (n 1)), .int (nI (n 2)), .int ((nI (n 3)) + 1), .int (nI (n 4)), .int (nI (n 5)), .int (I 99 0), .long (J 99 0), .long (J 99 1), .long (J 99 2), .long (J 99 3)]))) := by
            refine hCW.push (k := 3) (by decide) hn_q_8 (co_grow hCW.2.2 (by decide) (fun a b h => by unfold nwFaI; repeat' (first | rfl | rw [up2_ne _ _ _ _ (by omega)])) (fun _ _ _ => rfl) hPk) ?_ ?_ ?_ ?_ (inv_grow hCW.2.2 (by decide) hlt hPk (fun h => by omega) (fun h => by omega) (fun _ => by rw [up2_at, hcl]; exact hr) (fun h => by omega) )
            · rw [e_33]; simp [cellOf, roomE, openE, fireE, fanE, steelE, farV, up2, va_up, nwFaI, hcl]
            · rw [e_32, rf_push (k := 0) (by omega)]; simp [cellOf, cap, up2, va_up]
            · rw [e_29]; simp [cellOf, mainE, up2, va_up, nI_1, nwFaI]
            · intro a h1 h2 h3; simp [va_up, h1, h2, h3]
          have had9 : up2 AD 3 (n 3) q_8 9 0 = AD 9 0 := up2_ne _ _ _ _ (by omega)
          refine W.widen (k := 12) (n := 100) (by decide) (by decide) ?_
          exact vx_ret (W.iret hx hb hret (fun t ht hW => ⟨⟨_, ((up2 AD 3 (n 3) q_8), (L ++ [q_8]), va_up (va_up (va_up f q_8 (.inr (3, [.ref (AD 0 r), .int p2, .int p3]))) (AD 8 3) (.inl (ct 3, 9, .inr (.inr (.inr (.inr (va_up (fun j => if j < n 3 then some (AD 3 j) else none) (Int32.toNatClampNeg (nI (n 3))) (some q_8)))))))) (AD 9 0) (.inr (6, [.ref (AD 8 0), .ref (AD 8 1), .ref (AD 8 2), .ref (AD 8 3), .ref (AD 8 4), .ref (AD 8 5), .int (nI (n 0)), .int (nI (n 1)), .int (nI (n 2)), .int ((nI (n 3)) + 1), .int (nI (n 4)), .int (nI (n 5)), .int (I 99 0), .long (J 99 0), .long (J 99 1), .long (J 99 2), .long (J 99 3)]))), rfl, ⟨(by simp only [kdFan, if_pos k_1, if_pos k_4, if_pos k_5, if_pos k_6]), (by rw [nI_1, nI_pred]), hN, had9⟩, by rw [ht]; exact hP, va_K.moved hW.alike hK, hD⟩, hS.F ht⟩) hS.2.2 d_Sz_fan_74)

set_option maxHeartbeats 4000000 in
set_option maxRecDepth 100000 in
theorem c_Sz_steel {l : Launch} (hl0 : l.stackTraces = false) {D : va_G} {ct : Nat → ClassId} {AD : Nat → Nat → Nat} {L : List Nat} {f : Nat → va_E} {sz : Nat} {n : Nat → Nat} {I : Nat → Nat → Int32} {J : Nat → Nat → Int64} {P : Nat → Nat → Nat} {sa sb : Nat} {p1 p2 : Int32} (hCW : CW ct AD L n I J P f)  : vx_Met l y_Sz_steel (WS y_Sz_steel b_Sz_steel 3 (some .int)) { frames := 8, cells := 12, slots := 100, locals := 132 } (va_Pc [.ref (AD 9 0), .int p1, .int p2] (MP D ct L f sa sb sz)) (va_Qi (fun (r : Int32) (u : CSt) => (kdSteel n p1 p2) = 0 ∧ r = nI (n 4) ∧ CW ct u.1 u.2.1 (va_up n 4 (n 4 + 1)) (nwStI I (n 4) p2) J (up2 P 5 (n 4) p1.toNatClampNeg) u.2.2 ∧ u.1 9 0 = AD 9 0) (fun u t => WQ D (TYS ct) u.2.1 u.2.2 (AA L f sz) t) (AA L f sz)) (XE D ct L f (AA L f sz) (kdSteel n p1 p2)) 12 100 (AA L f sz) := by
  refine vx_ofW (cc := b_Sz_steel) (maxL := 3) (ret := (some .int)) (by decide) rfl ?_
  intro p e s m args below meth c s₁ B hml htab hv
  obtain ⟨rfl, hsz, hP, hK, hD0, hE⟩ := hv
  subst hsz
  have hx := B.exec
  have hb := B.bytes
  have hret := B.returns
  have hts := atoms_spec (ws := WS y_Sz_steel b_Sz_steel 3 (some .int)) B.pre
  have hG : ∀ w ∈ GW, w.before _ s = true := fun w h => hts w (List.mem_cons_of_mem _ h)
  have hown : s.vm.findClass "SmokeZones" = some m.cls := findClass_of_methodNamed B.named
  have hlocks := B.notSynchronized
  have hD : va_D (AA L f s.heap.size) (va_pl L f) := hD0.self (sz := s.heap.size)
  generalize hAe : AA L f s.heap.size = A at hD hE ⊢
  have hA : ∀ q : Nat, s.heap.size ≤ q → A q := fun q h => by rw [← hAe]; exact Or.inr h
  have hS : va_S A s.heap s.heap [] := va_S.rf
  have hl := lv_entry ([.ref (AD 9 0), .int p1, .int p2]) (n := 3) (Nat.le_of_ble_eq_true rfl)
  rw [lg_entry_eq]
  generalize (lg_sl ([.ref (AD 9 0), .int p1, .int p2]) ++ List.replicate (3 - (lg_sl ([.ref (AD 9 0), .int p1, .int p2])).length) Slot.unset).toArray = ls at hl ⊢
  have hl : lv_has ls 3 [(0, .ref (AD 9 0)), (1, .int p1), (2, .int p2)] := hl
  obtain ⟨g0L, g0E⟩ := hCW.ma
  have hc0 := hCW.cap0
  have hc1 := hCW.cap1
  have hc2 := hCW.cap2
  have hc3 := hCW.cap3
  have hc4 := hCW.cap4
  have hc5 := hCW.cap5
  refine lv_iload_n hx hb d_Sz_steel_0 rfl (lv_at hl 1 rfl) ?_
  refine lv_aload_n hx hb d_Sz_steel_1 rfl (lv_at hl 0 rfl) ?_
  refine pg_get (C := "SmokeZones") (T := T_Sz) (N := 17) hx hb hG in_Sz hown hK hP g0L g0E rfl 6 (by decide) (hG _ k41) (fun _ h9 => h9) rfl d_Sz_steel_2 ?_
  refine kS_ck ⟨hx, hb, hml, hown, hG⟩ (c_Sz_needNumber hl0 ) (cwS 2 hG (gS k237 k238 k1 k239) rfl rfl rfl hd_Sz_needNumber ⟨Nat.le_of_ble_eq_true rfl, Nat.le_of_ble_eq_true rfl⟩) hK hP hS hA hE rfl hl.1 rfl (Nat.le_of_ble_eq_true rfl) ⟨Nat.le_of_ble_eq_true rfl, Nat.le_of_ble_eq_true rfl⟩ d_Sz_steel_5 (fun k_1 ce q9 H1 locs hz hk hS h1 h2 h3 => ?_) (fun k_1 locs hS => ?_)
  · exact vx_out (fun x hx9 => (htab x hx9).elim) hlocks h1 h2 h3 (fun t ht hvm => ⟨(), trivial, ⟨Or.inl ⟨(by simp only [kdSteel, if_neg k_1]), rfl⟩, by rw [ht]; exact P_keep hP hk, va_K.moved hvm hK, hD⟩, hS.F ht⟩) hS.2.2 (by decide) (by decide)
  · obtain ⟨r, hr, er⟩ := num_of k_1 (by omega)
    have hcl : (p1).toNatClampNeg = r := by rw [er]; exact nI_clamp (by omega)
    obtain ⟨g_2L, g_2E⟩ := hCW.ro hr
    obtain ⟨g_3L, g_3E⟩ := hCW.a0
    refine lv_iload_n hx hb d_Sz_steel_8 rfl (lv_at hl 2 rfl) ?_
    refine lv_iconst (v := 1) hx hb d_Sz_steel_9 (by decide) ?_
    refine lv_sipush (v := 1000) hx hb d_Sz_steel_10 (by decide) ?_
    refine kS_ck ⟨hx, hb, hml, hown, hG⟩ (c_Sz_needBetween hl0 ) (cwS 3 hG (gS k96 k97 k1 k98) rfl rfl rfl hd_Sz_needBetween ⟨Nat.le_of_ble_eq_true rfl, Nat.le_of_ble_eq_true rfl⟩) hK hP hS hA hE rfl hl.1 rfl (Nat.le_of_ble_eq_true rfl) ⟨Nat.le_of_ble_eq_true rfl, Nat.le_of_ble_eq_true rfl⟩ d_Sz_steel_13 (fun k_4 ce q9 H1 locs hz hk hS h1 h2 h3 => ?_) (fun k_4 locs hS => ?_)
    · exact vx_out (fun x hx9 => (htab x hx9).elim) hlocks h1 h2 h3 (fun t ht hvm => ⟨(), trivial, ⟨Or.inl ⟨(by simp only [kdSteel, if_pos k_1, if_neg k_4]), rfl⟩, by rw [ht]; exact P_keep hP hk, va_K.moved hvm hK, hD⟩, hS.F ht⟩) hS.2.2 (by decide) (by decide)
    · refine lv_aload_n hx hb d_Sz_steel_16 rfl (lv_at hl 0 rfl) ?_
      refine pg_get (C := "SmokeZones") (T := T_Sz) (N := 17) hx hb hG in_Sz hown hK hP g0L g0E rfl 10 (by decide) (hG _ k45) (fun _ h9 => h9) rfl d_Sz_steel_17 ?_
      refine lv_bipush (v := 9) hx hb d_Sz_steel_20 (by decide) ?_
      refine kS_ck ⟨hx, hb, hml, hown, hG⟩ (c_Sz_needSpace hl0 ) (cwS 2 hG (gS k169 k170 k1 k171) rfl rfl rfl hd_Sz_needSpace ⟨Nat.le_of_ble_eq_true rfl, Nat.le_of_ble_eq_true rfl⟩) hK hP hS hA hE rfl hl.1 rfl (Nat.le_of_ble_eq_true rfl) ⟨Nat.le_of_ble_eq_true rfl, Nat.le_of_ble_eq_true rfl⟩ d_Sz_steel_22 (fun k_5 ce q9 H1 locs hz hk hS h1 h2 h3 => ?_) (fun k_5 locs hS => ?_)
      · exact vx_out (fun x hx9 => (htab x hx9).elim) hlocks h1 h2 h3 (fun t ht hvm => ⟨(), trivial, ⟨Or.inr ⟨(by simp only [kdSteel, if_pos k_1, if_pos k_4, if_neg k_5]), rfl⟩, by rw [ht]; exact P_keep hP hk, va_K.moved hvm hK, hD⟩, hS.F ht⟩) hS.2.2 (by decide) (by decide)
      · have hlt : n 4 < 9 := nI_lt_of (b := 9) (by omega) (by decide) k_5
        obtain ⟨g_6L, g_6E⟩ := hCW.a4
        have ne_AD_9_0_AD_8_4 : AD 9 0 ≠ AD 8 4 := hCW.ne (k := 9) (i := 0) (k' := 8) (i' := 4) (lv9) (lv8 (by decide)) (by omega)
        have ne_AD_9_0_AD_0_r : AD 9 0 ≠ AD 0 r := hCW.ne (k := 9) (i := 0) (k' := 0) (i' := r) (lv9) (lv0 (by decide) hr) (by omega)
        have ne_AD_9_0_AD_8_0 : AD 9 0 ≠ AD 8 0 := hCW.ne (k := 9) (i := 0) (k' := 8) (i' := 0) (lv9) (lv8 (by decide)) (by omega)
        have ne_AD_8_4_AD_9_0 : AD 8 4 ≠ AD 9 0 := hCW.ne (k := 8) (i := 4) (k' := 9) (i' := 0) (lv8 (by decide)) (lv9) (by omega)
        have ne_AD_8_4_AD_0_r : AD 8 4 ≠ AD 0 r := hCW.ne (k := 8) (i := 4) (k' := 0) (i' := r) (lv8 (by decide)) (lv0 (by decide) hr) (by omega)
        have ne_AD_8_4_AD_8_0 : AD 8 4 ≠ AD 8 0 := hCW.ne (k := 8) (i := 4) (k' := 8) (i' := 0) (lv8 (by decide)) (lv8 (by decide)) (by omega)
        have ne_AD_0_r_AD_9_0 : AD 0 r ≠ AD 9 0 := hCW.ne (k := 0) (i := r) (k' := 9) (i' := 0) (lv0 (by decide) hr) (lv9) (by omega)
        have ne_AD_0_r_AD_8_4 : AD 0 r ≠ AD 8 4 := hCW.ne (k := 0) (i := r) (k' := 8) (i' := 4) (lv0 (by decide) hr) (lv8 (by decide)) (by omega)
        have ne_AD_0_r_AD_8_0 : AD 0 r ≠ AD 8 0 := hCW.ne (k := 0) (i := r) (k' := 8) (i' := 0) (lv0 (by decide) hr) (lv8 (by decide)) (by omega)
        have ne_AD_8_0_AD_9_0 : AD 8 0 ≠ AD 9 0 := hCW.ne (k := 8) (i := 0) (k' := 9) (i' := 0) (lv8 (by decide)) (lv9) (by omega)
        have ne_AD_8_0_AD_8_4 : AD 8 0 ≠ AD 8 4 := hCW.ne (k := 8) (i := 0) (k' := 8) (i' := 4) (lv8 (by decide)) (lv8 (by decide)) (by omega)
        have ne_AD_8_0_AD_0_r : AD 8 0 ≠ AD 0 r := hCW.ne (k := 8) (i := 0) (k' := 0) (i' := r) (lv8 (by decide)) (lv0 (by decide) hr) (by omega)
        refine lv_aload_n hx hb d_Sz_steel_25 rfl (lv_at hl 0 rfl) ?_
        refine pg_get (C := "SmokeZones") (T := T_Sz) (N := 17) hx hb hG in_Sz hown hK hP g0L g0E rfl 4 (by decide) (hG _ k39) (fun _ h9 => h9) rfl d_Sz_steel_26 ?_
        refine lv_aload_n hx hb d_Sz_steel_29 rfl (lv_at hl 0 rfl) ?_
        refine pg_get (C := "SmokeZones") (T := T_Sz) (N := 17) hx hb hG in_Sz hown hK hP g0L g0E rfl 10 (by decide) (hG _ k45) (fun _ h9 => h9) rfl d_Sz_steel_30 ?_
        refine pg_new (ci := 4) (fs := [.null, .int 0, .int 0]) (C := "SmokeZones$Steel") (T := T_St) (N := 3) hx hb hG in_St ty_St ok_St hown (hG _ k31) (hG _ k359) (hG _ k12) hK hP hD hS hA rfl (fun j hj => by first | (rcases lt3 hj with rfl | rfl | rfl <;> rfl)) (Nat.le_of_ble_eq_true rfl) (Nat.le_of_ble_eq_true rfl) d_Sz_steel_33 (fun q_7 H hn_q_7 hP hD hS => ?_)
        have ne_AD_9_0_q_7 : AD 9 0 ≠ q_7 := fun h => hn_q_7 (h ▸ g0L)
        have ne_q_7_AD_9_0 : q_7 ≠ AD 9 0 := fun h => ne_AD_9_0_q_7 h.symm
        have m_8 : AD 9 0 ∈ L ++ [q_7] := List.mem_append_left _ g0L
        have ne_AD_0_r_q_7 : AD 0 r ≠ q_7 := fun h => hn_q_7 (h ▸ g_2L)
        have ne_q_7_AD_0_r : q_7 ≠ AD 0 r := fun h => ne_AD_0_r_q_7 h.symm
        have m_9 : AD 0 r ∈ L ++ [q_7] := List.mem_append_left _ g_2L
        have ne_AD_8_0_q_7 : AD 8 0 ≠ q_7 := fun h => hn_q_7 (h ▸ g_3L)
        have ne_q_7_AD_8_0 : q_7 ≠ AD 8 0 := fun h => ne_AD_8_0_q_7 h.symm
        have m_10 : AD 8 0 ∈ L ++ [q_7] := List.mem_append_left _ g_3L
        have ne_AD_8_4_q_7 : AD 8 4 ≠ q_7 := fun h => hn_q_7 (h ▸ g_6L)
        have ne_q_7_AD_8_4 : q_7 ≠ AD 8 4 := fun h => ne_AD_8_4_q_7 h.symm
        have m_11 : AD 8 4 ∈ L ++ [q_7] := List.mem_append_left _ g_6L
        have m_12 : q_7 ∈ L ++ [q_7] := List.mem_append_right _ (List.mem_singleton.mpr rfl)
        have hP : va_P D vwCl (va_pl (L ++ [q_7]) (va_up f q_7 (.inr (4, [.null, .int 0, .int 0])))) H := hP
        have hD : va_D A (va_pl (L ++ [q_7]) (va_up f q_7 (.inr (4, [.null, .int 0, .int 0])))) := hD
        have e_13 : (va_up f q_7 (.inr (4, [.null, .int 0, .int 0]))) q_7 = .inr (4, [.null, .int 0, .int 0]) := va_up_self _ _ _
        have e_14 : (va_up f q_7 (.inr (4, [.null, .int 0, .int 0]))) (AD 9 0) = .inr (6, [.ref (AD 8 0), .ref (AD 8 1), .ref (AD 8 2), .ref (AD 8 3), .ref (AD 8 4), .ref (AD 8 5), .int (nI (n 0)), .int (nI (n 1)), .int (nI (n 2)), .int (nI (n 3)), .int (nI (n 4)), .int (nI (n 5)), .int (I 99 0), .long (J 99 0), .long (J 99 1), .long (J 99 2), .long (J 99 3)]) := (va_up_ne _ _ ne_AD_9_0_q_7).trans g0E
        have e_15 : (va_up f q_7 (.inr (4, [.null, .int 0, .int 0]))) (AD 0 r) = .inr (0, [.int (I 0 r), .int (I 1 r), .long (J 0 r), .long (J 1 r), .long (J 2 r), .int (I 2 r), .int (I 3 r), .int (I 4 r)]) := (va_up_ne _ _ ne_AD_0_r_q_7).trans g_2E
        have e_16 : (va_up f q_7 (.inr (4, [.null, .int 0, .int 0]))) (AD 8 0) = .inl (ct 0, 10, .inr (.inr (.inr (.inr (fun j => if j < n 0 then some (AD 0 j) else none))))) := (va_up_ne _ _ ne_AD_8_0_q_7).trans g_3E
        have e_17 : (va_up f q_7 (.inr (4, [.null, .int 0, .int 0]))) (AD 8 4) = .inl (ct 4, 9, .inr (.inr (.inr (.inr (fun j => if j < n 4 then some (AD 4 j) else none))))) := (va_up_ne _ _ ne_AD_8_4_q_7).trans g_6E
        refine lv_dup hx hb d_Sz_steel_36 rfl ?_
        refine lv_aload_n hx hb d_Sz_steel_37 rfl (lv_at hl 0 rfl) ?_
        refine pg_get (C := "SmokeZones") (T := T_Sz) (N := 17) hx hb hG in_Sz hown hK hP m_8 e_14 rfl 0 (by decide) (hG _ k35) (fun _ h9 => h9) rfl d_Sz_steel_38 ?_
        refine lv_iload_n hx hb d_Sz_steel_41 rfl (lv_at hl 1 rfl) ?_
        refine pg_ald hx hb hK hP 0 m_10 e_16 rfl (by rw [er]; exact vp_in_nI (by omega) (by decide)) (by rw [er]; exact rf_at hr (by omega)) d_Sz_steel_42 ?_
        refine lv_iload_n hx hb d_Sz_steel_43 rfl (lv_at hl 2 rfl) ?_
        refine kI_wv (f' := va_up (va_up f q_7 (.inr (4, [.null, .int 0, .int 0]))) q_7 (.inr (4, [.ref (AD 0 r), .int p2, .int 0]))) ⟨hx, hb, hml, hown, hG⟩ (c_St_init m_12 e_13) (cwI 2 hG (gw_c k362) rfl rfl rfl (hG _ k12) (hG _ k360) (hG _ k361) rfl hd_St_init ⟨Nat.le_of_ble_eq_true rfl, Nat.le_of_ble_eq_true rfl⟩) hK hP hD hS hA rfl hl.1 rfl (Nat.le_of_ble_eq_true rfl) ⟨Nat.le_of_ble_eq_true rfl, Nat.le_of_ble_eq_true rfl⟩ d_Sz_steel_44 (fun H locs hP hD hS => ?_)
        rw [bx_uu] at hP hD
        have hP : va_P D vwCl (va_pl (L ++ [q_7]) (va_up f q_7 (.inr (4, [.ref (AD 0 r), .int p2, .int 0])))) H := hP
        have hD : va_D A (va_pl (L ++ [q_7]) (va_up f q_7 (.inr (4, [.ref (AD 0 r), .int p2, .int 0])))) := hD
        have e_18 : (va_up f q_7 (.inr (4, [.ref (AD 0 r), .int p2, .int 0]))) q_7 = .inr (4, [.ref (AD 0 r), .int p2, .int 0]) := va_up_self _ _ _
        have e_19 : (va_up f q_7 (.inr (4, [.ref (AD 0 r), .int p2, .int 0]))) (AD 9 0) = .inr (6, [.ref (AD 8 0), .ref (AD 8 1), .ref (AD 8 2), .ref (AD 8 3), .ref (AD 8 4), .ref (AD 8 5), .int (nI (n 0)), .int (nI (n 1)), .int (nI (n 2)), .int (nI (n 3)), .int (nI (n 4)), .int (nI (n 5)), .int (I 99 0), .long (J 99 0), .long (J 99 1), .long (J 99 2), .long (J 99 3)]) := (va_up_ne _ _ ne_AD_9_0_q_7).trans g0E
        have e_20 : (va_up f q_7 (.inr (4, [.ref (AD 0 r), .int p2, .int 0]))) (AD 0 r) = .inr (0, [.int (I 0 r), .int (I 1 r), .long (J 0 r), .long (J 1 r), .long (J 2 r), .int (I 2 r), .int (I 3 r), .int (I 4 r)]) := (va_up_ne _ _ ne_AD_0_r_q_7).trans g_2E
        have e_21 : (va_up f q_7 (.inr (4, [.ref (AD 0 r), .int p2, .int 0]))) (AD 8 0) = .inl (ct 0, 10, .inr (.inr (.inr (.inr (fun j => if j < n 0 then some (AD 0 j) else none))))) := (va_up_ne _ _ ne_AD_8_0_q_7).trans g_3E
        have e_22 : (va_up f q_7 (.inr (4, [.ref (AD 0 r), .int p2, .int 0]))) (AD 8 4) = .inl (ct 4, 9, .inr (.inr (.inr (.inr (fun j => if j < n 4 then some (AD 4 j) else none))))) := (va_up_ne _ _ ne_AD_8_4_q_7).trans g_6E
        refine pg_astq hx hb hK hP hD hS 4 4 m_11 e_22 rfl m_12 e_18 rfl (vp_in_nI hlt (by decide)) d_Sz_steel_47 (fun H locs hP hD hS => ?_)
        have hP : va_P D vwCl (va_pl (L ++ [q_7]) (va_up (va_up f q_7 (.inr (4, [.ref (AD 0 r), .int p2, .int 0]))) (AD 8 4) (.inl (ct 4, 9, .inr (.inr (.inr (.inr (va_up (fun j => if j < n 4 then some (AD 4 j) else none) (Int32.toNatClampNeg (nI (n 4))) (some q_7))))))))) H := hP
        have hD : va_D A (va_pl (L ++ [q_7]) (va_up (va_up f q_7 (.inr (4, [.ref (AD 0 r), .int p2, .int 0]))) (AD 8 4) (.inl (ct 4, 9, .inr (.inr (.inr (.inr (va_up (fun j => if j < n 4 then some (AD 4 j) else none) (Int32.toNatClampNeg (nI (n 4))) (some q_7))))))))) := hD
        have e_23 : (va_up (va_up f q_7 (.inr (4, [.ref (AD 0 r), .int p2, .int 0]))) (AD 8 4) (.inl (ct 4, 9, .inr (.inr (.inr (.inr (va_up (fun j => if j < n 4 then some (AD 4 j) else none) (Int32.toNatClampNeg (nI (n 4))) (some q_7)))))))) (AD 8 4) = .inl (ct 4, 9, .inr (.inr (.inr (.inr (va_up (fun j => if j < n 4 then some (AD 4 j) else none) (Int32.toNatClampNeg (nI (n 4))) (some q_7)))))) := va_up_self _ _ _
        have e_24 : (va_up (va_up f q_7 (.inr (4, [.ref (AD 0 r), .int p2, .int 0]))) (AD 8 4) (.inl (ct 4, 9, .inr (.inr (.inr (.inr (va_up (fun j => if j < n 4 then some (AD 4 j) else none) (Int32.toNatClampNeg (nI (n 4))) (some q_7)))))))) (AD 9 0) = .inr (6, [.ref (AD 8 0), .ref (AD 8 1), .ref (AD 8 2), .ref (AD 8 3), .ref (AD 8 4), .ref (AD 8 5), .int (nI (n 0)), .int (nI (n 1)), .int (nI (n 2)), .int (nI (n 3)), .int (nI (n 4)), .int (nI (n 5)), .int (I 99 0), .long (J 99 0), .long (J 99 1), .long (J 99 2), .long (J 99 3)]) := (va_up_ne _ _ ne_AD_9_0_AD_8_4).trans e_19
        have e_25 : (va_up (va_up f q_7 (.inr (4, [.ref (AD 0 r), .int p2, .int 0]))) (AD 8 4) (.inl (ct 4, 9, .inr (.inr (.inr (.inr (va_up (fun j => if j < n 4 then some (AD 4 j) else none) (Int32.toNatClampNeg (nI (n 4))) (some q_7)))))))) (AD 0 r) = .inr (0, [.int (I 0 r), .int (I 1 r), .long (J 0 r), .long (J 1 r), .long (J 2 r), .int (I 2 r), .int (I 3 r), .int (I 4 r)]) := (va_up_ne _ _ ne_AD_0_r_AD_8_4).trans e_20
        have e_26 : (va_up (va_up f q_7 (.inr (4, [.ref (AD 0 r), .int p2, .int 0]))) (AD 8 4) (.inl (ct 4, 9, .inr (.inr (.inr (.inr (va_up (fun j => if j < n 4 then some (AD 4 j) else none) (Int32.toNatClampNeg (nI (n 4))) (some q_7)))))))) (AD 8 0) = .inl (ct 0, 10, .inr (.inr (.inr (.inr (fun j => if j < n 0 then some (AD 0 j) else none))))) := (va_up_ne _ _ ne_AD_8_0_AD_8_4).trans e_21
        have e_27 : (va_up (va_up f q_7 (.inr (4, [.ref (AD 0 r), .int p2, .int 0]))) (AD 8 4) (.inl (ct 4, 9, .inr (.inr (.inr (.inr (va_up (fun j => if j < n 4 then some (AD 4 j) else none) (Int32.toNatClampNeg (nI (n 4))) (some q_7)))))))) q_7 = .inr (4, [.ref (AD 0 r), .int p2, .int 0]) := (va_up_ne _ _ ne_q_7_AD_8_4).trans e_18
        refine lv_aload_n hx hb d_Sz_steel_48 rfl (lv_at hl 0 rfl) ?_
        refine lv_dup hx hb d_Sz_steel_49 rfl ?_
        refine pg_get (C := "SmokeZones") (T := T_Sz) (N := 17) hx hb hG in_Sz hown hK hP m_8 e_24 rfl 10 (by decide) (hG _ k45) (fun _ h9 => h9) rfl d_Sz_steel_50 ?_
        refine lv_iconst (v := 1) hx hb d_Sz_steel_53 (by decide) ?_
        refine lv_iadd hx hb d_Sz_steel_54 ?_
        refine pg_put (C := "SmokeZones") (T := T_Sz) (N := 17) (ty := .int) hx hb hG in_Sz ty_Sz ok_Sz nm_Sz hown hK hP hD hS m_8 e_24 rfl 10 (by decide) (hG _ k45) (fun _ h9 => h9) rfl (by decide +kernel) rfl rfl (Nat.le_of_ble_eq_true rfl) d_Sz_steel_55 (fun H locs hP hD hS => ?_)
        have hP : va_P D vwCl (va_pl (L ++ [q_7]) (va_up (va_up (va_up f q_7 (.inr (4, [.ref (AD 0 r), .int p2, .int 0]))) (AD 8 4) (.inl (ct 4, 9, .inr (.inr (.inr (.inr (va_up (fun j => if j < n 4 then some (AD 4 j) else none) (Int32.toNatClampNeg (nI (n 4))) (some q_7)))))))) (AD 9 0) (.inr (6, [.ref (AD 8 0), .ref (AD 8 1), .ref (AD 8 2), .ref (AD 8 3), .ref (AD 8 4), .ref (AD 8 5), .int (nI (n 0)), .int (nI (n 1)), .int (nI (n 2)), .int (nI (n 3)), .int ((nI (n 4)) + 1), .int (nI (n 5)), .int (I 99 0), .long (J 99 0), .long (J 99 1), .long (J 99 2), .long (J 99 3)])))) H := hP
        have hD : va_D A (va_pl (L ++ [q_7]) (va_up (va_up (va_up f q_7 (.inr (4, [.ref (AD 0 r), .int p2, .int 0]))) (AD 8 4) (.inl (ct 4, 9, .inr (.inr (.inr (.inr (va_up (fun j => if j < n 4 then some (AD 4 j) else none) (Int32.toNatClampNeg (nI (n 4))) (some q_7)))))))) (AD 9 0) (.inr (6, [.ref (AD 8 0), .ref (AD 8 1), .ref (AD 8 2), .ref (AD 8 3), .ref (AD 8 4), .ref (AD 8 5), .int (nI (n 0)), .int (nI (n 1)), .int (nI (n 2)), .int (nI (n 3)), .int ((nI (n 4)) + 1), .int (nI (n 5)), .int (I 99 0), .long (J 99 0), .long (J 99 1), .long (J 99 2), .long (J 99 3)])))) := hD
        have e_28 : (va_up (va_up (va_up f q_7 (.inr (4, [.ref (AD 0 r), .int p2, .int 0]))) (AD 8 4) (.inl (ct 4, 9, .inr (.inr (.inr (.inr (va_up (fun j => if j < n 4 then some (AD 4 j) else none) (Int32.toNatClampNeg (nI (n 4))) (some q_7)))))))) (AD 9 0) (.inr (6, [.ref (AD 8 0), .ref (AD 8 1), .ref (AD 8 2), .ref (AD 8 3), .ref (AD 8 4), .ref (AD 8 5), .int (nI (n 0)), .int (nI (n 1)), .int (nI (n 2)), .int (nI (n 3)), .int ((nI (n 4)) + 1), .int (nI (n 5)), .int (I 99 0), .long (J 99 0), .long (J 99 1), .long (J 99 2), .long (J 99 3)]))) (AD 9 0) = .inr (6, [.ref (AD 8 0), .ref (AD 8 1), .ref (AD 8 2), .ref (AD 8 3), .ref (AD 8 4), .ref (AD 8 5), .int (nI (n 0)), .int (nI (n 1)), .int (nI (n 2)), .int (nI (n 3)), .int ((nI (n 4)) + 1), .int (nI (n 5)), .int (I 99 0), .long (J 99 0), .long (J 99 1), .long (J 99 2), .long (J 99 3)]) := va_up_self _ _ _
        have e_29 : (va_up (va_up (va_up f q_7 (.inr (4, [.ref (AD 0 r), .int p2, .int 0]))) (AD 8 4) (.inl (ct 4, 9, .inr (.inr (.inr (.inr (va_up (fun j => if j < n 4 then some (AD 4 j) else none) (Int32.toNatClampNeg (nI (n 4))) (some q_7)))))))) (AD 9 0) (.inr (6, [.ref (AD 8 0), .ref (AD 8 1), .ref (AD 8 2), .ref (AD 8 3), .ref (AD 8 4), .ref (AD 8 5), .int (nI (n 0)), .int (nI (n 1)), .int (nI (n 2)), .int (nI (n 3)), .int ((nI (n 4)) + 1), .int (nI (n 5)), .int (I 99 0), .long (J 99 0), .long (J 99 1), .long (J 99 2), .long (J 99 3)]))) (AD 0 r) = .inr (0, [.int (I 0 r), .int (I 1 r), .long (J 0 r), .long (J 1 r), .long (J 2 r), .int (I 2 r), .int (I 3 r), .int (I 4 r)]) := (va_up_ne _ _ ne_AD_0_r_AD_9_0).trans e_25
        have e_30 : (va_up (va_up (va_up f q_7 (.inr (4, [.ref (AD 0 r), .int p2, .int 0]))) (AD 8 4) (.inl (ct 4, 9, .inr (.inr (.inr (.inr (va_up (fun j => if j < n 4 then some (AD 4 j) else none) (Int32.toNatClampNeg (nI (n 4))) (some q_7)))))))) (AD 9 0) (.inr (6, [.ref (AD 8 0), .ref (AD 8 1), .ref (AD 8 2), .ref (AD 8 3), .ref (AD 8 4), .ref (AD 8 5), .int (nI (n 0)), .int (nI (n 1)), .int (nI (n 2)), .int (nI (n 3)), .int ((nI (n 4)) + 1), .int (nI (n 5)), .int (I 99 0), .long (J 99 0), .long (J 99 1), .long (J 99 2), .long (J 99 3)]))) (AD 8 0) = .inl (ct 0, 10, .inr (.inr (.inr (.inr (fun j => if j < n 0 then some (AD 0 j) else none))))) := (va_up_ne _ _ ne_AD_8_0_AD_9_0).trans e_26
        have e_31 : (va_up (va_up (va_up f q_7 (.inr (4, [.ref (AD 0 r), .int p2, .int 0]))) (AD 8 4) (.inl (ct 4, 9, .inr (.inr (.inr (.inr (va_up (fun j => if j < n 4 then some (AD 4 j) else none) (Int32.toNatClampNeg (nI (n 4))) (some q_7)))))))) (AD 9 0) (.inr (6, [.ref (AD 8 0), .ref (AD 8 1), .ref (AD 8 2), .ref (AD 8 3), .ref (AD 8 4), .ref (AD 8 5), .int (nI (n 0)), .int (nI (n 1)), .int (nI (n 2)), .int (nI (n 3)), .int ((nI (n 4)) + 1), .int (nI (n 5)), .int (I 99 0), .long (J 99 0), .long (J 99 1), .long (J 99 2), .long (J 99 3)]))) (AD 8 4) = .inl (ct 4, 9, .inr (.inr (.inr (.inr (va_up (fun j => if j < n 4 then some (AD 4 j) else none) (Int32.toNatClampNeg (nI (n 4))) (some q_7)))))) := (va_up_ne _ _ ne_AD_8_4_AD_9_0).trans e_23
        have e_32 : (va_up (va_up (va_up f q_7 (.inr (4, [.ref (AD 0 r), .int p2, .int 0]))) (AD 8 4) (.inl (ct 4, 9, .inr (.inr (.inr (.inr (va_up (fun j => if j < n 4 then some (AD 4 j) else none) (Int32.toNatClampNeg (nI (n 4))) (some q_7)))))))) (AD 9 0) (.inr (6, [.ref (AD 8 0), .ref (AD 8 1), .ref (AD 8 2), .ref (AD 8 3), .ref (AD 8 4), .ref (AD 8 5), .int (nI (n 0)), .int (nI (n 1)), .int (nI (n 2)), .int (nI (n 3)), .int ((nI (n 4)) + 1), .int (nI (n 5)), .int (I 99 0), .long (J 99 0), .long (J 99 1), .long (J 99 2), .long (J 99 3)]))) q_7 = .inr (4, [.ref (AD 0 r), .int p2, .int 0]) := (va_up_ne _ _ ne_q_7_AD_9_0).trans e_27
        refine lv_aload_n hx hb d_Sz_steel_58 rfl (lv_at hl 0 rfl) ?_
        refine pg_get (C := "SmokeZones") (T := T_Sz) (N := 17) hx hb hG in_Sz hown hK hP m_8 e_28 rfl 10 (by decide) (hG _ k45) (fun _ h9 => h9) rfl d_Sz_steel_59 ?_
        refine lv_iconst (v := 1) hx hb d_Sz_steel_62 (by decide) ?_
        refine lv_isub hx hb d_Sz_steel_63 ?_
        have hPk : ∀ a i, ¬ (i = n 4 ∧ pk a = 4) → (up2 P 5 (n 4) p1.toNatClampNeg) a i = P a i := by
          intro a i h
          rw [up2_ne _ _ _ _ (fun e => h ⟨e.2, by rw [e.1]; rfl⟩)]
        have hN : CW ct (up2 AD 4 (n 4) q_7) (L ++ [q_7]) (va_up n 4 ((n 4) + 1)) (nwStI I (n 4) p2) J (up2 P 5 (n 4) p1.toNatClampNeg) (va_up (va_up (va_up f q_7 (.inr (4, [.ref (AD 0 r), .int p2, .int 0]))) (AD 8 4) (.inl (ct 4, 9, .inr (.inr (.inr (.inr (va_up (fun j => if j < n 4 then some (AD 4 j) else none) (Int32.toNatClampNeg (nI (n 4))) (some q_7)))))))) (AD 9 0) (.inr (6, [.ref (AD 8 0), .ref (AD 8 1), .ref (AD 8 2), .ref (AD 8 3), .ref (AD 8 4), .ref (AD 8 5), .int (nI (n 0)), .int (nI (n 1)), .int (nI (n 2)), .int (nI (n 3)), .int ((nI (n 4)) + 1), .int (nI (n 5)), .int (I 99 0), .long (J 99 0), .long (J 99 1), .long (J 99 2), .long (J 99 3)]))) := by
          refine hCW.push (k := 4) (by decide) hn_q_7 (co_grow hCW.2.2 (by decide) (fun a b h => by unfold nwStI; repeat' (first | rfl | rw [up2_ne _ _ _ _ (by omega)])) (fun _ _ _ => rfl) hPk) ?_ ?_ ?_ ?_ (inv_grow hCW.2.2 (by decide) hlt hPk (fun h => by omega) (fun h => by omega) (fun h => by omega) (fun _ => by rw [up2_at, hcl]; exact hr))
          · rw [e_32]; simp [cellOf, roomE, openE, fireE, fanE, steelE, farV, up2, va_up, nwStI, hcl]
          · rw [e_31, rf_push (k := 0) (by omega)]; simp [cellOf, cap, up2, va_up]
          · rw [e_28]; simp [cellOf, mainE, up2, va_up, nI_1, nwStI]
          · intro a h1 h2 h3; simp [va_up, h1, h2, h3]
        have had9 : up2 AD 4 (n 4) q_7 9 0 = AD 9 0 := up2_ne _ _ _ _ (by omega)
        refine W.widen (k := 12) (n := 100) (by decide) (by decide) ?_
        exact vx_ret (W.iret hx hb hret (fun t ht hW => ⟨⟨_, ((up2 AD 4 (n 4) q_7), (L ++ [q_7]), va_up (va_up (va_up f q_7 (.inr (4, [.ref (AD 0 r), .int p2, .int 0]))) (AD 8 4) (.inl (ct 4, 9, .inr (.inr (.inr (.inr (va_up (fun j => if j < n 4 then some (AD 4 j) else none) (Int32.toNatClampNeg (nI (n 4))) (some q_7)))))))) (AD 9 0) (.inr (6, [.ref (AD 8 0), .ref (AD 8 1), .ref (AD 8 2), .ref (AD 8 3), .ref (AD 8 4), .ref (AD 8 5), .int (nI (n 0)), .int (nI (n 1)), .int (nI (n 2)), .int (nI (n 3)), .int ((nI (n 4)) + 1), .int (nI (n 5)), .int (I 99 0), .long (J 99 0), .long (J 99 1), .long (J 99 2), .long (J 99 3)]))), rfl, ⟨(by simp only [kdSteel, if_pos k_1, if_pos k_4, if_pos k_5]), (by rw [nI_1, nI_pred]), hN, had9⟩, by rw [ht]; exact hP, va_K.moved hW.alike hK, hD⟩, hS.F ht⟩) hS.2.2 d_Sz_steel_64)
