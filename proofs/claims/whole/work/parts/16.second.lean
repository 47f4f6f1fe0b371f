def sJ1 (n : Nat → Nat) (x : St3) : Nat → Nat → Int64 := bL x.1 x.2.2 (n 2) 0 x.2.1
def sJ2 (n : Nat → Nat) (x : St3) : Nat → Nat → Int64 := vL x.2.2 (n 1) 0 (mL x.1 x.2.2 (n 1) 0 (sJ1 n x))
def sJ3 (n : Nat → Nat) (x : St3) : Nat → Nat → Int64 := fL x.1 x.2.2 (n 3) 0 (sJ2 n x)
def sJ4 (n : Nat → Nat) (x : St3) : Nat → Nat → Int64 := pL (n 0) 0 (sJ3 n x)
def sI1 (n : Nat → Nat) (x : St3) : Nat → Nat → Int32 := tL (sJ4 n x) x.2.2 (n 4) 0 (zL (sJ4 n x) x.2.2 (n 1) 0 (aL (sJ4 n x) (n 0) 0 x.1))
def sW (n : Nat → Nat) (x : St3) : St3 := wL n (n 5) 0 (sI1 n x, sJ4 n x, x.2.2)
def sI3 (n : Nat → Nat) (x : St3) : Nat → Nat → Int32 := nL (sW n x).2.1 (n 0) 0 (sW n x).1
def secS (n : Nat → Nat) (x : St3) : St3 := (up2 (sI3 n x) 99 0 (sI3 n x 99 0 + 1), (sW n x).2.1, (sW n x).2.2)
def secL (n : Nat → Nat) : Nat → St3 → St3
  | 0, x => x
  | k + 1, x => secL n k (secS n x)
def smS (J : Nat → Nat → Int64) : Nat → Nat → Int64 → Int64
  | 0, _, a => a
  | k + 1, i, a => smS J k (i + 1) (a + J 1 i)

set_option maxHeartbeats 4000000 in
set_option maxRecDepth 100000 in
theorem c_Sz_passSecond {l : Launch} {D : va_G} {ct : Nat → ClassId} {AD : Nat → Nat → Nat} {L : List Nat} {f : Nat → va_E} {sz : Nat} {n : Nat → Nat} {I : Nat → Nat → Int32} {J : Nat → Nat → Int64} {P : Nat → Nat → Nat} (hCW : CW ct AD L n I J P f) : Met l y_Sz_passSecond (WS y_Sz_passSecond b_Sz_passSecond 1 none) { frames := 5, cells := 0, slots := 0, locals := 109 } (va_Pc [.ref (AD 9 0)] (WP D (TYS ct) L f sz)) (Xs D (TYS ct) L (AA L f sz) (fun f' => CW ct AD L n (secS n (I, J, P)).1 (secS n (I, J, P)).2.1 (secS n (I, J, P)).2.2 f')) 0 0 (AA L f sz) := by
  refine Met.ofW (cc := b_Sz_passSecond) (maxL := 1) (ret := none) (by decide) rfl ?_
  intro p e s m args below meth c s₁ B hml hv
  obtain ⟨rfl, hsz, hP, hK, hD0⟩ := hv
  subst hsz
  have hx := B.exec
  have hb := B.bytes
  have hret := B.returns
  have hts := atoms_spec (ws := WS y_Sz_passSecond b_Sz_passSecond 1 none) B.pre
  have hG : ∀ w ∈ GW, w.before _ s = true := fun w h => hts w (List.mem_cons_of_mem _ h)
  have hown : s.vm.findClass "SmokeZones" = some m.cls := findClass_of_methodNamed B.named
  have hlocks := B.notSynchronized
  have hD : va_D (AA L f s.heap.size) (va_pl L f) := hD0.self (sz := s.heap.size)
  generalize hAe : AA L f s.heap.size = A at hD ⊢
  have hA : ∀ q : Nat, s.heap.size ≤ q → A q := fun q h => by rw [← hAe]; exact Or.inr h
  have hS : va_S A s.heap s.heap [] := va_S.rf
  have hl := lv_entry ([.ref (AD 9 0)]) (n := 1) (Nat.le_of_ble_eq_true rfl)
  rw [lg_entry_eq]
  generalize (lg_sl ([.ref (AD 9 0)]) ++ List.replicate (1 - (lg_sl ([.ref (AD 9 0)])).length) Slot.unset).toArray = ls at hl ⊢
  have hl : lv_has ls 1 [(0, .ref (AD 9 0))] := hl
  obtain ⟨g0L, g0E⟩ := hCW.ma
  have hC0 := hCW
  refine lv_aload_n hx hb d_Sz_passSecond_0 rfl (lv_at hl 0 rfl) ?_
  refine kV_ws ⟨hx, hb, hml, hown, hG⟩ (c_Sz_burnFires hC0) (cwV 0 hG (gV k438 k440 ks_Sz_burnFires k1 k441) rfl rfl rfl hd_Sz_burnFires ⟨Nat.le_of_ble_eq_true rfl, Nat.le_of_ble_eq_true rfl⟩) hK hP hD hS hA g0L g0E rfl rfl hl.1 rfl (Nat.le_of_ble_eq_true rfl) ⟨Nat.le_of_ble_eq_true rfl, Nat.le_of_ble_eq_true rfl⟩ d_Sz_passSecond_1 (fun f1 H locs hC1 hP hD hS => ?_)
  have hC1 : CW ct AD L n I (sJ1 n (I, J, P)) P f1 := hC1
  obtain ⟨g1L, g1E⟩ := hC1.ma
  refine lv_aload_n hx hb d_Sz_passSecond_4 rfl (lv_at hl 0 rfl) ?_
  refine kV_ws ⟨hx, hb, hml, hown, hG⟩ (c_Sz_flowThroughOpenings hC1) (cwV 0 hG (gV k454 k456 ks_Sz_flowThroughOpenings k1 k457) rfl rfl rfl hd_Sz_flowThroughOpenings ⟨Nat.le_of_ble_eq_true rfl, Nat.le_of_ble_eq_true rfl⟩) hK hP hD hS hA g1L g1E rfl rfl hl.1 rfl (Nat.le_of_ble_eq_true rfl) ⟨Nat.le_of_ble_eq_true rfl, Nat.le_of_ble_eq_true rfl⟩ d_Sz_passSecond_5 (fun f2 H locs hC2 hP hD hS => ?_)
  have hC2 : CW ct AD L n I (sJ2 n (I, J, P)) P f2 := hC2
  obtain ⟨g2L, g2E⟩ := hC2.ma
  refine lv_aload_n hx hb d_Sz_passSecond_8 rfl (lv_at hl 0 rfl) ?_
  refine kV_ws ⟨hx, hb, hml, hown, hG⟩ (c_Sz_blowFans hC2) (cwV 0 hG (gV k499 k501 ks_Sz_blowFans k1 k502) rfl rfl rfl hd_Sz_blowFans ⟨Nat.le_of_ble_eq_true rfl, Nat.le_of_ble_eq_true rfl⟩) hK hP hD hS hA g2L g2E rfl rfl hl.1 rfl (Nat.le_of_ble_eq_true rfl) ⟨Nat.le_of_ble_eq_true rfl, Nat.le_of_ble_eq_true rfl⟩ d_Sz_passSecond_9 (fun f3 H locs hC3 hP hD hS => ?_)
  have hC3 : CW ct AD L n I (sJ3 n (I, J, P)) P f3 := hC3
  obtain ⟨g3L, g3E⟩ := hC3.ma
  refine lv_aload_n hx hb d_Sz_passSecond_12 rfl (lv_at hl 0 rfl) ?_
  refine kV_ws ⟨hx, hb, hml, hown, hG⟩ (c_Sz_pressOutOfRooms hC3) (cwV 0 hG (gV k510 k512 ks_Sz_pressOutOfRooms k1 k513) rfl rfl rfl hd_Sz_pressOutOfRooms ⟨Nat.le_of_ble_eq_true rfl, Nat.le_of_ble_eq_true rfl⟩) hK hP hD hS hA g3L g3E rfl rfl hl.1 rfl (Nat.le_of_ble_eq_true rfl) ⟨Nat.le_of_ble_eq_true rfl, Nat.le_of_ble_eq_true rfl⟩ d_Sz_passSecond_13 (fun f4 H locs hC4 hP hD hS => ?_)
  have hC4 : CW ct AD L n I (sJ4 n (I, J, P)) P f4 := hC4
  obtain ⟨g4L, g4E⟩ := hC4.ma
  refine lv_aload_n hx hb d_Sz_passSecond_16 rfl (lv_at hl 0 rfl) ?_
  refine kV_ws ⟨hx, hb, hml, hown, hG⟩ (c_Sz_warmThings hC4) (cwV 0 hG (gV k519 k521 ks_Sz_warmThings k1 k522) rfl rfl rfl hd_Sz_warmThings ⟨Nat.le_of_ble_eq_true rfl, Nat.le_of_ble_eq_true rfl⟩) hK hP hD hS hA g4L g4E rfl rfl hl.1 rfl (Nat.le_of_ble_eq_true rfl) ⟨Nat.le_of_ble_eq_true rfl, Nat.le_of_ble_eq_true rfl⟩ d_Sz_passSecond_17 (fun f5 H locs hC5 hP hD hS => ?_)
  have hC5 : CW ct AD L n (sI1 n (I, J, P)) (sJ4 n (I, J, P)) P f5 := hC5
  obtain ⟨g5L, g5E⟩ := hC5.ma
  refine lv_aload_n hx hb d_Sz_passSecond_20 rfl (lv_at hl 0 rfl) ?_
  refine kV_ws ⟨hx, hb, hml, hown, hG⟩ (c_Sz_movePersons hC5) (cwV 0 hG (gV k545 k547 ks_Sz_movePersons k1 k548) rfl rfl rfl hd_Sz_movePersons ⟨Nat.le_of_ble_eq_true rfl, Nat.le_of_ble_eq_true rfl⟩) hK hP hD hS hA g5L g5E rfl rfl hl.1 rfl (Nat.le_of_ble_eq_true rfl) ⟨Nat.le_of_ble_eq_true rfl, Nat.le_of_ble_eq_true rfl⟩ d_Sz_passSecond_21 (fun f6 H locs hC6 hP hD hS => ?_)
  have hC6 : CW ct AD L n (sW n (I, J, P)).1 (sW n (I, J, P)).2.1 (sW n (I, J, P)).2.2 f6 := hC6
  obtain ⟨g6L, g6E⟩ := hC6.ma
  refine lv_aload_n hx hb d_Sz_passSecond_24 rfl (lv_at hl 0 rfl) ?_
  refine kV_ws ⟨hx, hb, hml, hown, hG⟩ (c_Sz_noteLowRooms hC6) (cwV 0 hG (gV k563 k565 ks_Sz_noteLowRooms k1 k566) rfl rfl rfl hd_Sz_noteLowRooms ⟨Nat.le_of_ble_eq_true rfl, Nat.le_of_ble_eq_true rfl⟩) hK hP hD hS hA g6L g6E rfl rfl hl.1 rfl (Nat.le_of_ble_eq_true rfl) ⟨Nat.le_of_ble_eq_true rfl, Nat.le_of_ble_eq_true rfl⟩ d_Sz_passSecond_25 (fun f7 H locs hC7 hP hD hS => ?_)
  have hC7 : CW ct AD L n (sI3 n (I, J, P)) (sW n (I, J, P)).2.1 (sW n (I, J, P)).2.2 f7 := hC7
  obtain ⟨g7L, g7E⟩ := hC7.ma
  refine lv_aload_n hx hb d_Sz_passSecond_28 rfl (lv_at hl 0 rfl) ?_
  refine lv_dup hx hb d_Sz_passSecond_29 rfl ?_
  refine pg_get (C := "SmokeZones") (T := T_Sz) (N := 17) hx hb hG in_Sz hown hK hP g7L g7E rfl 12 (by decide) (hG _ k47) (fun _ h9 => h9) rfl d_Sz_passSecond_30 ?_
  refine lv_iconst (v := 1) hx hb d_Sz_passSecond_33 (by decide) ?_
  refine lv_iadd hx hb d_Sz_passSecond_34 ?_
  refine pg_put (C := "SmokeZones") (T := T_Sz) (N := 17) (ty := .int) hx hb hG in_Sz ty_Sz ok_Sz nm_Sz hown hK hP hD hS g7L g7E rfl 12 (by decide) (hG _ k47) (fun _ h9 => h9) rfl (by decide +kernel) rfl rfl (Nat.le_of_ble_eq_true rfl) d_Sz_passSecond_35 (fun H locs hP hD hS => ?_)
  have hP : va_P D vwCl (va_pl (L) (va_up f7 (AD 9 0) (.inr (6, [.ref (AD 8 0), .ref (AD 8 1), .ref (AD 8 2), .ref (AD 8 3), .ref (AD 8 4), .ref (AD 8 5), .int (nI (n 0)), .int (nI (n 1)), .int (nI (n 2)), .int (nI (n 3)), .int (nI (n 4)), .int (nI (n 5)), .int (((sI3 n (I, J, P)) 99 0) + 1), .long ((sW n (I, J, P)).2.1 99 0), .long ((sW n (I, J, P)).2.1 99 1), .long ((sW n (I, J, P)).2.1 99 2), .long ((sW n (I, J, P)).2.1 99 3)])))) H := hP
  have hD : va_D A (va_pl (L) (va_up f7 (AD 9 0) (.inr (6, [.ref (AD 8 0), .ref (AD 8 1), .ref (AD 8 2), .ref (AD 8 3), .ref (AD 8 4), .ref (AD 8 5), .int (nI (n 0)), .int (nI (n 1)), .int (nI (n 2)), .int (nI (n 3)), .int (nI (n 4)), .int (nI (n 5)), .int (((sI3 n (I, J, P)) 99 0) + 1), .long ((sW n (I, J, P)).2.1 99 0), .long ((sW n (I, J, P)).2.1 99 1), .long ((sW n (I, J, P)).2.1 99 2), .long ((sW n (I, J, P)).2.1 99 3)])))) := hD
  have e_1 : (va_up f7 (AD 9 0) (.inr (6, [.ref (AD 8 0), .ref (AD 8 1), .ref (AD 8 2), .ref (AD 8 3), .ref (AD 8 4), .ref (AD 8 5), .int (nI (n 0)), .int (nI (n 1)), .int (nI (n 2)), .int (nI (n 3)), .int (nI (n 4)), .int (nI (n 5)), .int (((sI3 n (I, J, P)) 99 0) + 1), .long ((sW n (I, J, P)).2.1 99 0), .long ((sW n (I, J, P)).2.1 99 1), .long ((sW n (I, J, P)).2.1 99 2), .long ((sW n (I, J, P)).2.1 99 3)]))) (AD 9 0) = .inr (6, [.ref (AD 8 0), .ref (AD 8 1), .ref (AD 8 2), .ref (AD 8 3), .ref (AD 8 4), .ref (AD 8 5), .int (nI (n 0)), .int (nI (n 1)), .int (nI (n 2)), .int (nI (n 3)), .int (nI (n 4)), .int (nI (n 5)), .int (((sI3 n (I, J, P)) 99 0) + 1), .long ((sW n (I, J, P)).2.1 99 0), .long ((sW n (I, J, P)).2.1 99 1), .long ((sW n (I, J, P)).2.1 99 2), .long ((sW n (I, J, P)).2.1 99 3)]) := va_up_self _ _ _
  have hN0 : CW ct AD L n (up2 (sI3 n (I, J, P)) 99 0 (sI3 n (I, J, P) 99 0 + 1)) (sW n (I, J, P)).2.1 (sW n (I, J, P)).2.2 _ := hC7.set (k := 9) (i := 0) lv9 (co_ma (fun a b h => up_hO a b (by omega)) (fun _ _ _ => rfl)) hC7.2.2
  have hN : CW ct AD L n (secS n (I, J, P)).1 (secS n (I, J, P)).2.1 (secS n (I, J, P)).2.2 (va_up f7 (AD 9 0) (.inr (6, [.ref (AD 8 0), .ref (AD 8 1), .ref (AD 8 2), .ref (AD 8 3), .ref (AD 8 4), .ref (AD 8 5), .int (nI (n 0)), .int (nI (n 1)), .int (nI (n 2)), .int (nI (n 3)), .int (nI (n 4)), .int (nI (n 5)), .int (((sI3 n (I, J, P)) 99 0) + 1), .long ((sW n (I, J, P)).2.1 99 0), .long ((sW n (I, J, P)).2.1 99 1), .long ((sW n (I, J, P)).2.1 99 2), .long ((sW n (I, J, P)).2.1 99 3)]))) := by
    refine cast (congrArg (CW ct AD L n _ _ _) ?_) hN0
    simp [cellOf, mainE, up2]
  exact W.vret hx hb hret (fun t ht hW => ⟨⟨_, rfl, hN, by rw [ht]; exact hP, va_K.moved hW.alike hK, hD⟩, hS.F ht⟩) hS.2.2 d_Sz_passSecond_38

set_option maxHeartbeats 4000000 in
set_option maxRecDepth 100000 in
theorem c_Sz_smokeInRooms {l : Launch} {D : va_G} {ct : Nat → ClassId} {AD : Nat → Nat → Nat} {L : List Nat} {f : Nat → va_E} {n : Nat → Nat} {I : Nat → Nat → Int32} {J : Nat → Nat → Int64} {P : Nat → Nat → Nat} {H : Heap} (hCW : CW ct AD L n I J P f) : Met l y_Sz_smokeInRooms (WS y_Sz_smokeInRooms b_Sz_smokeInRooms 4 (some .long)) { frames := 0, cells := 0, slots := 0, locals := 0 } (va_Pc [.ref (AD 9 0)] (RP D (TYS ct) L f H)) (Ql (smS J (n 0) 0 0) H) 0 0 No := by
  refine Met.ofW (cc := b_Sz_smokeInRooms) (maxL := 4) (ret := (some .long)) (by decide) rfl ?_
  intro p e s m args below meth c s₁ B hml hv
  obtain ⟨rfl, hH, hP, hK⟩ := hv
  subst hH
  have hx := B.exec
  have hb := B.bytes
  have hret := B.returns
  have hts := atoms_spec (ws := WS y_Sz_smokeInRooms b_Sz_smokeInRooms 4 (some .long)) B.pre
  have hG : ∀ w ∈ GW, w.before _ s = true := fun w h => hts w (List.mem_cons_of_mem _ h)
  have hown : s.vm.findClass "SmokeZones" = some m.cls := findClass_of_methodNamed B.named
  have hlocks := B.notSynchronized
  have hS : va_S No s.heap s.heap [] := va_S.rf
  have hl := lv_entry ([.ref (AD 9 0)]) (n := 4) (Nat.le_of_ble_eq_true rfl)
  rw [lg_entry_eq]
  generalize (lg_sl ([.ref (AD 9 0)]) ++ List.replicate (4 - (lg_sl ([.ref (AD 9 0)])).length) Slot.unset).toArray = ls at hl ⊢
  have hl : lv_has ls 4 [(0, .ref (AD 9 0))] := hl
  refine lv_lconst (v := 0) hx hb d_Sz_smokeInRooms_0 (by decide) ?_
  refine lv_lstore_n (lv' := [(1, .long 0), (0, .ref (AD 9 0))]) hx hb d_Sz_smokeInRooms_1 rfl hl (by decide) rfl (fun ls hl => ?_)
  refine lv_iconst (v := 0) hx hb d_Sz_smokeInRooms_2 (by decide) ?_
  refine lv_istore_n (lv' := [(3, .int 0), (1, .long 0), (0, .ref (AD 9 0))]) hx hb d_Sz_smokeInRooms_3 rfl hl (by decide) rfl (fun ls hl => ?_)
  have hcap := hCW.cap0
  obtain ⟨g1L, g1E⟩ := hCW.ma
  obtain ⟨g2L, g2E⟩ := hCW.a0
  have lp : ∀ (k i : Nat) (a : Int64) (locs : List Loc) (ls : Array Slot), i + k = n 0 → va_S No s.heap s.heap locs → lv_has ls 4 [(3, .int (nI i)), (1, .long a), (0, .ref (AD 9 0))] → smS J k i a = smS J (n 0) 0 0 → W p l e (headSpec (WS y_Sz_smokeInRooms b_Sz_smokeInRooms 4 (some .long)) { frames := 0, cells := 0, slots := 0, locals := 0 }).room s m [.ref (AD 9 0)].toArray below meth c s.heap locs 0 0 (MQ below (Ql (smS J (n 0) 0 0) s.heap) [.ref (AD 9 0)].toArray s 0 0 No) (F0 m 4 ls []) := by
    intro k
    induction k with
    | zero =>
      intro i a locs ls hik hS hl hfin
      refine lv_iload_n hx hb d_Sz_smokeInRooms_4 rfl (lv_at hl 0 rfl) ?_
      refine lv_aload_n hx hb d_Sz_smokeInRooms_5 rfl (lv_at hl 2 rfl) ?_
      refine pg_get (C := "SmokeZones") (T := T_Sz) (N := 17) hx hb hG in_Sz hown hK hP g1L g1E rfl 6 (by decide) (hG _ k41) (fun _ h9 => h9) rfl d_Sz_smokeInRooms_6 ?_
      refine lv_icmp_ge (tgt := 30) hx hb d_Sz_smokeInRooms_9 (by decide) (fun c_1 => ?_) (fun c_1 => ?_)
      · refine lv_lload_n hx hb d_Sz_smokeInRooms_30 rfl (lv_at hl 1 rfl) ?_
        exact W.lret hx hb hret (fun t ht hW => ⟨⟨_, (), rfl, hfin, ht⟩, hS.F ht⟩) hS.2.2 d_Sz_smokeInRooms_31
      · exact (ge_yes (by omega) (by omega) c_1).elim
    | succ k ih =>
      intro i a locs ls hik hS hl hfin
      have hi : i < n 0 := by omega
      refine lv_iload_n hx hb d_Sz_smokeInRooms_4 rfl (lv_at hl 0 rfl) ?_
      refine lv_aload_n hx hb d_Sz_smokeInRooms_5 rfl (lv_at hl 2 rfl) ?_
      refine pg_get (C := "SmokeZones") (T := T_Sz) (N := 17) hx hb hG in_Sz hown hK hP g1L g1E rfl 6 (by decide) (hG _ k41) (fun _ h9 => h9) rfl d_Sz_smokeInRooms_6 ?_
      refine lv_icmp_ge (tgt := 30) hx hb d_Sz_smokeInRooms_9 (by decide) (fun c_2 => ?_) (fun c_2 => ?_)
      · exact (ge_no hi (by omega) c_2).elim
      · obtain ⟨g_3L, g_3E⟩ := hCW.ro hi
        refine lv_lload_n hx hb d_Sz_smokeInRooms_12 rfl (lv_at hl 1 rfl) ?_
        refine lv_aload_n hx hb d_Sz_smokeInRooms_13 rfl (lv_at hl 2 rfl) ?_
        refine pg_get (C := "SmokeZones") (T := T_Sz) (N := 17) hx hb hG in_Sz hown hK hP g1L g1E rfl 0 (by decide) (hG _ k35) (fun _ h9 => h9) rfl d_Sz_smokeInRooms_14 ?_
        refine lv_iload_n hx hb d_Sz_smokeInRooms_17 rfl (lv_at hl 0 rfl) ?_
        refine pg_ald hx hb hK hP 0 g2L g2E rfl (vp_in_nI (by omega) (by decide)) (rf_at hi (by omega)) d_Sz_smokeInRooms_18 ?_
        refine pg_get (C := "SmokeZones$Room") (T := T_Ro) (N := 8) hx hb hG in_Ro hown hK hP g_3L g_3E rfl 3 (by decide) (hG _ k203) (fun _ h9 => h9) rfl d_Sz_smokeInRooms_19 ?_
        refine lv_ladd hx hb d_Sz_smokeInRooms_22 ?_
        refine lv_lstore_n (lv' := [(1, .long (a + (J 1 i))), (3, .int (nI i)), (0, .ref (AD 9 0))]) hx hb d_Sz_smokeInRooms_23 rfl hl (by decide) rfl (fun ls hl => ?_)
        refine lv_iinc (v := nI (i + 1)) (lv' := [(3, .int (nI (i + 1))), (1, .long (a + (J 1 i))), (0, .ref (AD 9 0))]) hx hb d_Sz_smokeInRooms_24 hl (k := 1) rfl (nI_1 i) (by decide) rfl (fun ls hl => ?_)
        refine lv_goto (tgt := 4) hx hb d_Sz_smokeInRooms_27 (by decide) ?_
        exact ih (i + 1) _ _ _ (by omega) hS (lv_sub hl [0, 1, 2] rfl) hfin
  exact lp (n 0) 0 0 _ _ (by omega) hS (lv_sub hl [0, 1, 2] rfl) rfl
