/-! the law: three worlds side by side (the class's pool, the model's pool, the array 'out') -/
abbrev WH (y : MethodName) (b : ByteArray) (n : Nat) (r : Option FieldType) (hh : List (Nat × Nat × Nat × Nat)) : List Cond := Cond.codeWith y b n r hh :: GW
abbrev OC (ct : Nat → ClassId) (v : Nat → Int64) : va_E := .inl (ct 7, 1, .inr (.inl v))
abbrev LSt : Type := CSt × (Nat → Int64)
abbrev LA (L : List Nat) (f : Nat → va_E) (ao sz : Nat) : Nat → Prop := fun q => AA L f sz q ∨ q = ao
def LPr (D : va_G) (ct : Nat → ClassId) (L : List Nat) (f : Nat → va_E) (ao : Nat) (v : Nat → Int64) (sa sb sz : Nat) (U : State) : Prop := MP D ct L f sa sb sz U ∧ va_at D vwCl (ao, OC ct v) U.heap ∧ ao ∉ L ∧ va_Nc ISE IAE U
def LB (D : va_G) (ct : Nat → ClassId) (ao : Nat) (A : Nat → Prop) (u : LSt) (t : State) : Prop := WQ D (TYS ct) u.1.2.1 u.1.2.2 A t ∧ va_at D vwCl (ao, OC ct u.2) t.heap
abbrev NX : String → State → State → Prop := vx_X (fun _ : Unit => False) (fun _ _ _ => False) No
theorem MP.blind {D : va_G} {ct : Nat → ClassId} {L : List Nat} {f : Nat → va_E} {sa sb sz : Nat} (av : List Value) : FrameBlind (va_Pc av (MP D ct L f sa sb sz)) := fun a U g mk q => by
  obtain ⟨q0, q1, q2, q3, q4, q5⟩ := q
  exact ⟨q0, q1, q2, va_K.moved (u := U) (U := U.calling g mk a) (Vm.Alike.refl U.vm) q3, q4, q5.calling g mk a⟩
theorem LPr.blind {D : va_G} {ct : Nat → ClassId} {L : List Nat} {f : Nat → va_E} {ao : Nat} {v : Nat → Int64} {sa sb sz : Nat} (av : List Value) : FrameBlind (va_Pc av (LPr D ct L f ao v sa sb sz)) := fun a U g mk q => by
  obtain ⟨q0, ⟨q1, q2, q3, q4, q5⟩, q6, q7, q8⟩ := q
  exact ⟨q0, ⟨q1, q2, va_K.moved (u := U) (U := U.calling g mk a) (Vm.Alike.refl U.vm) q3, q4, q5.calling g mk a⟩, q6, q7, va_Nc.moved (u := U) (U := U.calling g mk a) (Vm.Alike.refl U.vm) q8⟩
theorem aa_na {D : va_G} {cl : List vw_C} {L : List Nat} {f : Nat → va_E} {H : Heap} {a : Nat} {z : va_E} (h : va_at D cl (a, z) H) (hn : a ∉ L) : ¬ AA L f H.size a := by
  intro q
  rcases q with ⟨k, e, h1⟩ | h1
  · apply hn
    unfold va_pl at h1
    rw [List.getElem?_map] at h1
    cases hk : L[k]? with
    | none => rw [hk] at h1; cases h1
    | some b =>
      rw [hk] at h1
      cases h1
      exact List.mem_of_getElem? hk
  · exact absurd h.lt (Nat.not_lt.mpr h1)
theorem aa_of {L : List Nat} {f : Nat → va_E} {sz a : Nat} (h : AA L f sz a) : a ∈ L ∨ sz ≤ a := by
  rcases h with ⟨k, e, h1⟩ | h1
  · left
    unfold va_pl at h1
    rw [List.getElem?_map] at h1
    cases hk : L[k]? with
    | none => rw [hk] at h1; cases h1
    | some b =>
      rw [hk] at h1
      cases h1
      exact List.mem_of_getElem? hk
  · exact Or.inr h1
theorem aa_in {L : List Nat} {f : Nat → va_E} {sz a : Nat} (h : a ∈ L) : AA L f sz a := by
  obtain ⟨k, hk⟩ := pg_ix (f := f) h
  exact Or.inl ⟨k, _, hk⟩
theorem pl_mem {L : List Nat} {f : Nat → va_E} {k : Nat} {q : Nat × va_E} (h : (va_pl L f)[k]? = some q) : q.1 ∈ L := by
  unfold va_pl at h
  rw [List.getElem?_map] at h
  cases hk : L[k]? with
  | none => rw [hk] at h; cases h
  | some b =>
    rw [hk] at h
    cases h
    exact List.mem_of_getElem? hk
theorem pl_A {A : Nat → Prop} {L : List Nat} {f : Nat → va_E} (h : va_D A (va_pl L f)) {a : Nat} (ha : a ∈ L) : A a := by
  obtain ⟨k, hk⟩ := pg_ix (f := f) ha
  exact h.2 k _ hk
theorem cP {D : va_G} {cl : List vw_C} {ws : va_W} {H : Heap} {a : Nat} {z : va_E} (h0 : va_at D cl (a, z) H) (h : va_P D cl ws H) : va_P D cl ((a, z) :: ws) H := fun k q hk => by
  cases k with
  | zero => cases hk; exact h0
  | succ k => exact h k q hk
theorem cD {A : Nat → Prop} {ws : va_W} {a : Nat} {z : va_E} (h0 : A a) (hn : ∀ (k : Nat) (q : Nat × va_E), ws[k]? = some q → q.1 ≠ a) (h : va_D A ws) : va_D A ((a, z) :: ws) := by
  refine ⟨fun i j p q hi hj e => ?_, fun k q hk => ?_⟩
  · cases i with
    | zero =>
      cases hi
      cases j with
      | zero => rfl
      | succ j => exact absurd e.symm (hn j q hj)
    | succ i =>
      cases j with
      | zero => cases hj; exact absurd e (hn i p hi)
      | succ j => exact congrArg (· + 1) (h.1 i j p q hi hj e)
  · cases k with
    | zero => cases hk; exact h0
    | succ k => exact h.2 k q hk
theorem vin01 : vp_in 0 1 := by
  unfold vp_in
  decide
theorem kdN_ne2 {c : Nat} {o : Int32} : ¬ kdN c o = 2 := by
  unfold kdN
  split <;> decide
theorem kdNB_ne2 {c : Nat} {o w hi : Int32} : ¬ kdNB c o w hi = 2 := by
  unfold kdNB
  split
  · split <;> decide
  · decide
theorem kdB_ne2 {w hi : Int32} : ¬ kdB w hi = 2 := by
  unfold kdB
  split <;> decide
set_option maxHeartbeats 4000000 in
set_option maxRecDepth 100000 in
theorem c_La_room {l : Launch} (hl0 : l.stackTraces = false) {D : va_G} {ct : Nat → ClassId} {AD : Nat → Nat → Nat} {L : List Nat} {f : Nat → va_E} {sz ao : Nat} {v : Nat → Int64} {n : Nat → Nat} {I : Nat → Nat → Int32} {J : Nat → Nat → Int64} {P : Nat → Nat → Nat} {sa sb : Nat} {p1 p2 : Int32} (hCW : CW ct AD L n I J P f) : vx_Met l y_La_room (WH y_La_room b_La_room 5 (some .int) [(0, 10, 13, 13), (0, 10, 17, 15)]) { frames := 9, cells := 12, slots := 100, locals := 160 } (va_Pc [.ref (AD 9 0), .int p1, .int p2, .ref ao] (LPr D ct L f ao v sa sb sz)) (va_Qi (fun (r : Int32) (u : LSt) => r = (kdRoom n p1 p2) ∧ ((kdRoom n p1 p2) = 0 → u.2 0 = Int32.toInt64 (nI (n 0)) ∧ CW ct u.1.1 u.1.2.1 (va_up n 0 (n 0 + 1)) (nwRoI I (n 0) p1 p2) (nwRoJ J (n 0) p1 p2) P u.1.2.2 ∧ u.1.1 9 0 = AD 9 0) ∧ (¬ (kdRoom n p1 p2) = 0 → u.1 = (AD, L, f))) (fun u t => LB D ct ao (AA L f sz) u t) (LA L f ao sz)) NX 12 100 (LA L f ao sz) := by
  refine vx_ofWH (cc := b_La_room) (maxL := 5) (ret := (some .int)) (hh := [(0, 10, 13, 13), (0, 10, 17, 15)]) (by decide) rfl ?_
  intro p e s m args below meth c s₁ B hml hv
  obtain ⟨rfl, ⟨hsz, hP, hK, hD0, hE⟩, hO, haoL, hNc⟩ := hv
  subst hsz
  have hx := B.exec
  have hb := B.bytes
  have hret := B.returns
  have hts := atoms_spec (ws := WH y_La_room b_La_room 5 (some .int) [(0, 10, 13, 13), (0, 10, 17, 15)]) B.pre
  have hG : ∀ w ∈ GW, w.before _ s = true := fun w h => hts w (List.mem_cons_of_mem _ h)
  have hown : s.vm.findClass "SmokeZonesLaw" = some m.cls := findClass_of_methodNamed B.named
  have htb : c.exceptionTable.toList = [⟨0, 10, 13, 13⟩, ⟨0, 10, 17, 15⟩] := vx_table (x := y_La_room) B (hts _ List.mem_cons_self)
  have haoA : ¬ AA L f s.heap.size ao := aa_na hO haoL
  have hS : va_S (LA L f ao s.heap.size) s.heap s.heap [] := va_S.rf
  obtain ⟨g0L, g0E⟩ := hCW.ma
  have hl := lv_entry ([.ref (AD 9 0), .int p1, .int p2, .ref ao]) (n := 5) (Nat.le_of_ble_eq_true rfl)
  rw [lg_entry_eq]
  generalize (lg_sl ([.ref (AD 9 0), .int p1, .int p2, .ref ao]) ++ List.replicate (5 - (lg_sl ([.ref (AD 9 0), .int p1, .int p2, .ref ao])).length) Slot.unset).toArray = ls at hl ⊢
  have hl : lv_has ls 5 [(0, .ref (AD 9 0)), (1, .int p1), (2, .int p2), (3, .ref ao)] := hl
  refine lv_aload_n hx hb d_La_room_0 rfl (lv_at hl 3 rfl) ?_
  refine lv_iconst (v := 0) hx hb d_La_room_1 (by decide) ?_
  refine lv_aload_n hx hb d_La_room_2 rfl (lv_at hl 0 rfl) ?_
  refine lv_iload_n hx hb d_La_room_3 rfl (lv_at hl 1 rfl) ?_
  refine lv_iload_n hx hb d_La_room_4 rfl (lv_at hl 2 rfl) ?_
  refine vx_calli (vx_runV (As := [.int p1, .int p2]) (rest := [.int 0, .ref ao]) ⟨hx, hb, hml, hown, hG⟩ (c_Sz_room hl0 (sz := s.heap.size) (sa := sa) (sb := sb) hCW) (cwV 2 hG (gV k92 k93 k94 k1 k95) rfl rfl rfl hd_Sz_room ⟨Nat.le_of_ble_eq_true rfl, Nat.le_of_ble_eq_true rfl⟩) ⟨MP.blind _, pc_recv hK hP g0L g0E rfl, fun U hU hW => ⟨rfl, by rw [hU], by rw [hU]; exact hP, va_K.moved hW.alike hK, hD0, by rw [hU]; exact hE.call va_S.rf hW (fun _ h => h)⟩⟩ rfl rfl hl.1 rfl (lv_room (Nat.le_of_ble_eq_true rfl)) d_La_room_5 ⟨Nat.le_of_ble_eq_true rfl, Nat.le_of_ble_eq_true rfl⟩) hS (fun q _ h => Or.inl h) (fun q h => Or.inl h) (fun q _ h => Or.inl h) (fun E ce q9 u t H1 locs ht hvm hp hB hz hk hS h1 h2 h3 => ?_) (fun r u t H1 locs ht hvm hp hB hz hk hS => ?_)
  · obtain ⟨hkd, hw1, hw2, hw3⟩ := hB
    rw [ht] at hw1
    have hO1 : va_at D vwCl (ao, OC ct v) H1 := hO.kept (hk ao hO.lt haoA)
    rcases hkd with ⟨e1, rfl⟩ | ⟨e1, rfl⟩
    · refine vx_catch (name := IAE) hown [] ⟨0, 10, 13, 13⟩ _ htb (fun z hz => nomatch hz) (by decide) (by decide) (hG _ k90) ((hE.2.2.2.2 _ (by decide)).use (by decide)) h1 h2 h3 ?_
      refine lv_astore (lv' := [(4, .ref q9), (0, .ref (AD 9 0)), (1, .int p1), (2, .int p2), (3, .ref ao)]) hx hb d_La_room_13 hl (by decide) rfl (fun ls hl => ?_)
      refine lv_iconst (v := 1) hx hb d_La_room_15 (by decide) ?_
      exact vx_ret (W.iret hx hb hret (fun t' ht' hW => ⟨⟨_, ((AD, L, f), v), rfl, ⟨e1.symm, fun h => absurd (e1.symm.trans h) (by decide), fun _ => rfl⟩, ⟨by rw [ht']; exact hw1, va_K.moved hW.alike hK, hw3⟩, by rw [ht']; exact hO1⟩, hS.F ht'⟩) hS.2.2 d_La_room_16)
    · refine vx_catch (name := ISE) hown [⟨0, 10, 13, 13⟩] ⟨0, 10, 17, 15⟩ _ htb (fun z hz => Or.inr ?_) (by decide) (by decide) (hG _ k91) ((hE.2.2.2.2 _ (by decide)).use (by decide)) h1 h2 h3 ?_
      · rw [List.mem_singleton.mp hz]
        exact ⟨by decide, IAE, hG _ k90, hNc⟩
      · refine lv_astore (lv' := [(4, .ref q9), (0, .ref (AD 9 0)), (1, .int p1), (2, .int p2), (3, .ref ao)]) hx hb d_La_room_17 hl (by decide) rfl (fun ls hl => ?_)
        refine lv_iconst (v := 2) hx hb d_La_room_19 (by decide) ?_
        exact vx_ret (W.iret hx hb hret (fun t' ht' hW => ⟨⟨_, ((AD, L, f), v), rfl, ⟨e1.symm, fun h => absurd (e1.symm.trans h) (by decide), fun _ => rfl⟩, ⟨by rw [ht']; exact hw1, va_K.moved hW.alike hK, hw3⟩, by rw [ht']; exact hO1⟩, hS.F ht'⟩) hS.2.2 d_La_room_20)
  · obtain ⟨hkd, hr, hN, h9⟩ := hp
    obtain ⟨hw1, hw2, hw3⟩ := hB
    rw [ht] at hw1
    have hO1 : va_at D vwCl (ao, OC ct v) H1 := hO.kept (hk ao hO.lt haoA)
    refine lv_i2l hx hb d_La_room_8 rfl ?_
    refine va_last hx hb hK (cP hO1 hw1) (cD (A := LA L f ao s.heap.size) (Or.inr rfl) (fun k q hk9 e9 => haoA (e9 ▸ hw3.2 k q hk9)) (hw3.weaken (fun _ _ _ h => Or.inl h))) hS 0 7 rfl rfl vin01 d_La_room_9 (fun H1 locs hP1 hD1 hS => ?_)
    have hO2 := hP1 0 _ rfl
    have hw1 : va_P D vwCl (va_pl u.2.1 u.2.2) H1 := fun k q hk9 => hP1 (k + 1) q hk9
    refine lv_goto (tgt := 21) hx hb d_La_room_10 (by decide) ?_
    refine lv_iconst (v := 0) hx hb d_La_room_21 (by decide) ?_
    exact vx_ret (W.iret hx hb hret (fun t' ht' hW => ⟨⟨_, (u, (vp_updL v (Int32.toNatClampNeg 0) (Int32.toInt64 r))), rfl, ⟨hkd.symm, fun _ => ⟨by subst hr; rfl, hN, h9⟩, fun h => absurd hkd h⟩, ⟨by rw [ht']; exact hw1, va_K.moved hW.alike hK, hw3⟩, by rw [ht']; exact hO2⟩, hS.F ht'⟩) hS.2.2 d_La_room_22)
set_option maxHeartbeats 4000000 in
set_option maxRecDepth 100000 in
theorem c_La_opening {l : Launch} (hl0 : l.stackTraces = false) {D : va_G} {ct : Nat → ClassId} {AD : Nat → Nat → Nat} {L : List Nat} {f : Nat → va_E} {sz ao : Nat} {v : Nat → Int64} {n : Nat → Nat} {I : Nat → Nat → Int32} {J : Nat → Nat → Int64} {P : Nat → Nat → Nat} {sa sb : Nat} {p1 p2 p3 p4 p5 : Int32} (hCW : CW ct AD L n I J P f) : vx_Met l y_La_opening (WH y_La_opening b_La_opening 8 (some .int) [(0, 16, 19, 13), (0, 16, 23, 15)]) { frames := 9, cells := 12, slots := 100, locals := 160 } (va_Pc [.ref (AD 9 0), .int p1, .int p2, .int p3, .int p4, .int p5, .ref ao] (LPr D ct L f ao v sa sb sz)) (va_Qi (fun (r : Int32) (u : LSt) => r = (kdOpen n I p1 p2 p3 p4 p5) ∧ ((kdOpen n I p1 p2 p3 p4 p5) = 0 → u.2 0 = Int32.toInt64 (nI (n 1)) ∧ CW ct u.1.1 u.1.2.1 (va_up n 1 (n 1 + 1)) (nwOpI I (n 1) p3 p4 p5) (nwOpJ J (n 1)) (nwOpP P (n 1) p1.toNatClampNeg (farIx p2)) u.1.2.2 ∧ u.1.1 9 0 = AD 9 0) ∧ (¬ (kdOpen n I p1 p2 p3 p4 p5) = 0 → u.1 = (AD, L, f))) (fun u t => LB D ct ao (AA L f sz) u t) (LA L f ao sz)) NX 12 100 (LA L f ao sz) := by
  refine vx_ofWH (cc := b_La_opening) (maxL := 8) (ret := (some .int)) (hh := [(0, 16, 19, 13), (0, 16, 23, 15)]) (by decide) rfl ?_
  intro p e s m args below meth c s₁ B hml hv
  obtain ⟨rfl, ⟨hsz, hP, hK, hD0, hE⟩, hO, haoL, hNc⟩ := hv
  subst hsz
  have hx := B.exec
  have hb := B.bytes
  have hret := B.returns
  have hts := atoms_spec (ws := WH y_La_opening b_La_opening 8 (some .int) [(0, 16, 19, 13), (0, 16, 23, 15)]) B.pre
  have hG : ∀ w ∈ GW, w.before _ s = true := fun w h => hts w (List.mem_cons_of_mem _ h)
  have hown : s.vm.findClass "SmokeZonesLaw" = some m.cls := findClass_of_methodNamed B.named
  have htb : c.exceptionTable.toList = [⟨0, 16, 19, 13⟩, ⟨0, 16, 23, 15⟩] := vx_table (x := y_La_room) B (hts _ List.mem_cons_self)
  have haoA : ¬ AA L f s.heap.size ao := aa_na hO haoL
  have hS : va_S (LA L f ao s.heap.size) s.heap s.heap [] := va_S.rf
  obtain ⟨g0L, g0E⟩ := hCW.ma
  have hl := lv_entry ([.ref (AD 9 0), .int p1, .int p2, .int p3, .int p4, .int p5, .ref ao]) (n := 8) (Nat.le_of_ble_eq_true rfl)
  rw [lg_entry_eq]
  generalize (lg_sl ([.ref (AD 9 0), .int p1, .int p2, .int p3, .int p4, .int p5, .ref ao]) ++ List.replicate (8 - (lg_sl ([.ref (AD 9 0), .int p1, .int p2, .int p3, .int p4, .int p5, .ref ao])).length) Slot.unset).toArray = ls at hl ⊢
  have hl : lv_has ls 8 [(0, .ref (AD 9 0)), (1, .int p1), (2, .int p2), (3, .int p3), (4, .int p4), (5, .int p5), (6, .ref ao)] := hl
  refine lv_aload hx hb d_La_opening_0 (lv_at hl 6 rfl) ?_
  refine lv_iconst (v := 0) hx hb d_La_opening_2 (by decide) ?_
  refine lv_aload_n hx hb d_La_opening_3 rfl (lv_at hl 0 rfl) ?_
  refine lv_iload_n hx hb d_La_opening_4 rfl (lv_at hl 1 rfl) ?_
  refine lv_iload_n hx hb d_La_opening_5 rfl (lv_at hl 2 rfl) ?_
  refine lv_iload_n hx hb d_La_opening_6 rfl (lv_at hl 3 rfl) ?_
  refine lv_iload hx hb d_La_opening_7 (lv_at hl 4 rfl) ?_
  refine lv_iload hx hb d_La_opening_9 (lv_at hl 5 rfl) ?_
  refine vx_calli (vx_runV (As := [.int p1, .int p2, .int p3, .int p4, .int p5]) (rest := [.int 0, .ref ao]) ⟨hx, hb, hml, hown, hG⟩ (c_Sz_opening hl0 (sz := s.heap.size) (sa := sa) (sb := sb) hCW) (cwV 5 hG (gV k233 k234 k235 k1 k236) rfl rfl rfl hd_Sz_opening ⟨Nat.le_of_ble_eq_true rfl, Nat.le_of_ble_eq_true rfl⟩) ⟨MP.blind _, pc_recv hK hP g0L g0E rfl, fun U hU hW => ⟨rfl, by rw [hU], by rw [hU]; exact hP, va_K.moved hW.alike hK, hD0, by rw [hU]; exact hE.call va_S.rf hW (fun _ h => h)⟩⟩ rfl rfl hl.1 rfl (lv_room (Nat.le_of_ble_eq_true rfl)) d_La_opening_11 ⟨Nat.le_of_ble_eq_true rfl, Nat.le_of_ble_eq_true rfl⟩) hS (fun q _ h => Or.inl h) (fun q h => Or.inl h) (fun q _ h => Or.inl h) (fun E ce q9 u t H1 locs ht hvm hp hB hz hk hS h1 h2 h3 => ?_) (fun r u t H1 locs ht hvm hp hB hz hk hS => ?_)
  · obtain ⟨hkd, hw1, hw2, hw3⟩ := hB
    rw [ht] at hw1
    have hO1 : va_at D vwCl (ao, OC ct v) H1 := hO.kept (hk ao hO.lt haoA)
    rcases hkd with ⟨e1, rfl⟩ | ⟨e1, rfl⟩
    · refine vx_catch (name := IAE) hown [] ⟨0, 16, 19, 13⟩ _ htb (fun z hz => nomatch hz) (by decide) (by decide) (hG _ k90) ((hE.2.2.2.2 _ (by decide)).use (by decide)) h1 h2 h3 ?_
      refine lv_astore (lv' := [(7, .ref q9), (0, .ref (AD 9 0)), (1, .int p1), (2, .int p2), (3, .int p3), (4, .int p4), (5, .int p5), (6, .ref ao)]) hx hb d_La_opening_19 hl (by decide) rfl (fun ls hl => ?_)
      refine lv_iconst (v := 1) hx hb d_La_opening_21 (by decide) ?_
      exact vx_ret (W.iret hx hb hret (fun t' ht' hW => ⟨⟨_, ((AD, L, f), v), rfl, ⟨e1.symm, fun h => absurd (e1.symm.trans h) (by decide), fun _ => rfl⟩, ⟨by rw [ht']; exact hw1, va_K.moved hW.alike hK, hw3⟩, by rw [ht']; exact hO1⟩, hS.F ht'⟩) hS.2.2 d_La_opening_22)
    · refine vx_catch (name := ISE) hown [⟨0, 16, 19, 13⟩] ⟨0, 16, 23, 15⟩ _ htb (fun z hz => Or.inr ?_) (by decide) (by decide) (hG _ k91) ((hE.2.2.2.2 _ (by decide)).use (by decide)) h1 h2 h3 ?_
      · rw [List.mem_singleton.mp hz]
        exact ⟨by decide, IAE, hG _ k90, hNc⟩
      · refine lv_astore (lv' := [(7, .ref q9), (0, .ref (AD 9 0)), (1, .int p1), (2, .int p2), (3, .int p3), (4, .int p4), (5, .int p5), (6, .ref ao)]) hx hb d_La_opening_23 hl (by decide) rfl (fun ls hl => ?_)
        refine lv_iconst (v := 2) hx hb d_La_opening_25 (by decide) ?_
        exact vx_ret (W.iret hx hb hret (fun t' ht' hW => ⟨⟨_, ((AD, L, f), v), rfl, ⟨e1.symm, fun h => absurd (e1.symm.trans h) (by decide), fun _ => rfl⟩, ⟨by rw [ht']; exact hw1, va_K.moved hW.alike hK, hw3⟩, by rw [ht']; exact hO1⟩, hS.F ht'⟩) hS.2.2 d_La_opening_26)
  · obtain ⟨hkd, hr, hN, h9⟩ := hp
    obtain ⟨hw1, hw2, hw3⟩ := hB
    rw [ht] at hw1
    have hO1 : va_at D vwCl (ao, OC ct v) H1 := hO.kept (hk ao hO.lt haoA)
    refine lv_i2l hx hb d_La_opening_14 rfl ?_
    refine va_last hx hb hK (cP hO1 hw1) (cD (A := LA L f ao s.heap.size) (Or.inr rfl) (fun k q hk9 e9 => haoA (e9 ▸ hw3.2 k q hk9)) (hw3.weaken (fun _ _ _ h => Or.inl h))) hS 0 7 rfl rfl vin01 d_La_opening_15 (fun H1 locs hP1 hD1 hS => ?_)
    have hO2 := hP1 0 _ rfl
    have hw1 : va_P D vwCl (va_pl u.2.1 u.2.2) H1 := fun k q hk9 => hP1 (k + 1) q hk9
    refine lv_goto (tgt := 27) hx hb d_La_opening_16 (by decide) ?_
    refine lv_iconst (v := 0) hx hb d_La_opening_27 (by decide) ?_
    exact vx_ret (W.iret hx hb hret (fun t' ht' hW => ⟨⟨_, (u, (vp_updL v (Int32.toNatClampNeg 0) (Int32.toInt64 r))), rfl, ⟨hkd.symm, fun _ => ⟨by subst hr; rfl, hN, h9⟩, fun h => absurd hkd h⟩, ⟨by rw [ht']; exact hw1, va_K.moved hW.alike hK, hw3⟩, by rw [ht']; exact hO2⟩, hS.F ht'⟩) hS.2.2 d_La_opening_28)
set_option maxHeartbeats 4000000 in
set_option maxRecDepth 100000 in
theorem c_La_glass {l : Launch} (hl0 : l.stackTraces = false) {D : va_G} {ct : Nat → ClassId} {AD : Nat → Nat → Nat} {L : List Nat} {f : Nat → va_E} {sz ao : Nat} {v : Nat → Int64} {n : Nat → Nat} {I : Nat → Nat → Int32} {J : Nat → Nat → Int64} {P : Nat → Nat → Nat} {sa sb : Nat} {p1 p2 : Int32} (hCW : CW ct AD L n I J P f) : vx_Met l y_La_glass (WH y_La_glass b_La_glass 4 (some .int) [(0, 6, 9, 13), (0, 6, 12, 15)]) { frames := 9, cells := 12, slots := 100, locals := 160 } (va_Pc [.ref (AD 9 0), .int p1, .int p2] (LPr D ct L f ao v sa sb sz)) (va_Qi (fun (r : Int32) (u : LSt) => r = (kdGlass n I p1 p2) ∧ ((kdGlass n I p1 p2) = 0 → CW ct u.1.1 u.1.2.1 n (up2 I 15 p1.toNatClampNeg p2) J P u.1.2.2 ∧ u.1.1 9 0 = AD 9 0) ∧ (¬ (kdGlass n I p1 p2) = 0 → u.1 = (AD, L, f))) (fun u t => LB D ct ao (AA L f sz) u t) (LA L f ao sz)) NX 12 100 (LA L f ao sz) := by
  refine vx_ofWH (cc := b_La_glass) (maxL := 4) (ret := (some .int)) (hh := [(0, 6, 9, 13), (0, 6, 12, 15)]) (by decide) rfl ?_
  intro p e s m args below meth c s₁ B hml hv
  obtain ⟨rfl, ⟨hsz, hP, hK, hD0, hE⟩, hO, haoL, hNc⟩ := hv
  subst hsz
  have hx := B.exec
  have hb := B.bytes
  have hret := B.returns
  have hts := atoms_spec (ws := WH y_La_glass b_La_glass 4 (some .int) [(0, 6, 9, 13), (0, 6, 12, 15)]) B.pre
  have hG : ∀ w ∈ GW, w.before _ s = true := fun w h => hts w (List.mem_cons_of_mem _ h)
  have hown : s.vm.findClass "SmokeZonesLaw" = some m.cls := findClass_of_methodNamed B.named
  have htb : c.exceptionTable.toList = [⟨0, 6, 9, 13⟩, ⟨0, 6, 12, 15⟩] := vx_table (x := y_La_room) B (hts _ List.mem_cons_self)
  have haoA : ¬ AA L f s.heap.size ao := aa_na hO haoL
  have hS : va_S (LA L f ao s.heap.size) s.heap s.heap [] := va_S.rf
  obtain ⟨g0L, g0E⟩ := hCW.ma
  have hl := lv_entry ([.ref (AD 9 0), .int p1, .int p2]) (n := 4) (Nat.le_of_ble_eq_true rfl)
  rw [lg_entry_eq]
  generalize (lg_sl ([.ref (AD 9 0), .int p1, .int p2]) ++ List.replicate (4 - (lg_sl ([.ref (AD 9 0), .int p1, .int p2])).length) Slot.unset).toArray = ls at hl ⊢
  have hl : lv_has ls 4 [(0, .ref (AD 9 0)), (1, .int p1), (2, .int p2)] := hl
  refine lv_aload_n hx hb d_La_glass_0 rfl (lv_at hl 0 rfl) ?_
  refine lv_iload_n hx hb d_La_glass_1 rfl (lv_at hl 1 rfl) ?_
  refine lv_iload_n hx hb d_La_glass_2 rfl (lv_at hl 2 rfl) ?_
  refine vx_callv (vx_runV (As := [.int p1, .int p2]) (rest := []) ⟨hx, hb, hml, hown, hG⟩ (c_Sz_glass hl0 (sz := s.heap.size) (sa := sa) (sb := sb) hCW) (cwV 2 hG (gV k290 k291 k292 k1 k293) rfl rfl rfl hd_Sz_glass ⟨Nat.le_of_ble_eq_true rfl, Nat.le_of_ble_eq_true rfl⟩) ⟨MP.blind _, pc_recv hK hP g0L g0E rfl, fun U hU hW => ⟨rfl, by rw [hU], by rw [hU]; exact hP, va_K.moved hW.alike hK, hD0, by rw [hU]; exact hE.call va_S.rf hW (fun _ h => h)⟩⟩ rfl rfl hl.1 rfl (lv_room (Nat.le_of_ble_eq_true rfl)) d_La_glass_3 ⟨Nat.le_of_ble_eq_true rfl, Nat.le_of_ble_eq_true rfl⟩) hS (fun q _ h => Or.inl h) (fun q h => Or.inl h) (fun q _ h => Or.inl h) (fun E ce q9 u t H1 locs ht hvm hp hB hz hk hS h1 h2 h3 => ?_) (fun u t H1 locs ht hvm hp hB hz hk hS => ?_)
  · obtain ⟨hkd, hw1, hw2, hw3⟩ := hB
    rw [ht] at hw1
    have hO1 : va_at D vwCl (ao, OC ct v) H1 := hO.kept (hk ao hO.lt haoA)
    rcases hkd with ⟨e1, rfl⟩ | ⟨e1, rfl⟩
    · refine vx_catch (name := IAE) hown [] ⟨0, 6, 9, 13⟩ _ htb (fun z hz => nomatch hz) (by decide) (by decide) (hG _ k90) ((hE.2.2.2.2 _ (by decide)).use (by decide)) h1 h2 h3 ?_
      refine lv_astore_n (lv' := [(3, .ref q9), (0, .ref (AD 9 0)), (1, .int p1), (2, .int p2)]) hx hb d_La_glass_9 rfl hl (by decide) rfl (fun ls hl => ?_)
      refine lv_iconst (v := 1) hx hb d_La_glass_10 (by decide) ?_
      exact vx_ret (W.iret hx hb hret (fun t' ht' hW => ⟨⟨_, ((AD, L, f), v), rfl, ⟨e1.symm, fun h => absurd (e1.symm.trans h) (by decide), fun _ => rfl⟩, ⟨by rw [ht']; exact hw1, va_K.moved hW.alike hK, hw3⟩, by rw [ht']; exact hO1⟩, hS.F ht'⟩) hS.2.2 d_La_glass_11)
    · refine vx_catch (name := ISE) hown [⟨0, 6, 9, 13⟩] ⟨0, 6, 12, 15⟩ _ htb (fun z hz => Or.inr ?_) (by decide) (by decide) (hG _ k91) ((hE.2.2.2.2 _ (by decide)).use (by decide)) h1 h2 h3 ?_
      · rw [List.mem_singleton.mp hz]
        exact ⟨by decide, IAE, hG _ k90, hNc⟩
      · refine lv_astore_n (lv' := [(3, .ref q9), (0, .ref (AD 9 0)), (1, .int p1), (2, .int p2)]) hx hb d_La_glass_12 rfl hl (by decide) rfl (fun ls hl => ?_)
        refine lv_iconst (v := 2) hx hb d_La_glass_13 (by decide) ?_
        exact vx_ret (W.iret hx hb hret (fun t' ht' hW => ⟨⟨_, ((AD, L, f), v), rfl, ⟨e1.symm, fun h => absurd (e1.symm.trans h) (by decide), fun _ => rfl⟩, ⟨by rw [ht']; exact hw1, va_K.moved hW.alike hK, hw3⟩, by rw [ht']; exact hO1⟩, hS.F ht'⟩) hS.2.2 d_La_glass_14)
  · obtain ⟨hkd, hN, h9⟩ := hp
    obtain ⟨hw1, hw2, hw3⟩ := hB
    rw [ht] at hw1
    have hO1 : va_at D vwCl (ao, OC ct v) H1 := hO.kept (hk ao hO.lt haoA)
    refine lv_goto (tgt := 15) hx hb d_La_glass_6 (by decide) ?_
    refine lv_iconst (v := 0) hx hb d_La_glass_15 (by decide) ?_
    exact vx_ret (W.iret hx hb hret (fun t' ht' hW => ⟨⟨_, (u, v), rfl, ⟨hkd.symm, fun _ => ⟨hN, h9⟩, fun h => absurd hkd h⟩, ⟨by rw [ht']; exact hw1, va_K.moved hW.alike hK, hw3⟩, by rw [ht']; exact hO1⟩, hS.F ht'⟩) hS.2.2 d_La_glass_16)
set_option maxHeartbeats 4000000 in
set_option maxRecDepth 100000 in
theorem c_La_fire {l : Launch} (hl0 : l.stackTraces = false) {D : va_G} {ct : Nat → ClassId} {AD : Nat → Nat → Nat} {L : List Nat} {f : Nat → va_E} {sz ao : Nat} {v : Nat → Int64} {n : Nat → Nat} {I : Nat → Nat → Int32} {J : Nat → Nat → Int64} {P : Nat → Nat → Nat} {sa sb : Nat} {p1 p2 p3 p4 p5 : Int32} (hCW : CW ct AD L n I J P f) : vx_Met l y_La_fire (WH y_La_fire b_La_fire 8 (some .int) [(0, 16, 19, 13), (0, 16, 23, 15)]) { frames := 9, cells := 12, slots := 100, locals := 160 } (va_Pc [.ref (AD 9 0), .int p1, .int p2, .int p3, .int p4, .int p5, .ref ao] (LPr D ct L f ao v sa sb sz)) (va_Qi (fun (r : Int32) (u : LSt) => r = (kdFire n I p1 p2 p3 p4 p5) ∧ ((kdFire n I p1 p2 p3 p4 p5) = 0 → u.2 0 = Int32.toInt64 (nI (n 2)) ∧ CW ct u.1.1 u.1.2.1 (va_up n 2 (n 2 + 1)) (nwFiI I (n 2) p2 p3 p4 p5) J (up2 P 3 (n 2) p1.toNatClampNeg) u.1.2.2 ∧ u.1.1 9 0 = AD 9 0) ∧ (¬ (kdFire n I p1 p2 p3 p4 p5) = 0 → u.1 = (AD, L, f))) (fun u t => LB D ct ao (AA L f sz) u t) (LA L f ao sz)) NX 12 100 (LA L f ao sz) := by
  refine vx_ofWH (cc := b_La_fire) (maxL := 8) (ret := (some .int)) (hh := [(0, 16, 19, 13), (0, 16, 23, 15)]) (by decide) rfl ?_
  intro p e s m args below meth c s₁ B hml hv
  obtain ⟨rfl, ⟨hsz, hP, hK, hD0, hE⟩, hO, haoL, hNc⟩ := hv
  subst hsz
  have hx := B.exec
  have hb := B.bytes
  have hret := B.returns
  have hts := atoms_spec (ws := WH y_La_fire b_La_fire 8 (some .int) [(0, 16, 19, 13), (0, 16, 23, 15)]) B.pre
  have hG : ∀ w ∈ GW, w.before _ s = true := fun w h => hts w (List.mem_cons_of_mem _ h)
  have hown : s.vm.findClass "SmokeZonesLaw" = some m.cls := findClass_of_methodNamed B.named
  have htb : c.exceptionTable.toList = [⟨0, 16, 19, 13⟩, ⟨0, 16, 23, 15⟩] := vx_table (x := y_La_room) B (hts _ List.mem_cons_self)
  have haoA : ¬ AA L f s.heap.size ao := aa_na hO haoL
  have hS : va_S (LA L f ao s.heap.size) s.heap s.heap [] := va_S.rf
  obtain ⟨g0L, g0E⟩ := hCW.ma
  have hl := lv_entry ([.ref (AD 9 0), .int p1, .int p2, .int p3, .int p4, .int p5, .ref ao]) (n := 8) (Nat.le_of_ble_eq_true rfl)
  rw [lg_entry_eq]
  generalize (lg_sl ([.ref (AD 9 0), .int p1, .int p2, .int p3, .int p4, .int p5, .ref ao]) ++ List.replicate (8 - (lg_sl ([.ref (AD 9 0), .int p1, .int p2, .int p3, .int p4, .int p5, .ref ao])).length) Slot.unset).toArray = ls at hl ⊢
  have hl : lv_has ls 8 [(0, .ref (AD 9 0)), (1, .int p1), (2, .int p2), (3, .int p3), (4, .int p4), (5, .int p5), (6, .ref ao)] := hl
  refine lv_aload hx hb d_La_fire_0 (lv_at hl 6 rfl) ?_
  refine lv_iconst (v := 0) hx hb d_La_fire_2 (by decide) ?_
  refine lv_aload_n hx hb d_La_fire_3 rfl (lv_at hl 0 rfl) ?_
  refine lv_iload_n hx hb d_La_fire_4 rfl (lv_at hl 1 rfl) ?_
  refine lv_iload_n hx hb d_La_fire_5 rfl (lv_at hl 2 rfl) ?_
  refine lv_iload_n hx hb d_La_fire_6 rfl (lv_at hl 3 rfl) ?_
  refine lv_iload hx hb d_La_fire_7 (lv_at hl 4 rfl) ?_
  refine lv_iload hx hb d_La_fire_9 (lv_at hl 5 rfl) ?_
  refine vx_calli (vx_runV (As := [.int p1, .int p2, .int p3, .int p4, .int p5]) (rest := [.int 0, .ref ao]) ⟨hx, hb, hml, hown, hG⟩ (c_Sz_fire hl0 (sz := s.heap.size) (sa := sa) (sb := sb) hCW) (cwV 5 hG (gV k297 k298 k299 k1 k300) rfl rfl rfl hd_Sz_fire ⟨Nat.le_of_ble_eq_true rfl, Nat.le_of_ble_eq_true rfl⟩) ⟨MP.blind _, pc_recv hK hP g0L g0E rfl, fun U hU hW => ⟨rfl, by rw [hU], by rw [hU]; exact hP, va_K.moved hW.alike hK, hD0, by rw [hU]; exact hE.call va_S.rf hW (fun _ h => h)⟩⟩ rfl rfl hl.1 rfl (lv_room (Nat.le_of_ble_eq_true rfl)) d_La_fire_11 ⟨Nat.le_of_ble_eq_true rfl, Nat.le_of_ble_eq_true rfl⟩) hS (fun q _ h => Or.inl h) (fun q h => Or.inl h) (fun q _ h => Or.inl h) (fun E ce q9 u t H1 locs ht hvm hp hB hz hk hS h1 h2 h3 => ?_) (fun r u t H1 locs ht hvm hp hB hz hk hS => ?_)
  · obtain ⟨hkd, hw1, hw2, hw3⟩ := hB
    rw [ht] at hw1
    have hO1 : va_at D vwCl (ao, OC ct v) H1 := hO.kept (hk ao hO.lt haoA)
    rcases hkd with ⟨e1, rfl⟩ | ⟨e1, rfl⟩
    · refine vx_catch (name := IAE) hown [] ⟨0, 16, 19, 13⟩ _ htb (fun z hz => nomatch hz) (by decide) (by decide) (hG _ k90) ((hE.2.2.2.2 _ (by decide)).use (by decide)) h1 h2 h3 ?_
      refine lv_astore (lv' := [(7, .ref q9), (0, .ref (AD 9 0)), (1, .int p1), (2, .int p2), (3, .int p3), (4, .int p4), (5, .int p5), (6, .ref ao)]) hx hb d_La_fire_19 hl (by decide) rfl (fun ls hl => ?_)
      refine lv_iconst (v := 1) hx hb d_La_fire_21 (by decide) ?_
      exact vx_ret (W.iret hx hb hret (fun t' ht' hW => ⟨⟨_, ((AD, L, f), v), rfl, ⟨e1.symm, fun h => absurd (e1.symm.trans h) (by decide), fun _ => rfl⟩, ⟨by rw [ht']; exact hw1, va_K.moved hW.alike hK, hw3⟩, by rw [ht']; exact hO1⟩, hS.F ht'⟩) hS.2.2 d_La_fire_22)
    · refine vx_catch (name := ISE) hown [⟨0, 16, 19, 13⟩] ⟨0, 16, 23, 15⟩ _ htb (fun z hz => Or.inr ?_) (by decide) (by decide) (hG _ k91) ((hE.2.2.2.2 _ (by decide)).use (by decide)) h1 h2 h3 ?_
      · rw [List.mem_singleton.mp hz]
        exact ⟨by decide, IAE, hG _ k90, hNc⟩
      · refine lv_astore (lv' := [(7, .ref q9), (0, .ref (AD 9 0)), (1, .int p1), (2, .int p2), (3, .int p3), (4, .int p4), (5, .int p5), (6, .ref ao)]) hx hb d_La_fire_23 hl (by decide) rfl (fun ls hl => ?_)
        refine lv_iconst (v := 2) hx hb d_La_fire_25 (by decide) ?_
        exact vx_ret (W.iret hx hb hret (fun t' ht' hW => ⟨⟨_, ((AD, L, f), v), rfl, ⟨e1.symm, fun h => absurd (e1.symm.trans h) (by decide), fun _ => rfl⟩, ⟨by rw [ht']; exact hw1, va_K.moved hW.alike hK, hw3⟩, by rw [ht']; exact hO1⟩, hS.F ht'⟩) hS.2.2 d_La_fire_26)
  · obtain ⟨hkd, hr, hN, h9⟩ := hp
    obtain ⟨hw1, hw2, hw3⟩ := hB
    rw [ht] at hw1
    have hO1 : va_at D vwCl (ao, OC ct v) H1 := hO.kept (hk ao hO.lt haoA)
    refine lv_i2l hx hb d_La_fire_14 rfl ?_
    refine va_last hx hb hK (cP hO1 hw1) (cD (A := LA L f ao s.heap.size) (Or.inr rfl) (fun k q hk9 e9 => haoA (e9 ▸ hw3.2 k q hk9)) (hw3.weaken (fun _ _ _ h => Or.inl h))) hS 0 7 rfl rfl vin01 d_La_fire_15 (fun H1 locs hP1 hD1 hS => ?_)
    have hO2 := hP1 0 _ rfl
    have hw1 : va_P D vwCl (va_pl u.2.1 u.2.2) H1 := fun k q hk9 => hP1 (k + 1) q hk9
    refine lv_goto (tgt := 27) hx hb d_La_fire_16 (by decide) ?_
    refine lv_iconst (v := 0) hx hb d_La_fire_27 (by decide) ?_
    exact vx_ret (W.iret hx hb hret (fun t' ht' hW => ⟨⟨_, (u, (vp_updL v (Int32.toNatClampNeg 0) (Int32.toInt64 r))), rfl, ⟨hkd.symm, fun _ => ⟨by subst hr; rfl, hN, h9⟩, fun h => absurd hkd h⟩, ⟨by rw [ht']; exact hw1, va_K.moved hW.alike hK, hw3⟩, by rw [ht']; exact hO2⟩, hS.F ht'⟩) hS.2.2 d_La_fire_28)
set_option maxHeartbeats 4000000 in
set_option maxRecDepth 100000 in
theorem c_La_sprinkler {l : Launch} (hl0 : l.stackTraces = false) {D : va_G} {ct : Nat → ClassId} {AD : Nat → Nat → Nat} {L : List Nat} {f : Nat → va_E} {sz ao : Nat} {v : Nat → Int64} {n : Nat → Nat} {I : Nat → Nat → Int32} {J : Nat → Nat → Int64} {P : Nat → Nat → Nat} {sa sb : Nat} {p1 p2 : Int32} (hCW : CW ct AD L n I J P f) : vx_Met l y_La_sprinkler (WH y_La_sprinkler b_La_sprinkler 4 (some .int) [(0, 6, 9, 13), (0, 6, 12, 15)]) { frames := 9, cells := 12, slots := 100, locals := 160 } (va_Pc [.ref (AD 9 0), .int p1, .int p2] (LPr D ct L f ao v sa sb sz)) (va_Qi (fun (r : Int32) (u : LSt) => r = (kdSpr n I p1 p2) ∧ ((kdSpr n I p1 p2) = 0 → CW ct u.1.1 u.1.2.1 n (up2 I 2 p1.toNatClampNeg p2) J P u.1.2.2 ∧ u.1.1 9 0 = AD 9 0) ∧ (¬ (kdSpr n I p1 p2) = 0 → u.1 = (AD, L, f))) (fun u t => LB D ct ao (AA L f sz) u t) (LA L f ao sz)) NX 12 100 (LA L f ao sz) := by
  refine vx_ofWH (cc := b_La_sprinkler) (maxL := 4) (ret := (some .int)) (hh := [(0, 6, 9, 13), (0, 6, 12, 15)]) (by decide) rfl ?_
  intro p e s m args below meth c s₁ B hml hv
  obtain ⟨rfl, ⟨hsz, hP, hK, hD0, hE⟩, hO, haoL, hNc⟩ := hv
  subst hsz
  have hx := B.exec
  have hb := B.bytes
  have hret := B.returns
  have hts := atoms_spec (ws := WH y_La_sprinkler b_La_sprinkler 4 (some .int) [(0, 6, 9, 13), (0, 6, 12, 15)]) B.pre
  have hG : ∀ w ∈ GW, w.before _ s = true := fun w h => hts w (List.mem_cons_of_mem _ h)
  have hown : s.vm.findClass "SmokeZonesLaw" = some m.cls := findClass_of_methodNamed B.named
  have htb : c.exceptionTable.toList = [⟨0, 6, 9, 13⟩, ⟨0, 6, 12, 15⟩] := vx_table (x := y_La_room) B (hts _ List.mem_cons_self)
  have haoA : ¬ AA L f s.heap.size ao := aa_na hO haoL
  have hS : va_S (LA L f ao s.heap.size) s.heap s.heap [] := va_S.rf
  obtain ⟨g0L, g0E⟩ := hCW.ma
  have hl := lv_entry ([.ref (AD 9 0), .int p1, .int p2]) (n := 4) (Nat.le_of_ble_eq_true rfl)
  rw [lg_entry_eq]
  generalize (lg_sl ([.ref (AD 9 0), .int p1, .int p2]) ++ List.replicate (4 - (lg_sl ([.ref (AD 9 0), .int p1, .int p2])).length) Slot.unset).toArray = ls at hl ⊢
  have hl : lv_has ls 4 [(0, .ref (AD 9 0)), (1, .int p1), (2, .int p2)] := hl
  refine lv_aload_n hx hb d_La_sprinkler_0 rfl (lv_at hl 0 rfl) ?_
  refine lv_iload_n hx hb d_La_sprinkler_1 rfl (lv_at hl 1 rfl) ?_
  refine lv_iload_n hx hb d_La_sprinkler_2 rfl (lv_at hl 2 rfl) ?_
  refine vx_callv (vx_runV (As := [.int p1, .int p2]) (rest := []) ⟨hx, hb, hml, hown, hG⟩ (c_Sz_sprinkler hl0 (sz := s.heap.size) (sa := sa) (sb := sb) hCW) (cwV 2 hG (gV k326 k327 k328 k1 k329) rfl rfl rfl hd_Sz_sprinkler ⟨Nat.le_of_ble_eq_true rfl, Nat.le_of_ble_eq_true rfl⟩) ⟨MP.blind _, pc_recv hK hP g0L g0E rfl, fun U hU hW => ⟨rfl, by rw [hU], by rw [hU]; exact hP, va_K.moved hW.alike hK, hD0, by rw [hU]; exact hE.call va_S.rf hW (fun _ h => h)⟩⟩ rfl rfl hl.1 rfl (lv_room (Nat.le_of_ble_eq_true rfl)) d_La_sprinkler_3 ⟨Nat.le_of_ble_eq_true rfl, Nat.le_of_ble_eq_true rfl⟩) hS (fun q _ h => Or.inl h) (fun q h => Or.inl h) (fun q _ h => Or.inl h) (fun E ce q9 u t H1 locs ht hvm hp hB hz hk hS h1 h2 h3 => ?_) (fun u t H1 locs ht hvm hp hB hz hk hS => ?_)
  · obtain ⟨hkd, hw1, hw2, hw3⟩ := hB
    rw [ht] at hw1
    have hO1 : va_at D vwCl (ao, OC ct v) H1 := hO.kept (hk ao hO.lt haoA)
    rcases hkd with ⟨e1, rfl⟩ | ⟨e1, rfl⟩
    · refine vx_catch (name := IAE) hown [] ⟨0, 6, 9, 13⟩ _ htb (fun z hz => nomatch hz) (by decide) (by decide) (hG _ k90) ((hE.2.2.2.2 _ (by decide)).use (by decide)) h1 h2 h3 ?_
      refine lv_astore_n (lv' := [(3, .ref q9), (0, .ref (AD 9 0)), (1, .int p1), (2, .int p2)]) hx hb d_La_sprinkler_9 rfl hl (by decide) rfl (fun ls hl => ?_)
      refine lv_iconst (v := 1) hx hb d_La_sprinkler_10 (by decide) ?_
      exact vx_ret (W.iret hx hb hret (fun t' ht' hW => ⟨⟨_, ((AD, L, f), v), rfl, ⟨e1.symm, fun h => absurd (e1.symm.trans h) (by decide), fun _ => rfl⟩, ⟨by rw [ht']; exact hw1, va_K.moved hW.alike hK, hw3⟩, by rw [ht']; exact hO1⟩, hS.F ht'⟩) hS.2.2 d_La_sprinkler_11)
    · refine vx_catch (name := ISE) hown [⟨0, 6, 9, 13⟩] ⟨0, 6, 12, 15⟩ _ htb (fun z hz => Or.inr ?_) (by decide) (by decide) (hG _ k91) ((hE.2.2.2.2 _ (by decide)).use (by decide)) h1 h2 h3 ?_
      · rw [List.mem_singleton.mp hz]
        exact ⟨by decide, IAE, hG _ k90, hNc⟩
      · refine lv_astore_n (lv' := [(3, .ref q9), (0, .ref (AD 9 0)), (1, .int p1), (2, .int p2)]) hx hb d_La_sprinkler_12 rfl hl (by decide) rfl (fun ls hl => ?_)
        refine lv_iconst (v := 2) hx hb d_La_sprinkler_13 (by decide) ?_
        exact vx_ret (W.iret hx hb hret (fun t' ht' hW => ⟨⟨_, ((AD, L, f), v), rfl, ⟨e1.symm, fun h => absurd (e1.symm.trans h) (by decide), fun _ => rfl⟩, ⟨by rw [ht']; exact hw1, va_K.moved hW.alike hK, hw3⟩, by rw [ht']; exact hO1⟩, hS.F ht'⟩) hS.2.2 d_La_sprinkler_14)
  · obtain ⟨hkd, hN, h9⟩ := hp
    obtain ⟨hw1, hw2, hw3⟩ := hB
    rw [ht] at hw1
    have hO1 : va_at D vwCl (ao, OC ct v) H1 := hO.kept (hk ao hO.lt haoA)
    refine lv_goto (tgt := 15) hx hb d_La_sprinkler_6 (by decide) ?_
    refine lv_iconst (v := 0) hx hb d_La_sprinkler_15 (by decide) ?_
    exact vx_ret (W.iret hx hb hret (fun t' ht' hW => ⟨⟨_, (u, v), rfl, ⟨hkd.symm, fun _ => ⟨hN, h9⟩, fun h => absurd hkd h⟩, ⟨by rw [ht']; exact hw1, va_K.moved hW.alike hK, hw3⟩, by rw [ht']; exact hO1⟩, hS.F ht'⟩) hS.2.2 d_La_sprinkler_16)
set_option maxHeartbeats 4000000 in
set_option maxRecDepth 100000 in
theorem c_La_fan {l : Launch} (hl0 : l.stackTraces = false) {D : va_G} {ct : Nat → ClassId} {AD : Nat → Nat → Nat} {L : List Nat} {f : Nat → va_E} {sz ao : Nat} {v : Nat → Int64} {n : Nat → Nat} {I : Nat → Nat → Int32} {J : Nat → Nat → Int64} {P : Nat → Nat → Nat} {sa sb : Nat} {p1 p2 p3 : Int32} (hCW : CW ct AD L n I J P f) : vx_Met l y_La_fan (WH y_La_fan b_La_fan 6 (some .int) [(0, 12, 15, 13), (0, 12, 19, 15)]) { frames := 9, cells := 12, slots := 100, locals := 160 } (va_Pc [.ref (AD 9 0), .int p1, .int p2, .int p3, .ref ao] (LPr D ct L f ao v sa sb sz)) (va_Qi (fun (r : Int32) (u : LSt) => r = (kdFan n I p1 p2 p3) ∧ ((kdFan n I p1 p2 p3) = 0 → u.2 0 = Int32.toInt64 (nI (n 3)) ∧ CW ct u.1.1 u.1.2.1 (va_up n 3 (n 3 + 1)) (nwFaI I (n 3) p2 p3) J (up2 P 4 (n 3) p1.toNatClampNeg) u.1.2.2 ∧ u.1.1 9 0 = AD 9 0) ∧ (¬ (kdFan n I p1 p2 p3) = 0 → u.1 = (AD, L, f))) (fun u t => LB D ct ao (AA L f sz) u t) (LA L f ao sz)) NX 12 100 (LA L f ao sz) := by
  refine vx_ofWH (cc := b_La_fan) (maxL := 6) (ret := (some .int)) (hh := [(0, 12, 15, 13), (0, 12, 19, 15)]) (by decide) rfl ?_
  intro p e s m args below meth c s₁ B hml hv
  obtain ⟨rfl, ⟨hsz, hP, hK, hD0, hE⟩, hO, haoL, hNc⟩ := hv
  subst hsz
  have hx := B.exec
  have hb := B.bytes
  have hret := B.returns
  have hts := atoms_spec (ws := WH y_La_fan b_La_fan 6 (some .int) [(0, 12, 15, 13), (0, 12, 19, 15)]) B.pre
  have hG : ∀ w ∈ GW, w.before _ s = true := fun w h => hts w (List.mem_cons_of_mem _ h)
  have hown : s.vm.findClass "SmokeZonesLaw" = some m.cls := findClass_of_methodNamed B.named
  have htb : c.exceptionTable.toList = [⟨0, 12, 15, 13⟩, ⟨0, 12, 19, 15⟩] := vx_table (x := y_La_room) B (hts _ List.mem_cons_self)
  have haoA : ¬ AA L f s.heap.size ao := aa_na hO haoL
  have hS : va_S (LA L f ao s.heap.size) s.heap s.heap [] := va_S.rf
  obtain ⟨g0L, g0E⟩ := hCW.ma
  have hl := lv_entry ([.ref (AD 9 0), .int p1, .int p2, .int p3, .ref ao]) (n := 6) (Nat.le_of_ble_eq_true rfl)
  rw [lg_entry_eq]
  generalize (lg_sl ([.ref (AD 9 0), .int p1, .int p2, .int p3, .ref ao]) ++ List.replicate (6 - (lg_sl ([.ref (AD 9 0), .int p1, .int p2, .int p3, .ref ao])).length) Slot.unset).toArray = ls at hl ⊢
  have hl : lv_has ls 6 [(0, .ref (AD 9 0)), (1, .int p1), (2, .int p2), (3, .int p3), (4, .ref ao)] := hl
  refine lv_aload hx hb d_La_fan_0 (lv_at hl 4 rfl) ?_
  refine lv_iconst (v := 0) hx hb d_La_fan_2 (by decide) ?_
  refine lv_aload_n hx hb d_La_fan_3 rfl (lv_at hl 0 rfl) ?_
  refine lv_iload_n hx hb d_La_fan_4 rfl (lv_at hl 1 rfl) ?_
  refine lv_iload_n hx hb d_La_fan_5 rfl (lv_at hl 2 rfl) ?_
  refine lv_iload_n hx hb d_La_fan_6 rfl (lv_at hl 3 rfl) ?_
  refine vx_calli (vx_runV (As := [.int p1, .int p2, .int p3]) (rest := [.int 0, .ref ao]) ⟨hx, hb, hml, hown, hG⟩ (c_Sz_fan hl0 (sz := s.heap.size) (sa := sa) (sb := sb) hCW) (cwV 3 hG (gV k333 k334 k335 k1 k336) rfl rfl rfl hd_Sz_fan ⟨Nat.le_of_ble_eq_true rfl, Nat.le_of_ble_eq_true rfl⟩) ⟨MP.blind _, pc_recv hK hP g0L g0E rfl, fun U hU hW => ⟨rfl, by rw [hU], by rw [hU]; exact hP, va_K.moved hW.alike hK, hD0, by rw [hU]; exact hE.call va_S.rf hW (fun _ h => h)⟩⟩ rfl rfl hl.1 rfl (lv_room (Nat.le_of_ble_eq_true rfl)) d_La_fan_7 ⟨Nat.le_of_ble_eq_true rfl, Nat.le_of_ble_eq_true rfl⟩) hS (fun q _ h => Or.inl h) (fun q h => Or.inl h) (fun q _ h => Or.inl h) (fun E ce q9 u t H1 locs ht hvm hp hB hz hk hS h1 h2 h3 => ?_) (fun r u t H1 locs ht hvm hp hB hz hk hS => ?_)
  · obtain ⟨hkd, hw1, hw2, hw3⟩ := hB
    rw [ht] at hw1
    have hO1 : va_at D vwCl (ao, OC ct v) H1 := hO.kept (hk ao hO.lt haoA)
    rcases hkd with ⟨e1, rfl⟩ | ⟨e1, rfl⟩
    · refine vx_catch (name := IAE) hown [] ⟨0, 12, 15, 13⟩ _ htb (fun z hz => nomatch hz) (by decide) (by decide) (hG _ k90) ((hE.2.2.2.2 _ (by decide)).use (by decide)) h1 h2 h3 ?_
      refine lv_astore (lv' := [(5, .ref q9), (0, .ref (AD 9 0)), (1, .int p1), (2, .int p2), (3, .int p3), (4, .ref ao)]) hx hb d_La_fan_15 hl (by decide) rfl (fun ls hl => ?_)
      refine lv_iconst (v := 1) hx hb d_La_fan_17 (by decide) ?_
      exact vx_ret (W.iret hx hb hret (fun t' ht' hW => ⟨⟨_, ((AD, L, f), v), rfl, ⟨e1.symm, fun h => absurd (e1.symm.trans h) (by decide), fun _ => rfl⟩, ⟨by rw [ht']; exact hw1, va_K.moved hW.alike hK, hw3⟩, by rw [ht']; exact hO1⟩, hS.F ht'⟩) hS.2.2 d_La_fan_18)
    · refine vx_catch (name := ISE) hown [⟨0, 12, 15, 13⟩] ⟨0, 12, 19, 15⟩ _ htb (fun z hz => Or.inr ?_) (by decide) (by decide) (hG _ k91) ((hE.2.2.2.2 _ (by decide)).use (by decide)) h1 h2 h3 ?_
      · rw [List.mem_singleton.mp hz]
        exact ⟨by decide, IAE, hG _ k90, hNc⟩
      · refine lv_astore (lv' := [(5, .ref q9), (0, .ref (AD 9 0)), (1, .int p1), (2, .int p2), (3, .int p3), (4, .ref ao)]) hx hb d_La_fan_19 hl (by decide) rfl (fun ls hl => ?_)
        refine lv_iconst (v := 2) hx hb d_La_fan_21 (by decide) ?_
        exact vx_ret (W.iret hx hb hret (fun t' ht' hW => ⟨⟨_, ((AD, L, f), v), rfl, ⟨e1.symm, fun h => absurd (e1.symm.trans h) (by decide), fun _ => rfl⟩, ⟨by rw [ht']; exact hw1, va_K.moved hW.alike hK, hw3⟩, by rw [ht']; exact hO1⟩, hS.F ht'⟩) hS.2.2 d_La_fan_22)
  · obtain ⟨hkd, hr, hN, h9⟩ := hp
    obtain ⟨hw1, hw2, hw3⟩ := hB
    rw [ht] at hw1
    have hO1 : va_at D vwCl (ao, OC ct v) H1 := hO.kept (hk ao hO.lt haoA)
    refine lv_i2l hx hb d_La_fan_10 rfl ?_
    refine va_last hx hb hK (cP hO1 hw1) (cD (A := LA L f ao s.heap.size) (Or.inr rfl) (fun k q hk9 e9 => haoA (e9 ▸ hw3.2 k q hk9)) (hw3.weaken (fun _ _ _ h => Or.inl h))) hS 0 7 rfl rfl vin01 d_La_fan_11 (fun H1 locs hP1 hD1 hS => ?_)
    have hO2 := hP1 0 _ rfl
    have hw1 : va_P D vwCl (va_pl u.2.1 u.2.2) H1 := fun k q hk9 => hP1 (k + 1) q hk9
    refine lv_goto (tgt := 23) hx hb d_La_fan_12 (by decide) ?_
    refine lv_iconst (v := 0) hx hb d_La_fan_23 (by decide) ?_
    exact vx_ret (W.iret hx hb hret (fun t' ht' hW => ⟨⟨_, (u, (vp_updL v (Int32.toNatClampNeg 0) (Int32.toInt64 r))), rfl, ⟨hkd.symm, fun _ => ⟨by subst hr; rfl, hN, h9⟩, fun h => absurd hkd h⟩, ⟨by rw [ht']; exact hw1, va_K.moved hW.alike hK, hw3⟩, by rw [ht']; exact hO2⟩, hS.F ht'⟩) hS.2.2 d_La_fan_24)
set_option maxHeartbeats 4000000 in
set_option maxRecDepth 100000 in
theorem c_La_steel {l : Launch} (hl0 : l.stackTraces = false) {D : va_G} {ct : Nat → ClassId} {AD : Nat → Nat → Nat} {L : List Nat} {f : Nat → va_E} {sz ao : Nat} {v : Nat → Int64} {n : Nat → Nat} {I : Nat → Nat → Int32} {J : Nat → Nat → Int64} {P : Nat → Nat → Nat} {sa sb : Nat} {p1 p2 : Int32} (hCW : CW ct AD L n I J P f) : vx_Met l y_La_steel (WH y_La_steel b_La_steel 5 (some .int) [(0, 10, 13, 13), (0, 10, 17, 15)]) { frames := 9, cells := 12, slots := 100, locals := 160 } (va_Pc [.ref (AD 9 0), .int p1, .int p2, .ref ao] (LPr D ct L f ao v sa sb sz)) (va_Qi (fun (r : Int32) (u : LSt) => r = (kdSteel n p1 p2) ∧ ((kdSteel n p1 p2) = 0 → u.2 0 = Int32.toInt64 (nI (n 4)) ∧ CW ct u.1.1 u.1.2.1 (va_up n 4 (n 4 + 1)) (nwStI I (n 4) p2) J (up2 P 5 (n 4) p1.toNatClampNeg) u.1.2.2 ∧ u.1.1 9 0 = AD 9 0) ∧ (¬ (kdSteel n p1 p2) = 0 → u.1 = (AD, L, f))) (fun u t => LB D ct ao (AA L f sz) u t) (LA L f ao sz)) NX 12 100 (LA L f ao sz) := by
  refine vx_ofWH (cc := b_La_steel) (maxL := 5) (ret := (some .int)) (hh := [(0, 10, 13, 13), (0, 10, 17, 15)]) (by decide) rfl ?_
  intro p e s m args below meth c s₁ B hml hv
  obtain ⟨rfl, ⟨hsz, hP, hK, hD0, hE⟩, hO, haoL, hNc⟩ := hv
  subst hsz
  have hx := B.exec
  have hb := B.bytes
  have hret := B.returns
  have hts := atoms_spec (ws := WH y_La_steel b_La_steel 5 (some .int) [(0, 10, 13, 13), (0, 10, 17, 15)]) B.pre
  have hG : ∀ w ∈ GW, w.before _ s = true := fun w h => hts w (List.mem_cons_of_mem _ h)
  have hown : s.vm.findClass "SmokeZonesLaw" = some m.cls := findClass_of_methodNamed B.named
  have htb : c.exceptionTable.toList = [⟨0, 10, 13, 13⟩, ⟨0, 10, 17, 15⟩] := vx_table (x := y_La_room) B (hts _ List.mem_cons_self)
  have haoA : ¬ AA L f s.heap.size ao := aa_na hO haoL
  have hS : va_S (LA L f ao s.heap.size) s.heap s.heap [] := va_S.rf
  obtain ⟨g0L, g0E⟩ := hCW.ma
  have hl := lv_entry ([.ref (AD 9 0), .int p1, .int p2, .ref ao]) (n := 5) (Nat.le_of_ble_eq_true rfl)
  rw [lg_entry_eq]
  generalize (lg_sl ([.ref (AD 9 0), .int p1, .int p2, .ref ao]) ++ List.replicate (5 - (lg_sl ([.ref (AD 9 0), .int p1, .int p2, .ref ao])).length) Slot.unset).toArray = ls at hl ⊢
  have hl : lv_has ls 5 [(0, .ref (AD 9 0)), (1, .int p1), (2, .int p2), (3, .ref ao)] := hl
  refine lv_aload_n hx hb d_La_steel_0 rfl (lv_at hl 3 rfl) ?_
  refine lv_iconst (v := 0) hx hb d_La_steel_1 (by decide) ?_
  refine lv_aload_n hx hb d_La_steel_2 rfl (lv_at hl 0 rfl) ?_
  refine lv_iload_n hx hb d_La_steel_3 rfl (lv_at hl 1 rfl) ?_
  refine lv_iload_n hx hb d_La_steel_4 rfl (lv_at hl 2 rfl) ?_
  refine vx_calli (vx_runV (As := [.int p1, .int p2]) (rest := [.int 0, .ref ao]) ⟨hx, hb, hml, hown, hG⟩ (c_Sz_steel hl0 (sz := s.heap.size) (sa := sa) (sb := sb) hCW) (cwV 2 hG (gV k355 k356 k357 k1 k358) rfl rfl rfl hd_Sz_steel ⟨Nat.le_of_ble_eq_true rfl, Nat.le_of_ble_eq_true rfl⟩) ⟨MP.blind _, pc_recv hK hP g0L g0E rfl, fun U hU hW => ⟨rfl, by rw [hU], by rw [hU]; exact hP, va_K.moved hW.alike hK, hD0, by rw [hU]; exact hE.call va_S.rf hW (fun _ h => h)⟩⟩ rfl rfl hl.1 rfl (lv_room (Nat.le_of_ble_eq_true rfl)) d_La_steel_5 ⟨Nat.le_of_ble_eq_true rfl, Nat.le_of_ble_eq_true rfl⟩) hS (fun q _ h => Or.inl h) (fun q h => Or.inl h) (fun q _ h => Or.inl h) (fun E ce q9 u t H1 locs ht hvm hp hB hz hk hS h1 h2 h3 => ?_) (fun r u t H1 locs ht hvm hp hB hz hk hS => ?_)
  · obtain ⟨hkd, hw1, hw2, hw3⟩ := hB
    rw [ht] at hw1
    have hO1 : va_at D vwCl (ao, OC ct v) H1 := hO.kept (hk ao hO.lt haoA)
    rcases hkd with ⟨e1, rfl⟩ | ⟨e1, rfl⟩
    · refine vx_catch (name := IAE) hown [] ⟨0, 10, 13, 13⟩ _ htb (fun z hz => nomatch hz) (by decide) (by decide) (hG _ k90) ((hE.2.2.2.2 _ (by decide)).use (by decide)) h1 h2 h3 ?_
      refine lv_astore (lv' := [(4, .ref q9), (0, .ref (AD 9 0)), (1, .int p1), (2, .int p2), (3, .ref ao)]) hx hb d_La_steel_13 hl (by decide) rfl (fun ls hl => ?_)
      refine lv_iconst (v := 1) hx hb d_La_steel_15 (by decide) ?_
      exact vx_ret (W.iret hx hb hret (fun t' ht' hW => ⟨⟨_, ((AD, L, f), v), rfl, ⟨e1.symm, fun h => absurd (e1.symm.trans h) (by decide), fun _ => rfl⟩, ⟨by rw [ht']; exact hw1, va_K.moved hW.alike hK, hw3⟩, by rw [ht']; exact hO1⟩, hS.F ht'⟩) hS.2.2 d_La_steel_16)
    · refine vx_catch (name := ISE) hown [⟨0, 10, 13, 13⟩] ⟨0, 10, 17, 15⟩ _ htb (fun z hz => Or.inr ?_) (by decide) (by decide) (hG _ k91) ((hE.2.2.2.2 _ (by decide)).use (by decide)) h1 h2 h3 ?_
      · rw [List.mem_singleton.mp hz]
        exact ⟨by decide, IAE, hG _ k90, hNc⟩
      · refine lv_astore (lv' := [(4, .ref q9), (0, .ref (AD 9 0)), (1, .int p1), (2, .int p2), (3, .ref ao)]) hx hb d_La_steel_17 hl (by decide) rfl (fun ls hl => ?_)
        refine lv_iconst (v := 2) hx hb d_La_steel_19 (by decide) ?_
        exact vx_ret (W.iret hx hb hret (fun t' ht' hW => ⟨⟨_, ((AD, L, f), v), rfl, ⟨e1.symm, fun h => absurd (e1.symm.trans h) (by decide), fun _ => rfl⟩, ⟨by rw [ht']; exact hw1, va_K.moved hW.alike hK, hw3⟩, by rw [ht']; exact hO1⟩, hS.F ht'⟩) hS.2.2 d_La_steel_20)
  · obtain ⟨hkd, hr, hN, h9⟩ := hp
    obtain ⟨hw1, hw2, hw3⟩ := hB
    rw [ht] at hw1
    have hO1 : va_at D vwCl (ao, OC ct v) H1 := hO.kept (hk ao hO.lt haoA)
    refine lv_i2l hx hb d_La_steel_8 rfl ?_
    refine va_last hx hb hK (cP hO1 hw1) (cD (A := LA L f ao s.heap.size) (Or.inr rfl) (fun k q hk9 e9 => haoA (e9 ▸ hw3.2 k q hk9)) (hw3.weaken (fun _ _ _ h => Or.inl h))) hS 0 7 rfl rfl vin01 d_La_steel_9 (fun H1 locs hP1 hD1 hS => ?_)
    have hO2 := hP1 0 _ rfl
    have hw1 : va_P D vwCl (va_pl u.2.1 u.2.2) H1 := fun k q hk9 => hP1 (k + 1) q hk9
    refine lv_goto (tgt := 21) hx hb d_La_steel_10 (by decide) ?_
    refine lv_iconst (v := 0) hx hb d_La_steel_21 (by decide) ?_
    exact vx_ret (W.iret hx hb hret (fun t' ht' hW => ⟨⟨_, (u, (vp_updL v (Int32.toNatClampNeg 0) (Int32.toInt64 r))), rfl, ⟨hkd.symm, fun _ => ⟨by subst hr; rfl, hN, h9⟩, fun h => absurd hkd h⟩, ⟨by rw [ht']; exact hw1, va_K.moved hW.alike hK, hw3⟩, by rw [ht']; exact hO2⟩, hS.F ht'⟩) hS.2.2 d_La_steel_22)
set_option maxHeartbeats 4000000 in
set_option maxRecDepth 100000 in
theorem c_La_person {l : Launch} (hl0 : l.stackTraces = false) {D : va_G} {ct : Nat → ClassId} {AD : Nat → Nat → Nat} {L : List Nat} {f : Nat → va_E} {sz ao : Nat} {v : Nat → Int64} {n : Nat → Nat} {I : Nat → Nat → Int32} {J : Nat → Nat → Int64} {P : Nat → Nat → Nat} {sa sb : Nat} {p1 : Int32} (hCW : CW ct AD L n I J P f) : vx_Met l y_La_person (WH y_La_person b_La_person 4 (some .int) [(0, 9, 12, 13), (0, 9, 15, 15)]) { frames := 9, cells := 12, slots := 100, locals := 160 } (va_Pc [.ref (AD 9 0), .int p1, .ref ao] (LPr D ct L f ao v sa sb sz)) (va_Qi (fun (r : Int32) (u : LSt) => r = (kdPers n p1) ∧ ((kdPers n p1) = 0 → u.2 0 = Int32.toInt64 (nI (n 5)) ∧ CW ct u.1.1 u.1.2.1 (va_up n 5 (n 5 + 1)) (nwPeI I (n 5) p1) (nwPeJ J (n 5)) (nwPeP P (n 5)) u.1.2.2 ∧ u.1.1 9 0 = AD 9 0) ∧ (¬ (kdPers n p1) = 0 → u.1 = (AD, L, f))) (fun u t => LB D ct ao (AA L f sz) u t) (LA L f ao sz)) NX 12 100 (LA L f ao sz) := by
  refine vx_ofWH (cc := b_La_person) (maxL := 4) (ret := (some .int)) (hh := [(0, 9, 12, 13), (0, 9, 15, 15)]) (by decide) rfl ?_
  intro p e s m args below meth c s₁ B hml hv
  obtain ⟨rfl, ⟨hsz, hP, hK, hD0, hE⟩, hO, haoL, hNc⟩ := hv
  subst hsz
  have hx := B.exec
  have hb := B.bytes
  have hret := B.returns
  have hts := atoms_spec (ws := WH y_La_person b_La_person 4 (some .int) [(0, 9, 12, 13), (0, 9, 15, 15)]) B.pre
  have hG : ∀ w ∈ GW, w.before _ s = true := fun w h => hts w (List.mem_cons_of_mem _ h)
  have hown : s.vm.findClass "SmokeZonesLaw" = some m.cls := findClass_of_methodNamed B.named
  have htb : c.exceptionTable.toList = [⟨0, 9, 12, 13⟩, ⟨0, 9, 15, 15⟩] := vx_table (x := y_La_room) B (hts _ List.mem_cons_self)
  have haoA : ¬ AA L f s.heap.size ao := aa_na hO haoL
  have hS : va_S (LA L f ao s.heap.size) s.heap s.heap [] := va_S.rf
  obtain ⟨g0L, g0E⟩ := hCW.ma
  have hl := lv_entry ([.ref (AD 9 0), .int p1, .ref ao]) (n := 4) (Nat.le_of_ble_eq_true rfl)
  rw [lg_entry_eq]
  generalize (lg_sl ([.ref (AD 9 0), .int p1, .ref ao]) ++ List.replicate (4 - (lg_sl ([.ref (AD 9 0), .int p1, .ref ao])).length) Slot.unset).toArray = ls at hl ⊢
  have hl : lv_has ls 4 [(0, .ref (AD 9 0)), (1, .int p1), (2, .ref ao)] := hl
  refine lv_aload_n hx hb d_La_person_0 rfl (lv_at hl 2 rfl) ?_
  refine lv_iconst (v := 0) hx hb d_La_person_1 (by decide) ?_
  refine lv_aload_n hx hb d_La_person_2 rfl (lv_at hl 0 rfl) ?_
  refine lv_iload_n hx hb d_La_person_3 rfl (lv_at hl 1 rfl) ?_
  refine vx_calli (vx_runV (As := [.int p1]) (rest := [.int 0, .ref ao]) ⟨hx, hb, hml, hown, hG⟩ (c_Sz_person hl0 (sz := s.heap.size) (sa := sa) (sb := sb) hCW) (cwV 1 hG (gV k378 k379 k380 k1 k381) rfl rfl rfl hd_Sz_person ⟨Nat.le_of_ble_eq_true rfl, Nat.le_of_ble_eq_true rfl⟩) ⟨MP.blind _, pc_recv hK hP g0L g0E rfl, fun U hU hW => ⟨rfl, by rw [hU], by rw [hU]; exact hP, va_K.moved hW.alike hK, hD0, by rw [hU]; exact hE.call va_S.rf hW (fun _ h => h)⟩⟩ rfl rfl hl.1 rfl (lv_room (Nat.le_of_ble_eq_true rfl)) d_La_person_4 ⟨Nat.le_of_ble_eq_true rfl, Nat.le_of_ble_eq_true rfl⟩) hS (fun q _ h => Or.inl h) (fun q h => Or.inl h) (fun q _ h => Or.inl h) (fun E ce q9 u t H1 locs ht hvm hp hB hz hk hS h1 h2 h3 => ?_) (fun r u t H1 locs ht hvm hp hB hz hk hS => ?_)
  · obtain ⟨hkd, hw1, hw2, hw3⟩ := hB
    rw [ht] at hw1
    have hO1 : va_at D vwCl (ao, OC ct v) H1 := hO.kept (hk ao hO.lt haoA)
    rcases hkd with ⟨e1, rfl⟩ | ⟨e1, rfl⟩
    · refine vx_catch (name := IAE) hown [] ⟨0, 9, 12, 13⟩ _ htb (fun z hz => nomatch hz) (by decide) (by decide) (hG _ k90) ((hE.2.2.2.2 _ (by decide)).use (by decide)) h1 h2 h3 ?_
      refine lv_astore_n (lv' := [(3, .ref q9), (0, .ref (AD 9 0)), (1, .int p1), (2, .ref ao)]) hx hb d_La_person_12 rfl hl (by decide) rfl (fun ls hl => ?_)
      refine lv_iconst (v := 1) hx hb d_La_person_13 (by decide) ?_
      exact vx_ret (W.iret hx hb hret (fun t' ht' hW => ⟨⟨_, ((AD, L, f), v), rfl, ⟨e1.symm, fun h => absurd (e1.symm.trans h) (by decide), fun _ => rfl⟩, ⟨by rw [ht']; exact hw1, va_K.moved hW.alike hK, hw3⟩, by rw [ht']; exact hO1⟩, hS.F ht'⟩) hS.2.2 d_La_person_14)
    · refine vx_catch (name := ISE) hown [⟨0, 9, 12, 13⟩] ⟨0, 9, 15, 15⟩ _ htb (fun z hz => Or.inr ?_) (by decide) (by decide) (hG _ k91) ((hE.2.2.2.2 _ (by decide)).use (by decide)) h1 h2 h3 ?_
      · rw [List.mem_singleton.mp hz]
        exact ⟨by decide, IAE, hG _ k90, hNc⟩
      · refine lv_astore_n (lv' := [(3, .ref q9), (0, .ref (AD 9 0)), (1, .int p1), (2, .ref ao)]) hx hb d_La_person_15 rfl hl (by decide) rfl (fun ls hl => ?_)
        refine lv_iconst (v := 2) hx hb d_La_person_16 (by decide) ?_
        exact vx_ret (W.iret hx hb hret (fun t' ht' hW => ⟨⟨_, ((AD, L, f), v), rfl, ⟨e1.symm, fun h => absurd (e1.symm.trans h) (by decide), fun _ => rfl⟩, ⟨by rw [ht']; exact hw1, va_K.moved hW.alike hK, hw3⟩, by rw [ht']; exact hO1⟩, hS.F ht'⟩) hS.2.2 d_La_person_17)
  · obtain ⟨hkd, hr, hN, h9⟩ := hp
    obtain ⟨hw1, hw2, hw3⟩ := hB
    rw [ht] at hw1
    have hO1 : va_at D vwCl (ao, OC ct v) H1 := hO.kept (hk ao hO.lt haoA)
    refine lv_i2l hx hb d_La_person_7 rfl ?_
    refine va_last hx hb hK (cP hO1 hw1) (cD (A := LA L f ao s.heap.size) (Or.inr rfl) (fun k q hk9 e9 => haoA (e9 ▸ hw3.2 k q hk9)) (hw3.weaken (fun _ _ _ h => Or.inl h))) hS 0 7 rfl rfl vin01 d_La_person_8 (fun H1 locs hP1 hD1 hS => ?_)
    have hO2 := hP1 0 _ rfl
    have hw1 : va_P D vwCl (va_pl u.2.1 u.2.2) H1 := fun k q hk9 => hP1 (k + 1) q hk9
    refine lv_goto (tgt := 18) hx hb d_La_person_9 (by decide) ?_
    refine lv_iconst (v := 0) hx hb d_La_person_18 (by decide) ?_
    exact vx_ret (W.iret hx hb hret (fun t' ht' hW => ⟨⟨_, (u, (vp_updL v (Int32.toNatClampNeg 0) (Int32.toInt64 r))), rfl, ⟨hkd.symm, fun _ => ⟨by subst hr; rfl, hN, h9⟩, fun h => absurd hkd h⟩, ⟨by rw [ht']; exact hw1, va_K.moved hW.alike hK, hw3⟩, by rw [ht']; exact hO2⟩, hS.F ht'⟩) hS.2.2 d_La_person_19)
set_option maxHeartbeats 4000000 in
set_option maxRecDepth 100000 in
theorem c_La_go {l : Launch} (hl0 : l.stackTraces = false) {D : va_G} {ct : Nat → ClassId} {AD : Nat → Nat → Nat} {L : List Nat} {f : Nat → va_E} {sz ao : Nat} {v : Nat → Int64} {n : Nat → Nat} {I : Nat → Nat → Int32} {J : Nat → Nat → Int64} {P : Nat → Nat → Nat} {sa sb : Nat} {p1 p2 p3 : Int32} (hCW : CW ct AD L n I J P f) : vx_Met l y_La_go (WH y_La_go b_La_go 5 (some .int) [(0, 7, 10, 13), (0, 7, 14, 15)]) { frames := 9, cells := 12, slots := 100, locals := 160 } (va_Pc [.ref (AD 9 0), .int p1, .int p2, .int p3] (LPr D ct L f ao v sa sb sz)) (va_Qi (fun (r : Int32) (u : LSt) => r = (kdGo n I P p1 p2 p3) ∧ ((kdGo n I P p1 p2 p3) = 0 → CW ct u.1.1 u.1.2.1 n (nwGoI I P p1.toNatClampNeg p2 p3) J (nwGoP P p1.toNatClampNeg) u.1.2.2 ∧ u.1.1 9 0 = AD 9 0) ∧ (¬ (kdGo n I P p1 p2 p3) = 0 → u.1 = (AD, L, f))) (fun u t => LB D ct ao (AA L f sz) u t) (LA L f ao sz)) NX 12 100 (LA L f ao sz) := by
  refine vx_ofWH (cc := b_La_go) (maxL := 5) (ret := (some .int)) (hh := [(0, 7, 10, 13), (0, 7, 14, 15)]) (by decide) rfl ?_
  intro p e s m args below meth c s₁ B hml hv
  obtain ⟨rfl, ⟨hsz, hP, hK, hD0, hE⟩, hO, haoL, hNc⟩ := hv
  subst hsz
  have hx := B.exec
  have hb := B.bytes
  have hret := B.returns
  have hts := atoms_spec (ws := WH y_La_go b_La_go 5 (some .int) [(0, 7, 10, 13), (0, 7, 14, 15)]) B.pre
  have hG : ∀ w ∈ GW, w.before _ s = true := fun w h => hts w (List.mem_cons_of_mem _ h)
  have hown : s.vm.findClass "SmokeZonesLaw" = some m.cls := findClass_of_methodNamed B.named
  have htb : c.exceptionTable.toList = [⟨0, 7, 10, 13⟩, ⟨0, 7, 14, 15⟩] := vx_table (x := y_La_room) B (hts _ List.mem_cons_self)
  have haoA : ¬ AA L f s.heap.size ao := aa_na hO haoL
  have hS : va_S (LA L f ao s.heap.size) s.heap s.heap [] := va_S.rf
  obtain ⟨g0L, g0E⟩ := hCW.ma
  have hl := lv_entry ([.ref (AD 9 0), .int p1, .int p2, .int p3]) (n := 5) (Nat.le_of_ble_eq_true rfl)
  rw [lg_entry_eq]
  generalize (lg_sl ([.ref (AD 9 0), .int p1, .int p2, .int p3]) ++ List.replicate (5 - (lg_sl ([.ref (AD 9 0), .int p1, .int p2, .int p3])).length) Slot.unset).toArray = ls at hl ⊢
  have hl : lv_has ls 5 [(0, .ref (AD 9 0)), (1, .int p1), (2, .int p2), (3, .int p3)] := hl
  refine lv_aload_n hx hb d_La_go_0 rfl (lv_at hl 0 rfl) ?_
  refine lv_iload_n hx hb d_La_go_1 rfl (lv_at hl 1 rfl) ?_
  refine lv_iload_n hx hb d_La_go_2 rfl (lv_at hl 2 rfl) ?_
  refine lv_iload_n hx hb d_La_go_3 rfl (lv_at hl 3 rfl) ?_
  refine vx_callv (vx_runV (As := [.int p1, .int p2, .int p3]) (rest := []) ⟨hx, hb, hml, hown, hG⟩ (c_Sz_go hl0 (sz := s.heap.size) (sa := sa) (sb := sb) hCW) (cwV 3 hG (gV k419 k420 k421 k1 k422) rfl rfl rfl hd_Sz_go ⟨Nat.le_of_ble_eq_true rfl, Nat.le_of_ble_eq_true rfl⟩) ⟨MP.blind _, pc_recv hK hP g0L g0E rfl, fun U hU hW => ⟨rfl, by rw [hU], by rw [hU]; exact hP, va_K.moved hW.alike hK, hD0, by rw [hU]; exact hE.call va_S.rf hW (fun _ h => h)⟩⟩ rfl rfl hl.1 rfl (lv_room (Nat.le_of_ble_eq_true rfl)) d_La_go_4 ⟨Nat.le_of_ble_eq_true rfl, Nat.le_of_ble_eq_true rfl⟩) hS (fun q _ h => Or.inl h) (fun q h => Or.inl h) (fun q _ h => Or.inl h) (fun E ce q9 u t H1 locs ht hvm hp hB hz hk hS h1 h2 h3 => ?_) (fun u t H1 locs ht hvm hp hB hz hk hS => ?_)
  · obtain ⟨hkd, hw1, hw2, hw3⟩ := hB
    rw [ht] at hw1
    have hO1 : va_at D vwCl (ao, OC ct v) H1 := hO.kept (hk ao hO.lt haoA)
    rcases hkd with ⟨e1, rfl⟩ | ⟨e1, rfl⟩
    · refine vx_catch (name := IAE) hown [] ⟨0, 7, 10, 13⟩ _ htb (fun z hz => nomatch hz) (by decide) (by decide) (hG _ k90) ((hE.2.2.2.2 _ (by decide)).use (by decide)) h1 h2 h3 ?_
      refine lv_astore (lv' := [(4, .ref q9), (0, .ref (AD 9 0)), (1, .int p1), (2, .int p2), (3, .int p3)]) hx hb d_La_go_10 hl (by decide) rfl (fun ls hl => ?_)
      refine lv_iconst (v := 1) hx hb d_La_go_12 (by decide) ?_
      exact vx_ret (W.iret hx hb hret (fun t' ht' hW => ⟨⟨_, ((AD, L, f), v), rfl, ⟨e1.symm, fun h => absurd (e1.symm.trans h) (by decide), fun _ => rfl⟩, ⟨by rw [ht']; exact hw1, va_K.moved hW.alike hK, hw3⟩, by rw [ht']; exact hO1⟩, hS.F ht'⟩) hS.2.2 d_La_go_13)
    · refine vx_catch (name := ISE) hown [⟨0, 7, 10, 13⟩] ⟨0, 7, 14, 15⟩ _ htb (fun z hz => Or.inr ?_) (by decide) (by decide) (hG _ k91) ((hE.2.2.2.2 _ (by decide)).use (by decide)) h1 h2 h3 ?_
      · rw [List.mem_singleton.mp hz]
        exact ⟨by decide, IAE, hG _ k90, hNc⟩
      · refine lv_astore (lv' := [(4, .ref q9), (0, .ref (AD 9 0)), (1, .int p1), (2, .int p2), (3, .int p3)]) hx hb d_La_go_14 hl (by decide) rfl (fun ls hl => ?_)
        refine lv_iconst (v := 2) hx hb d_La_go_16 (by decide) ?_
        exact vx_ret (W.iret hx hb hret (fun t' ht' hW => ⟨⟨_, ((AD, L, f), v), rfl, ⟨e1.symm, fun h => absurd (e1.symm.trans h) (by decide), fun _ => rfl⟩, ⟨by rw [ht']; exact hw1, va_K.moved hW.alike hK, hw3⟩, by rw [ht']; exact hO1⟩, hS.F ht'⟩) hS.2.2 d_La_go_17)
  · obtain ⟨hkd, hN, h9⟩ := hp
    obtain ⟨hw1, hw2, hw3⟩ := hB
    rw [ht] at hw1
    have hO1 : va_at D vwCl (ao, OC ct v) H1 := hO.kept (hk ao hO.lt haoA)
    refine lv_goto (tgt := 18) hx hb d_La_go_7 (by decide) ?_
    refine lv_iconst (v := 0) hx hb d_La_go_18 (by decide) ?_
    exact vx_ret (W.iret hx hb hret (fun t' ht' hW => ⟨⟨_, (u, v), rfl, ⟨hkd.symm, fun _ => ⟨hN, h9⟩, fun h => absurd hkd h⟩, ⟨by rw [ht']; exact hw1, va_K.moved hW.alike hK, hw3⟩, by rw [ht']; exact hO1⟩, hS.F ht'⟩) hS.2.2 d_La_go_19)
set_option maxHeartbeats 4000000 in
set_option maxRecDepth 100000 in
theorem c_La_run {l : Launch} (hl0 : l.stackTraces = false) {D : va_G} {ct : Nat → ClassId} {AD : Nat → Nat → Nat} {L : List Nat} {f : Nat → va_E} {sz ao : Nat} {v : Nat → Int64} {n : Nat → Nat} {I : Nat → Nat → Int32} {J : Nat → Nat → Int64} {P : Nat → Nat → Nat} {sa sb : Nat} {p1 : Int32} (hCW : CW ct AD L n I J P f) : vx_Met l y_La_run (WH y_La_run b_La_run 4 (some .int) [(0, 9, 12, 13), (0, 9, 15, 15)]) { frames := 9, cells := 12, slots := 100, locals := 160 } (va_Pc [.ref (AD 9 0), .int p1, .ref ao] (LPr D ct L f ao v sa sb sz)) (va_Qi (fun (r : Int32) (u : LSt) => r = (kdRun I p1) ∧ ((kdRun I p1) = 0 → u.2 0 = Int32.toInt64 ((secL n p1.toNatClampNeg (I, J, P)).1 99 0) ∧ CW ct u.1.1 u.1.2.1 n (secL n p1.toNatClampNeg (I, J, P)).1 (secL n p1.toNatClampNeg (I, J, P)).2.1 (secL n p1.toNatClampNeg (I, J, P)).2.2 u.1.2.2 ∧ u.1.1 9 0 = AD 9 0) ∧ (¬ (kdRun I p1) = 0 → u.1 = (AD, L, f))) (fun u t => LB D ct ao (AA L f sz) u t) (LA L f ao sz)) NX 12 100 (LA L f ao sz) := by
  refine vx_ofWH (cc := b_La_run) (maxL := 4) (ret := (some .int)) (hh := [(0, 9, 12, 13), (0, 9, 15, 15)]) (by decide) rfl ?_
  intro p e s m args below meth c s₁ B hml hv
  obtain ⟨rfl, ⟨hsz, hP, hK, hD0, hE⟩, hO, haoL, hNc⟩ := hv
  subst hsz
  have hx := B.exec
  have hb := B.bytes
  have hret := B.returns
  have hts := atoms_spec (ws := WH y_La_run b_La_run 4 (some .int) [(0, 9, 12, 13), (0, 9, 15, 15)]) B.pre
  have hG : ∀ w ∈ GW, w.before _ s = true := fun w h => hts w (List.mem_cons_of_mem _ h)
  have hown : s.vm.findClass "SmokeZonesLaw" = some m.cls := findClass_of_methodNamed B.named
  have htb : c.exceptionTable.toList = [⟨0, 9, 12, 13⟩, ⟨0, 9, 15, 15⟩] := vx_table (x := y_La_room) B (hts _ List.mem_cons_self)
  have haoA : ¬ AA L f s.heap.size ao := aa_na hO haoL
  have hS : va_S (LA L f ao s.heap.size) s.heap s.heap [] := va_S.rf
  obtain ⟨g0L, g0E⟩ := hCW.ma
  have hl := lv_entry ([.ref (AD 9 0), .int p1, .ref ao]) (n := 4) (Nat.le_of_ble_eq_true rfl)
  rw [lg_entry_eq]
  generalize (lg_sl ([.ref (AD 9 0), .int p1, .ref ao]) ++ List.replicate (4 - (lg_sl ([.ref (AD 9 0), .int p1, .ref ao])).length) Slot.unset).toArray = ls at hl ⊢
  have hl : lv_has ls 4 [(0, .ref (AD 9 0)), (1, .int p1), (2, .ref ao)] := hl
  refine lv_aload_n hx hb d_La_run_0 rfl (lv_at hl 2 rfl) ?_
  refine lv_iconst (v := 0) hx hb d_La_run_1 (by decide) ?_
  refine lv_aload_n hx hb d_La_run_2 rfl (lv_at hl 0 rfl) ?_
  refine lv_iload_n hx hb d_La_run_3 rfl (lv_at hl 1 rfl) ?_
  refine vx_calli (vx_runV (As := [.int p1]) (rest := [.int 0, .ref ao]) ⟨hx, hb, hml, hown, hG⟩ (c_Sz_run hl0 (sz := s.heap.size) (sa := sa) (sb := sb) hCW) (cwV 1 hG (gV k430 k431 k432 k1 k433) rfl rfl rfl hd_Sz_run ⟨Nat.le_of_ble_eq_true rfl, Nat.le_of_ble_eq_true rfl⟩) ⟨MP.blind _, pc_recv hK hP g0L g0E rfl, fun U hU hW => ⟨rfl, by rw [hU], by rw [hU]; exact hP, va_K.moved hW.alike hK, hD0, by rw [hU]; exact hE.call va_S.rf hW (fun _ h => h)⟩⟩ rfl rfl hl.1 rfl (lv_room (Nat.le_of_ble_eq_true rfl)) d_La_run_4 ⟨Nat.le_of_ble_eq_true rfl, Nat.le_of_ble_eq_true rfl⟩) hS (fun q _ h => Or.inl h) (fun q h => Or.inl h) (fun q _ h => Or.inl h) (fun E ce q9 u t H1 locs ht hvm hp hB hz hk hS h1 h2 h3 => ?_) (fun r u t H1 locs ht hvm hp hB hz hk hS => ?_)
  · obtain ⟨hkd, hw1, hw2, hw3⟩ := hB
    rw [ht] at hw1
    have hO1 : va_at D vwCl (ao, OC ct v) H1 := hO.kept (hk ao hO.lt haoA)
    rcases hkd with ⟨e1, rfl⟩ | ⟨e1, rfl⟩
    · refine vx_catch (name := IAE) hown [] ⟨0, 9, 12, 13⟩ _ htb (fun z hz => nomatch hz) (by decide) (by decide) (hG _ k90) ((hE.2.2.2.2 _ (by decide)).use (by decide)) h1 h2 h3 ?_
      refine lv_astore_n (lv' := [(3, .ref q9), (0, .ref (AD 9 0)), (1, .int p1), (2, .ref ao)]) hx hb d_La_run_12 rfl hl (by decide) rfl (fun ls hl => ?_)
      refine lv_iconst (v := 1) hx hb d_La_run_13 (by decide) ?_
      exact vx_ret (W.iret hx hb hret (fun t' ht' hW => ⟨⟨_, ((AD, L, f), v), rfl, ⟨e1.symm, fun h => absurd (e1.symm.trans h) (by decide), fun _ => rfl⟩, ⟨by rw [ht']; exact hw1, va_K.moved hW.alike hK, hw3⟩, by rw [ht']; exact hO1⟩, hS.F ht'⟩) hS.2.2 d_La_run_14)
    · refine vx_catch (name := ISE) hown [⟨0, 9, 12, 13⟩] ⟨0, 9, 15, 15⟩ _ htb (fun z hz => Or.inr ?_) (by decide) (by decide) (hG _ k91) ((hE.2.2.2.2 _ (by decide)).use (by decide)) h1 h2 h3 ?_
      · rw [List.mem_singleton.mp hz]
        exact ⟨by decide, IAE, hG _ k90, hNc⟩
      · refine lv_astore_n (lv' := [(3, .ref q9), (0, .ref (AD 9 0)), (1, .int p1), (2, .ref ao)]) hx hb d_La_run_15 rfl hl (by decide) rfl (fun ls hl => ?_)
        refine lv_iconst (v := 2) hx hb d_La_run_16 (by decide) ?_
        exact vx_ret (W.iret hx hb hret (fun t' ht' hW => ⟨⟨_, ((AD, L, f), v), rfl, ⟨e1.symm, fun h => absurd (e1.symm.trans h) (by decide), fun _ => rfl⟩, ⟨by rw [ht']; exact hw1, va_K.moved hW.alike hK, hw3⟩, by rw [ht']; exact hO1⟩, hS.F ht'⟩) hS.2.2 d_La_run_17)
  · obtain ⟨hkd, hr, hN, h9⟩ := hp
    obtain ⟨hw1, hw2, hw3⟩ := hB
    rw [ht] at hw1
    have hO1 : va_at D vwCl (ao, OC ct v) H1 := hO.kept (hk ao hO.lt haoA)
    refine lv_i2l hx hb d_La_run_7 rfl ?_
    refine va_last hx hb hK (cP hO1 hw1) (cD (A := LA L f ao s.heap.size) (Or.inr rfl) (fun k q hk9 e9 => haoA (e9 ▸ hw3.2 k q hk9)) (hw3.weaken (fun _ _ _ h => Or.inl h))) hS 0 7 rfl rfl vin01 d_La_run_8 (fun H1 locs hP1 hD1 hS => ?_)
    have hO2 := hP1 0 _ rfl
    have hw1 : va_P D vwCl (va_pl u.2.1 u.2.2) H1 := fun k q hk9 => hP1 (k + 1) q hk9
    refine lv_goto (tgt := 18) hx hb d_La_run_9 (by decide) ?_
    refine lv_iconst (v := 0) hx hb d_La_run_18 (by decide) ?_
    exact vx_ret (W.iret hx hb hret (fun t' ht' hW => ⟨⟨_, (u, (vp_updL v (Int32.toNatClampNeg 0) (Int32.toInt64 r))), rfl, ⟨hkd.symm, fun _ => ⟨by subst hr; rfl, hN, h9⟩, fun h => absurd hkd h⟩, ⟨by rw [ht']; exact hw1, va_K.moved hW.alike hK, hw3⟩, by rw [ht']; exact hO2⟩, hS.F ht'⟩) hS.2.2 d_La_run_19)
set_option maxHeartbeats 4000000 in
set_option maxRecDepth 100000 in
theorem c_La_roomAt {l : Launch} (hl0 : l.stackTraces = false) {D : va_G} {ct : Nat → ClassId} {AD : Nat → Nat → Nat} {L : List Nat} {f : Nat → va_E} {sz ao : Nat} {v : Nat → Int64} {n : Nat → Nat} {I : Nat → Nat → Int32} {J : Nat → Nat → Int64} {P : Nat → Nat → Nat} {sa sb : Nat} {p1 p2 : Int32} (hCW : CW ct AD L n I J P f) : vx_Met l y_La_roomAt (WH y_La_roomAt b_La_roomAt 5 (some .int) [(0, 9, 12, 13)]) { frames := 9, cells := 12, slots := 100, locals := 160 } (va_Pc [.ref (AD 9 0), .int p1, .int p2, .ref ao] (LPr D ct L f ao v sa sb sz)) (va_Qi (fun (r : Int32) (u : LSt) => r = (kdNB (n 0) p1 p2 6) ∧ ((kdNB (n 0) p1 p2 6) = 0 → u.2 0 = vRoom I J p1 p2 ∧ CW ct u.1.1 u.1.2.1 n I J P u.1.2.2 ∧ u.1.1 9 0 = AD 9 0) ∧ (¬ (kdNB (n 0) p1 p2 6) = 0 → u.1 = (AD, L, f))) (fun u t => LB D ct ao (AA L f sz) u t) (LA L f ao sz)) NX 12 100 (LA L f ao sz) := by
  refine vx_ofWH (cc := b_La_roomAt) (maxL := 5) (ret := (some .int)) (hh := [(0, 9, 12, 13)]) (by decide) rfl ?_
  intro p e s m args below meth c s₁ B hml hv
  obtain ⟨rfl, ⟨hsz, hP, hK, hD0, hE⟩, hO, haoL, hNc⟩ := hv
  subst hsz
  have hx := B.exec
  have hb := B.bytes
  have hret := B.returns
  have hts := atoms_spec (ws := WH y_La_roomAt b_La_roomAt 5 (some .int) [(0, 9, 12, 13)]) B.pre
  have hG : ∀ w ∈ GW, w.before _ s = true := fun w h => hts w (List.mem_cons_of_mem _ h)
  have hown : s.vm.findClass "SmokeZonesLaw" = some m.cls := findClass_of_methodNamed B.named
  have htb : c.exceptionTable.toList = [⟨0, 9, 12, 13⟩] := vx_table (x := y_La_room) B (hts _ List.mem_cons_self)
  have haoA : ¬ AA L f s.heap.size ao := aa_na hO haoL
  have hS : va_S (LA L f ao s.heap.size) s.heap s.heap [] := va_S.rf
  obtain ⟨g0L, g0E⟩ := hCW.ma
  have hl := lv_entry ([.ref (AD 9 0), .int p1, .int p2, .ref ao]) (n := 5) (Nat.le_of_ble_eq_true rfl)
  rw [lg_entry_eq]
  generalize (lg_sl ([.ref (AD 9 0), .int p1, .int p2, .ref ao]) ++ List.replicate (5 - (lg_sl ([.ref (AD 9 0), .int p1, .int p2, .ref ao])).length) Slot.unset).toArray = ls at hl ⊢
  have hl : lv_has ls 5 [(0, .ref (AD 9 0)), (1, .int p1), (2, .int p2), (3, .ref ao)] := hl
  refine lv_aload_n hx hb d_La_roomAt_0 rfl (lv_at hl 3 rfl) ?_
  refine lv_iconst (v := 0) hx hb d_La_roomAt_1 (by decide) ?_
  refine lv_aload_n hx hb d_La_roomAt_2 rfl (lv_at hl 0 rfl) ?_
  refine lv_iload_n hx hb d_La_roomAt_3 rfl (lv_at hl 1 rfl) ?_
  refine lv_iload_n hx hb d_La_roomAt_4 rfl (lv_at hl 2 rfl) ?_
  refine vx_calll (vx_runV (As := [.int p1, .int p2]) (rest := [.int 0, .ref ao]) ⟨hx, hb, hml, hown, hG⟩ (c_Sz_roomAt hl0 (sz := s.heap.size) (sa := sa) (sb := sb) hCW) (cwV 2 hG (gV k575 k576 k577 k1 k578) rfl rfl rfl hd_Sz_roomAt ⟨Nat.le_of_ble_eq_true rfl, Nat.le_of_ble_eq_true rfl⟩) ⟨MP.blind _, pc_recv hK hP g0L g0E rfl, fun U hU hW => ⟨rfl, by rw [hU], by rw [hU]; exact hP, va_K.moved hW.alike hK, hD0, by rw [hU]; exact hE.call va_S.rf hW (fun _ h => h)⟩⟩ rfl rfl hl.1 rfl (lv_room (Nat.le_of_ble_eq_true rfl)) d_La_roomAt_5 ⟨Nat.le_of_ble_eq_true rfl, Nat.le_of_ble_eq_true rfl⟩) hS (fun q _ h => Or.inl h) (fun q h => Or.inl h) (fun q _ h => Or.inl h) (fun E ce q9 u t H1 locs ht hvm hp hB hz hk hS h1 h2 h3 => ?_) (fun r u t H1 locs ht hvm hp hB hz hk hS => ?_)
  · obtain ⟨hkd, hw1, hw2, hw3⟩ := hB
    rw [ht] at hw1
    have hO1 : va_at D vwCl (ao, OC ct v) H1 := hO.kept (hk ao hO.lt haoA)
    rcases hkd with ⟨e1, rfl⟩ | ⟨e1, rfl⟩
    · refine vx_catch (name := IAE) hown [] ⟨0, 9, 12, 13⟩ _ htb (fun z hz => nomatch hz) (by decide) (by decide) (hG _ k90) ((hE.2.2.2.2 _ (by decide)).use (by decide)) h1 h2 h3 ?_
      refine lv_astore (lv' := [(4, .ref q9), (0, .ref (AD 9 0)), (1, .int p1), (2, .int p2), (3, .ref ao)]) hx hb d_La_roomAt_12 hl (by decide) rfl (fun ls hl => ?_)
      refine lv_iconst (v := 1) hx hb d_La_roomAt_14 (by decide) ?_
      exact vx_ret (W.iret hx hb hret (fun t' ht' hW => ⟨⟨_, ((AD, L, f), v), rfl, ⟨e1.symm, fun h => absurd (e1.symm.trans h) (by decide), fun _ => rfl⟩, ⟨by rw [ht']; exact hw1, va_K.moved hW.alike hK, hw3⟩, by rw [ht']; exact hO1⟩, hS.F ht'⟩) hS.2.2 d_La_roomAt_15)
    · exact absurd e1 kdNB_ne2
  · obtain ⟨hkd, hr, hN, h9⟩ := hp
    obtain ⟨hw1, hw2, hw3⟩ := hB
    rw [ht] at hw1
    have hO1 : va_at D vwCl (ao, OC ct v) H1 := hO.kept (hk ao hO.lt haoA)
    refine va_last hx hb hK (cP hO1 hw1) (cD (A := LA L f ao s.heap.size) (Or.inr rfl) (fun k q hk9 e9 => haoA (e9 ▸ hw3.2 k q hk9)) (hw3.weaken (fun _ _ _ h => Or.inl h))) hS 0 7 rfl rfl vin01 d_La_roomAt_8 (fun H1 locs hP1 hD1 hS => ?_)
    have hO2 := hP1 0 _ rfl
    have hw1 : va_P D vwCl (va_pl u.2.1 u.2.2) H1 := fun k q hk9 => hP1 (k + 1) q hk9
    refine lv_goto (tgt := 16) hx hb d_La_roomAt_9 (by decide) ?_
    refine lv_iconst (v := 0) hx hb d_La_roomAt_16 (by decide) ?_
    exact vx_ret (W.iret hx hb hret (fun t' ht' hW => ⟨⟨_, (u, (vp_updL v (Int32.toNatClampNeg 0) (r))), rfl, ⟨hkd.symm, fun _ => ⟨by subst hr; rfl, hN, h9⟩, fun h => absurd hkd h⟩, ⟨by rw [ht']; exact hw1, va_K.moved hW.alike hK, hw3⟩, by rw [ht']; exact hO2⟩, hS.F ht'⟩) hS.2.2 d_La_roomAt_17)
set_option maxHeartbeats 4000000 in
set_option maxRecDepth 100000 in
theorem c_La_openingAt {l : Launch} (hl0 : l.stackTraces = false) {D : va_G} {ct : Nat → ClassId} {AD : Nat → Nat → Nat} {L : List Nat} {f : Nat → va_E} {sz ao : Nat} {v : Nat → Int64} {n : Nat → Nat} {I : Nat → Nat → Int32} {J : Nat → Nat → Int64} {P : Nat → Nat → Nat} {sa sb : Nat} {p1 p2 : Int32} (hCW : CW ct AD L n I J P f) : vx_Met l y_La_openingAt (WH y_La_openingAt b_La_openingAt 5 (some .int) [(0, 9, 12, 13)]) { frames := 9, cells := 12, slots := 100, locals := 160 } (va_Pc [.ref (AD 9 0), .int p1, .int p2, .ref ao] (LPr D ct L f ao v sa sb sz)) (va_Qi (fun (r : Int32) (u : LSt) => r = (kdNB (n 1) p1 p2 2) ∧ ((kdNB (n 1) p1 p2 2) = 0 → u.2 0 = vOpen I J p1 p2 ∧ CW ct u.1.1 u.1.2.1 n I J P u.1.2.2 ∧ u.1.1 9 0 = AD 9 0) ∧ (¬ (kdNB (n 1) p1 p2 2) = 0 → u.1 = (AD, L, f))) (fun u t => LB D ct ao (AA L f sz) u t) (LA L f ao sz)) NX 12 100 (LA L f ao sz) := by
  refine vx_ofWH (cc := b_La_openingAt) (maxL := 5) (ret := (some .int)) (hh := [(0, 9, 12, 13)]) (by decide) rfl ?_
  intro p e s m args below meth c s₁ B hml hv
  obtain ⟨rfl, ⟨hsz, hP, hK, hD0, hE⟩, hO, haoL, hNc⟩ := hv
  subst hsz
  have hx := B.exec
  have hb := B.bytes
  have hret := B.returns
  have hts := atoms_spec (ws := WH y_La_openingAt b_La_openingAt 5 (some .int) [(0, 9, 12, 13)]) B.pre
  have hG : ∀ w ∈ GW, w.before _ s = true := fun w h => hts w (List.mem_cons_of_mem _ h)
  have hown : s.vm.findClass "SmokeZonesLaw" = some m.cls := findClass_of_methodNamed B.named
  have htb : c.exceptionTable.toList = [⟨0, 9, 12, 13⟩] := vx_table (x := y_La_room) B (hts _ List.mem_cons_self)
  have haoA : ¬ AA L f s.heap.size ao := aa_na hO haoL
  have hS : va_S (LA L f ao s.heap.size) s.heap s.heap [] := va_S.rf
  obtain ⟨g0L, g0E⟩ := hCW.ma
  have hl := lv_entry ([.ref (AD 9 0), .int p1, .int p2, .ref ao]) (n := 5) (Nat.le_of_ble_eq_true rfl)
  rw [lg_entry_eq]
  generalize (lg_sl ([.ref (AD 9 0), .int p1, .int p2, .ref ao]) ++ List.replicate (5 - (lg_sl ([.ref (AD 9 0), .int p1, .int p2, .ref ao])).length) Slot.unset).toArray = ls at hl ⊢
  have hl : lv_has ls 5 [(0, .ref (AD 9 0)), (1, .int p1), (2, .int p2), (3, .ref ao)] := hl
  refine lv_aload_n hx hb d_La_openingAt_0 rfl (lv_at hl 3 rfl) ?_
  refine lv_iconst (v := 0) hx hb d_La_openingAt_1 (by decide) ?_
  refine lv_aload_n hx hb d_La_openingAt_2 rfl (lv_at hl 0 rfl) ?_
  refine lv_iload_n hx hb d_La_openingAt_3 rfl (lv_at hl 1 rfl) ?_
  refine lv_iload_n hx hb d_La_openingAt_4 rfl (lv_at hl 2 rfl) ?_
  refine vx_calll (vx_runV (As := [.int p1, .int p2]) (rest := [.int 0, .ref ao]) ⟨hx, hb, hml, hown, hG⟩ (c_Sz_openingAt hl0 (sz := s.heap.size) (sa := sa) (sb := sb) hCW) (cwV 2 hG (gV k585 k586 k587 k1 k588) rfl rfl rfl hd_Sz_openingAt ⟨Nat.le_of_ble_eq_true rfl, Nat.le_of_ble_eq_true rfl⟩) ⟨MP.blind _, pc_recv hK hP g0L g0E rfl, fun U hU hW => ⟨rfl, by rw [hU], by rw [hU]; exact hP, va_K.moved hW.alike hK, hD0, by rw [hU]; exact hE.call va_S.rf hW (fun _ h => h)⟩⟩ rfl rfl hl.1 rfl (lv_room (Nat.le_of_ble_eq_true rfl)) d_La_openingAt_5 ⟨Nat.le_of_ble_eq_true rfl, Nat.le_of_ble_eq_true rfl⟩) hS (fun q _ h => Or.inl h) (fun q h => Or.inl h) (fun q _ h => Or.inl h) (fun E ce q9 u t H1 locs ht hvm hp hB hz hk hS h1 h2 h3 => ?_) (fun r u t H1 locs ht hvm hp hB hz hk hS => ?_)
  · obtain ⟨hkd, hw1, hw2, hw3⟩ := hB
    rw [ht] at hw1
    have hO1 : va_at D vwCl (ao, OC ct v) H1 := hO.kept (hk ao hO.lt haoA)
    rcases hkd with ⟨e1, rfl⟩ | ⟨e1, rfl⟩
    · refine vx_catch (name := IAE) hown [] ⟨0, 9, 12, 13⟩ _ htb (fun z hz => nomatch hz) (by decide) (by decide) (hG _ k90) ((hE.2.2.2.2 _ (by decide)).use (by decide)) h1 h2 h3 ?_
      refine lv_astore (lv' := [(4, .ref q9), (0, .ref (AD 9 0)), (1, .int p1), (2, .int p2), (3, .ref ao)]) hx hb d_La_openingAt_12 hl (by decide) rfl (fun ls hl => ?_)
      refine lv_iconst (v := 1) hx hb d_La_openingAt_14 (by decide) ?_
      exact vx_ret (W.iret hx hb hret (fun t' ht' hW => ⟨⟨_, ((AD, L, f), v), rfl, ⟨e1.symm, fun h => absurd (e1.symm.trans h) (by decide), fun _ => rfl⟩, ⟨by rw [ht']; exact hw1, va_K.moved hW.alike hK, hw3⟩, by rw [ht']; exact hO1⟩, hS.F ht'⟩) hS.2.2 d_La_openingAt_15)
    · exact absurd e1 kdNB_ne2
  · obtain ⟨hkd, hr, hN, h9⟩ := hp
    obtain ⟨hw1, hw2, hw3⟩ := hB
    rw [ht] at hw1
    have hO1 : va_at D vwCl (ao, OC ct v) H1 := hO.kept (hk ao hO.lt haoA)
    refine va_last hx hb hK (cP hO1 hw1) (cD (A := LA L f ao s.heap.size) (Or.inr rfl) (fun k q hk9 e9 => haoA (e9 ▸ hw3.2 k q hk9)) (hw3.weaken (fun _ _ _ h => Or.inl h))) hS 0 7 rfl rfl vin01 d_La_openingAt_8 (fun H1 locs hP1 hD1 hS => ?_)
    have hO2 := hP1 0 _ rfl
    have hw1 : va_P D vwCl (va_pl u.2.1 u.2.2) H1 := fun k q hk9 => hP1 (k + 1) q hk9
    refine lv_goto (tgt := 16) hx hb d_La_openingAt_9 (by decide) ?_
    refine lv_iconst (v := 0) hx hb d_La_openingAt_16 (by decide) ?_
    exact vx_ret (W.iret hx hb hret (fun t' ht' hW => ⟨⟨_, (u, (vp_updL v (Int32.toNatClampNeg 0) (r))), rfl, ⟨hkd.symm, fun _ => ⟨by subst hr; rfl, hN, h9⟩, fun h => absurd hkd h⟩, ⟨by rw [ht']; exact hw1, va_K.moved hW.alike hK, hw3⟩, by rw [ht']; exact hO2⟩, hS.F ht'⟩) hS.2.2 d_La_openingAt_17)
set_option maxHeartbeats 4000000 in
set_option maxRecDepth 100000 in
theorem c_La_personAt {l : Launch} (hl0 : l.stackTraces = false) {D : va_G} {ct : Nat → ClassId} {AD : Nat → Nat → Nat} {L : List Nat} {f : Nat → va_E} {sz ao : Nat} {v : Nat → Int64} {n : Nat → Nat} {I : Nat → Nat → Int32} {J : Nat → Nat → Int64} {P : Nat → Nat → Nat} {sa sb : Nat} {p1 p2 : Int32} (hCW : CW ct AD L n I J P f) : vx_Met l y_La_personAt (WH y_La_personAt b_La_personAt 5 (some .int) [(0, 9, 12, 13)]) { frames := 9, cells := 12, slots := 100, locals := 160 } (va_Pc [.ref (AD 9 0), .int p1, .int p2, .ref ao] (LPr D ct L f ao v sa sb sz)) (va_Qi (fun (r : Int32) (u : LSt) => r = (kdNB (n 5) p1 p2 2) ∧ ((kdNB (n 5) p1 p2 2) = 0 → u.2 0 = vPers I J p1 p2 ∧ CW ct u.1.1 u.1.2.1 n I J P u.1.2.2 ∧ u.1.1 9 0 = AD 9 0) ∧ (¬ (kdNB (n 5) p1 p2 2) = 0 → u.1 = (AD, L, f))) (fun u t => LB D ct ao (AA L f sz) u t) (LA L f ao sz)) NX 12 100 (LA L f ao sz) := by
  refine vx_ofWH (cc := b_La_personAt) (maxL := 5) (ret := (some .int)) (hh := [(0, 9, 12, 13)]) (by decide) rfl ?_
  intro p e s m args below meth c s₁ B hml hv
  obtain ⟨rfl, ⟨hsz, hP, hK, hD0, hE⟩, hO, haoL, hNc⟩ := hv
  subst hsz
  have hx := B.exec
  have hb := B.bytes
  have hret := B.returns
  have hts := atoms_spec (ws := WH y_La_personAt b_La_personAt 5 (some .int) [(0, 9, 12, 13)]) B.pre
  have hG : ∀ w ∈ GW, w.before _ s = true := fun w h => hts w (List.mem_cons_of_mem _ h)
  have hown : s.vm.findClass "SmokeZonesLaw" = some m.cls := findClass_of_methodNamed B.named
  have htb : c.exceptionTable.toList = [⟨0, 9, 12, 13⟩] := vx_table (x := y_La_room) B (hts _ List.mem_cons_self)
  have haoA : ¬ AA L f s.heap.size ao := aa_na hO haoL
  have hS : va_S (LA L f ao s.heap.size) s.heap s.heap [] := va_S.rf
  obtain ⟨g0L, g0E⟩ := hCW.ma
  have hl := lv_entry ([.ref (AD 9 0), .int p1, .int p2, .ref ao]) (n := 5) (Nat.le_of_ble_eq_true rfl)
  rw [lg_entry_eq]
  generalize (lg_sl ([.ref (AD 9 0), .int p1, .int p2, .ref ao]) ++ List.replicate (5 - (lg_sl ([.ref (AD 9 0), .int p1, .int p2, .ref ao])).length) Slot.unset).toArray = ls at hl ⊢
  have hl : lv_has ls 5 [(0, .ref (AD 9 0)), (1, .int p1), (2, .int p2), (3, .ref ao)] := hl
  refine lv_aload_n hx hb d_La_personAt_0 rfl (lv_at hl 3 rfl) ?_
  refine lv_iconst (v := 0) hx hb d_La_personAt_1 (by decide) ?_
  refine lv_aload_n hx hb d_La_personAt_2 rfl (lv_at hl 0 rfl) ?_
  refine lv_iload_n hx hb d_La_personAt_3 rfl (lv_at hl 1 rfl) ?_
  refine lv_iload_n hx hb d_La_personAt_4 rfl (lv_at hl 2 rfl) ?_
  refine vx_calll (vx_runV (As := [.int p1, .int p2]) (rest := [.int 0, .ref ao]) ⟨hx, hb, hml, hown, hG⟩ (c_Sz_personAt hl0 (sz := s.heap.size) (sa := sa) (sb := sb) hCW) (cwV 2 hG (gV k593 k594 k595 k1 k596) rfl rfl rfl hd_Sz_personAt ⟨Nat.le_of_ble_eq_true rfl, Nat.le_of_ble_eq_true rfl⟩) ⟨MP.blind _, pc_recv hK hP g0L g0E rfl, fun U hU hW => ⟨rfl, by rw [hU], by rw [hU]; exact hP, va_K.moved hW.alike hK, hD0, by rw [hU]; exact hE.call va_S.rf hW (fun _ h => h)⟩⟩ rfl rfl hl.1 rfl (lv_room (Nat.le_of_ble_eq_true rfl)) d_La_personAt_5 ⟨Nat.le_of_ble_eq_true rfl, Nat.le_of_ble_eq_true rfl⟩) hS (fun q _ h => Or.inl h) (fun q h => Or.inl h) (fun q _ h => Or.inl h) (fun E ce q9 u t H1 locs ht hvm hp hB hz hk hS h1 h2 h3 => ?_) (fun r u t H1 locs ht hvm hp hB hz hk hS => ?_)
  · obtain ⟨hkd, hw1, hw2, hw3⟩ := hB
    rw [ht] at hw1
    have hO1 : va_at D vwCl (ao, OC ct v) H1 := hO.kept (hk ao hO.lt haoA)
    rcases hkd with ⟨e1, rfl⟩ | ⟨e1, rfl⟩
    · refine vx_catch (name := IAE) hown [] ⟨0, 9, 12, 13⟩ _ htb (fun z hz => nomatch hz) (by decide) (by decide) (hG _ k90) ((hE.2.2.2.2 _ (by decide)).use (by decide)) h1 h2 h3 ?_
      refine lv_astore (lv' := [(4, .ref q9), (0, .ref (AD 9 0)), (1, .int p1), (2, .int p2), (3, .ref ao)]) hx hb d_La_personAt_12 hl (by decide) rfl (fun ls hl => ?_)
      refine lv_iconst (v := 1) hx hb d_La_personAt_14 (by decide) ?_
      exact vx_ret (W.iret hx hb hret (fun t' ht' hW => ⟨⟨_, ((AD, L, f), v), rfl, ⟨e1.symm, fun h => absurd (e1.symm.trans h) (by decide), fun _ => rfl⟩, ⟨by rw [ht']; exact hw1, va_K.moved hW.alike hK, hw3⟩, by rw [ht']; exact hO1⟩, hS.F ht'⟩) hS.2.2 d_La_personAt_15)
    · exact absurd e1 kdNB_ne2
  · obtain ⟨hkd, hr, hN, h9⟩ := hp
    obtain ⟨hw1, hw2, hw3⟩ := hB
    rw [ht] at hw1
    have hO1 : va_at D vwCl (ao, OC ct v) H1 := hO.kept (hk ao hO.lt haoA)
    refine va_last hx hb hK (cP hO1 hw1) (cD (A := LA L f ao s.heap.size) (Or.inr rfl) (fun k q hk9 e9 => haoA (e9 ▸ hw3.2 k q hk9)) (hw3.weaken (fun _ _ _ h => Or.inl h))) hS 0 7 rfl rfl vin01 d_La_personAt_8 (fun H1 locs hP1 hD1 hS => ?_)
    have hO2 := hP1 0 _ rfl
    have hw1 : va_P D vwCl (va_pl u.2.1 u.2.2) H1 := fun k q hk9 => hP1 (k + 1) q hk9
    refine lv_goto (tgt := 16) hx hb d_La_personAt_9 (by decide) ?_
    refine lv_iconst (v := 0) hx hb d_La_personAt_16 (by decide) ?_
    exact vx_ret (W.iret hx hb hret (fun t' ht' hW => ⟨⟨_, (u, (vp_updL v (Int32.toNatClampNeg 0) (r))), rfl, ⟨hkd.symm, fun _ => ⟨by subst hr; rfl, hN, h9⟩, fun h => absurd hkd h⟩, ⟨by rw [ht']; exact hw1, va_K.moved hW.alike hK, hw3⟩, by rw [ht']; exact hO2⟩, hS.F ht'⟩) hS.2.2 d_La_personAt_17)
set_option maxHeartbeats 4000000 in
set_option maxRecDepth 100000 in
theorem c_La_steelAt {l : Launch} (hl0 : l.stackTraces = false) {D : va_G} {ct : Nat → ClassId} {AD : Nat → Nat → Nat} {L : List Nat} {f : Nat → va_E} {sz ao : Nat} {v : Nat → Int64} {n : Nat → Nat} {I : Nat → Nat → Int32} {J : Nat → Nat → Int64} {P : Nat → Nat → Nat} {sa sb : Nat} {p1 : Int32} (hCW : CW ct AD L n I J P f) : vx_Met l y_La_steelAt (WH y_La_steelAt b_La_steelAt 4 (some .int) [(0, 9, 12, 13)]) { frames := 9, cells := 12, slots := 100, locals := 160 } (va_Pc [.ref (AD 9 0), .int p1, .ref ao] (LPr D ct L f ao v sa sb sz)) (va_Qi (fun (r : Int32) (u : LSt) => r = (kdN (n 4) p1) ∧ ((kdN (n 4) p1) = 0 → u.2 0 = Int32.toInt64 (I 42 p1.toNatClampNeg) ∧ CW ct u.1.1 u.1.2.1 n I J P u.1.2.2 ∧ u.1.1 9 0 = AD 9 0) ∧ (¬ (kdN (n 4) p1) = 0 → u.1 = (AD, L, f))) (fun u t => LB D ct ao (AA L f sz) u t) (LA L f ao sz)) NX 12 100 (LA L f ao sz) := by
  refine vx_ofWH (cc := b_La_steelAt) (maxL := 4) (ret := (some .int)) (hh := [(0, 9, 12, 13)]) (by decide) rfl ?_
  intro p e s m args below meth c s₁ B hml hv
  obtain ⟨rfl, ⟨hsz, hP, hK, hD0, hE⟩, hO, haoL, hNc⟩ := hv
  subst hsz
  have hx := B.exec
  have hb := B.bytes
  have hret := B.returns
  have hts := atoms_spec (ws := WH y_La_steelAt b_La_steelAt 4 (some .int) [(0, 9, 12, 13)]) B.pre
  have hG : ∀ w ∈ GW, w.before _ s = true := fun w h => hts w (List.mem_cons_of_mem _ h)
  have hown : s.vm.findClass "SmokeZonesLaw" = some m.cls := findClass_of_methodNamed B.named
  have htb : c.exceptionTable.toList = [⟨0, 9, 12, 13⟩] := vx_table (x := y_La_room) B (hts _ List.mem_cons_self)
  have haoA : ¬ AA L f s.heap.size ao := aa_na hO haoL
  have hS : va_S (LA L f ao s.heap.size) s.heap s.heap [] := va_S.rf
  obtain ⟨g0L, g0E⟩ := hCW.ma
  have hl := lv_entry ([.ref (AD 9 0), .int p1, .ref ao]) (n := 4) (Nat.le_of_ble_eq_true rfl)
  rw [lg_entry_eq]
  generalize (lg_sl ([.ref (AD 9 0), .int p1, .ref ao]) ++ List.replicate (4 - (lg_sl ([.ref (AD 9 0), .int p1, .ref ao])).length) Slot.unset).toArray = ls at hl ⊢
  have hl : lv_has ls 4 [(0, .ref (AD 9 0)), (1, .int p1), (2, .ref ao)] := hl
  refine lv_aload_n hx hb d_La_steelAt_0 rfl (lv_at hl 2 rfl) ?_
  refine lv_iconst (v := 0) hx hb d_La_steelAt_1 (by decide) ?_
  refine lv_aload_n hx hb d_La_steelAt_2 rfl (lv_at hl 0 rfl) ?_
  refine lv_iload_n hx hb d_La_steelAt_3 rfl (lv_at hl 1 rfl) ?_
  refine vx_calli (vx_runV (As := [.int p1]) (rest := [.int 0, .ref ao]) ⟨hx, hb, hml, hown, hG⟩ (c_Sz_steelAt hl0 (sz := s.heap.size) (sa := sa) (sb := sb) hCW) (cwV 1 hG (gV k600 k601 k602 k1 k603) rfl rfl rfl hd_Sz_steelAt ⟨Nat.le_of_ble_eq_true rfl, Nat.le_of_ble_eq_true rfl⟩) ⟨MP.blind _, pc_recv hK hP g0L g0E rfl, fun U hU hW => ⟨rfl, by rw [hU], by rw [hU]; exact hP, va_K.moved hW.alike hK, hD0, by rw [hU]; exact hE.call va_S.rf hW (fun _ h => h)⟩⟩ rfl rfl hl.1 rfl (lv_room (Nat.le_of_ble_eq_true rfl)) d_La_steelAt_4 ⟨Nat.le_of_ble_eq_true rfl, Nat.le_of_ble_eq_true rfl⟩) hS (fun q _ h => Or.inl h) (fun q h => Or.inl h) (fun q _ h => Or.inl h) (fun E ce q9 u t H1 locs ht hvm hp hB hz hk hS h1 h2 h3 => ?_) (fun r u t H1 locs ht hvm hp hB hz hk hS => ?_)
  · obtain ⟨hkd, hw1, hw2, hw3⟩ := hB
    rw [ht] at hw1
    have hO1 : va_at D vwCl (ao, OC ct v) H1 := hO.kept (hk ao hO.lt haoA)
    rcases hkd with ⟨e1, rfl⟩ | ⟨e1, rfl⟩
    · refine vx_catch (name := IAE) hown [] ⟨0, 9, 12, 13⟩ _ htb (fun z hz => nomatch hz) (by decide) (by decide) (hG _ k90) ((hE.2.2.2.2 _ (by decide)).use (by decide)) h1 h2 h3 ?_
      refine lv_astore_n (lv' := [(3, .ref q9), (0, .ref (AD 9 0)), (1, .int p1), (2, .ref ao)]) hx hb d_La_steelAt_12 rfl hl (by decide) rfl (fun ls hl => ?_)
      refine lv_iconst (v := 1) hx hb d_La_steelAt_13 (by decide) ?_
      exact vx_ret (W.iret hx hb hret (fun t' ht' hW => ⟨⟨_, ((AD, L, f), v), rfl, ⟨e1.symm, fun h => absurd (e1.symm.trans h) (by decide), fun _ => rfl⟩, ⟨by rw [ht']; exact hw1, va_K.moved hW.alike hK, hw3⟩, by rw [ht']; exact hO1⟩, hS.F ht'⟩) hS.2.2 d_La_steelAt_14)
    · exact absurd e1 kdN_ne2
  · obtain ⟨hkd, hr, hN, h9⟩ := hp
    obtain ⟨hw1, hw2, hw3⟩ := hB
    rw [ht] at hw1
    have hO1 : va_at D vwCl (ao, OC ct v) H1 := hO.kept (hk ao hO.lt haoA)
    refine lv_i2l hx hb d_La_steelAt_7 rfl ?_
    refine va_last hx hb hK (cP hO1 hw1) (cD (A := LA L f ao s.heap.size) (Or.inr rfl) (fun k q hk9 e9 => haoA (e9 ▸ hw3.2 k q hk9)) (hw3.weaken (fun _ _ _ h => Or.inl h))) hS 0 7 rfl rfl vin01 d_La_steelAt_8 (fun H1 locs hP1 hD1 hS => ?_)
    have hO2 := hP1 0 _ rfl
    have hw1 : va_P D vwCl (va_pl u.2.1 u.2.2) H1 := fun k q hk9 => hP1 (k + 1) q hk9
    refine lv_goto (tgt := 15) hx hb d_La_steelAt_9 (by decide) ?_
    refine lv_iconst (v := 0) hx hb d_La_steelAt_15 (by decide) ?_
    exact vx_ret (W.iret hx hb hret (fun t' ht' hW => ⟨⟨_, (u, (vp_updL v (Int32.toNatClampNeg 0) (Int32.toInt64 r))), rfl, ⟨hkd.symm, fun _ => ⟨by subst hr; rfl, hN, h9⟩, fun h => absurd hkd h⟩, ⟨by rw [ht']; exact hw1, va_K.moved hW.alike hK, hw3⟩, by rw [ht']; exact hO2⟩, hS.F ht'⟩) hS.2.2 d_La_steelAt_16)
set_option maxHeartbeats 4000000 in
set_option maxRecDepth 100000 in
theorem c_La_balance {l : Launch} (hl0 : l.stackTraces = false) {D : va_G} {ct : Nat → ClassId} {AD : Nat → Nat → Nat} {L : List Nat} {f : Nat → va_E} {sz ao : Nat} {v : Nat → Int64} {n : Nat → Nat} {I : Nat → Nat → Int32} {J : Nat → Nat → Int64} {P : Nat → Nat → Nat} {sa sb : Nat} {p1 : Int32} (hCW : CW ct AD L n I J P f) : vx_Met l y_La_balance (WH y_La_balance b_La_balance 4 (some .int) [(0, 8, 11, 13)]) { frames := 9, cells := 12, slots := 100, locals := 160 } (va_Pc [.ref (AD 9 0), .int p1, .ref ao] (LPr D ct L f ao v sa sb sz)) (va_Qi (fun (r : Int32) (u : LSt) => r = (kdB p1 4) ∧ ((kdB p1 4) = 0 → u.2 0 = vBal n J p1 ∧ CW ct u.1.1 u.1.2.1 n I J P u.1.2.2 ∧ u.1.1 9 0 = AD 9 0) ∧ (¬ (kdB p1 4) = 0 → u.1 = (AD, L, f))) (fun u t => LB D ct ao (AA L f sz) u t) (LA L f ao sz)) NX 12 100 (LA L f ao sz) := by
  refine vx_ofWH (cc := b_La_balance) (maxL := 4) (ret := (some .int)) (hh := [(0, 8, 11, 13)]) (by decide) rfl ?_
  intro p e s m args below meth c s₁ B hml hv
  obtain ⟨rfl, ⟨hsz, hP, hK, hD0, hE⟩, hO, haoL, hNc⟩ := hv
  subst hsz
  have hx := B.exec
  have hb := B.bytes
  have hret := B.returns
  have hts := atoms_spec (ws := WH y_La_balance b_La_balance 4 (some .int) [(0, 8, 11, 13)]) B.pre
  have hG : ∀ w ∈ GW, w.before _ s = true := fun w h => hts w (List.mem_cons_of_mem _ h)
  have hown : s.vm.findClass "SmokeZonesLaw" = some m.cls := findClass_of_methodNamed B.named
  have htb : c.exceptionTable.toList = [⟨0, 8, 11, 13⟩] := vx_table (x := y_La_room) B (hts _ List.mem_cons_self)
  have haoA : ¬ AA L f s.heap.size ao := aa_na hO haoL
  have hS : va_S (LA L f ao s.heap.size) s.heap s.heap [] := va_S.rf
  obtain ⟨g0L, g0E⟩ := hCW.ma
  have hl := lv_entry ([.ref (AD 9 0), .int p1, .ref ao]) (n := 4) (Nat.le_of_ble_eq_true rfl)
  rw [lg_entry_eq]
  generalize (lg_sl ([.ref (AD 9 0), .int p1, .ref ao]) ++ List.replicate (4 - (lg_sl ([.ref (AD 9 0), .int p1, .ref ao])).length) Slot.unset).toArray = ls at hl ⊢
  have hl : lv_has ls 4 [(0, .ref (AD 9 0)), (1, .int p1), (2, .ref ao)] := hl
  refine lv_aload_n hx hb d_La_balance_0 rfl (lv_at hl 2 rfl) ?_
  refine lv_iconst (v := 0) hx hb d_La_balance_1 (by decide) ?_
  refine lv_aload_n hx hb d_La_balance_2 rfl (lv_at hl 0 rfl) ?_
  refine lv_iload_n hx hb d_La_balance_3 rfl (lv_at hl 1 rfl) ?_
  refine vx_calll (vx_runV (As := [.int p1]) (rest := [.int 0, .ref ao]) ⟨hx, hb, hml, hown, hG⟩ (c_Sz_balance hl0 (sz := s.heap.size) (sa := sa) (sb := sb) hCW) (cwV 1 hG (gV k607 k608 k609 k1 k610) rfl rfl rfl hd_Sz_balance ⟨Nat.le_of_ble_eq_true rfl, Nat.le_of_ble_eq_true rfl⟩) ⟨MP.blind _, pc_recv hK hP g0L g0E rfl, fun U hU hW => ⟨rfl, by rw [hU], by rw [hU]; exact hP, va_K.moved hW.alike hK, hD0, by rw [hU]; exact hE.call va_S.rf hW (fun _ h => h)⟩⟩ rfl rfl hl.1 rfl (lv_room (Nat.le_of_ble_eq_true rfl)) d_La_balance_4 ⟨Nat.le_of_ble_eq_true rfl, Nat.le_of_ble_eq_true rfl⟩) hS (fun q _ h => Or.inl h) (fun q h => Or.inl h) (fun q _ h => Or.inl h) (fun E ce q9 u t H1 locs ht hvm hp hB hz hk hS h1 h2 h3 => ?_) (fun r u t H1 locs ht hvm hp hB hz hk hS => ?_)
  · obtain ⟨hkd, hw1, hw2, hw3⟩ := hB
    rw [ht] at hw1
    have hO1 : va_at D vwCl (ao, OC ct v) H1 := hO.kept (hk ao hO.lt haoA)
    rcases hkd with ⟨e1, rfl⟩ | ⟨e1, rfl⟩
    · refine vx_catch (name := IAE) hown [] ⟨0, 8, 11, 13⟩ _ htb (fun z hz => nomatch hz) (by decide) (by decide) (hG _ k90) ((hE.2.2.2.2 _ (by decide)).use (by decide)) h1 h2 h3 ?_
      refine lv_astore_n (lv' := [(3, .ref q9), (0, .ref (AD 9 0)), (1, .int p1), (2, .ref ao)]) hx hb d_La_balance_11 rfl hl (by decide) rfl (fun ls hl => ?_)
      refine lv_iconst (v := 1) hx hb d_La_balance_12 (by decide) ?_
      exact vx_ret (W.iret hx hb hret (fun t' ht' hW => ⟨⟨_, ((AD, L, f), v), rfl, ⟨e1.symm, fun h => absurd (e1.symm.trans h) (by decide), fun _ => rfl⟩, ⟨by rw [ht']; exact hw1, va_K.moved hW.alike hK, hw3⟩, by rw [ht']; exact hO1⟩, hS.F ht'⟩) hS.2.2 d_La_balance_13)
    · exact absurd e1 kdB_ne2
  · obtain ⟨hkd, hr, hN, h9⟩ := hp
    obtain ⟨hw1, hw2, hw3⟩ := hB
    rw [ht] at hw1
    have hO1 : va_at D vwCl (ao, OC ct v) H1 := hO.kept (hk ao hO.lt haoA)
    refine va_last hx hb hK (cP hO1 hw1) (cD (A := LA L f ao s.heap.size) (Or.inr rfl) (fun k q hk9 e9 => haoA (e9 ▸ hw3.2 k q hk9)) (hw3.weaken (fun _ _ _ h => Or.inl h))) hS 0 7 rfl rfl vin01 d_La_balance_7 (fun H1 locs hP1 hD1 hS => ?_)
    have hO2 := hP1 0 _ rfl
    have hw1 : va_P D vwCl (va_pl u.2.1 u.2.2) H1 := fun k q hk9 => hP1 (k + 1) q hk9
    refine lv_goto (tgt := 14) hx hb d_La_balance_8 (by decide) ?_
    refine lv_iconst (v := 0) hx hb d_La_balance_14 (by decide) ?_
    exact vx_ret (W.iret hx hb hret (fun t' ht' hW => ⟨⟨_, (u, (vp_updL v (Int32.toNatClampNeg 0) (r))), rfl, ⟨hkd.symm, fun _ => ⟨by subst hr; rfl, hN, h9⟩, fun h => absurd hkd h⟩, ⟨by rw [ht']; exact hw1, va_K.moved hW.alike hK, hw3⟩, by rw [ht']; exact hO2⟩, hS.F ht'⟩) hS.2.2 d_La_balance_15)
