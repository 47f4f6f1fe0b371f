/-! exceptions: what a thrower needs of the start, the checkers' contracts -/
abbrev IAE : String := "java/lang/IllegalArgumentException"
abbrev ISE : String := "java/lang/IllegalStateException"
abbrev XN : List String := ["java/lang/RuntimeException", "java/lang/Exception"]
abbrev TX1 : String := "a number is out of its bounds, or there is no such thing"
abbrev TX2 : String := "not in this state"
def NG : List Cond := [Cond.castable IAE IAE, Cond.castable ISE ISE, Cond.declares ⟨"java/lang/RuntimeException", "<init>", "()V"⟩, Cond.declares ⟨"java/lang/RuntimeException", "<init>", "(Ljava/lang/String;)V"⟩, Cond.declares ⟨"java/lang/Exception", "<init>", "()V"⟩, Cond.declares ⟨"java/lang/Exception", "<init>", "(Ljava/lang/String;)V"⟩, Cond.declares ⟨"java/lang/Throwable", "<init>", "()V"⟩, Cond.declares ⟨"java/lang/Throwable", "<init>", "(Ljava/lang/String;)V"⟩]
theorem ng1 : ∀ w ∈ (vx_atS "SmokeZones" 187 IAE XN).filter (fun w => !goodWord w), w ∈ NG := by decide +kernel
theorem ng2 : ∀ w ∈ (vx_atS "SmokeZones" 194 ISE XN).filter (fun w => !goodWord w), w ∈ NG := by decide +kernel
theorem gg1 : ∀ w ∈ (vx_atS "SmokeZones" 187 IAE XN).filter goodWord, w ∈ lw_tbl := by decide +kernel
theorem gg2 : ∀ w ∈ (vx_atS "SmokeZones" 194 ISE XN).filter goodWord, w ∈ lw_tbl := by decide +kernel
theorem go1 : ∀ w ∈ Cond.classLink "SmokeZones" 183 IAE :: Cond.initialized IAE :: vx_atS "SmokeZones" 187 IAE XN, vx_ot w = true := by decide +kernel
theorem go2 : ∀ w ∈ Cond.classLink "SmokeZones" 190 ISE :: Cond.initialized ISE :: vx_atS "SmokeZones" 194 ISE XN, vx_ot w = true := by decide +kernel
theorem ft1 : Bundle.fit IAE = true := by decide +kernel
theorem ft2 : Bundle.fit ISE = true := by decide +kernel
theorem ft3 : ∀ n ∈ XN, Bundle.fit n = true := by decide +kernel
theorem ng_ot : ∀ w ∈ NG, w.onTables = true := by decide +kernel
theorem ng_warm {s U : State} (hW : s.WarmedH U.vm) (h : ∀ w ∈ NG, va_Nw w s) : ∀ w ∈ NG, va_Nw w U := by
  intro w hw
  have h0 := h w hw
  simp only [NG, List.mem_cons, List.not_mem_nil, or_false] at hw
  rcases hw with rfl | rfl | rfl | rfl | rfl | rfl | rfl | rfl
  · exact va_Nw.warmC hW h0
  · exact va_Nw.warmC hW h0
  · exact va_Nw.warmD hW h0
  · exact va_Nw.warmD hW h0
  · exact va_Nw.warmD hW h0
  · exact va_Nw.warmD hW h0
  · exact va_Nw.warmD hW h0
  · exact va_Nw.warmD hW h0
def EX (A : Nat → Prop) (sa sb : Nat) (U : State) (H : Heap) : Prop :=
  vx_Zq Bundle.tN "UNASSIGNED_STACK" Bundle.steD A U H ∧ vx_Zq Bundle.tN "SUPPRESSED_SENTINEL" Bundle.listD A U H ∧ vk_R "SmokeZones" 185 TX1 sa U ∧ vk_R "SmokeZones" 192 TX2 sb U ∧ ∀ w ∈ NG, va_Nw w U
theorem EX.call {A A' : Nat → Prop} {sa sb : Nat} {s U : State} {H : Heap} {locs : List Loc} (h : EX A sa sb s s.heap) (hS : va_S A s.heap H locs) (hW : s.WarmedH U.vm) (hAA : ∀ q, A' q → A q) : EX A' sa sb U H :=
  ⟨((h.1.moved hW.alike).kept hS.2.1).narrow hAA, ((h.2.1.moved hW.alike).kept hS.2.1).narrow hAA, h.2.2.1.warm hW, h.2.2.2.1.warm hW, ng_warm hW h.2.2.2.2⟩
theorem EX.calling {A : Nat → Prop} {sa sb : Nat} {U : State} {H : Heap} (g : JFrame) (mk : MethodId) (a : Array Value) (h : EX A sa sb U H) : EX A sa sb (U.calling g mk a) H :=
  ⟨h.1.moved (u := U) (U := U.calling g mk a) (Vm.Alike.refl U.vm), h.2.1.moved (u := U) (U := U.calling g mk a) (Vm.Alike.refl U.vm), vk_R.same (u := U) rfl h.2.2.1, vk_R.same (u := U) rfl h.2.2.2.1, fun w hw => va_Nw.same (u := U) (ng_ot w hw) rfl (h.2.2.2.2 w hw)⟩
abbrev New (H : Heap) : Nat → Prop := fun q => H.size ≤ q
def NP (D : va_G) (TY : List (ClassId × FieldType)) (L : List Nat) (f : Nat → va_E) (sa sb : Nat) (H : Heap) (U : State) : Prop := U.heap = H ∧ va_P D vwCl (va_pl L f) H ∧ va_K D vwCl TY U ∧ EX (New H) sa sb U H
theorem NP.blind {D : va_G} {TY : List (ClassId × FieldType)} {L : List Nat} {f : Nat → va_E} {sa sb : Nat} {H : Heap} (av : List Value) : FrameBlind (va_Pc av (NP D TY L f sa sb H)) := fun a U g mk q => by
  obtain ⟨q0, q1, q2, q3, q4⟩ := q
  exact ⟨q0, q1, q2, va_K.moved (u := U) (U := U.calling g mk a) (Vm.Alike.refl U.vm) q3, q4.calling g mk a⟩
/-- a checker: it returns where 'ok', throws E0 where not; no old cell changes -/
abbrev CK (l : Launch) (y : MethodName) (ws : List Cond) (rm : Room) (av : List Value) (D : va_G) (TY : List (ClassId × FieldType)) (L : List Nat) (f : Nat → va_E) (sa sb : Nat) (H : Heap) (ok : Prop) (E0 : String) : Prop :=
  vx_Met l y ws rm (va_Pc av (NP D TY L f sa sb H)) (va_Qv (fun _ : Unit => ok) (fun _ t => t.heap = H) No) (vx_X (fun _ : Unit => ¬ ok) (fun E _ _ => E = E0) (New H)) 1 6 (New H)
theorem hatS {args : Array Value} {s : State} {L : List Cond} (hG : ∀ w ∈ GW, w.before args s = true) (h1 : ∀ w ∈ L.filter goodWord, w ∈ lw_tbl) (h2 : ∀ w ∈ L.filter (fun w => !goodWord w), w ∈ NG) (h3 : ∀ w ∈ NG, va_Nw w s) : ∀ w ∈ L, w.before args s = true :=
  vx_hat (B := NG) (fun w hw => hG w (List.mem_filter.mpr ⟨h1 w hw, (List.mem_filter.mp hw).2⟩)) h2 (fun w hw => (h3 w hw).use (ng_ot w hw))
set_option maxHeartbeats 4000000 in
set_option maxRecDepth 100000 in
theorem c_Sz_needArgument {l : Launch} (hl : l.stackTraces = false) {D : va_G} {TY : List (ClassId × FieldType)} {L : List Nat} {f : Nat → va_E} {sa sb : Nat} {H : Heap} {z : Int32} : CK l y_Sz_needArgument (WS y_Sz_needArgument b_Sz_needArgument 1 none) { frames := 6, cells := 1, slots := 6, locals := 90 } [.int z] D TY L f sa sb H (¬ z = 0) IAE := by
  refine vx_ofW (cc := b_Sz_needArgument) (maxL := 1) (ret := none) (by decide) rfl ?_
  intro p e s m args below meth c s₁ B hml htab hv
  obtain ⟨rfl, hH, hP, hK, hE⟩ := hv
  subst hH
  have hx := B.exec
  have hb := B.bytes
  have hret := B.returns
  have hts := atoms_spec (ws := WS y_Sz_needArgument b_Sz_needArgument 1 none) B.pre
  have hG : ∀ w ∈ GW, w.before _ s = true := fun w h => hts w (List.mem_cons_of_mem _ h)
  have hown : s.vm.findClass "SmokeZones" = some m.cls := findClass_of_methodNamed B.named
  have hlocks := B.notSynchronized
  have hS : va_S (New s.heap) s.heap s.heap [] := va_S.rf
  have hl2 := lv_entry ([.int z]) (n := 1) (Nat.le_of_ble_eq_true rfl)
  rw [lg_entry_eq]
  generalize (lg_sl ([.int z]) ++ List.replicate (1 - (lg_sl ([.int z])).length) Slot.unset).toArray = ls at hl2 ⊢
  have hl2 : lv_has ls 1 [(0, .int z)] := hl2
  refine lv_iload_n hx hb d_Sz_needArgument_0 rfl (lv_at hl2 0 rfl) ?_
  refine lv_if_ne (tgt := 14) hx hb d_Sz_needArgument_1 (by decide) (fun c_1 => ?_) (fun c_1 => ?_)
  · refine W.widen (k := 1) (n := 6) (by decide) (by decide) ?_
    exact vx_ret (W.vret hx hb hret (fun t ht hW => ⟨⟨(), rfl, c_1, ht⟩, ⟨by rw [ht]; exact Nat.le_refl _, fun q h1 h2 => by rw [ht]⟩⟩) hS.2.2 d_Sz_needArgument_14)
  · exact vx_throwS (names := XN) (text := TX1) (A := New s.heap) hx hb hl hown ft1 ft3 (hG _ k102) (hG _ k6) hE.2.2.1 (hatS hG gg1 ng1 hE.2.2.2.2) go1 hE.1 hE.2.1 hS (hl2.1.trans hml.symm) d_Sz_needArgument_4 d_Sz_needArgument_7 d_Sz_needArgument_8 d_Sz_needArgument_10 d_Sz_needArgument_13 (fun x hx9 => (htab x hx9).elim) (by decide) (by decide) (by decide) (by decide) hlocks (fun t hvm hsz hk => ⟨(), fun h => h c_1, rfl, hsz, fun q h1 _ => hk q h1⟩) hS.2.2 (by decide) (by decide)
set_option maxHeartbeats 4000000 in
set_option maxRecDepth 100000 in
theorem c_Sz_needState {l : Launch} (hl : l.stackTraces = false) {D : va_G} {TY : List (ClassId × FieldType)} {L : List Nat} {f : Nat → va_E} {sa sb : Nat} {H : Heap} {z : Int32} : CK l y_Sz_needState (WS y_Sz_needState b_Sz_needState 1 none) { frames := 6, cells := 1, slots := 6, locals := 90 } [.int z] D TY L f sa sb H (¬ z = 0) ISE := by
  refine vx_ofW (cc := b_Sz_needState) (maxL := 1) (ret := none) (by decide) rfl ?_
  intro p e s m args below meth c s₁ B hml htab hv
  obtain ⟨rfl, hH, hP, hK, hE⟩ := hv
  subst hH
  have hx := B.exec
  have hb := B.bytes
  have hret := B.returns
  have hts := atoms_spec (ws := WS y_Sz_needState b_Sz_needState 1 none) B.pre
  have hG : ∀ w ∈ GW, w.before _ s = true := fun w h => hts w (List.mem_cons_of_mem _ h)
  have hown : s.vm.findClass "SmokeZones" = some m.cls := findClass_of_methodNamed B.named
  have hlocks := B.notSynchronized
  have hS : va_S (New s.heap) s.heap s.heap [] := va_S.rf
  have hl2 := lv_entry ([.int z]) (n := 1) (Nat.le_of_ble_eq_true rfl)
  rw [lg_entry_eq]
  generalize (lg_sl ([.int z]) ++ List.replicate (1 - (lg_sl ([.int z])).length) Slot.unset).toArray = ls at hl2 ⊢
  have hl2 : lv_has ls 1 [(0, .int z)] := hl2
  refine lv_iload_n hx hb d_Sz_needState_0 rfl (lv_at hl2 0 rfl) ?_
  refine lv_if_ne (tgt := 14) hx hb d_Sz_needState_1 (by decide) (fun c_1 => ?_) (fun c_1 => ?_)
  · refine W.widen (k := 1) (n := 6) (by decide) (by decide) ?_
    exact vx_ret (W.vret hx hb hret (fun t ht hW => ⟨⟨(), rfl, c_1, ht⟩, ⟨by rw [ht]; exact Nat.le_refl _, fun q h1 h2 => by rw [ht]⟩⟩) hS.2.2 d_Sz_needState_14)
  · exact vx_throwS (names := XN) (text := TX2) (A := New s.heap) hx hb hl hown ft2 ft3 (hG _ k175) (hG _ k7) hE.2.2.2.1 (hatS hG gg2 ng2 hE.2.2.2.2) go2 hE.1 hE.2.1 hS (hl2.1.trans hml.symm) d_Sz_needState_4 d_Sz_needState_7 d_Sz_needState_8 d_Sz_needState_10 d_Sz_needState_13 (fun x hx9 => (htab x hx9).elim) (by decide) (by decide) (by decide) (by decide) hlocks (fun t hvm hsz hk => ⟨(), fun h => h c_1, rfl, hsz, fun q h1 _ => hk q h1⟩) hS.2.2 (by decide) (by decide)
section CKC
variable {p : Program} {l : Launch} {e : Env} {R : Room} {s : State} {m : MethodId} {args : Array Value} {below : List Frame} {meth : Method} {c : Code} {H : Heap} {locs : List Loc} {cells slots : Nat} {Q : State → Prop} {A : Nat → Prop} {D : va_G} {TY : List (ClassId × FieldType)} {L : List Nat} {f : Nat → va_E} {pc : Nat} {ls : Array Slot} {rest st0 : List Value} {sa sb : Nat} {ok : Prop} {E0 : String}
variable {y : MethodName} {bytes cc : ByteArray} {maxL nL n index : Nat} {ret : Option FieldType} {ws : List Cond} {rm : Room} {Ts : List Cond} {own C : String} {b : Addr} {As : List Value}
theorem kS_ck (S : CallFix p m c cc nL s args Ts own) (hM : CK l y ws rm As D TY L f sa sb H ok E0) (cw : CallB R s args own index y bytes maxL ret ws rm 1 6 n ∧ (Cond.static y).before args s = true) (hK : va_K D vwCl TY s) (hP : va_P D vwCl (va_pl L f) H) (hS : va_S A s.heap H locs) (hA : ∀ q, s.heap.size ≤ q → A q) (hE : EX A sa sb s s.heap) (hn : As.length = n) (hsize : ls.size = nL) (hst : st0 = As.reverse ++ rest) (hW : (rest.map fun v => v.category).sum ≤ 8) (hf : cells + 1 ≤ R.cells ∧ slots + 6 ≤ R.slots) (hdg : decode cc pc = .ok (.invokestatic index, 3))
    (kx : ¬ ok → ∀ (ce : Cell) (q9 : Addr) (H1 : Heap) (locs1 : List Loc), H.size ≤ H1.size → (∀ q : Nat, q < H.size → H1[q]? = H[q]?) → va_S A s.heap H1 locs1 → H1[q9]? = some ce → ce.vm = .none → s.vm.findClass E0 = some ce.cls → vx_W p l e R s m args below meth c H1 locs1 (cells + 1) (slots + 6) Q (F0 m pc ls rest) q9)
    (kk : ok → ∀ locs1, va_S A s.heap H locs1 → W p l e R s m args below meth c H locs1 (cells + 1) (slots + 6) Q (F0 m (pc + 3) ls rest)) : W p l e R s m args below meth c H locs cells slots Q (F0 m pc ls st0) := by
  have hNA : ∀ q, New H q → A q := fun q h => hA q (Nat.le_trans hS.1 h)
  refine vx_callv (vx_runS S hM cw ⟨NP.blind _, fun U hU hW => ⟨rfl, hU, hP, va_K.moved hW.alike hK, hE.call hS hW hNA⟩⟩ rfl hn hsize hst (lv_room hW) hdg hf) hS (fun q _ h => h.elim) hNA (fun q _ h => hNA q h) (fun E ce q9 u t H1 locs1 ht hvm hp hB hz hk hS1 h1 h2 h3 => ?_) (fun u t H1 locs1 ht hvm hp hB hz hk hS1 => ?_)
  · subst hB
    exact kx hp ce q9 H1 locs1 hz (fun q hq => hk q hq (Nat.not_le.mpr hq)) hS1 h1 h2 h3
  · obtain rfl : H1 = H := ht.symm.trans hB
    exact kk hp locs1 hS1
theorem kV_ck {ci : Nat} {fs : List Value} {T : u_T} {N : Nat} (S : CallFix p m c cc nL s args Ts own) (hM : CK l y ws rm (.ref b :: As) D TY L f sa sb H ok E0) (cw : CallW R s args own C index y bytes maxL ret ws rm 1 6 n) (hK : va_K D vwCl TY s) (hP : va_P D vwCl (va_pl L f) H) (hS : va_S A s.heap H locs) (hA : ∀ q, s.heap.size ≤ q → A q) (hE : EX A sa sb s s.heap) (hbL : b ∈ L) (he : f b = .inr (ci, fs)) (hc : vwCl[ci]? = some (C, T, N)) (hn : As.length = n) (hsize : ls.size = nL) (hst : st0 = As.reverse ++ .ref b :: rest) (hW : (rest.map fun v => v.category).sum ≤ 8) (hf : cells + 1 ≤ R.cells ∧ slots + 6 ≤ R.slots) (hdg : decode cc pc = .ok (.invokevirtual index, 3))
    (kx : ¬ ok → ∀ (ce : Cell) (q9 : Addr) (H1 : Heap) (locs1 : List Loc), H.size ≤ H1.size → (∀ q : Nat, q < H.size → H1[q]? = H[q]?) → va_S A s.heap H1 locs1 → H1[q9]? = some ce → ce.vm = .none → s.vm.findClass E0 = some ce.cls → vx_W p l e R s m args below meth c H1 locs1 (cells + 1) (slots + 6) Q (F0 m pc ls rest) q9)
    (kk : ok → ∀ locs1, va_S A s.heap H locs1 → W p l e R s m args below meth c H locs1 (cells + 1) (slots + 6) Q (F0 m (pc + 3) ls rest)) : W p l e R s m args below meth c H locs cells slots Q (F0 m pc ls st0) := by
  have hNA : ∀ q, New H q → A q := fun q h => hA q (Nat.le_trans hS.1 h)
  refine vx_callv (vx_runV S hM cw ⟨NP.blind _, pc_recv hK hP hbL he hc, fun U hU hW => ⟨rfl, hU, hP, va_K.moved hW.alike hK, hE.call hS hW hNA⟩⟩ rfl hn hsize hst (lv_room hW) hdg hf) hS (fun q _ h => h.elim) hNA (fun q _ h => hNA q h) (fun E ce q9 u t H1 locs1 ht hvm hp hB hz hk hS1 h1 h2 h3 => ?_) (fun u t H1 locs1 ht hvm hp hB hz hk hS1 => ?_)
  · subst hB
    exact kx hp ce q9 H1 locs1 hz (fun q hq => hk q hq (Nat.not_le.mpr hq)) hS1 h1 h2 h3
  · obtain rfl : H1 = H := ht.symm.trans hB
    exact kk hp locs1 hS1
end CKC
