abbrev WS (y : MethodName) (b : ByteArray) (n : Nat) (r : Option FieldType) : List Cond := Cond.code y b n r :: GW
theorem gw_c {y : MethodName} {b : ByteArray} {n : Nat} {r : Option FieldType} (h : Cond.code y b n r ∈ GW) : GoodIn GW (WS y b n r) := by
  intro w hw
  rcases List.mem_cons.mp hw with e | hw
  · rw [e]; exact ⟨h, gw_ok h⟩
  · exact ⟨hw, gw_ok hw⟩
theorem gV {own C : String} {ix : Nat} {y : MethodName} {b : ByteArray} {n : Nat} {r : Option FieldType} (h1 : Cond.methodLink own ix y ∈ GW) (h2 : Cond.instanceMethod y ∈ GW) (h3 : Cond.selects C y y ∈ GW) (h4 : Cond.initialized C ∈ GW) (h5 : Cond.code y b n r ∈ GW) : GoodIn GW (wsV own ix C y (WS y b n r)) := by
  intro w hw
  rcases List.mem_append.mp hw with hw | hw
  · rcases List.mem_cons.mp hw with e | hw
    · rw [e]; exact ⟨h1, gw_ok h1⟩
    rcases List.mem_cons.mp hw with e | hw
    · rw [e]; exact ⟨h2, gw_ok h2⟩
    rcases List.mem_cons.mp hw with e | hw
    · rw [e]; exact ⟨h3, gw_ok h3⟩
    rcases List.mem_cons.mp hw with e | hw
    · rw [e]; exact ⟨h4, gw_ok h4⟩
    cases hw
  · exact gw_c h5 w hw
theorem gS {own : String} {ix : Nat} {y : MethodName} {b : ByteArray} {n : Nat} {r : Option FieldType} (h1 : Cond.methodLink own ix y ∈ GW) (h2 : Cond.static y ∈ GW) (h4 : Cond.initialized own ∈ GW) (h5 : Cond.code y b n r ∈ GW) : GoodIn GW (wsS own ix y (WS y b n r)) := by
  intro w hw
  rcases List.mem_append.mp hw with hw | hw
  · rcases List.mem_cons.mp hw with e | hw
    · rw [e]; exact ⟨h1, gw_ok h1⟩
    rcases List.mem_cons.mp hw with e | hw
    · rw [e]; exact ⟨h2, gw_ok h2⟩
    rcases List.mem_cons.mp hw with e | hw
    · rw [e]; exact ⟨h4, gw_ok h4⟩
    cases hw
  · exact gw_c h5 w hw
/-! contracts of readers (nothing changes, the answer is x) and of writers (the pool holds f' behind it); rows for calls of them -/
def RP (D : va_G) (TY : List (ClassId × FieldType)) (L : List Nat) (f : Nat → va_E) (H0 : Heap) (U : State) : Prop := U.heap = H0 ∧ va_P D vwCl (va_pl L f) H0 ∧ va_K D vwCl TY U
abbrev Ql (x : Int64) (H0 : Heap) : Array Value → State → Outcome → State → Prop := va_Ql (fun v (_ : Unit) => v = x) (fun _ t => t.heap = H0) (fun _ => False)
abbrev Qi (x : Int32) (H0 : Heap) : Array Value → State → Outcome → State → Prop := va_Qi (fun v (_ : Unit) => v = x) (fun _ t => t.heap = H0) (fun _ => False)
abbrev No : Addr → Prop := fun _ => False
def WP (D : va_G) (TY : List (ClassId × FieldType)) (L : List Nat) (f : Nat → va_E) (sz : Nat) (U : State) : Prop := U.heap.size = sz ∧ va_P D vwCl (va_pl L f) U.heap ∧ va_K D vwCl TY U ∧ va_D (fun _ => True) (va_pl L f)
def WQ (D : va_G) (TY : List (ClassId × FieldType)) (L : List Nat) (f : Nat → va_E) (A : Nat → Prop) (t : State) : Prop := va_P D vwCl (va_pl L f) t.heap ∧ va_K D vwCl TY t ∧ va_D A (va_pl L f)
abbrev AA (L : List Nat) (f : Nat → va_E) (sz : Nat) : Nat → Prop := va_A (va_pl L f) sz
abbrev Xl (D : va_G) (TY : List (ClassId × FieldType)) (L : List Nat) (f' : Nat → va_E) (A : Nat → Prop) (x : Int64) : Array Value → State → Outcome → State → Prop := va_Ql (fun v (_ : Unit) => v = x) (fun _ t => WQ D TY L f' A t) A
abbrev Xi (D : va_G) (TY : List (ClassId × FieldType)) (L : List Nat) (f' : Nat → va_E) (A : Nat → Prop) (x : Int32) : Array Value → State → Outcome → State → Prop := va_Qi (fun v (_ : Unit) => v = x) (fun _ t => WQ D TY L f' A t) A
abbrev Xv (D : va_G) (TY : List (ClassId × FieldType)) (L : List Nat) (f' : Nat → va_E) (A : Nat → Prop) : Array Value → State → Outcome → State → Prop := va_Qv (fun (_ : Unit) => True) (fun _ t => WQ D TY L f' A t) A
section PC
variable {p : Program} {l : Launch} {e : Env} {R : Room} {s : State} {m : MethodId} {args : Array Value} {below : List Frame} {meth : Method} {c : Code} {H H0 : Heap} {locs : List Loc} {cells slots : Nat} {Q : State → Prop} {A : Nat → Prop} {D : va_G} {TY : List (ClassId × FieldType)} {L : List Nat} {f f' : Nat → va_E} {pc : Nat} {ls : Array Slot} {rest st0 : List Value}
variable {y : MethodName} {bytes cc : ByteArray} {maxL nL n index : Nat} {ret : Option FieldType} {ws : List Cond} {rm : Room} {Ts : List Cond} {own C : String} {b : Addr} {As : List Value}
theorem RP.blind (av : List Value) : FrameBlind (va_Pc av (RP D TY L f H0)) := fun a U g mk q => by
  obtain ⟨q0, q1, q2, q3⟩ := q
  exact ⟨q0, q1, q2, va_K.moved (u := U) (U := U.calling g mk a) (Vm.Alike.refl U.vm) q3⟩
theorem WP.blind {sz : Nat} (av : List Value) : FrameBlind (va_Pc av (WP D TY L f sz)) := fun a U g mk q => by
  obtain ⟨q0, q1, q2, q3, q4⟩ := q
  exact ⟨q0, q1, q2, va_K.moved (u := U) (U := U.calling g mk a) (Vm.Alike.refl U.vm) q3, q4⟩
theorem pc_recv {ci : Nat} {fs : List Value} {T : u_T} {N : Nat} (hK : va_K D vwCl TY s) (hP : va_P D vwCl (va_pl L f) H) (hbL : b ∈ L) (he : f b = .inr (ci, fs)) (hc : vwCl[ci]? = some (C, T, N)) : ∃ cellB : Cell, H[b]? = some cellB ∧ cellB.vm.isStatics = false ∧ s.vm.findClass C = some cellB.cls := by
  obtain ⟨q0, hq⟩ := pg_ix (f := f) hbL
  exact va_recv hK hP (ci := ci) (q0 := q0) hc (by rw [hq, he])
theorem pc_free (hD : va_D A (va_pl L f)) (hS : va_S A H0 H locs) (hA : ∀ q, H0.size ≤ q → A q) : ∀ q, AA L f H.size q → A q := by
  intro q h
  rcases h with ⟨k, z, h⟩ | h
  · exact hD.2 k _ h
  · exact hA q (Nat.le_trans hS.1 h)
/-- a reader, virtual, long -/
theorem kV_rl {x : Int64} {ci : Nat} {fs : List Value} {T : u_T} {N : Nat} (S : CallFix p m c cc nL s args Ts own) (hM : Met l y ws rm (va_Pc (.ref b :: As) (RP D TY L f H)) (Ql x H) 0 0 No) (cw : CallW R s args own C index y bytes maxL ret ws rm 0 0 n) (hK : va_K D vwCl TY s) (hP : va_P D vwCl (va_pl L f) H) (hS : va_S A H0 H locs) (hbL : b ∈ L) (he : f b = .inr (ci, fs)) (hc : vwCl[ci]? = some (C, T, N)) (hn : As.length = n) (hsize : ls.size = nL) (hst : st0 = As.reverse ++ .ref b :: rest) (hW : (rest.map fun v => v.category).sum ≤ 8) (hf : cells ≤ R.cells ∧ slots ≤ R.slots) (hdg : decode cc pc = .ok (.invokevirtual index, 3))
    (kk : ∀ locs1, va_S A H0 H locs1 → W p l e R s m args below meth c H locs1 cells slots Q (F0 m (pc + 3) ls (.long x :: rest))) : W p l e R s m args below meth c H locs cells slots Q (F0 m pc ls st0) := by
  refine va_calll (va_runV S hM cw ⟨RP.blind _, pc_recv hK hP hbL he hc, fun U hU hW => ⟨rfl, hU, hP, va_K.moved hW.alike hK⟩⟩ rfl hn hsize hst (lv_room hW) hdg hf) hS (fun q _ h => h.elim) (fun q h => h.elim) (fun r u t H1 locs1 ht hvm hp hB hz hk hS1 => ?_)
  obtain rfl : H1 = H := ht.symm.trans hB
  rw [hp]
  exact kk locs1 hS1
theorem kV_ri {x : Int32} {ci : Nat} {fs : List Value} {T : u_T} {N : Nat} (S : CallFix p m c cc nL s args Ts own) (hM : Met l y ws rm (va_Pc (.ref b :: As) (RP D TY L f H)) (Qi x H) 0 0 No) (cw : CallW R s args own C index y bytes maxL ret ws rm 0 0 n) (hK : va_K D vwCl TY s) (hP : va_P D vwCl (va_pl L f) H) (hS : va_S A H0 H locs) (hbL : b ∈ L) (he : f b = .inr (ci, fs)) (hc : vwCl[ci]? = some (C, T, N)) (hn : As.length = n) (hsize : ls.size = nL) (hst : st0 = As.reverse ++ .ref b :: rest) (hW : (rest.map fun v => v.category).sum ≤ 8) (hf : cells ≤ R.cells ∧ slots ≤ R.slots) (hdg : decode cc pc = .ok (.invokevirtual index, 3))
    (kk : ∀ locs1, va_S A H0 H locs1 → W p l e R s m args below meth c H locs1 cells slots Q (F0 m (pc + 3) ls (.int x :: rest))) : W p l e R s m args below meth c H locs cells slots Q (F0 m pc ls st0) := by
  refine va_calli (va_runV S hM cw ⟨RP.blind _, pc_recv hK hP hbL he hc, fun U hU hW => ⟨rfl, hU, hP, va_K.moved hW.alike hK⟩⟩ rfl hn hsize hst (lv_room hW) hdg hf) hS (fun q _ h => h.elim) (fun q h => h.elim) (fun r u t H1 locs1 ht hvm hp hB hz hk hS1 => ?_)
  obtain rfl : H1 = H := ht.symm.trans hB
  rw [hp]
  exact kk locs1 hS1
/-- a writer, virtual -/
theorem kV_wl {x : Int64} {ci : Nat} {fs : List Value} {T : u_T} {N : Nat} (S : CallFix p m c cc nL s args Ts own) (hM : Met l y ws rm (va_Pc (.ref b :: As) (WP D TY L f H.size)) (Xl D TY L f' (AA L f H.size) x) 0 0 (AA L f H.size)) (cw : CallW R s args own C index y bytes maxL ret ws rm 0 0 n) (hK : va_K D vwCl TY s) (hP : va_P D vwCl (va_pl L f) H) (hD : va_D A (va_pl L f)) (hS : va_S A H0 H locs) (hA : ∀ q, H0.size ≤ q → A q) (hbL : b ∈ L) (he : f b = .inr (ci, fs)) (hc : vwCl[ci]? = some (C, T, N)) (hn : As.length = n) (hsize : ls.size = nL) (hst : st0 = As.reverse ++ .ref b :: rest) (hW : (rest.map fun v => v.category).sum ≤ 8) (hf : cells ≤ R.cells ∧ slots ≤ R.slots) (hdg : decode cc pc = .ok (.invokevirtual index, 3))
    (kk : ∀ H1 locs1, va_P D vwCl (va_pl L f') H1 → va_D A (va_pl L f') → va_S A H0 H1 locs1 → W p l e R s m args below meth c H1 locs1 cells slots Q (F0 m (pc + 3) ls (.long x :: rest))) : W p l e R s m args below meth c H locs cells slots Q (F0 m pc ls st0) := by
  have hFc := pc_free hD hS hA
  refine va_calll (va_runV S hM cw ⟨WP.blind _, pc_recv hK hP hbL he hc, fun U hU hW => ⟨rfl, by rw [hU], by rw [hU]; exact hP, va_K.moved hW.alike hK, hD.weaken (fun _ _ _ _ => trivial)⟩⟩ rfl hn hsize hst (lv_room hW) hdg hf) hS (fun q _ h => hFc q h) hFc (fun r u t H1 locs1 ht hvm hp hB hz hk hS1 => ?_)
  obtain ⟨h1, h2, h3⟩ := hB
  rw [hp]
  exact kk H1 locs1 (by rw [← ht]; exact h1) (h3.weaken (fun _ q _ h => hFc q.1 h)) hS1
theorem kV_wi {x : Int32} {ci : Nat} {fs : List Value} {T : u_T} {N : Nat} (S : CallFix p m c cc nL s args Ts own) (hM : Met l y ws rm (va_Pc (.ref b :: As) (WP D TY L f H.size)) (Xi D TY L f' (AA L f H.size) x) 0 0 (AA L f H.size)) (cw : CallW R s args own C index y bytes maxL ret ws rm 0 0 n) (hK : va_K D vwCl TY s) (hP : va_P D vwCl (va_pl L f) H) (hD : va_D A (va_pl L f)) (hS : va_S A H0 H locs) (hA : ∀ q, H0.size ≤ q → A q) (hbL : b ∈ L) (he : f b = .inr (ci, fs)) (hc : vwCl[ci]? = some (C, T, N)) (hn : As.length = n) (hsize : ls.size = nL) (hst : st0 = As.reverse ++ .ref b :: rest) (hW : (rest.map fun v => v.category).sum ≤ 8) (hf : cells ≤ R.cells ∧ slots ≤ R.slots) (hdg : decode cc pc = .ok (.invokevirtual index, 3))
    (kk : ∀ H1 locs1, va_P D vwCl (va_pl L f') H1 → va_D A (va_pl L f') → va_S A H0 H1 locs1 → W p l e R s m args below meth c H1 locs1 cells slots Q (F0 m (pc + 3) ls (.int x :: rest))) : W p l e R s m args below meth c H locs cells slots Q (F0 m pc ls st0) := by
  have hFc := pc_free hD hS hA
  refine va_calli (va_runV S hM cw ⟨WP.blind _, pc_recv hK hP hbL he hc, fun U hU hW => ⟨rfl, by rw [hU], by rw [hU]; exact hP, va_K.moved hW.alike hK, hD.weaken (fun _ _ _ _ => trivial)⟩⟩ rfl hn hsize hst (lv_room hW) hdg hf) hS (fun q _ h => hFc q h) hFc (fun r u t H1 locs1 ht hvm hp hB hz hk hS1 => ?_)
  obtain ⟨h1, h2, h3⟩ := hB
  rw [hp]
  exact kk H1 locs1 (by rw [← ht]; exact h1) (h3.weaken (fun _ q _ h => hFc q.1 h)) hS1
theorem kV_wv {ci : Nat} {fs : List Value} {T : u_T} {N : Nat} (S : CallFix p m c cc nL s args Ts own) (hM : Met l y ws rm (va_Pc (.ref b :: As) (WP D TY L f H.size)) (Xv D TY L f' (AA L f H.size)) 0 0 (AA L f H.size)) (cw : CallW R s args own C index y bytes maxL ret ws rm 0 0 n) (hK : va_K D vwCl TY s) (hP : va_P D vwCl (va_pl L f) H) (hD : va_D A (va_pl L f)) (hS : va_S A H0 H locs) (hA : ∀ q, H0.size ≤ q → A q) (hbL : b ∈ L) (he : f b = .inr (ci, fs)) (hc : vwCl[ci]? = some (C, T, N)) (hn : As.length = n) (hsize : ls.size = nL) (hst : st0 = As.reverse ++ .ref b :: rest) (hW : (rest.map fun v => v.category).sum ≤ 8) (hf : cells ≤ R.cells ∧ slots ≤ R.slots) (hdg : decode cc pc = .ok (.invokevirtual index, 3))
    (kk : ∀ H1 locs1, va_P D vwCl (va_pl L f') H1 → va_D A (va_pl L f') → va_S A H0 H1 locs1 → W p l e R s m args below meth c H1 locs1 cells slots Q (F0 m (pc + 3) ls rest)) : W p l e R s m args below meth c H locs cells slots Q (F0 m pc ls st0) := by
  have hFc := pc_free hD hS hA
  refine va_callv (va_runV S hM cw ⟨WP.blind _, pc_recv hK hP hbL he hc, fun U hU hW => ⟨rfl, by rw [hU], by rw [hU]; exact hP, va_K.moved hW.alike hK, hD.weaken (fun _ _ _ _ => trivial)⟩⟩ rfl hn hsize hst (lv_room hW) hdg hf) hS (fun q _ h => hFc q h) hFc (fun u t H1 locs1 ht hvm hp hB hz hk hS1 => ?_)
  obtain ⟨h1, h2, h3⟩ := hB
  exact kk H1 locs1 (by rw [← ht]; exact h1) (h3.weaken (fun _ q _ h => hFc q.1 h)) hS1
end PC
section PC2
variable {p : Program} {l : Launch} {e : Env} {R : Room} {s : State} {m : MethodId} {args : Array Value} {below : List Frame} {meth : Method} {c : Code} {H H0 : Heap} {locs : List Loc} {cells slots : Nat} {Q : State → Prop} {A : Nat → Prop} {D : va_G} {TY : List (ClassId × FieldType)} {L : List Nat} {f f' : Nat → va_E} {pc : Nat} {ls : Array Slot} {rest st0 : List Value}
variable {y : MethodName} {bytes cc : ByteArray} {maxL nL n index : Nat} {ret : Option FieldType} {ws : List Cond} {rm : Room} {Ts : List Cond} {own C : String} {b : Addr} {As : List Value}
/-- a constructor that makes no cell -/
theorem kI_wv (S : CallFix p m c cc nL s args Ts own) (hM : Met l y ws rm (va_Pc (.ref b :: As) (WP D TY L f H.size)) (Xv D TY L f' (AA L f H.size)) 0 0 (AA L f H.size)) (cw : CallB R s args own index y bytes maxL none ws rm 0 0 n ∧ y.name = "<init>" ∧ (Cond.instanceMethod y).before args s = true) (hK : va_K D vwCl TY s) (hP : va_P D vwCl (va_pl L f) H) (hD : va_D A (va_pl L f)) (hS : va_S A H0 H locs) (hA : ∀ q, H0.size ≤ q → A q) (hn : As.length = n) (hsize : ls.size = nL) (hst : st0 = As.reverse ++ .ref b :: rest) (hW : (rest.map fun v => v.category).sum ≤ 8) (hf : cells ≤ R.cells ∧ slots ≤ R.slots) (hdg : decode cc pc = .ok (.invokespecial index, 3))
    (kk : ∀ H1 locs1, va_P D vwCl (va_pl L f') H1 → va_D A (va_pl L f') → va_S A H0 H1 locs1 → W p l e R s m args below meth c H1 locs1 cells slots Q (F0 m (pc + 3) ls rest)) : W p l e R s m args below meth c H locs cells slots Q (F0 m pc ls st0) := by
  have hFc := pc_free hD hS hA
  refine va_callv (va_runI S hM cw ⟨WP.blind _, fun U hU hW => ⟨rfl, by rw [hU], by rw [hU]; exact hP, va_K.moved hW.alike hK, hD.weaken (fun _ _ _ _ => trivial)⟩⟩ rfl hn hsize hst (lv_room hW) hdg hf) hS (fun q _ h => hFc q h) hFc (fun u t H1 locs1 ht hvm hp hB hz hk hS1 => ?_)
  obtain ⟨h1, h2, h3⟩ := hB
  exact kk H1 locs1 (by rw [← ht]; exact h1) (h3.weaken (fun _ q _ h => hFc q.1 h)) hS1
/-- readers, static -/
theorem kS_rl {x : Int64} (S : CallFix p m c cc nL s args Ts own) (hM : Met l y ws rm (va_Pc As (RP D TY L f H)) (Ql x H) 0 0 No) (cw : CallB R s args own index y bytes maxL ret ws rm 0 0 n ∧ (Cond.static y).before args s = true) (hK : va_K D vwCl TY s) (hP : va_P D vwCl (va_pl L f) H) (hS : va_S A H0 H locs) (hn : As.length = n) (hsize : ls.size = nL) (hst : st0 = As.reverse ++ rest) (hW : (rest.map fun v => v.category).sum ≤ 8) (hf : cells ≤ R.cells ∧ slots ≤ R.slots) (hdg : decode cc pc = .ok (.invokestatic index, 3))
    (kk : ∀ locs1, va_S A H0 H locs1 → W p l e R s m args below meth c H locs1 cells slots Q (F0 m (pc + 3) ls (.long x :: rest))) : W p l e R s m args below meth c H locs cells slots Q (F0 m pc ls st0) := by
  refine va_calll (va_runS S hM cw ⟨RP.blind _, fun U hU hW => ⟨rfl, hU, hP, va_K.moved hW.alike hK⟩⟩ rfl hn hsize hst (lv_room hW) hdg hf) hS (fun q _ h => h.elim) (fun q h => h.elim) (fun r u t H1 locs1 ht hvm hp hB hz hk hS1 => ?_)
  obtain rfl : H1 = H := ht.symm.trans hB
  rw [hp]
  exact kk locs1 hS1
theorem kS_ri {x : Int32} (S : CallFix p m c cc nL s args Ts own) (hM : Met l y ws rm (va_Pc As (RP D TY L f H)) (Qi x H) 0 0 No) (cw : CallB R s args own index y bytes maxL ret ws rm 0 0 n ∧ (Cond.static y).before args s = true) (hK : va_K D vwCl TY s) (hP : va_P D vwCl (va_pl L f) H) (hS : va_S A H0 H locs) (hn : As.length = n) (hsize : ls.size = nL) (hst : st0 = As.reverse ++ rest) (hW : (rest.map fun v => v.category).sum ≤ 8) (hf : cells ≤ R.cells ∧ slots ≤ R.slots) (hdg : decode cc pc = .ok (.invokestatic index, 3))
    (kk : ∀ locs1, va_S A H0 H locs1 → W p l e R s m args below meth c H locs1 cells slots Q (F0 m (pc + 3) ls (.int x :: rest))) : W p l e R s m args below meth c H locs cells slots Q (F0 m pc ls st0) := by
  refine va_calli (va_runS S hM cw ⟨RP.blind _, fun U hU hW => ⟨rfl, hU, hP, va_K.moved hW.alike hK⟩⟩ rfl hn hsize hst (lv_room hW) hdg hf) hS (fun q _ h => h.elim) (fun q h => h.elim) (fun r u t H1 locs1 ht hvm hp hB hz hk hS1 => ?_)
  obtain rfl : H1 = H := ht.symm.trans hB
  rw [hp]
  exact kk locs1 hS1
end PC2
