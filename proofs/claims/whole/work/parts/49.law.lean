def R_law : String := "SmokeZonesLaw"
def lw_P (b : Addr) (xs : List Int32) (args : Array Value) (s : State) : Prop := args = #[.ref b] ∧ s.IntsAt b xs ∧ xs.length ≤ 3072 ∧ (Jvm.Cond.and given_1 narrow_1).before args s = true
def lw_Q (_ : Array Value) (s : State) (o : Outcome) (t : State) : Prop := o = .returned (some (.int 1)) ∧ Framed s o t [] 601024 7293034
def lw_Z (below : List Frame) (a : Array Value) (s : State) : State → Prop := fun t => ∃ o, t.status = .running ∧ Ended t below o ∧ lw_Q a s o t
/-- the law's own end, with 1 on the stack, nothing written that was there before, its room as the claim has it -/
theorem lw_ret {p : Program} {l : Launch} {e : Env} {s : State} {m : MethodId} {below : List Frame} {meth : Method} {c : Code} {b : Nat} (hx : p.tables.exec = Jvm.exec) (hb : c.code = code) (hr : meth.sig.returnType = ret) (hlocks : meth.locks = false) {pc : Nat} {H : Heap} {ls : Array Slot} (hdg : decode code pc = .ok (.ireturn, 1)) : W p l e room_1 s m #[Value.ref b] below meth c H [] 601024 7293034 (lw_Z below #[Value.ref b] s) (F0 m pc ls [.int 1]) := by
  intro T hT X
  obtain ⟨fs, hret, hrun, hended, hW, hframe⟩ := X.leave (v := some (.int 1)) (hlocks := hlocks) (fun h => by rw [hr] at h; cases h)
  have hmeth' : T.vm.method? m = some meth := X.method'
  refine ⟨T.setFrames fs, ?_, .returned (some (.int 1)), hrun, hended, rfl, ⟨_, rfl⟩, hW, hframe⟩
  jvm_step X.here [X.here.top, hx, hb, hdg, hmeth', hr, ret, narrow_b1]
  (try refine ⟨rfl, ?_⟩); (try refine ⟨rfl, ?_⟩)
  first | (intro acts; rw [hret _ acts rfl rfl rfl]) | rw [hret _ _ rfl rfl rfl]
  exact Steps.refl _
/-- what holds at the law's entry: the machine, the code, the tables' words (any of lw_tbl by 'hts w (by decide +kernel)'), the script of L ints xs at the cell b, what the Statement gives of the start (any of its parts by flat_of_before) -/
def lw_At (p : Program) (s : State) (m : MethodId) (meth : Method) (c : Code) (b L : Nat) (xs : Nat → Int32) : Prop :=
  p.tables.exec = Jvm.exec ∧ c.code = code ∧ meth.sig.returnType = ret ∧ c.maxLocals = 8 ∧ s.vm.findClass R_law = some m.cls ∧ (∀ w ∈ lw_tbl, w.before #[Value.ref b] s = true) ∧ va_X b L xs s s.heap ∧ b < s.heap.size ∧ meth.locks = false ∧ (Jvm.Cond.and given_1 narrow_1).before #[Value.ref b] s = true
/-! rows for the law's own calls -/
abbrev NA (s : State) : Nat → Prop := fun q => s.heap.size ≤ q
def PW (D : va_G) (ct : Nat → ClassId) (s : State) (L : List Nat) (f : Nat → va_E) (LM : List Nat) (fM : Nat → va_E) (ao : Nat) (v : Nat → Int64) (H : Heap) (locs : List Loc) : Prop :=
  (va_P D vwCl (va_pl L f) H ∧ va_D (NA s) (va_pl L f)) ∧ (va_P D vwCl (va_pl LM fM) H ∧ va_D (NA s) (va_pl LM fM)) ∧ (va_at D vwCl (ao, OC ct v) H ∧ s.heap.size ≤ ao) ∧ (ao ∉ L ∧ ao ∉ LM ∧ ∀ a, a ∈ L → a ∉ LM) ∧ va_S (NA s) s.heap H locs
def LW (D : va_G) (ct : Nat → ClassId) (s : State) (ao x0 m0 : Nat) (H : Heap) (locs : List Loc) : Prop :=
  ∃ (AD : Nat → Nat → Nat) (L : List Nat) (f : Nat → va_E) (AM : Nat → Nat) (LM : List Nat) (fM : Nat → va_E) (X : I2) (Y : J2) (v : Nat → Int64), LI ct AD L f X Y ∧ MW ct AM LM X Y fM ∧ AD 9 0 = x0 ∧ AM 100 = m0 ∧ PW D ct s L f LM fM ao v H locs
theorem gH {own : String} {ix : Nat} {y : MethodName} {b : ByteArray} {n : Nat} {r : Option FieldType} {hh : List (Nat × Nat × Nat × Nat)} (h1 : Cond.methodLink own ix y ∈ GW) (h2 : Cond.static y ∈ GW) (h4 : Cond.initialized y.cls ∈ GW) (h5 : Cond.codeWith y b n r hh ∈ GW) : GoodIn GW (va_wsS own ix y (WH y b n r hh)) := by
  intro w hw
  rcases List.mem_append.mp hw with hw | hw
  · rcases List.mem_cons.mp hw with e | hw
    · rw [e]; exact ⟨h1, gw_ok h1⟩
    rcases List.mem_cons.mp hw with e | hw
    · rw [e]; exact ⟨h2, gw_ok h2⟩
    rcases List.mem_cons.mp hw with e | hw
    · rw [e]; exact ⟨h4, gw_ok h4⟩
    cases hw
  · rcases List.mem_cons.mp hw with e | hw
    · rw [e]; exact ⟨h5, gw_ok h5⟩
    · exact ⟨hw, gw_ok hw⟩
theorem pl_keep {D : va_G} {cl : List vw_C} {L : List Nat} {f : Nat → va_E} {H H1 : Heap} (hP : va_P D cl (va_pl L f) H) (hk : ∀ a, a ∈ L → H1[a]? = H[a]?) : va_P D cl (va_pl L f) H1 := hP.kept (fun _ _ h => hk _ (pl_mem h))
section LAWR
variable {p : Program} {l : Launch} {e : Env} {R : Room} {s : State} {m : MethodId} {args : Array Value} {below : List Frame} {meth : Method} {c : Code} {H : Heap} {locs : List Loc} {cells slots : Nat} {Q : State → Prop} {D : va_G} {ct : Nat → ClassId} {L LM : List Nat} {f fM : Nat → va_E} {ao : Nat} {v : Nat → Int64} {sa sb : Nat} {pc : Nat} {ls : Array Slot} {rest st0 : List Value}
variable {y : MethodName} {bytes cc : ByteArray} {maxL nL n index : Nat} {ret : Option FieldType} {ws : List Cond} {rm : Room} {Ts : List Cond} {own C : String} {b : Addr} {As : List Value}
theorem na_of : ∀ q, s.heap.size ≤ q → NA s q := fun _ h => h
/-- a wrapper -/
theorem kL_w {hh : List (Nat × Nat × Nat × Nat)} {post : Int32 → LSt → Prop} (S : CallFix p m c cc nL s args Ts own) (hM : vx_Met l y ws rm (va_Pc As (LPr D ct L f ao v sa sb H.size)) (va_Qi post (fun u t => LB D ct ao (AA L f H.size) u t) (LA L f ao H.size)) NX 12 100 (LA L f ao H.size)) (cw : vx_CSW R s args own index y bytes maxL ret hh ws rm 12 100 n) (hK : va_K D vwCl (TYS ct) s) (hE : EX (NA s) sa sb s s.heap) (hNc : va_Nc ISE IAE s) (hW : PW D ct s L f LM fM ao v H locs) (hn : As.length = n) (hsize : ls.size = nL) (hst : st0 = As.reverse ++ rest) (hWr : (rest.map fun v => v.category).sum ≤ 8) (hf : cells + 12 ≤ R.cells ∧ slots + 100 ≤ R.slots) (hdg : decode cc pc = .ok (.invokestatic index, 3))
    (kk : ∀ (r : Int32) (u : LSt) (H1 : Heap) (locs1 : List Loc), post r u → PW D ct s u.1.2.1 u.1.2.2 LM fM ao u.2 H1 locs1 → W p l e R s m args below meth c H1 locs1 (cells + 12) (slots + 100) Q (F0 m (pc + 3) ls (.int r :: rest))) : W p l e R s m args below meth c H locs cells slots Q (F0 m pc ls st0) := by
  obtain ⟨⟨hP, hD⟩, ⟨hPM, hDM⟩, ⟨hO, hao⟩, ⟨n1, n2, n3⟩, hS⟩ := hW
  have hFc := pc_free hD hS na_of
  have hFl : ∀ q, LA L f ao H.size q → NA s q := fun q h => h.elim (hFc q) (fun e => e ▸ hao)
  refine vx_calli (vx_runSX S hM cw ⟨LPr.blind _, fun U hU hW => ⟨rfl, ⟨by rw [hU], by rw [hU]; exact hP, va_K.moved hW.alike hK, hD.weaken (fun _ _ _ _ => trivial), by rw [hU]; exact hE.call hS hW hFc⟩, by rw [hU]; exact hO, n1, hNc.moved hW.alike⟩⟩ rfl hn hsize hst (lv_room hWr) hdg hf) hS (fun q _ h => hFl q h) hFl (fun q _ h => h.elim) (fun E ce q9 u t H1 locs1 ht hvm hp hB hz hk hS1 h1 h2 h3 => hp.elim) (fun r u t H1 locs1 ht hvm hp hB hz hk hS1 => ?_)
  obtain ⟨⟨w1, w2, w3⟩, w4⟩ := hB
  rw [ht] at w1 w4
  have hL1 : ∀ a, a ∈ u.1.2.1 → a ∈ L ∨ H.size ≤ a := fun a ha => aa_of (pl_A w3 ha)
  have hltM : ∀ a, a ∈ LM → a < H.size := fun a ha => pg_lt hPM ha
  refine kk r u H1 locs1 hp ⟨⟨w1, w3.weaken (fun _ q _ h => hFc q.1 h)⟩, ⟨pl_keep hPM (fun a ha => hk a (hltM a ha) (fun q => ?_)), hDM⟩, ⟨w4, hao⟩, ⟨fun q => ?_, n2, fun a ha hb => ?_⟩, hS1⟩
  · rcases q with q | q
    · rcases aa_of q with q | q
      · exact n3 a q ha
      · exact absurd (hltM a ha) (Nat.not_lt.mpr q)
    · exact n2 (q ▸ ha)
  · rcases hL1 ao q with q | q
    · exact n1 q
    · exact absurd hO.lt (Nat.not_lt.mpr q)
  · rcases hL1 a ha with q | q
    · exact n3 a q hb
    · exact absurd (hltM a hb) (Nat.not_lt.mpr q)
theorem kL_m1 {H1 : Heap} {locs1 : List Loc} {f' : Nat → va_E} {t : State} (hW : PW D ct s L f LM fM ao v H locs) (ht : t.heap = H1) (hB : WQ D (TYS ct) LM f' (AA LM fM H.size) t) (hk : ∀ q : Nat, q < H.size → ¬ AA LM fM H.size q → H1[q]? = H[q]?) (hS1 : va_S (NA s) s.heap H1 locs1) : PW D ct s L f LM f' ao v H1 locs1 := by
  obtain ⟨⟨hP, hD⟩, ⟨hPM, hDM⟩, ⟨hO, hao⟩, ⟨n1, n2, n3⟩, hS⟩ := hW
  obtain ⟨w1, w2, w3⟩ := hB
  rw [ht] at w1
  refine ⟨⟨pl_keep hP (fun a ha => hk a (pg_lt hP ha) (fun q => ?_)), hD⟩, ⟨w1, w3.weaken (fun _ q _ h => pc_free hDM hS na_of q.1 h)⟩, ⟨hO.kept (hk ao hO.lt (aa_na hO n2)), hao⟩, ⟨n1, n2, n3⟩, hS1⟩
  rcases aa_of q with q | q
  · exact n3 a ha q
  · exact absurd (pg_lt hP ha) (Nat.not_lt.mpr q)
/-- the model's operations -/
theorem kL_mi {ci : Nat} {fs : List Value} {T : u_T} {N : Nat} {post : Int32 → (Nat → va_E) → Prop} (S : CallFix p m c cc nL s args Ts own) (hM : Met l y ws rm (va_Pc (.ref b :: As) (WP D (TYS ct) LM fM H.size)) (va_Qi post (fun f' t => WQ D (TYS ct) LM f' (AA LM fM H.size) t) (AA LM fM H.size)) 0 0 (AA LM fM H.size)) (cw : CallW R s args own C index y bytes maxL ret ws rm 0 0 n) (hK : va_K D vwCl (TYS ct) s) (hW : PW D ct s L f LM fM ao v H locs) (hbL : b ∈ LM) (he : fM b = .inr (ci, fs)) (hc : vwCl[ci]? = some (C, T, N)) (hn : As.length = n) (hsize : ls.size = nL) (hst : st0 = As.reverse ++ .ref b :: rest) (hWr : (rest.map fun v => v.category).sum ≤ 8) (hf : cells ≤ R.cells ∧ slots ≤ R.slots) (hdg : decode cc pc = .ok (.invokevirtual index, 3))
    (kk : ∀ (r : Int32) (f' : Nat → va_E) (H1 : Heap) (locs1 : List Loc), post r f' → PW D ct s L f LM f' ao v H1 locs1 → W p l e R s m args below meth c H1 locs1 cells slots Q (F0 m (pc + 3) ls (.int r :: rest))) : W p l e R s m args below meth c H locs cells slots Q (F0 m pc ls st0) := by
  have hFc := pc_free hW.2.1.2 hW.2.2.2.2 na_of
  refine va_calli (va_runV S hM cw ⟨WP.blind _, pc_recv hK hW.2.1.1 hbL he hc, fun U hU hWm => ⟨rfl, by rw [hU], by rw [hU]; exact hW.2.1.1, va_K.moved hWm.alike hK, hW.2.1.2.weaken (fun _ _ _ _ => trivial)⟩⟩ rfl hn hsize hst (lv_room hWr) hdg hf) hW.2.2.2.2 (fun q _ h => hFc q h) hFc (fun r u t H1 locs1 ht hvm hp hB hz hk hS1 => ?_)
  exact kk r u H1 locs1 hp (kL_m1 hW ht hB hk hS1)
theorem kL_ml {ci : Nat} {fs : List Value} {T : u_T} {N : Nat} {post : Int64 → (Nat → va_E) → Prop} (S : CallFix p m c cc nL s args Ts own) (hM : Met l y ws rm (va_Pc (.ref b :: As) (WP D (TYS ct) LM fM H.size)) (va_Ql post (fun f' t => WQ D (TYS ct) LM f' (AA LM fM H.size) t) (AA LM fM H.size)) 0 0 (AA LM fM H.size)) (cw : CallW R s args own C index y bytes maxL ret ws rm 0 0 n) (hK : va_K D vwCl (TYS ct) s) (hW : PW D ct s L f LM fM ao v H locs) (hbL : b ∈ LM) (he : fM b = .inr (ci, fs)) (hc : vwCl[ci]? = some (C, T, N)) (hn : As.length = n) (hsize : ls.size = nL) (hst : st0 = As.reverse ++ .ref b :: rest) (hWr : (rest.map fun v => v.category).sum ≤ 8) (hf : cells ≤ R.cells ∧ slots ≤ R.slots) (hdg : decode cc pc = .ok (.invokevirtual index, 3))
    (kk : ∀ (r : Int64) (f' : Nat → va_E) (H1 : Heap) (locs1 : List Loc), post r f' → PW D ct s L f LM f' ao v H1 locs1 → W p l e R s m args below meth c H1 locs1 cells slots Q (F0 m (pc + 3) ls (.long r :: rest))) : W p l e R s m args below meth c H locs cells slots Q (F0 m pc ls st0) := by
  have hFc := pc_free hW.2.1.2 hW.2.2.2.2 na_of
  refine va_calll (va_runV S hM cw ⟨WP.blind _, pc_recv hK hW.2.1.1 hbL he hc, fun U hU hWm => ⟨rfl, by rw [hU], by rw [hU]; exact hW.2.1.1, va_K.moved hWm.alike hK, hW.2.1.2.weaken (fun _ _ _ _ => trivial)⟩⟩ rfl hn hsize hst (lv_room hWr) hdg hf) hW.2.2.2.2 (fun q _ h => hFc q h) hFc (fun r u t H1 locs1 ht hvm hp hB hz hk hS1 => ?_)
  exact kk r u H1 locs1 hp (kL_m1 hW ht hB hk hS1)
theorem kL_mv {ci : Nat} {fs : List Value} {T : u_T} {N : Nat} {post : (Nat → va_E) → Prop} (S : CallFix p m c cc nL s args Ts own) (hM : Met l y ws rm (va_Pc (.ref b :: As) (WP D (TYS ct) LM fM H.size)) (va_Qv post (fun f' t => WQ D (TYS ct) LM f' (AA LM fM H.size) t) (AA LM fM H.size)) 0 0 (AA LM fM H.size)) (cw : CallW R s args own C index y bytes maxL ret ws rm 0 0 n) (hK : va_K D vwCl (TYS ct) s) (hW : PW D ct s L f LM fM ao v H locs) (hbL : b ∈ LM) (he : fM b = .inr (ci, fs)) (hc : vwCl[ci]? = some (C, T, N)) (hn : As.length = n) (hsize : ls.size = nL) (hst : st0 = As.reverse ++ .ref b :: rest) (hWr : (rest.map fun v => v.category).sum ≤ 8) (hf : cells ≤ R.cells ∧ slots ≤ R.slots) (hdg : decode cc pc = .ok (.invokevirtual index, 3))
    (kk : ∀ (f' : Nat → va_E) (H1 : Heap) (locs1 : List Loc), post f' → PW D ct s L f LM f' ao v H1 locs1 → W p l e R s m args below meth c H1 locs1 cells slots Q (F0 m (pc + 3) ls rest)) : W p l e R s m args below meth c H locs cells slots Q (F0 m pc ls st0) := by
  have hFc := pc_free hW.2.1.2 hW.2.2.2.2 na_of
  refine va_callv (va_runV S hM cw ⟨WP.blind _, pc_recv hK hW.2.1.1 hbL he hc, fun U hU hWm => ⟨rfl, by rw [hU], by rw [hU]; exact hW.2.1.1, va_K.moved hWm.alike hK, hW.2.1.2.weaken (fun _ _ _ _ => trivial)⟩⟩ rfl hn hsize hst (lv_room hWr) hdg hf) hW.2.2.2.2 (fun q _ h => hFc q h) hFc (fun u t H1 locs1 ht hvm hp hB hz hk hS1 => ?_)
  exact kk u H1 locs1 hp (kL_m1 hW ht hB hk hS1)
/-- thrown() -/
theorem kL_th {x : Int32} {ci : Nat} {fs : List Value} {T : u_T} {N : Nat} (S : CallFix p m c cc nL s args Ts own) (hM : Met l y ws rm (va_Pc (.ref b :: As) (RP D (TYS ct) LM fM H)) (Qi x H) 0 0 No) (cw : CallW R s args own C index y bytes maxL ret ws rm 0 0 n) (hK : va_K D vwCl (TYS ct) s) (hW : PW D ct s L f LM fM ao v H locs) (hbL : b ∈ LM) (he : fM b = .inr (ci, fs)) (hc : vwCl[ci]? = some (C, T, N)) (hn : As.length = n) (hsize : ls.size = nL) (hst : st0 = As.reverse ++ .ref b :: rest) (hWr : (rest.map fun v => v.category).sum ≤ 8) (hf : cells ≤ R.cells ∧ slots ≤ R.slots) (hdg : decode cc pc = .ok (.invokevirtual index, 3))
    (kk : ∀ locs1, PW D ct s L f LM fM ao v H locs1 → W p l e R s m args below meth c H locs1 cells slots Q (F0 m (pc + 3) ls (.int x :: rest))) : W p l e R s m args below meth c H locs cells slots Q (F0 m pc ls st0) :=
  kV_ri S hM cw hK hW.2.1.1 hW.2.2.2.2 hbL he hc hn hsize hst hWr hf hdg (fun locs1 hS1 => kk locs1 ⟨hW.1, hW.2.1, hW.2.2.1, hW.2.2.2.1, hS1⟩)
end LAWR
theorem sin {i Lx : Nat} (hi : i + 6 ≤ Lx) (hL : Lx ≤ 3072) (k : Nat) (hk : k ≤ 5) : vp_in (nI i + nI k) Lx := by
  rw [nI_add]
  exact vp_in_nI (by omega) (by omega)
/-- what holds all the way -/
def LC (l : Launch) (D : va_G) (ct : Nat → ClassId) (p : Program) (s : State) (m : MethodId) (meth : Method) (c : Code) (b Lx : Nat) (xs : Nat → Int32) (sa sb : Nat) : Prop := lw_At p s m meth c b Lx xs ∧ l.stackTraces = false ∧ Lx ≤ 3072 ∧ va_K D vwCl (TYS ct) s ∧ EX (NA s) sa sb s s.heap ∧ va_Nc ISE IAE s
