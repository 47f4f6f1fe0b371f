/-! the law from its entry -/
theorem arrO {C : String} {args : Array Value} {s : State} (h : (Cond.arrayOver (.object C)).before args s = true) : ∃ cA, ArrOfT s cA (.object C) ∧ va_RA s cA (.object C) := by
  obtain ⟨comp, c, k, h1, h2, h3, h4, h5⟩ := Cond.arrayOver_spec h
  exact ⟨c, fun n z => ⟨fun k h => (by cases h), k, h3, comp, h4⟩, k, comp, h3, h4, h1, h5⟩
theorem arrP {ty : FieldType} {args : Array Value} {s : State} (h : (Cond.arrayClass ty).before args s = true) (hty : ∀ C, ty ≠ .object C) : ∃ cA, ArrOfT s cA ty ∧ va_RA s cA ty := by
  obtain ⟨c, k, comp, h1, h2, h3⟩ := Cond.arrayClass_spec h
  refine ⟨c, fun n z => ⟨fun k h => (by cases h), k, h2, comp, h3⟩, ?_⟩
  cases ty with
  | object C => exact absurd rfl (hty C)
  | _ => exact h1
theorem spP {D : va_G} {cl : List vw_C} {ws w2 : va_W} {H : Heap} (h : va_P D cl (ws ++ w2) H) : va_P D cl ws H ∧ va_P D cl w2 H :=
  ⟨fun k p hk => h k p (by rw [List.getElem?_append_left (List.getElem?_eq_some_iff.mp hk).1]; exact hk), fun k p hk => h (ws.length + k) p (by rw [List.getElem?_append_right (Nat.le_add_right _ _), Nat.add_sub_cancel_left]; exact hk)⟩
theorem spD {A : Nat → Prop} {ws w2 : va_W} (h : va_D A (ws ++ w2)) : va_D A ws ∧ va_D A w2 ∧ ∀ (i j : Nat) (p q : Nat × va_E), ws[i]? = some p → w2[j]? = some q → p.1 ≠ q.1 := by
  have l : ∀ k p, ws[k]? = some p → (ws ++ w2)[k]? = some p := fun k p hk => by rw [List.getElem?_append_left (List.getElem?_eq_some_iff.mp hk).1]; exact hk
  have r : ∀ k p, w2[k]? = some p → (ws ++ w2)[ws.length + k]? = some p := fun k p hk => by rw [List.getElem?_append_right (Nat.le_add_right _ _), Nat.add_sub_cancel_left]; exact hk
  refine ⟨⟨fun i j p q hi hj e => h.1 i j p q (l i p hi) (l j q hj) e, fun k q hk => h.2 k q (l k q hk)⟩, ⟨fun i j p q hi hj e => ?_, fun k q hk => h.2 _ q (r k q hk)⟩, fun i j p q hi hj e => ?_⟩
  · have := h.1 _ _ p q (r i p hi) (r j q hj) e
    omega
  · have := h.1 _ _ p q (l i p hi) (r j q hj) e
    have := (List.getElem?_eq_some_iff.mp hi).1
    omega
theorem oneP {D : va_G} {cl : List vw_C} {H : Heap} {a : Nat} {z : va_E} (h : va_P D cl [(a, z)] H) : va_at D cl (a, z) H := h 0 _ rfl
theorem ngt : ∀ w ∈ NG, w ∈ lw_tbl := by decide +kernel
theorem lt17 {j : Nat} (h : j < 17) : j = 0 ∨ j = 1 ∨ j = 2 ∨ j = 3 ∨ j = 4 ∨ j = 5 ∨ j = 6 ∨ j = 7 ∨ j = 8 ∨ j = 9 ∨ j = 10 ∨ j = 11 ∨ j = 12 ∨ j = 13 ∨ j = 14 ∨ j = 15 ∨ j = 16 := by omega
theorem lt47 {j : Nat} (h : j < 47) : j = 0 ∨ j = 1 ∨ j = 2 ∨ j = 3 ∨ j = 4 ∨ j = 5 ∨ j = 6 ∨ j = 7 ∨ j = 8 ∨ j = 9 ∨ j = 10 ∨ j = 11 ∨ j = 12 ∨ j = 13 ∨ j = 14 ∨ j = 15 ∨ j = 16 ∨ j = 17 ∨ j = 18 ∨ j = 19 ∨ j = 20 ∨ j = 21 ∨ j = 22 ∨ j = 23 ∨ j = 24 ∨ j = 25 ∨ j = 26 ∨ j = 27 ∨ j = 28 ∨ j = 29 ∨ j = 30 ∨ j = 31 ∨ j = 32 ∨ j = 33 ∨ j = 34 ∨ j = 35 ∨ j = 36 ∨ j = 37 ∨ j = 38 ∨ j = 39 ∨ j = 40 ∨ j = 41 ∨ j = 42 ∨ j = 43 ∨ j = 44 ∨ j = 45 ∨ j = 46 := by omega
set_option maxHeartbeats 4000000 in
set_option maxRecDepth 100000 in
theorem law_K {s : State} {args : Array Value} (hts : ∀ w ∈ lw_tbl, w.before args s = true) : ∃ (D : va_G) (ct : Nat → ClassId), va_K D vwCl (TYS ct) s := by
  have hG : ∀ w ∈ GW, w.before args s = true := fun w h => hts w (List.mem_filter.mp h).1
  obtain ⟨d0, s0, n0⟩ := u_known (C := "SmokeZones$Room") (T := T_Ro) (N := 8) (n := 8) hG in_Ro (hG _ k191)
  obtain ⟨d1, s1, n1⟩ := u_known (C := "SmokeZones$Opening") (T := T_Op) (N := 10) (n := 10) hG in_Op (hG _ k248)
  obtain ⟨d2, s2, n2⟩ := u_known (C := "SmokeZones$Fire") (T := T_Fi) (N := 5) (n := 5) hG in_Fi (hG _ k302)
  obtain ⟨d3, s3, n3⟩ := u_known (C := "SmokeZones$Fan") (T := T_Fa) (N := 3) (n := 3) hG in_Fa (hG _ k337)
  obtain ⟨d4, s4, n4⟩ := u_known (C := "SmokeZones$Steel") (T := T_St) (N := 3) (n := 3) hG in_St (hG _ k359)
  obtain ⟨d5, s5, n5⟩ := u_known (C := "SmokeZones$Person") (T := T_Pe) (N := 8) (n := 8) hG in_Pe (hG _ k382)
  obtain ⟨d6, s6, n6⟩ := u_known (C := "SmokeZones") (T := T_Sz) (N := 17) (n := 17) hG in_Sz (hG _ k16)
  obtain ⟨d7, s7, n7⟩ := u_known (C := "SmokeZonesModel") (T := T_Mo) (N := 47) (n := 47) hG in_Mo (hG _ k616)
  obtain ⟨c0, e0⟩ := arrO (hts _ (List.mem_append_right _ kt24))
  obtain ⟨c1, e1⟩ := arrO (hts _ (List.mem_append_right _ kt26))
  obtain ⟨c2, e2⟩ := arrO (hts _ (List.mem_append_right _ kt28))
  obtain ⟨c3, e3⟩ := arrO (hts _ (List.mem_append_right _ kt30))
  obtain ⟨c4, e4⟩ := arrO (hts _ (List.mem_append_right _ kt32))
  obtain ⟨c5, e5⟩ := arrO (hts _ (List.mem_append_right _ kt34))
  obtain ⟨c6, e6⟩ := arrP (hG _ k415) (fun C h => by cases h)
  obtain ⟨c7, e7⟩ := arrP (hG _ k763) (fun C h => by cases h)
  obtain ⟨c8, e8⟩ := arrP (hG _ k764) (fun C h => by cases h)
  refine ⟨(fun k => match k with | 0 => d0 | 1 => d1 | 2 => d2 | 3 => d3 | 4 => d4 | 5 => d5 | 6 => d6 | _ => d7, fun k => match k with | 0 => s0 | 1 => s1 | 2 => s2 | 3 => s3 | 4 => s4 | 5 => s5 | 6 => s6 | _ => s7), fun k => match k with | 0 => c0 | 1 => c1 | 2 => c2 | 3 => c3 | 4 => c4 | 5 => c5 | 6 => c6 | 7 => c7 | _ => c8, ?_, ?_⟩
  · intro k q hq
    match k, hq with
    | 0, hq => cases hq; exact n0
    | 1, hq => cases hq; exact n1
    | 2, hq => cases hq; exact n2
    | 3, hq => cases hq; exact n3
    | 4, hq => cases hq; exact n4
    | 5, hq => cases hq; exact n5
    | 6, hq => cases hq; exact n6
    | 7, hq => cases hq; exact n7
    | k + 8, hq => cases hq
  · intro k q hq
    match k, hq with
    | 0, hq => cases hq; exact e0
    | 1, hq => cases hq; exact e1
    | 2, hq => cases hq; exact e2
    | 3, hq => cases hq; exact e3
    | 4, hq => cases hq; exact e4
    | 5, hq => cases hq; exact e5
    | 6, hq => cases hq; exact e6
    | 7, hq => cases hq; exact e7
    | 8, hq => cases hq; exact e8
    | k + 9, hq => cases hq
set_option maxHeartbeats 4000000 in
set_option maxRecDepth 100000 in
theorem law_E {s : State} {b : Nat} (hts : ∀ w ∈ lw_tbl, w.before #[Value.ref b] s = true) (hgv : (Jvm.Cond.and given_1 narrow_1).before #[Value.ref b] s = true) {cS : ClassId} (hcS : s.vm.findClass "SmokeZones" = some cS) : (∃ sa sb, EX (NA s) sa sb s s.heap) ∧ va_Nc ISE IAE s := by
  have hs := flat_of_before _ hgv
  have hN : ∀ a : Nat, a < s.heap.size → ¬ NA s a := fun a h q => absurd h (Nat.not_lt.mpr q)
  have z1 : vx_Zq Bundle.tN "UNASSIGNED_STACK" Bundle.steD (NA s) s s.heap := vx_Zqof (args := #[Value.ref b]) (hts _ (by decide +kernel)) (hts _ (by decide +kernel)) (hs _ (by decide +kernel)) hN
  have z2 : vx_Zq Bundle.tN "SUPPRESSED_SENTINEL" Bundle.listD (NA s) s s.heap := vx_Zqof (args := #[Value.ref b]) (hts _ (by decide +kernel)) (hts _ (by decide +kernel)) (hs _ (by decide +kernel)) hN
  have h1 : (Cond.stringRef "SmokeZones" 185 TX1).before #[Value.ref b] s = true := hts _ (by decide +kernel)
  have h2 : (Cond.stringRef "SmokeZones" 192 TX2).before #[Value.ref b] s = true := hts _ (by decide +kernel)
  obtain ⟨-, -, -, sa, -, -, -, -, -, ev1⟩ := Cond.stringRef_spec hcS h1
  obtain ⟨-, -, -, sb, -, -, -, -, -, ev2⟩ := Cond.stringRef_spec hcS h2
  exact ⟨⟨sa, sb, z1, z2, vk_R.of h1 ev1, vk_R.of h2 ev2, fun w hw => va_Nw.of (ng_ot w hw) (hts w (ngt w hw))⟩, va_Nc.of (args := #[Value.ref b]) (hs _ (by decide +kernel))⟩
set_option maxHeartbeats 4000000 in
set_option maxRecDepth 100000 in
theorem whole_start {p : Program} {e : Env} {s : State} {m : MethodId} {below : List Frame} {meth : Method} {c : Code} (l : Launch) (hl0 : l.stackTraces = false) {b L : Nat} {xs : Nat → Int32} (hL : L ≤ 3072) (C0 : lw_At p s m meth c b L xs) : W p l e room_1 s m #[Value.ref b] below meth c s.heap [] 0 0 (lw_Z below #[Value.ref b] s) (entryFrame m ([Value.ref b] : List Value).toArray 8) := by
  obtain ⟨hx, hb, hr, hml, hown, hts, hX, hbl, hlocks, hgv⟩ := id C0
  have hG : ∀ w ∈ GW, w.before #[Value.ref b] s = true := fun w h => hts w (List.mem_filter.mp h).1
  obtain ⟨D, ct, hK⟩ := law_K hts
  obtain ⟨⟨sa, sb, hE⟩, hNc⟩ := law_E hts hgv (hK.1 6 _ rfl).2.1
  have hC : LC l D ct p s m meth c b L xs sa sb := ⟨C0, hl0, hL, hK, hE, hNc⟩
  have hAO : ∀ C ∈ SIX, va_AO C s := by
    intro C hC
    simp only [SIX, List.mem_cons, List.not_mem_nil, or_false] at hC
    rcases hC with rfl | rfl | rfl | rfl | rfl | rfl
    · exact va_AO.of (hts _ (List.mem_append_right _ kt24))
    · exact va_AO.of (hts _ (List.mem_append_right _ kt26))
    · exact va_AO.of (hts _ (List.mem_append_right _ kt28))
    · exact va_AO.of (hts _ (List.mem_append_right _ kt30))
    · exact va_AO.of (hts _ (List.mem_append_right _ kt32))
    · exact va_AO.of (hts _ (List.mem_append_right _ kt34))
  have hS : va_S (NA s) s.heap s.heap [] := va_S.rf
  have hP : va_P D vwCl (va_pl [] (fun _ => .inr (0, []))) s.heap := fun k q h => by cases h
  have hD : va_D (NA s) (va_pl [] (fun _ => .inr (0, []))) := ⟨fun i j p q h => (by cases h), fun k q h => (by cases h)⟩
  have hl := lv_entry ([.ref b]) (n := 8) (Nat.le_of_ble_eq_true rfl)
  rw [lg_entry_eq]
  generalize (lg_sl ([.ref b]) ++ List.replicate (8 - (lg_sl ([.ref b])).length) Slot.unset).toArray = ls at hl ⊢
  have hl : lv_has ls 8 [(0, .ref b)] := hl
  refine pg_new (ci := 6) (fs := [.null, .null, .null, .null, .null, .null, .int 0, .int 0, .int 0, .int 0, .int 0, .int 0, .int 0, .long 0, .long 0, .long 0, .long 0]) (C := "SmokeZones") (T := T_Sz) (N := 17) hx hb hG in_Sz ty_Sz ok_Sz hown (hG _ k15) (hG _ k16) (hG _ k1) hK hP hD hS na_of rfl (fun j hj => by rcases lt17 hj with rfl | rfl | rfl | rfl | rfl | rfl | rfl | rfl | rfl | rfl | rfl | rfl | rfl | rfl | rfl | rfl | rfl <;> rfl) (Nat.le_of_ble_eq_true rfl) (Nat.le_of_ble_eq_true rfl) d_La_law_0 (fun q0 H hq0 hP hD hS => ?_)
  refine lv_dup hx hb d_La_law_3 rfl ?_
  have hFc := pc_free hD hS na_of
  refine va_callv (va_runI (As := []) (rest := [.ref q0]) ⟨hx, hb, hml, hown, hG⟩ (c_Sz_init (D := D) (ct := ct) (sz := Array.size H) (h0 := q0) (List.mem_singleton.mpr rfl) (va_up_self _ _ _)) (cwI 0 hG (gw_c k19) rfl rfl rfl (hG _ k1) (hG _ k17) (hG _ k18) rfl hd_Sz_init ⟨Nat.le_of_ble_eq_true rfl, Nat.le_of_ble_eq_true rfl⟩) ⟨fun a U g mk q => by
    obtain ⟨q0, ⟨q1, q2, q3, q4⟩, q5⟩ := q
    exact ⟨q0, ⟨q1, q2, va_K.moved (u := U) (U := U.calling g mk a) (Vm.Alike.refl U.vm) q3, q4⟩, fun C h => va_AO.moved (u := U) (U := U.calling g mk a) (Vm.Alike.refl U.vm) (q5 C h)⟩, fun U hU hW => ⟨rfl, ⟨by rw [hU], by rw [hU]; exact hP, va_K.moved hW.alike hK, hD.weaken (fun _ _ _ _ => trivial)⟩, fun C h => (hAO C h).moved hW.alike⟩⟩ rfl rfl hl.1 rfl (lv_room (Nat.le_of_ble_eq_true rfl)) d_La_law_4 ⟨Nat.le_of_ble_eq_true rfl, Nat.le_of_ble_eq_true rfl⟩) hS (fun q _ h => hFc q h) hFc (fun u t H1 locs ht hvm hw hB hz hk hS => ?_)
  obtain ⟨AD, L1, f1⟩ := u
  obtain ⟨hCW, h9⟩ := hw
  obtain ⟨hP1, -, hD1⟩ := hB
  rw [ht] at hP1
  have hD1 := hD1.weaken (B := NA s) (fun _ q _ h => hFc q.1 h)
  simp only [] at hP1 hD1 hCW h9
  clear hk hz ht hvm hFc hP hD
  generalize H1 = H at hP1 hS ⊢
  refine lv_astore_n (lv' := [(1, .ref q0), (0, .ref b)]) hx hb d_La_law_7 rfl hl (by decide) rfl (fun ls hl => ?_)
  refine pg_new (ci := 7) (fs := [.int 0, .int 0, .int 0, .null, .null, .null, .null, .null, .null, .null, .int 0, .null, .null, .null, .null, .null, .null, .null, .null, .null, .null, .int 0, .null, .null, .null, .null, .null, .int 0, .null, .null, .null, .int 0, .null, .null, .null, .int 0, .null, .null, .null, .null, .null, .null, .null, .long 0, .long 0, .long 0, .long 0]) (C := "SmokeZonesModel") (T := T_Mo) (N := 47) hx hb hG in_Mo ty_Mo ok_Mo hown (hG _ k615) (hG _ k616) (hG _ k2) hK hP1 hD1 hS na_of rfl (fun j hj => by rcases lt47 hj with rfl | rfl | rfl | rfl | rfl | rfl | rfl | rfl | rfl | rfl | rfl | rfl | rfl | rfl | rfl | rfl | rfl | rfl | rfl | rfl | rfl | rfl | rfl | rfl | rfl | rfl | rfl | rfl | rfl | rfl | rfl | rfl | rfl | rfl | rfl | rfl | rfl | rfl | rfl | rfl | rfl | rfl | rfl | rfl | rfl | rfl | rfl <;> rfl) (Nat.le_of_ble_eq_true rfl) (Nat.le_of_ble_eq_true rfl) d_La_law_8 (fun q1 H hq1 hP hD hS => ?_)
  refine lv_dup hx hb d_La_law_11 rfl ?_
  rw [← pg_push hq1] at hP hD
  obtain ⟨hPc, hPn⟩ := spP hP
  obtain ⟨hDc, hDn, hne⟩ := spD hD
  clear hP1 hD1 hP hD
  have hPm : va_P D vwCl (va_pl [q1] (fun _ => .inr (7, [.int 0, .int 0, .int 0, .null, .null, .null, .null, .null, .null, .null, .int 0, .null, .null, .null, .null, .null, .null, .null, .null, .null, .null, .int 0, .null, .null, .null, .null, .null, .int 0, .null, .null, .null, .int 0, .null, .null, .null, .int 0, .null, .null, .null, .null, .null, .null, .null, .long 0, .long 0, .long 0, .long 0]))) H := hPn
  have hDm : va_D (NA s) (va_pl [q1] (fun _ => .inr (7, [.int 0, .int 0, .int 0, .null, .null, .null, .null, .null, .null, .null, .int 0, .null, .null, .null, .null, .null, .null, .null, .null, .null, .null, .int 0, .null, .null, .null, .null, .null, .int 0, .null, .null, .null, .int 0, .null, .null, .null, .int 0, .null, .null, .null, .null, .null, .null, .null, .long 0, .long 0, .long 0, .long 0]))) := hDn
  have hFc := pc_free hDm hS na_of
  refine va_callv (va_runI (As := []) (rest := [.ref q1]) ⟨hx, hb, hml, hown, hG⟩ (c_Mo_init (D := D) (ct := ct) (sz := Array.size H) (h0 := q1) (f := fun _ => .inr (7, [.int 0, .int 0, .int 0, .null, .null, .null, .null, .null, .null, .null, .int 0, .null, .null, .null, .null, .null, .null, .null, .null, .null, .null, .int 0, .null, .null, .null, .null, .null, .int 0, .null, .null, .null, .int 0, .null, .null, .null, .int 0, .null, .null, .null, .null, .null, .null, .null, .long 0, .long 0, .long 0, .long 0])) rfl) (cwI 0 hG (gw_c k619) rfl rfl rfl (hG _ k2) (hG _ k617) (hG _ k618) rfl hd_Mo_init ⟨Nat.le_of_ble_eq_true rfl, Nat.le_of_ble_eq_true rfl⟩) ⟨WP.blind _, fun U hU hW => ⟨rfl, by rw [hU], by rw [hU]; exact hPm, va_K.moved hW.alike hK, hDm.weaken (fun _ _ _ _ => trivial)⟩⟩ rfl rfl hl.1 rfl (lv_room (Nat.le_of_ble_eq_true rfl)) d_La_law_12 ⟨Nat.le_of_ble_eq_true rfl, Nat.le_of_ble_eq_true rfl⟩) hS (fun q _ h => hFc q h) hFc (fun u t H1 locs ht hvm hw hB hz hk hS => ?_)
  obtain ⟨AM, LM, fM⟩ := u
  obtain ⟨hM, h100⟩ := hw
  obtain ⟨hPM, -, hDM⟩ := hB
  rw [ht] at hPM
  simp only [] at hPM hDM hM h100
  have hdis : ∀ a, a ∈ L1 → a < H.size ∧ a ≠ q1 := fun a ha => ⟨pg_lt hPc ha, fun e => hq1 (e ▸ ha)⟩
  have hPc := pl_keep (H1 := H1) hPc (fun a ha => hk a (hdis a ha).1 (fun q => by
    rcases aa_of q with q | q
    · exact (hdis a ha).2 (List.mem_singleton.mp q)
    · exact absurd (hdis a ha).1 (Nat.not_lt.mpr q)))
  have hLM : ∀ a, a ∈ L1 → a ∉ LM := fun a ha hb => by
    rcases aa_of (pl_A hDM hb) with q | q
    · exact (hdis a ha).2 (List.mem_singleton.mp q)
    · exact absurd (hdis a ha).1 (Nat.not_lt.mpr q)
  have hDM := hDM.weaken (B := NA s) (fun _ q _ h => hFc q.1 h)
  clear hk hz ht hvm hFc hPm hDm hPn hDn hne hdis
  generalize H1 = H at hPc hPM hS ⊢
  refine lv_astore_n (lv' := [(2, .ref q1), (1, .ref q0), (0, .ref b)]) hx hb d_La_law_15 rfl hl (by decide) rfl (fun ls hl => ?_)
  refine lv_iconst (v := 1) hx hb d_La_law_16 (by decide) ?_
  refine va_newa (atype := .long) (ty := .long) (N' := 1) (a0 := (1, .inr (.inl (fun _ => 0)))) hx hb (hG _ k763) rfl hK (hPc.app hPM) (hDc.app hDM (fun i j p q hp hq e => hLM p.1 (pl_mem hp) (e ▸ pl_mem hq))) hS na_of (fun _ => rfl) (by decide) (by decide) (by decide) (Nat.le_of_ble_eq_true rfl) (Nat.le_of_ble_eq_true rfl) d_La_law_17 (fun ao cA H hKa hP hD hS => ?_)
  obtain rfl := ty_one (t0 := 7) hKa rfl
  obtain ⟨hPx, hPo⟩ := spP hP
  obtain ⟨hPc, hPM⟩ := spP hPx
  obtain ⟨hDx, hDo, hne⟩ := spD hD
  refine lv_astore_n (lv' := [(3, .ref ao), (2, .ref q1), (1, .ref q0), (0, .ref b)]) hx hb d_La_law_19 rfl hl (by decide) rfl (fun ls hl => ?_)
  refine lv_iconst (v := 0) hx hb d_La_law_20 (by decide) ?_
  refine lv_istore (lv' := [(4, .int 0), (3, .ref ao), (2, .ref q1), (1, .ref q0), (0, .ref b)]) hx hb d_La_law_21 hl (by decide) rfl (fun ls hl => ?_)
  refine W.widen (k := 44 + 12 * 0) (n := 826 + 100 * 0) (by omega) (by omega) ?_
  refine law_loop hC 513 0 H _ ls (by omega) (by omega) ⟨AD, L1, f1, AM, LM, fM, fun _ _ => 0, fun _ _ => 0, fun _ => 0, ⟨fun _ => 0, fun _ _ => 0, fun _ _ => 0, fun _ _ => 0, 0, hCW, SIMt.start⟩, hM, h9, h100, ⟨⟨hPc, hDc⟩, ⟨hPM, hDM⟩, ⟨oneP hPo, hDo.2 0 _ rfl⟩, ⟨fun q => ?_, fun q => ?_, hLM⟩, hS⟩⟩ hl
  · obtain ⟨k, hk⟩ := pg_ix (f := f1) q
    exact hne k 0 (ao, f1 ao) _ (by rw [List.getElem?_append_left (List.getElem?_eq_some_iff.mp hk).1]; exact hk) rfl rfl
  · obtain ⟨k, hk⟩ := pg_ix (f := fM) q
    exact hne ((va_pl L1 f1).length + k) 0 (ao, fM ao) _ (by rw [List.getElem?_append_right (Nat.le_add_right _ _), Nat.add_sub_cancel_left]; exact hk) rfl rfl
