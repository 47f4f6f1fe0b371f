/-! the model while it is made: dn the fields that have their arrays -/
def MV (ct : Nat → ClassId) (AM : Nat → Nat) (L : List Nat) (dn : List Nat) (h0 : Nat) (fs : List Value) (f : Nat → va_E) : Prop :=
  (h0 ∈ L ∧ f h0 = .inr (7, fs)) ∧ (∀ j, j ∈ dn → AM j ∈ L ∧ AM j ≠ h0 ∧ f (AM j) = mcell ct (fun _ _ => 0) (fun _ _ => 0) j) ∧ (∀ j k, j ∈ dn → k ∈ dn → AM j = AM k → j = k)
theorem MV.push {ct : Nat → ClassId} {AM : Nat → Nat} {L dn : List Nat} {h0 : Nat} {fs : List Value} {f : Nat → va_E} (h : MV ct AM L dn h0 fs f) {j q : Nat} (hj : j ∉ dn) (hq : q ∉ L) {c : va_E} (hc : c = mcell ct (fun _ _ => 0) (fun _ _ => 0) j) : MV ct (va_up AM j q) (L ++ [q]) (j :: dn) h0 (fs.set j (.ref q)) (va_up (va_up f q c) h0 (.inr (7, fs.set j (.ref q)))) := by
  subst hc
  have hq0 : q ≠ h0 := fun e => hq (e ▸ h.1.1)
  refine ⟨⟨List.mem_append_left _ h.1.1, va_up_self _ _ _⟩, fun k hk => ?_, fun a b ha hb e => ?_⟩
  · by_cases e : k = j
    · subst e
      rw [va_up_self]
      exact ⟨List.mem_append_right _ (List.mem_singleton.mpr rfl), hq0, by rw [va_up_ne _ _ hq0, va_up_self]⟩
    · rw [va_up_ne _ _ e]
      obtain ⟨h1, h2, h3⟩ := h.2.1 k ((List.mem_cons.mp hk).resolve_left e)
      exact ⟨List.mem_append_left _ h1, h2, by rw [va_up_ne _ _ h2, va_up_ne _ _ (show AM k ≠ q from fun x => hq (x ▸ h1)), h3]⟩
  · by_cases ea : a = j <;> by_cases eb : b = j
    · rw [ea, eb]
    · subst ea
      rw [va_up_self, va_up_ne _ _ eb] at e
      exact absurd (h.2.1 b ((List.mem_cons.mp hb).resolve_left eb)).1 (e ▸ hq)
    · subst eb
      rw [va_up_self, va_up_ne _ _ ea] at e
      exact absurd (h.2.1 a ((List.mem_cons.mp ha).resolve_left ea)).1 (e ▸ hq)
    · rw [va_up_ne _ _ ea, va_up_ne _ _ eb] at e
      exact h.2.2 a b ((List.mem_cons.mp ha).resolve_left ea) ((List.mem_cons.mp hb).resolve_left eb) e
def mAll : List Nat := [42, 41, 40, 39, 38, 37, 36, 34, 33, 32, 30, 29, 28, 26, 25, 24, 23, 22, 20, 19, 18, 17, 16, 15, 14, 13, 12, 11, 9, 8, 7, 6, 5, 4, 3]
theorem mAll_mem {j : Nat} (h : mty j < 3) : j ∈ mAll := by
  by_cases hj : j < 47
  · have h9 : ∀ j, j < 47 → mty j < 3 → j ∈ mAll := by decide
    exact h9 j hj h
  · exfalso
    have : mty j = 3 := by
      unfold mty
      split <;> first | rfl | omega
    omega
theorem MV.done {ct : Nat → ClassId} {AM AM2 : Nat → Nat} {L : List Nat} {h0 : Nat} {fs : List Value} {f : Nat → va_E} (h : MV ct AM L mAll h0 fs f) (hA : ∀ j, j < 100 → AM2 j = AM j) (hh : AM2 100 = h0) (hf : fs = moF AM (fun _ _ => 0) (fun _ _ => 0)) : MW ct AM2 L (fun _ _ => 0) (fun _ _ => 0) f := by
  have hj : ∀ j, mty j < 3 → j < 100 := fun j h => by
    have h1 := mAll_mem h
    unfold mAll at h1
    simp only [List.mem_cons, List.not_mem_nil, or_false] at h1
    omega
  refine ⟨⟨hh ▸ h.1.1, ?_⟩, fun j h1 => ?_, fun j k h1 h2 e => ?_⟩
  · rw [hh, h.1.2, hf]
    simp only [moF]
    rw [hA 3 (by decide), hA 4 (by decide), hA 5 (by decide), hA 6 (by decide), hA 7 (by decide), hA 8 (by decide), hA 9 (by decide), hA 11 (by decide), hA 12 (by decide), hA 13 (by decide), hA 14 (by decide), hA 15 (by decide), hA 16 (by decide), hA 17 (by decide), hA 18 (by decide), hA 19 (by decide), hA 20 (by decide), hA 22 (by decide), hA 23 (by decide), hA 24 (by decide), hA 25 (by decide), hA 26 (by decide), hA 28 (by decide), hA 29 (by decide), hA 30 (by decide), hA 32 (by decide), hA 33 (by decide), hA 34 (by decide), hA 36 (by decide), hA 37 (by decide), hA 38 (by decide), hA 39 (by decide), hA 40 (by decide), hA 41 (by decide), hA 42 (by decide)]
  · rw [hA j (hj j h1)]
    exact ⟨(h.2.1 j (mAll_mem h1)).1, (h.2.1 j (mAll_mem h1)).2.2⟩
  · rw [hA j (hj j h1), hA k (hj k h2)] at e
    exact h.2.2 j k (mAll_mem h1) (mAll_mem h2) e

set_option maxHeartbeats 4000000 in
set_option maxRecDepth 100000 in
theorem c_Mo_init {l : Launch} {D : va_G} {ct : Nat → ClassId} {f : Nat → va_E} {sz h0 : Nat} (e_h0 : f h0 = .inr (7, [.int 0, .int 0, .int 0, .null, .null, .null, .null, .null, .null, .null, .int 0, .null, .null, .null, .null, .null, .null, .null, .null, .null, .null, .int 0, .null, .null, .null, .null, .null, .int 0, .null, .null, .null, .int 0, .null, .null, .null, .int 0, .null, .null, .null, .null, .null, .null, .null, .long 0, .long 0, .long 0, .long 0])) : Met l y_Mo_init (WS y_Mo_init b_Mo_init 1 none) { frames := 1, cells := 35, slots := 704, locals := 12 } (va_Pc [.ref h0] (WP D (TYS ct) [h0] f sz)) (va_Qv (fun (u : (Nat → Nat) × List Nat × (Nat → va_E)) => MW ct u.1 u.2.1 (fun _ _ => 0) (fun _ _ => 0) u.2.2 ∧ u.1 100 = h0) (fun u t => WQ D (TYS ct) u.2.1 u.2.2 (AA [h0] f sz) t) (AA [h0] f sz)) 35 704 (AA [h0] f sz) := by
  refine Met.ofW (cc := b_Mo_init) (maxL := 1) (ret := none) (by decide) rfl ?_
  intro p e s m args below meth c s₁ B hml hv
  obtain ⟨rfl, hsz, hP, hK, hD0⟩ := hv
  subst hsz
  have hx := B.exec
  have hb := B.bytes
  have hret := B.returns
  have hts := atoms_spec (ws := WS y_Mo_init b_Mo_init 1 none) B.pre
  have hG : ∀ w ∈ GW, w.before _ s = true := fun w h => hts w (List.mem_cons_of_mem _ h)
  have hown : s.vm.findClass "SmokeZonesModel" = some m.cls := findClass_of_methodNamed B.named
  have hlocks := B.notSynchronized
  have hin : meth.name = "<init>" := (name_of_methodNamed B.named B.method).1
  have hD : va_D (AA [h0] f s.heap.size) (va_pl [h0] f) := hD0.self (sz := s.heap.size)
  generalize hAe : AA [h0] f s.heap.size = A at hD ⊢
  have hA : ∀ q : Nat, s.heap.size ≤ q → A q := fun q h => by rw [← hAe]; exact Or.inr h
  have hS : va_S A s.heap s.heap [] := va_S.rf
  have hl := lv_entry ([.ref h0]) (n := 1) (Nat.le_of_ble_eq_true rfl)
  rw [lg_entry_eq]
  generalize (lg_sl ([.ref h0]) ++ List.replicate (1 - (lg_sl ([.ref h0])).length) Slot.unset).toArray = ls at hl ⊢
  have hl : lv_has ls 1 [(0, .ref h0)] := hl
  have hV : MV ct (fun _ => 0) [h0] [] h0 [.int 0, .int 0, .int 0, .null, .null, .null, .null, .null, .null, .null, .int 0, .null, .null, .null, .null, .null, .null, .null, .null, .null, .null, .int 0, .null, .null, .null, .null, .null, .int 0, .null, .null, .null, .int 0, .null, .null, .null, .int 0, .null, .null, .null, .null, .null, .null, .null, .long 0, .long 0, .long 0, .long 0] f := ⟨⟨List.mem_singleton.mpr rfl, e_h0⟩, fun _ h => absurd h List.not_mem_nil, fun _ _ h => absurd h List.not_mem_nil⟩
  refine lv_aload_n hx hb d_Mo_init_0 rfl (lv_at hl 0 rfl) ?_
  refine pg_objInit hx hb hown (hml.trans hl.1.symm) (hG _ k620) (hG _ k21) (hG _ ko_c) (Nat.le_of_ble_eq_true rfl) (Nat.le_of_ble_eq_true rfl) d_Mo_init_1 ?_
  refine lv_aload_n hx hb d_Mo_init_4 rfl (lv_at hl 0 rfl) ?_
  refine lv_bipush (v := 10) hx hb d_Mo_init_5 (by decide) ?_
  refine pg_newa (atype := .int) (ty := .int) (N' := 10) (a0 := (10, .inl (fun _ => 0))) hx hb (hG _ k415) rfl hK hP hD hS hA (fun _ => rfl) (by decide) (by decide) (by decide) (Nat.le_of_ble_eq_true rfl) (Nat.le_of_ble_eq_true rfl) 6 rfl d_Mo_init_7 (fun q3 H hn hP hD hS => ?_)
  refine pg_putF (C := "SmokeZonesModel") (T := T_Mo) (N := 47) (ty := (.array .int)) hx hb hG in_Mo ty_Mo ok_Mo nm_Mo hown hK hP hD hS (List.mem_append_left _ hV.1.1) ((va_up_ne _ _ (show h0 ≠ q3 from fun e => hn (e ▸ hV.1.1))).trans hV.1.2) rfl 3 (by decide) (hG _ k624) (fun _ h9 => h9) rfl hin rfl (by decide +kernel) rfl rfl (Nat.le_of_ble_eq_true rfl) d_Mo_init_9 (fun H locs hP hD hS => ?_)
  have hV := hV.push (j := 3) (by decide) hn (c := .inl (ct 6, (10, .inl (fun _ => 0)))) rfl
  generalize va_up (va_up _ q3 _) h0 _ = f at hV hP hD
  generalize [h0] ++ [q3] = L3 at hV hP hD
  have hV : MV ct _ L3 [3] h0 [.int 0, .int 0, .int 0, .ref q3, .null, .null, .null, .null, .null, .null, .int 0, .null, .null, .null, .null, .null, .null, .null, .null, .null, .null, .int 0, .null, .null, .null, .null, .null, .int 0, .null, .null, .null, .int 0, .null, .null, .null, .int 0, .null, .null, .null, .null, .null, .null, .null, .long 0, .long 0, .long 0, .long 0] f := hV
  refine lv_aload_n hx hb d_Mo_init_12 rfl (lv_at hl 0 rfl) ?_
  refine lv_bipush (v := 10) hx hb d_Mo_init_13 (by decide) ?_
  refine pg_newa (atype := .int) (ty := .int) (N' := 10) (a0 := (10, .inl (fun _ => 0))) hx hb (hG _ k415) rfl hK hP hD hS hA (fun _ => rfl) (by decide) (by decide) (by decide) (Nat.le_of_ble_eq_true rfl) (Nat.le_of_ble_eq_true rfl) 6 rfl d_Mo_init_15 (fun q4 H hn hP hD hS => ?_)
  refine pg_putF (C := "SmokeZonesModel") (T := T_Mo) (N := 47) (ty := (.array .int)) hx hb hG in_Mo ty_Mo ok_Mo nm_Mo hown hK hP hD hS (List.mem_append_left _ hV.1.1) ((va_up_ne _ _ (show h0 ≠ q4 from fun e => hn (e ▸ hV.1.1))).trans hV.1.2) rfl 4 (by decide) (hG _ k625) (fun _ h9 => h9) rfl hin rfl (by decide +kernel) rfl rfl (Nat.le_of_ble_eq_true rfl) d_Mo_init_17 (fun H locs hP hD hS => ?_)
  have hV := hV.push (j := 4) (by decide) hn (c := .inl (ct 6, (10, .inl (fun _ => 0)))) rfl
  generalize va_up (va_up _ q4 _) h0 _ = f at hV hP hD
  generalize L3 ++ [q4] = L4 at hV hP hD
  have hV : MV ct _ L4 [4, 3] h0 [.int 0, .int 0, .int 0, .ref q3, .ref q4, .null, .null, .null, .null, .null, .int 0, .null, .null, .null, .null, .null, .null, .null, .null, .null, .null, .int 0, .null, .null, .null, .null, .null, .int 0, .null, .null, .null, .int 0, .null, .null, .null, .int 0, .null, .null, .null, .null, .null, .null, .null, .long 0, .long 0, .long 0, .long 0] f := hV
  refine lv_aload_n hx hb d_Mo_init_20 rfl (lv_at hl 0 rfl) ?_
  refine lv_bipush (v := 10) hx hb d_Mo_init_21 (by decide) ?_
  refine pg_newa (atype := .long) (ty := .long) (N' := 10) (a0 := (10, .inr (.inl (fun _ => 0)))) hx hb (hG _ k763) rfl hK hP hD hS hA (fun _ => rfl) (by decide) (by decide) (by decide) (Nat.le_of_ble_eq_true rfl) (Nat.le_of_ble_eq_true rfl) 7 rfl d_Mo_init_23 (fun q5 H hn hP hD hS => ?_)
  refine pg_putF (C := "SmokeZonesModel") (T := T_Mo) (N := 47) (ty := (.array .long)) hx hb hG in_Mo ty_Mo ok_Mo nm_Mo hown hK hP hD hS (List.mem_append_left _ hV.1.1) ((va_up_ne _ _ (show h0 ≠ q5 from fun e => hn (e ▸ hV.1.1))).trans hV.1.2) rfl 5 (by decide) (hG _ k626) (fun _ h9 => h9) rfl hin rfl (by decide +kernel) rfl rfl (Nat.le_of_ble_eq_true rfl) d_Mo_init_25 (fun H locs hP hD hS => ?_)
  have hV := hV.push (j := 5) (by decide) hn (c := .inl (ct 7, (10, .inr (.inl (fun _ => 0))))) rfl
  generalize va_up (va_up _ q5 _) h0 _ = f at hV hP hD
  generalize L4 ++ [q5] = L5 at hV hP hD
  have hV : MV ct _ L5 [5, 4, 3] h0 [.int 0, .int 0, .int 0, .ref q3, .ref q4, .ref q5, .null, .null, .null, .null, .int 0, .null, .null, .null, .null, .null, .null, .null, .null, .null, .null, .int 0, .null, .null, .null, .null, .null, .int 0, .null, .null, .null, .int 0, .null, .null, .null, .int 0, .null, .null, .null, .null, .null, .null, .null, .long 0, .long 0, .long 0, .long 0] f := hV
  refine lv_aload_n hx hb d_Mo_init_28 rfl (lv_at hl 0 rfl) ?_
  refine lv_bipush (v := 10) hx hb d_Mo_init_29 (by decide) ?_
  refine pg_newa (atype := .long) (ty := .long) (N' := 10) (a0 := (10, .inr (.inl (fun _ => 0)))) hx hb (hG _ k763) rfl hK hP hD hS hA (fun _ => rfl) (by decide) (by decide) (by decide) (Nat.le_of_ble_eq_true rfl) (Nat.le_of_ble_eq_true rfl) 7 rfl d_Mo_init_31 (fun q6 H hn hP hD hS => ?_)
  refine pg_putF (C := "SmokeZonesModel") (T := T_Mo) (N := 47) (ty := (.array .long)) hx hb hG in_Mo ty_Mo ok_Mo nm_Mo hown hK hP hD hS (List.mem_append_left _ hV.1.1) ((va_up_ne _ _ (show h0 ≠ q6 from fun e => hn (e ▸ hV.1.1))).trans hV.1.2) rfl 6 (by decide) (hG _ k627) (fun _ h9 => h9) rfl hin rfl (by decide +kernel) rfl rfl (Nat.le_of_ble_eq_true rfl) d_Mo_init_33 (fun H locs hP hD hS => ?_)
  have hV := hV.push (j := 6) (by decide) hn (c := .inl (ct 7, (10, .inr (.inl (fun _ => 0))))) rfl
  generalize va_up (va_up _ q6 _) h0 _ = f at hV hP hD
  generalize L5 ++ [q6] = L6 at hV hP hD
  have hV : MV ct _ L6 [6, 5, 4, 3] h0 [.int 0, .int 0, .int 0, .ref q3, .ref q4, .ref q5, .ref q6, .null, .null, .null, .int 0, .null, .null, .null, .null, .null, .null, .null, .null, .null, .null, .int 0, .null, .null, .null, .null, .null, .int 0, .null, .null, .null, .int 0, .null, .null, .null, .int 0, .null, .null, .null, .null, .null, .null, .null, .long 0, .long 0, .long 0, .long 0] f := hV
  refine lv_aload_n hx hb d_Mo_init_36 rfl (lv_at hl 0 rfl) ?_
  refine lv_bipush (v := 10) hx hb d_Mo_init_37 (by decide) ?_
  refine pg_newa (atype := .int) (ty := .int) (N' := 10) (a0 := (10, .inl (fun _ => 0))) hx hb (hG _ k415) rfl hK hP hD hS hA (fun _ => rfl) (by decide) (by decide) (by decide) (Nat.le_of_ble_eq_true rfl) (Nat.le_of_ble_eq_true rfl) 6 rfl d_Mo_init_39 (fun q7 H hn hP hD hS => ?_)
  refine pg_putF (C := "SmokeZonesModel") (T := T_Mo) (N := 47) (ty := (.array .int)) hx hb hG in_Mo ty_Mo ok_Mo nm_Mo hown hK hP hD hS (List.mem_append_left _ hV.1.1) ((va_up_ne _ _ (show h0 ≠ q7 from fun e => hn (e ▸ hV.1.1))).trans hV.1.2) rfl 7 (by decide) (hG _ k628) (fun _ h9 => h9) rfl hin rfl (by decide +kernel) rfl rfl (Nat.le_of_ble_eq_true rfl) d_Mo_init_41 (fun H locs hP hD hS => ?_)
  have hV := hV.push (j := 7) (by decide) hn (c := .inl (ct 6, (10, .inl (fun _ => 0)))) rfl
  generalize va_up (va_up _ q7 _) h0 _ = f at hV hP hD
  generalize L6 ++ [q7] = L7 at hV hP hD
  have hV : MV ct _ L7 [7, 6, 5, 4, 3] h0 [.int 0, .int 0, .int 0, .ref q3, .ref q4, .ref q5, .ref q6, .ref q7, .null, .null, .int 0, .null, .null, .null, .null, .null, .null, .null, .null, .null, .null, .int 0, .null, .null, .null, .null, .null, .int 0, .null, .null, .null, .int 0, .null, .null, .null, .int 0, .null, .null, .null, .null, .null, .null, .null, .long 0, .long 0, .long 0, .long 0] f := hV
  refine lv_aload_n hx hb d_Mo_init_44 rfl (lv_at hl 0 rfl) ?_
  refine lv_bipush (v := 10) hx hb d_Mo_init_45 (by decide) ?_
  refine pg_newa (atype := .boolean) (ty := .boolean) (N' := 10) (a0 := (10, .inl (fun _ => 0))) hx hb (hG _ k764) rfl hK hP hD hS hA (fun _ => rfl) (by decide) (by decide) (by decide) (Nat.le_of_ble_eq_true rfl) (Nat.le_of_ble_eq_true rfl) 8 rfl d_Mo_init_47 (fun q8 H hn hP hD hS => ?_)
  refine pg_putF (C := "SmokeZonesModel") (T := T_Mo) (N := 47) (ty := (.array .boolean)) hx hb hG in_Mo ty_Mo ok_Mo nm_Mo hown hK hP hD hS (List.mem_append_left _ hV.1.1) ((va_up_ne _ _ (show h0 ≠ q8 from fun e => hn (e ▸ hV.1.1))).trans hV.1.2) rfl 8 (by decide) (hG _ k629) (fun _ h9 => h9) rfl hin rfl (by decide +kernel) rfl rfl (Nat.le_of_ble_eq_true rfl) d_Mo_init_49 (fun H locs hP hD hS => ?_)
  have hV := hV.push (j := 8) (by decide) hn (c := .inl (ct 8, (10, .inl (fun _ => 0)))) rfl
  generalize va_up (va_up _ q8 _) h0 _ = f at hV hP hD
  generalize L7 ++ [q8] = L8 at hV hP hD
  have hV : MV ct _ L8 [8, 7, 6, 5, 4, 3] h0 [.int 0, .int 0, .int 0, .ref q3, .ref q4, .ref q5, .ref q6, .ref q7, .ref q8, .null, .int 0, .null, .null, .null, .null, .null, .null, .null, .null, .null, .null, .int 0, .null, .null, .null, .null, .null, .int 0, .null, .null, .null, .int 0, .null, .null, .null, .int 0, .null, .null, .null, .null, .null, .null, .null, .long 0, .long 0, .long 0, .long 0] f := hV
  refine lv_aload_n hx hb d_Mo_init_52 rfl (lv_at hl 0 rfl) ?_
  refine lv_bipush (v := 10) hx hb d_Mo_init_53 (by decide) ?_
  refine pg_newa (atype := .int) (ty := .int) (N' := 10) (a0 := (10, .inl (fun _ => 0))) hx hb (hG _ k415) rfl hK hP hD hS hA (fun _ => rfl) (by decide) (by decide) (by decide) (Nat.le_of_ble_eq_true rfl) (Nat.le_of_ble_eq_true rfl) 6 rfl d_Mo_init_55 (fun q9 H hn hP hD hS => ?_)
  refine pg_putF (C := "SmokeZonesModel") (T := T_Mo) (N := 47) (ty := (.array .int)) hx hb hG in_Mo ty_Mo ok_Mo nm_Mo hown hK hP hD hS (List.mem_append_left _ hV.1.1) ((va_up_ne _ _ (show h0 ≠ q9 from fun e => hn (e ▸ hV.1.1))).trans hV.1.2) rfl 9 (by decide) (hG _ k630) (fun _ h9 => h9) rfl hin rfl (by decide +kernel) rfl rfl (Nat.le_of_ble_eq_true rfl) d_Mo_init_57 (fun H locs hP hD hS => ?_)
  have hV := hV.push (j := 9) (by decide) hn (c := .inl (ct 6, (10, .inl (fun _ => 0)))) rfl
  generalize va_up (va_up _ q9 _) h0 _ = f at hV hP hD
  generalize L8 ++ [q9] = L9 at hV hP hD
  have hV : MV ct _ L9 [9, 8, 7, 6, 5, 4, 3] h0 [.int 0, .int 0, .int 0, .ref q3, .ref q4, .ref q5, .ref q6, .ref q7, .ref q8, .ref q9, .int 0, .null, .null, .null, .null, .null, .null, .null, .null, .null, .null, .int 0, .null, .null, .null, .null, .null, .int 0, .null, .null, .null, .int 0, .null, .null, .null, .int 0, .null, .null, .null, .null, .null, .null, .null, .long 0, .long 0, .long 0, .long 0] f := hV
  refine lv_aload_n hx hb d_Mo_init_60 rfl (lv_at hl 0 rfl) ?_
  refine lv_bipush (v := 15) hx hb d_Mo_init_61 (by decide) ?_
  refine pg_newa (atype := .int) (ty := .int) (N' := 15) (a0 := (15, .inl (fun _ => 0))) hx hb (hG _ k415) rfl hK hP hD hS hA (fun _ => rfl) (by decide) (by decide) (by decide) (Nat.le_of_ble_eq_true rfl) (Nat.le_of_ble_eq_true rfl) 6 rfl d_Mo_init_63 (fun q11 H hn hP hD hS => ?_)
  refine pg_putF (C := "SmokeZonesModel") (T := T_Mo) (N := 47) (ty := (.array .int)) hx hb hG in_Mo ty_Mo ok_Mo nm_Mo hown hK hP hD hS (List.mem_append_left _ hV.1.1) ((va_up_ne _ _ (show h0 ≠ q11 from fun e => hn (e ▸ hV.1.1))).trans hV.1.2) rfl 11 (by decide) (hG _ k632) (fun _ h9 => h9) rfl hin rfl (by decide +kernel) rfl rfl (Nat.le_of_ble_eq_true rfl) d_Mo_init_65 (fun H locs hP hD hS => ?_)
  have hV := hV.push (j := 11) (by decide) hn (c := .inl (ct 6, (15, .inl (fun _ => 0)))) rfl
  generalize va_up (va_up _ q11 _) h0 _ = f at hV hP hD
  generalize L9 ++ [q11] = L11 at hV hP hD
  have hV : MV ct _ L11 [11, 9, 8, 7, 6, 5, 4, 3] h0 [.int 0, .int 0, .int 0, .ref q3, .ref q4, .ref q5, .ref q6, .ref q7, .ref q8, .ref q9, .int 0, .ref q11, .null, .null, .null, .null, .null, .null, .null, .null, .null, .int 0, .null, .null, .null, .null, .null, .int 0, .null, .null, .null, .int 0, .null, .null, .null, .int 0, .null, .null, .null, .null, .null, .null, .null, .long 0, .long 0, .long 0, .long 0] f := hV
  refine lv_aload_n hx hb d_Mo_init_68 rfl (lv_at hl 0 rfl) ?_
  refine lv_bipush (v := 15) hx hb d_Mo_init_69 (by decide) ?_
  refine pg_newa (atype := .int) (ty := .int) (N' := 15) (a0 := (15, .inl (fun _ => 0))) hx hb (hG _ k415) rfl hK hP hD hS hA (fun _ => rfl) (by decide) (by decide) (by decide) (Nat.le_of_ble_eq_true rfl) (Nat.le_of_ble_eq_true rfl) 6 rfl d_Mo_init_71 (fun q12 H hn hP hD hS => ?_)
  refine pg_putF (C := "SmokeZonesModel") (T := T_Mo) (N := 47) (ty := (.array .int)) hx hb hG in_Mo ty_Mo ok_Mo nm_Mo hown hK hP hD hS (List.mem_append_left _ hV.1.1) ((va_up_ne _ _ (show h0 ≠ q12 from fun e => hn (e ▸ hV.1.1))).trans hV.1.2) rfl 12 (by decide) (hG _ k633) (fun _ h9 => h9) rfl hin rfl (by decide +kernel) rfl rfl (Nat.le_of_ble_eq_true rfl) d_Mo_init_73 (fun H locs hP hD hS => ?_)
  have hV := hV.push (j := 12) (by decide) hn (c := .inl (ct 6, (15, .inl (fun _ => 0)))) rfl
  generalize va_up (va_up _ q12 _) h0 _ = f at hV hP hD
  generalize L11 ++ [q12] = L12 at hV hP hD
  have hV : MV ct _ L12 [12, 11, 9, 8, 7, 6, 5, 4, 3] h0 [.int 0, .int 0, .int 0, .ref q3, .ref q4, .ref q5, .ref q6, .ref q7, .ref q8, .ref q9, .int 0, .ref q11, .ref q12, .null, .null, .null, .null, .null, .null, .null, .null, .int 0, .null, .null, .null, .null, .null, .int 0, .null, .null, .null, .int 0, .null, .null, .null, .int 0, .null, .null, .null, .null, .null, .null, .null, .long 0, .long 0, .long 0, .long 0] f := hV
  refine lv_aload_n hx hb d_Mo_init_76 rfl (lv_at hl 0 rfl) ?_
  refine lv_bipush (v := 15) hx hb d_Mo_init_77 (by decide) ?_
  refine pg_newa (atype := .int) (ty := .int) (N' := 15) (a0 := (15, .inl (fun _ => 0))) hx hb (hG _ k415) rfl hK hP hD hS hA (fun _ => rfl) (by decide) (by decide) (by decide) (Nat.le_of_ble_eq_true rfl) (Nat.le_of_ble_eq_true rfl) 6 rfl d_Mo_init_79 (fun q13 H hn hP hD hS => ?_)
  refine pg_putF (C := "SmokeZonesModel") (T := T_Mo) (N := 47) (ty := (.array .int)) hx hb hG in_Mo ty_Mo ok_Mo nm_Mo hown hK hP hD hS (List.mem_append_left _ hV.1.1) ((va_up_ne _ _ (show h0 ≠ q13 from fun e => hn (e ▸ hV.1.1))).trans hV.1.2) rfl 13 (by decide) (hG _ k634) (fun _ h9 => h9) rfl hin rfl (by decide +kernel) rfl rfl (Nat.le_of_ble_eq_true rfl) d_Mo_init_81 (fun H locs hP hD hS => ?_)
  have hV := hV.push (j := 13) (by decide) hn (c := .inl (ct 6, (15, .inl (fun _ => 0)))) rfl
  generalize va_up (va_up _ q13 _) h0 _ = f at hV hP hD
  generalize L12 ++ [q13] = L13 at hV hP hD
  have hV : MV ct _ L13 [13, 12, 11, 9, 8, 7, 6, 5, 4, 3] h0 [.int 0, .int 0, .int 0, .ref q3, .ref q4, .ref q5, .ref q6, .ref q7, .ref q8, .ref q9, .int 0, .ref q11, .ref q12, .ref q13, .null, .null, .null, .null, .null, .null, .null, .int 0, .null, .null, .null, .null, .null, .int 0, .null, .null, .null, .int 0, .null, .null, .null, .int 0, .null, .null, .null, .null, .null, .null, .null, .long 0, .long 0, .long 0, .long 0] f := hV
  refine lv_aload_n hx hb d_Mo_init_84 rfl (lv_at hl 0 rfl) ?_
  refine lv_bipush (v := 15) hx hb d_Mo_init_85 (by decide) ?_
  refine pg_newa (atype := .int) (ty := .int) (N' := 15) (a0 := (15, .inl (fun _ => 0))) hx hb (hG _ k415) rfl hK hP hD hS hA (fun _ => rfl) (by decide) (by decide) (by decide) (Nat.le_of_ble_eq_true rfl) (Nat.le_of_ble_eq_true rfl) 6 rfl d_Mo_init_87 (fun q14 H hn hP hD hS => ?_)
  refine pg_putF (C := "SmokeZonesModel") (T := T_Mo) (N := 47) (ty := (.array .int)) hx hb hG in_Mo ty_Mo ok_Mo nm_Mo hown hK hP hD hS (List.mem_append_left _ hV.1.1) ((va_up_ne _ _ (show h0 ≠ q14 from fun e => hn (e ▸ hV.1.1))).trans hV.1.2) rfl 14 (by decide) (hG _ k635) (fun _ h9 => h9) rfl hin rfl (by decide +kernel) rfl rfl (Nat.le_of_ble_eq_true rfl) d_Mo_init_89 (fun H locs hP hD hS => ?_)
  have hV := hV.push (j := 14) (by decide) hn (c := .inl (ct 6, (15, .inl (fun _ => 0)))) rfl
  generalize va_up (va_up _ q14 _) h0 _ = f at hV hP hD
  generalize L13 ++ [q14] = L14 at hV hP hD
  have hV : MV ct _ L14 [14, 13, 12, 11, 9, 8, 7, 6, 5, 4, 3] h0 [.int 0, .int 0, .int 0, .ref q3, .ref q4, .ref q5, .ref q6, .ref q7, .ref q8, .ref q9, .int 0, .ref q11, .ref q12, .ref q13, .ref q14, .null, .null, .null, .null, .null, .null, .int 0, .null, .null, .null, .null, .null, .int 0, .null, .null, .null, .int 0, .null, .null, .null, .int 0, .null, .null, .null, .null, .null, .null, .null, .long 0, .long 0, .long 0, .long 0] f := hV
  refine lv_aload_n hx hb d_Mo_init_92 rfl (lv_at hl 0 rfl) ?_
  refine lv_bipush (v := 15) hx hb d_Mo_init_93 (by decide) ?_
  refine pg_newa (atype := .int) (ty := .int) (N' := 15) (a0 := (15, .inl (fun _ => 0))) hx hb (hG _ k415) rfl hK hP hD hS hA (fun _ => rfl) (by decide) (by decide) (by decide) (Nat.le_of_ble_eq_true rfl) (Nat.le_of_ble_eq_true rfl) 6 rfl d_Mo_init_95 (fun q15 H hn hP hD hS => ?_)
  refine pg_putF (C := "SmokeZonesModel") (T := T_Mo) (N := 47) (ty := (.array .int)) hx hb hG in_Mo ty_Mo ok_Mo nm_Mo hown hK hP hD hS (List.mem_append_left _ hV.1.1) ((va_up_ne _ _ (show h0 ≠ q15 from fun e => hn (e ▸ hV.1.1))).trans hV.1.2) rfl 15 (by decide) (hG _ k636) (fun _ h9 => h9) rfl hin rfl (by decide +kernel) rfl rfl (Nat.le_of_ble_eq_true rfl) d_Mo_init_97 (fun H locs hP hD hS => ?_)
  have hV := hV.push (j := 15) (by decide) hn (c := .inl (ct 6, (15, .inl (fun _ => 0)))) rfl
  generalize va_up (va_up _ q15 _) h0 _ = f at hV hP hD
  generalize L14 ++ [q15] = L15 at hV hP hD
  have hV : MV ct _ L15 [15, 14, 13, 12, 11, 9, 8, 7, 6, 5, 4, 3] h0 [.int 0, .int 0, .int 0, .ref q3, .ref q4, .ref q5, .ref q6, .ref q7, .ref q8, .ref q9, .int 0, .ref q11, .ref q12, .ref q13, .ref q14, .ref q15, .null, .null, .null, .null, .null, .int 0, .null, .null, .null, .null, .null, .int 0, .null, .null, .null, .int 0, .null, .null, .null, .int 0, .null, .null, .null, .null, .null, .null, .null, .long 0, .long 0, .long 0, .long 0] f := hV
  refine lv_aload_n hx hb d_Mo_init_100 rfl (lv_at hl 0 rfl) ?_
  refine lv_bipush (v := 15) hx hb d_Mo_init_101 (by decide) ?_
  refine pg_newa (atype := .int) (ty := .int) (N' := 15) (a0 := (15, .inl (fun _ => 0))) hx hb (hG _ k415) rfl hK hP hD hS hA (fun _ => rfl) (by decide) (by decide) (by decide) (Nat.le_of_ble_eq_true rfl) (Nat.le_of_ble_eq_true rfl) 6 rfl d_Mo_init_103 (fun q16 H hn hP hD hS => ?_)
  refine pg_putF (C := "SmokeZonesModel") (T := T_Mo) (N := 47) (ty := (.array .int)) hx hb hG in_Mo ty_Mo ok_Mo nm_Mo hown hK hP hD hS (List.mem_append_left _ hV.1.1) ((va_up_ne _ _ (show h0 ≠ q16 from fun e => hn (e ▸ hV.1.1))).trans hV.1.2) rfl 16 (by decide) (hG _ k637) (fun _ h9 => h9) rfl hin rfl (by decide +kernel) rfl rfl (Nat.le_of_ble_eq_true rfl) d_Mo_init_105 (fun H locs hP hD hS => ?_)
  have hV := hV.push (j := 16) (by decide) hn (c := .inl (ct 6, (15, .inl (fun _ => 0)))) rfl
  generalize va_up (va_up _ q16 _) h0 _ = f at hV hP hD
  generalize L15 ++ [q16] = L16 at hV hP hD
  have hV : MV ct _ L16 [16, 15, 14, 13, 12, 11, 9, 8, 7, 6, 5, 4, 3] h0 [.int 0, .int 0, .int 0, .ref q3, .ref q4, .ref q5, .ref q6, .ref q7, .ref q8, .ref q9, .int 0, .ref q11, .ref q12, .ref q13, .ref q14, .ref q15, .ref q16, .null, .null, .null, .null, .int 0, .null, .null, .null, .null, .null, .int 0, .null, .null, .null, .int 0, .null, .null, .null, .int 0, .null, .null, .null, .null, .null, .null, .null, .long 0, .long 0, .long 0, .long 0] f := hV
  refine lv_aload_n hx hb d_Mo_init_108 rfl (lv_at hl 0 rfl) ?_
  refine lv_bipush (v := 15) hx hb d_Mo_init_109 (by decide) ?_
  refine pg_newa (atype := .boolean) (ty := .boolean) (N' := 15) (a0 := (15, .inl (fun _ => 0))) hx hb (hG _ k764) rfl hK hP hD hS hA (fun _ => rfl) (by decide) (by decide) (by decide) (Nat.le_of_ble_eq_true rfl) (Nat.le_of_ble_eq_true rfl) 8 rfl d_Mo_init_111 (fun q17 H hn hP hD hS => ?_)
  refine pg_putF (C := "SmokeZonesModel") (T := T_Mo) (N := 47) (ty := (.array .boolean)) hx hb hG in_Mo ty_Mo ok_Mo nm_Mo hown hK hP hD hS (List.mem_append_left _ hV.1.1) ((va_up_ne _ _ (show h0 ≠ q17 from fun e => hn (e ▸ hV.1.1))).trans hV.1.2) rfl 17 (by decide) (hG _ k638) (fun _ h9 => h9) rfl hin rfl (by decide +kernel) rfl rfl (Nat.le_of_ble_eq_true rfl) d_Mo_init_113 (fun H locs hP hD hS => ?_)
  have hV := hV.push (j := 17) (by decide) hn (c := .inl (ct 8, (15, .inl (fun _ => 0)))) rfl
  generalize va_up (va_up _ q17 _) h0 _ = f at hV hP hD
  generalize L16 ++ [q17] = L17 at hV hP hD
  have hV : MV ct _ L17 [17, 16, 15, 14, 13, 12, 11, 9, 8, 7, 6, 5, 4, 3] h0 [.int 0, .int 0, .int 0, .ref q3, .ref q4, .ref q5, .ref q6, .ref q7, .ref q8, .ref q9, .int 0, .ref q11, .ref q12, .ref q13, .ref q14, .ref q15, .ref q16, .ref q17, .null, .null, .null, .int 0, .null, .null, .null, .null, .null, .int 0, .null, .null, .null, .int 0, .null, .null, .null, .int 0, .null, .null, .null, .null, .null, .null, .null, .long 0, .long 0, .long 0, .long 0] f := hV
  refine lv_aload_n hx hb d_Mo_init_116 rfl (lv_at hl 0 rfl) ?_
  refine lv_bipush (v := 15) hx hb d_Mo_init_117 (by decide) ?_
  refine pg_newa (atype := .long) (ty := .long) (N' := 15) (a0 := (15, .inr (.inl (fun _ => 0)))) hx hb (hG _ k763) rfl hK hP hD hS hA (fun _ => rfl) (by decide) (by decide) (by decide) (Nat.le_of_ble_eq_true rfl) (Nat.le_of_ble_eq_true rfl) 7 rfl d_Mo_init_119 (fun q18 H hn hP hD hS => ?_)
  refine pg_putF (C := "SmokeZonesModel") (T := T_Mo) (N := 47) (ty := (.array .long)) hx hb hG in_Mo ty_Mo ok_Mo nm_Mo hown hK hP hD hS (List.mem_append_left _ hV.1.1) ((va_up_ne _ _ (show h0 ≠ q18 from fun e => hn (e ▸ hV.1.1))).trans hV.1.2) rfl 18 (by decide) (hG _ k639) (fun _ h9 => h9) rfl hin rfl (by decide +kernel) rfl rfl (Nat.le_of_ble_eq_true rfl) d_Mo_init_121 (fun H locs hP hD hS => ?_)
  have hV := hV.push (j := 18) (by decide) hn (c := .inl (ct 7, (15, .inr (.inl (fun _ => 0))))) rfl
  generalize va_up (va_up _ q18 _) h0 _ = f at hV hP hD
  generalize L17 ++ [q18] = L18 at hV hP hD
  have hV : MV ct _ L18 [18, 17, 16, 15, 14, 13, 12, 11, 9, 8, 7, 6, 5, 4, 3] h0 [.int 0, .int 0, .int 0, .ref q3, .ref q4, .ref q5, .ref q6, .ref q7, .ref q8, .ref q9, .int 0, .ref q11, .ref q12, .ref q13, .ref q14, .ref q15, .ref q16, .ref q17, .ref q18, .null, .null, .int 0, .null, .null, .null, .null, .null, .int 0, .null, .null, .null, .int 0, .null, .null, .null, .int 0, .null, .null, .null, .null, .null, .null, .null, .long 0, .long 0, .long 0, .long 0] f := hV
  refine lv_aload_n hx hb d_Mo_init_124 rfl (lv_at hl 0 rfl) ?_
  refine lv_bipush (v := 15) hx hb d_Mo_init_125 (by decide) ?_
  refine pg_newa (atype := .long) (ty := .long) (N' := 15) (a0 := (15, .inr (.inl (fun _ => 0)))) hx hb (hG _ k763) rfl hK hP hD hS hA (fun _ => rfl) (by decide) (by decide) (by decide) (Nat.le_of_ble_eq_true rfl) (Nat.le_of_ble_eq_true rfl) 7 rfl d_Mo_init_127 (fun q19 H hn hP hD hS => ?_)
  refine pg_putF (C := "SmokeZonesModel") (T := T_Mo) (N := 47) (ty := (.array .long)) hx hb hG in_Mo ty_Mo ok_Mo nm_Mo hown hK hP hD hS (List.mem_append_left _ hV.1.1) ((va_up_ne _ _ (show h0 ≠ q19 from fun e => hn (e ▸ hV.1.1))).trans hV.1.2) rfl 19 (by decide) (hG _ k640) (fun _ h9 => h9) rfl hin rfl (by decide +kernel) rfl rfl (Nat.le_of_ble_eq_true rfl) d_Mo_init_129 (fun H locs hP hD hS => ?_)
  have hV := hV.push (j := 19) (by decide) hn (c := .inl (ct 7, (15, .inr (.inl (fun _ => 0))))) rfl
  generalize va_up (va_up _ q19 _) h0 _ = f at hV hP hD
  generalize L18 ++ [q19] = L19 at hV hP hD
  have hV : MV ct _ L19 [19, 18, 17, 16, 15, 14, 13, 12, 11, 9, 8, 7, 6, 5, 4, 3] h0 [.int 0, .int 0, .int 0, .ref q3, .ref q4, .ref q5, .ref q6, .ref q7, .ref q8, .ref q9, .int 0, .ref q11, .ref q12, .ref q13, .ref q14, .ref q15, .ref q16, .ref q17, .ref q18, .ref q19, .null, .int 0, .null, .null, .null, .null, .null, .int 0, .null, .null, .null, .int 0, .null, .null, .null, .int 0, .null, .null, .null, .null, .null, .null, .null, .long 0, .long 0, .long 0, .long 0] f := hV
  refine lv_aload_n hx hb d_Mo_init_132 rfl (lv_at hl 0 rfl) ?_
  refine lv_bipush (v := 15) hx hb d_Mo_init_133 (by decide) ?_
  refine pg_newa (atype := .long) (ty := .long) (N' := 15) (a0 := (15, .inr (.inl (fun _ => 0)))) hx hb (hG _ k763) rfl hK hP hD hS hA (fun _ => rfl) (by decide) (by decide) (by decide) (Nat.le_of_ble_eq_true rfl) (Nat.le_of_ble_eq_true rfl) 7 rfl d_Mo_init_135 (fun q20 H hn hP hD hS => ?_)
  refine pg_putF (C := "SmokeZonesModel") (T := T_Mo) (N := 47) (ty := (.array .long)) hx hb hG in_Mo ty_Mo ok_Mo nm_Mo hown hK hP hD hS (List.mem_append_left _ hV.1.1) ((va_up_ne _ _ (show h0 ≠ q20 from fun e => hn (e ▸ hV.1.1))).trans hV.1.2) rfl 20 (by decide) (hG _ k641) (fun _ h9 => h9) rfl hin rfl (by decide +kernel) rfl rfl (Nat.le_of_ble_eq_true rfl) d_Mo_init_137 (fun H locs hP hD hS => ?_)
  have hV := hV.push (j := 20) (by decide) hn (c := .inl (ct 7, (15, .inr (.inl (fun _ => 0))))) rfl
  generalize va_up (va_up _ q20 _) h0 _ = f at hV hP hD
  generalize L19 ++ [q20] = L20 at hV hP hD
  have hV : MV ct _ L20 [20, 19, 18, 17, 16, 15, 14, 13, 12, 11, 9, 8, 7, 6, 5, 4, 3] h0 [.int 0, .int 0, .int 0, .ref q3, .ref q4, .ref q5, .ref q6, .ref q7, .ref q8, .ref q9, .int 0, .ref q11, .ref q12, .ref q13, .ref q14, .ref q15, .ref q16, .ref q17, .ref q18, .ref q19, .ref q20, .int 0, .null, .null, .null, .null, .null, .int 0, .null, .null, .null, .int 0, .null, .null, .null, .int 0, .null, .null, .null, .null, .null, .null, .null, .long 0, .long 0, .long 0, .long 0] f := hV
  refine lv_aload_n hx hb d_Mo_init_140 rfl (lv_at hl 0 rfl) ?_
  refine lv_iconst (v := 5) hx hb d_Mo_init_141 (by decide) ?_
  refine pg_newa (atype := .int) (ty := .int) (N' := 5) (a0 := (5, .inl (fun _ => 0))) hx hb (hG _ k415) rfl hK hP hD hS hA (fun _ => rfl) (by decide) (by decide) (by decide) (Nat.le_of_ble_eq_true rfl) (Nat.le_of_ble_eq_true rfl) 6 rfl d_Mo_init_142 (fun q22 H hn hP hD hS => ?_)
  refine pg_putF (C := "SmokeZonesModel") (T := T_Mo) (N := 47) (ty := (.array .int)) hx hb hG in_Mo ty_Mo ok_Mo nm_Mo hown hK hP hD hS (List.mem_append_left _ hV.1.1) ((va_up_ne _ _ (show h0 ≠ q22 from fun e => hn (e ▸ hV.1.1))).trans hV.1.2) rfl 22 (by decide) (hG _ k643) (fun _ h9 => h9) rfl hin rfl (by decide +kernel) rfl rfl (Nat.le_of_ble_eq_true rfl) d_Mo_init_144 (fun H locs hP hD hS => ?_)
  have hV := hV.push (j := 22) (by decide) hn (c := .inl (ct 6, (5, .inl (fun _ => 0)))) rfl
  generalize va_up (va_up _ q22 _) h0 _ = f at hV hP hD
  generalize L20 ++ [q22] = L22 at hV hP hD
  have hV : MV ct _ L22 [22, 20, 19, 18, 17, 16, 15, 14, 13, 12, 11, 9, 8, 7, 6, 5, 4, 3] h0 [.int 0, .int 0, .int 0, .ref q3, .ref q4, .ref q5, .ref q6, .ref q7, .ref q8, .ref q9, .int 0, .ref q11, .ref q12, .ref q13, .ref q14, .ref q15, .ref q16, .ref q17, .ref q18, .ref q19, .ref q20, .int 0, .ref q22, .null, .null, .null, .null, .int 0, .null, .null, .null, .int 0, .null, .null, .null, .int 0, .null, .null, .null, .null, .null, .null, .null, .long 0, .long 0, .long 0, .long 0] f := hV
  refine lv_aload_n hx hb d_Mo_init_147 rfl (lv_at hl 0 rfl) ?_
  refine lv_iconst (v := 5) hx hb d_Mo_init_148 (by decide) ?_
  refine pg_newa (atype := .int) (ty := .int) (N' := 5) (a0 := (5, .inl (fun _ => 0))) hx hb (hG _ k415) rfl hK hP hD hS hA (fun _ => rfl) (by decide) (by decide) (by decide) (Nat.le_of_ble_eq_true rfl) (Nat.le_of_ble_eq_true rfl) 6 rfl d_Mo_init_149 (fun q23 H hn hP hD hS => ?_)
  refine pg_putF (C := "SmokeZonesModel") (T := T_Mo) (N := 47) (ty := (.array .int)) hx hb hG in_Mo ty_Mo ok_Mo nm_Mo hown hK hP hD hS (List.mem_append_left _ hV.1.1) ((va_up_ne _ _ (show h0 ≠ q23 from fun e => hn (e ▸ hV.1.1))).trans hV.1.2) rfl 23 (by decide) (hG _ k644) (fun _ h9 => h9) rfl hin rfl (by decide +kernel) rfl rfl (Nat.le_of_ble_eq_true rfl) d_Mo_init_151 (fun H locs hP hD hS => ?_)
  have hV := hV.push (j := 23) (by decide) hn (c := .inl (ct 6, (5, .inl (fun _ => 0)))) rfl
  generalize va_up (va_up _ q23 _) h0 _ = f at hV hP hD
  generalize L22 ++ [q23] = L23 at hV hP hD
  have hV : MV ct _ L23 [23, 22, 20, 19, 18, 17, 16, 15, 14, 13, 12, 11, 9, 8, 7, 6, 5, 4, 3] h0 [.int 0, .int 0, .int 0, .ref q3, .ref q4, .ref q5, .ref q6, .ref q7, .ref q8, .ref q9, .int 0, .ref q11, .ref q12, .ref q13, .ref q14, .ref q15, .ref q16, .ref q17, .ref q18, .ref q19, .ref q20, .int 0, .ref q22, .ref q23, .null, .null, .null, .int 0, .null, .null, .null, .int 0, .null, .null, .null, .int 0, .null, .null, .null, .null, .null, .null, .null, .long 0, .long 0, .long 0, .long 0] f := hV
  refine lv_aload_n hx hb d_Mo_init_154 rfl (lv_at hl 0 rfl) ?_
  refine lv_iconst (v := 5) hx hb d_Mo_init_155 (by decide) ?_
  refine pg_newa (atype := .int) (ty := .int) (N' := 5) (a0 := (5, .inl (fun _ => 0))) hx hb (hG _ k415) rfl hK hP hD hS hA (fun _ => rfl) (by decide) (by decide) (by decide) (Nat.le_of_ble_eq_true rfl) (Nat.le_of_ble_eq_true rfl) 6 rfl d_Mo_init_156 (fun q24 H hn hP hD hS => ?_)
  refine pg_putF (C := "SmokeZonesModel") (T := T_Mo) (N := 47) (ty := (.array .int)) hx hb hG in_Mo ty_Mo ok_Mo nm_Mo hown hK hP hD hS (List.mem_append_left _ hV.1.1) ((va_up_ne _ _ (show h0 ≠ q24 from fun e => hn (e ▸ hV.1.1))).trans hV.1.2) rfl 24 (by decide) (hG _ k645) (fun _ h9 => h9) rfl hin rfl (by decide +kernel) rfl rfl (Nat.le_of_ble_eq_true rfl) d_Mo_init_158 (fun H locs hP hD hS => ?_)
  have hV := hV.push (j := 24) (by decide) hn (c := .inl (ct 6, (5, .inl (fun _ => 0)))) rfl
  generalize va_up (va_up _ q24 _) h0 _ = f at hV hP hD
  generalize L23 ++ [q24] = L24 at hV hP hD
  have hV : MV ct _ L24 [24, 23, 22, 20, 19, 18, 17, 16, 15, 14, 13, 12, 11, 9, 8, 7, 6, 5, 4, 3] h0 [.int 0, .int 0, .int 0, .ref q3, .ref q4, .ref q5, .ref q6, .ref q7, .ref q8, .ref q9, .int 0, .ref q11, .ref q12, .ref q13, .ref q14, .ref q15, .ref q16, .ref q17, .ref q18, .ref q19, .ref q20, .int 0, .ref q22, .ref q23, .ref q24, .null, .null, .int 0, .null, .null, .null, .int 0, .null, .null, .null, .int 0, .null, .null, .null, .null, .null, .null, .null, .long 0, .long 0, .long 0, .long 0] f := hV
  refine lv_aload_n hx hb d_Mo_init_161 rfl (lv_at hl 0 rfl) ?_
  refine lv_iconst (v := 5) hx hb d_Mo_init_162 (by decide) ?_
  refine pg_newa (atype := .int) (ty := .int) (N' := 5) (a0 := (5, .inl (fun _ => 0))) hx hb (hG _ k415) rfl hK hP hD hS hA (fun _ => rfl) (by decide) (by decide) (by decide) (Nat.le_of_ble_eq_true rfl) (Nat.le_of_ble_eq_true rfl) 6 rfl d_Mo_init_163 (fun q25 H hn hP hD hS => ?_)
  refine pg_putF (C := "SmokeZonesModel") (T := T_Mo) (N := 47) (ty := (.array .int)) hx hb hG in_Mo ty_Mo ok_Mo nm_Mo hown hK hP hD hS (List.mem_append_left _ hV.1.1) ((va_up_ne _ _ (show h0 ≠ q25 from fun e => hn (e ▸ hV.1.1))).trans hV.1.2) rfl 25 (by decide) (hG _ k646) (fun _ h9 => h9) rfl hin rfl (by decide +kernel) rfl rfl (Nat.le_of_ble_eq_true rfl) d_Mo_init_165 (fun H locs hP hD hS => ?_)
  have hV := hV.push (j := 25) (by decide) hn (c := .inl (ct 6, (5, .inl (fun _ => 0)))) rfl
  generalize va_up (va_up _ q25 _) h0 _ = f at hV hP hD
  generalize L24 ++ [q25] = L25 at hV hP hD
  have hV : MV ct _ L25 [25, 24, 23, 22, 20, 19, 18, 17, 16, 15, 14, 13, 12, 11, 9, 8, 7, 6, 5, 4, 3] h0 [.int 0, .int 0, .int 0, .ref q3, .ref q4, .ref q5, .ref q6, .ref q7, .ref q8, .ref q9, .int 0, .ref q11, .ref q12, .ref q13, .ref q14, .ref q15, .ref q16, .ref q17, .ref q18, .ref q19, .ref q20, .int 0, .ref q22, .ref q23, .ref q24, .ref q25, .null, .int 0, .null, .null, .null, .int 0, .null, .null, .null, .int 0, .null, .null, .null, .null, .null, .null, .null, .long 0, .long 0, .long 0, .long 0] f := hV
  refine lv_aload_n hx hb d_Mo_init_168 rfl (lv_at hl 0 rfl) ?_
  refine lv_iconst (v := 5) hx hb d_Mo_init_169 (by decide) ?_
  refine pg_newa (atype := .int) (ty := .int) (N' := 5) (a0 := (5, .inl (fun _ => 0))) hx hb (hG _ k415) rfl hK hP hD hS hA (fun _ => rfl) (by decide) (by decide) (by decide) (Nat.le_of_ble_eq_true rfl) (Nat.le_of_ble_eq_true rfl) 6 rfl d_Mo_init_170 (fun q26 H hn hP hD hS => ?_)
  refine pg_putF (C := "SmokeZonesModel") (T := T_Mo) (N := 47) (ty := (.array .int)) hx hb hG in_Mo ty_Mo ok_Mo nm_Mo hown hK hP hD hS (List.mem_append_left _ hV.1.1) ((va_up_ne _ _ (show h0 ≠ q26 from fun e => hn (e ▸ hV.1.1))).trans hV.1.2) rfl 26 (by decide) (hG _ k647) (fun _ h9 => h9) rfl hin rfl (by decide +kernel) rfl rfl (Nat.le_of_ble_eq_true rfl) d_Mo_init_172 (fun H locs hP hD hS => ?_)
  have hV := hV.push (j := 26) (by decide) hn (c := .inl (ct 6, (5, .inl (fun _ => 0)))) rfl
  generalize va_up (va_up _ q26 _) h0 _ = f at hV hP hD
  generalize L25 ++ [q26] = L26 at hV hP hD
  have hV : MV ct _ L26 [26, 25, 24, 23, 22, 20, 19, 18, 17, 16, 15, 14, 13, 12, 11, 9, 8, 7, 6, 5, 4, 3] h0 [.int 0, .int 0, .int 0, .ref q3, .ref q4, .ref q5, .ref q6, .ref q7, .ref q8, .ref q9, .int 0, .ref q11, .ref q12, .ref q13, .ref q14, .ref q15, .ref q16, .ref q17, .ref q18, .ref q19, .ref q20, .int 0, .ref q22, .ref q23, .ref q24, .ref q25, .ref q26, .int 0, .null, .null, .null, .int 0, .null, .null, .null, .int 0, .null, .null, .null, .null, .null, .null, .null, .long 0, .long 0, .long 0, .long 0] f := hV
  refine lv_aload_n hx hb d_Mo_init_175 rfl (lv_at hl 0 rfl) ?_
  refine lv_bipush (v := 9) hx hb d_Mo_init_176 (by decide) ?_
  refine pg_newa (atype := .int) (ty := .int) (N' := 9) (a0 := (9, .inl (fun _ => 0))) hx hb (hG _ k415) rfl hK hP hD hS hA (fun _ => rfl) (by decide) (by decide) (by decide) (Nat.le_of_ble_eq_true rfl) (Nat.le_of_ble_eq_true rfl) 6 rfl d_Mo_init_178 (fun q28 H hn hP hD hS => ?_)
  refine pg_putF (C := "SmokeZonesModel") (T := T_Mo) (N := 47) (ty := (.array .int)) hx hb hG in_Mo ty_Mo ok_Mo nm_Mo hown hK hP hD hS (List.mem_append_left _ hV.1.1) ((va_up_ne _ _ (show h0 ≠ q28 from fun e => hn (e ▸ hV.1.1))).trans hV.1.2) rfl 28 (by decide) (hG _ k649) (fun _ h9 => h9) rfl hin rfl (by decide +kernel) rfl rfl (Nat.le_of_ble_eq_true rfl) d_Mo_init_180 (fun H locs hP hD hS => ?_)
  have hV := hV.push (j := 28) (by decide) hn (c := .inl (ct 6, (9, .inl (fun _ => 0)))) rfl
  generalize va_up (va_up _ q28 _) h0 _ = f at hV hP hD
  generalize L26 ++ [q28] = L28 at hV hP hD
  have hV : MV ct _ L28 [28, 26, 25, 24, 23, 22, 20, 19, 18, 17, 16, 15, 14, 13, 12, 11, 9, 8, 7, 6, 5, 4, 3] h0 [.int 0, .int 0, .int 0, .ref q3, .ref q4, .ref q5, .ref q6, .ref q7, .ref q8, .ref q9, .int 0, .ref q11, .ref q12, .ref q13, .ref q14, .ref q15, .ref q16, .ref q17, .ref q18, .ref q19, .ref q20, .int 0, .ref q22, .ref q23, .ref q24, .ref q25, .ref q26, .int 0, .ref q28, .null, .null, .int 0, .null, .null, .null, .int 0, .null, .null, .null, .null, .null, .null, .null, .long 0, .long 0, .long 0, .long 0] f := hV
  refine lv_aload_n hx hb d_Mo_init_183 rfl (lv_at hl 0 rfl) ?_
  refine lv_bipush (v := 9) hx hb d_Mo_init_184 (by decide) ?_
  refine pg_newa (atype := .int) (ty := .int) (N' := 9) (a0 := (9, .inl (fun _ => 0))) hx hb (hG _ k415) rfl hK hP hD hS hA (fun _ => rfl) (by decide) (by decide) (by decide) (Nat.le_of_ble_eq_true rfl) (Nat.le_of_ble_eq_true rfl) 6 rfl d_Mo_init_186 (fun q29 H hn hP hD hS => ?_)
  refine pg_putF (C := "SmokeZonesModel") (T := T_Mo) (N := 47) (ty := (.array .int)) hx hb hG in_Mo ty_Mo ok_Mo nm_Mo hown hK hP hD hS (List.mem_append_left _ hV.1.1) ((va_up_ne _ _ (show h0 ≠ q29 from fun e => hn (e ▸ hV.1.1))).trans hV.1.2) rfl 29 (by decide) (hG _ k650) (fun _ h9 => h9) rfl hin rfl (by decide +kernel) rfl rfl (Nat.le_of_ble_eq_true rfl) d_Mo_init_188 (fun H locs hP hD hS => ?_)
  have hV := hV.push (j := 29) (by decide) hn (c := .inl (ct 6, (9, .inl (fun _ => 0)))) rfl
  generalize va_up (va_up _ q29 _) h0 _ = f at hV hP hD
  generalize L28 ++ [q29] = L29 at hV hP hD
  have hV : MV ct _ L29 [29, 28, 26, 25, 24, 23, 22, 20, 19, 18, 17, 16, 15, 14, 13, 12, 11, 9, 8, 7, 6, 5, 4, 3] h0 [.int 0, .int 0, .int 0, .ref q3, .ref q4, .ref q5, .ref q6, .ref q7, .ref q8, .ref q9, .int 0, .ref q11, .ref q12, .ref q13, .ref q14, .ref q15, .ref q16, .ref q17, .ref q18, .ref q19, .ref q20, .int 0, .ref q22, .ref q23, .ref q24, .ref q25, .ref q26, .int 0, .ref q28, .ref q29, .null, .int 0, .null, .null, .null, .int 0, .null, .null, .null, .null, .null, .null, .null, .long 0, .long 0, .long 0, .long 0] f := hV
  refine lv_aload_n hx hb d_Mo_init_191 rfl (lv_at hl 0 rfl) ?_
  refine lv_bipush (v := 9) hx hb d_Mo_init_192 (by decide) ?_
  refine pg_newa (atype := .int) (ty := .int) (N' := 9) (a0 := (9, .inl (fun _ => 0))) hx hb (hG _ k415) rfl hK hP hD hS hA (fun _ => rfl) (by decide) (by decide) (by decide) (Nat.le_of_ble_eq_true rfl) (Nat.le_of_ble_eq_true rfl) 6 rfl d_Mo_init_194 (fun q30 H hn hP hD hS => ?_)
  refine pg_putF (C := "SmokeZonesModel") (T := T_Mo) (N := 47) (ty := (.array .int)) hx hb hG in_Mo ty_Mo ok_Mo nm_Mo hown hK hP hD hS (List.mem_append_left _ hV.1.1) ((va_up_ne _ _ (show h0 ≠ q30 from fun e => hn (e ▸ hV.1.1))).trans hV.1.2) rfl 30 (by decide) (hG _ k651) (fun _ h9 => h9) rfl hin rfl (by decide +kernel) rfl rfl (Nat.le_of_ble_eq_true rfl) d_Mo_init_196 (fun H locs hP hD hS => ?_)
  have hV := hV.push (j := 30) (by decide) hn (c := .inl (ct 6, (9, .inl (fun _ => 0)))) rfl
  generalize va_up (va_up _ q30 _) h0 _ = f at hV hP hD
  generalize L29 ++ [q30] = L30 at hV hP hD
  have hV : MV ct _ L30 [30, 29, 28, 26, 25, 24, 23, 22, 20, 19, 18, 17, 16, 15, 14, 13, 12, 11, 9, 8, 7, 6, 5, 4, 3] h0 [.int 0, .int 0, .int 0, .ref q3, .ref q4, .ref q5, .ref q6, .ref q7, .ref q8, .ref q9, .int 0, .ref q11, .ref q12, .ref q13, .ref q14, .ref q15, .ref q16, .ref q17, .ref q18, .ref q19, .ref q20, .int 0, .ref q22, .ref q23, .ref q24, .ref q25, .ref q26, .int 0, .ref q28, .ref q29, .ref q30, .int 0, .null, .null, .null, .int 0, .null, .null, .null, .null, .null, .null, .null, .long 0, .long 0, .long 0, .long 0] f := hV
  refine lv_aload_n hx hb d_Mo_init_199 rfl (lv_at hl 0 rfl) ?_
  refine lv_bipush (v := 9) hx hb d_Mo_init_200 (by decide) ?_
  refine pg_newa (atype := .int) (ty := .int) (N' := 9) (a0 := (9, .inl (fun _ => 0))) hx hb (hG _ k415) rfl hK hP hD hS hA (fun _ => rfl) (by decide) (by decide) (by decide) (Nat.le_of_ble_eq_true rfl) (Nat.le_of_ble_eq_true rfl) 6 rfl d_Mo_init_202 (fun q32 H hn hP hD hS => ?_)
  refine pg_putF (C := "SmokeZonesModel") (T := T_Mo) (N := 47) (ty := (.array .int)) hx hb hG in_Mo ty_Mo ok_Mo nm_Mo hown hK hP hD hS (List.mem_append_left _ hV.1.1) ((va_up_ne _ _ (show h0 ≠ q32 from fun e => hn (e ▸ hV.1.1))).trans hV.1.2) rfl 32 (by decide) (hG _ k653) (fun _ h9 => h9) rfl hin rfl (by decide +kernel) rfl rfl (Nat.le_of_ble_eq_true rfl) d_Mo_init_204 (fun H locs hP hD hS => ?_)
  have hV := hV.push (j := 32) (by decide) hn (c := .inl (ct 6, (9, .inl (fun _ => 0)))) rfl
  generalize va_up (va_up _ q32 _) h0 _ = f at hV hP hD
  generalize L30 ++ [q32] = L32 at hV hP hD
  have hV : MV ct _ L32 [32, 30, 29, 28, 26, 25, 24, 23, 22, 20, 19, 18, 17, 16, 15, 14, 13, 12, 11, 9, 8, 7, 6, 5, 4, 3] h0 [.int 0, .int 0, .int 0, .ref q3, .ref q4, .ref q5, .ref q6, .ref q7, .ref q8, .ref q9, .int 0, .ref q11, .ref q12, .ref q13, .ref q14, .ref q15, .ref q16, .ref q17, .ref q18, .ref q19, .ref q20, .int 0, .ref q22, .ref q23, .ref q24, .ref q25, .ref q26, .int 0, .ref q28, .ref q29, .ref q30, .int 0, .ref q32, .null, .null, .int 0, .null, .null, .null, .null, .null, .null, .null, .long 0, .long 0, .long 0, .long 0] f := hV
  refine lv_aload_n hx hb d_Mo_init_207 rfl (lv_at hl 0 rfl) ?_
  refine lv_bipush (v := 9) hx hb d_Mo_init_208 (by decide) ?_
  refine pg_newa (atype := .int) (ty := .int) (N' := 9) (a0 := (9, .inl (fun _ => 0))) hx hb (hG _ k415) rfl hK hP hD hS hA (fun _ => rfl) (by decide) (by decide) (by decide) (Nat.le_of_ble_eq_true rfl) (Nat.le_of_ble_eq_true rfl) 6 rfl d_Mo_init_210 (fun q33 H hn hP hD hS => ?_)
  refine pg_putF (C := "SmokeZonesModel") (T := T_Mo) (N := 47) (ty := (.array .int)) hx hb hG in_Mo ty_Mo ok_Mo nm_Mo hown hK hP hD hS (List.mem_append_left _ hV.1.1) ((va_up_ne _ _ (show h0 ≠ q33 from fun e => hn (e ▸ hV.1.1))).trans hV.1.2) rfl 33 (by decide) (hG _ k654) (fun _ h9 => h9) rfl hin rfl (by decide +kernel) rfl rfl (Nat.le_of_ble_eq_true rfl) d_Mo_init_212 (fun H locs hP hD hS => ?_)
  have hV := hV.push (j := 33) (by decide) hn (c := .inl (ct 6, (9, .inl (fun _ => 0)))) rfl
  generalize va_up (va_up _ q33 _) h0 _ = f at hV hP hD
  generalize L32 ++ [q33] = L33 at hV hP hD
  have hV : MV ct _ L33 [33, 32, 30, 29, 28, 26, 25, 24, 23, 22, 20, 19, 18, 17, 16, 15, 14, 13, 12, 11, 9, 8, 7, 6, 5, 4, 3] h0 [.int 0, .int 0, .int 0, .ref q3, .ref q4, .ref q5, .ref q6, .ref q7, .ref q8, .ref q9, .int 0, .ref q11, .ref q12, .ref q13, .ref q14, .ref q15, .ref q16, .ref q17, .ref q18, .ref q19, .ref q20, .int 0, .ref q22, .ref q23, .ref q24, .ref q25, .ref q26, .int 0, .ref q28, .ref q29, .ref q30, .int 0, .ref q32, .ref q33, .null, .int 0, .null, .null, .null, .null, .null, .null, .null, .long 0, .long 0, .long 0, .long 0] f := hV
  refine lv_aload_n hx hb d_Mo_init_215 rfl (lv_at hl 0 rfl) ?_
  refine lv_bipush (v := 9) hx hb d_Mo_init_216 (by decide) ?_
  refine pg_newa (atype := .long) (ty := .long) (N' := 9) (a0 := (9, .inr (.inl (fun _ => 0)))) hx hb (hG _ k763) rfl hK hP hD hS hA (fun _ => rfl) (by decide) (by decide) (by decide) (Nat.le_of_ble_eq_true rfl) (Nat.le_of_ble_eq_true rfl) 7 rfl d_Mo_init_218 (fun q34 H hn hP hD hS => ?_)
  refine pg_putF (C := "SmokeZonesModel") (T := T_Mo) (N := 47) (ty := (.array .long)) hx hb hG in_Mo ty_Mo ok_Mo nm_Mo hown hK hP hD hS (List.mem_append_left _ hV.1.1) ((va_up_ne _ _ (show h0 ≠ q34 from fun e => hn (e ▸ hV.1.1))).trans hV.1.2) rfl 34 (by decide) (hG _ k655) (fun _ h9 => h9) rfl hin rfl (by decide +kernel) rfl rfl (Nat.le_of_ble_eq_true rfl) d_Mo_init_220 (fun H locs hP hD hS => ?_)
  have hV := hV.push (j := 34) (by decide) hn (c := .inl (ct 7, (9, .inr (.inl (fun _ => 0))))) rfl
  generalize va_up (va_up _ q34 _) h0 _ = f at hV hP hD
  generalize L33 ++ [q34] = L34 at hV hP hD
  have hV : MV ct _ L34 [34, 33, 32, 30, 29, 28, 26, 25, 24, 23, 22, 20, 19, 18, 17, 16, 15, 14, 13, 12, 11, 9, 8, 7, 6, 5, 4, 3] h0 [.int 0, .int 0, .int 0, .ref q3, .ref q4, .ref q5, .ref q6, .ref q7, .ref q8, .ref q9, .int 0, .ref q11, .ref q12, .ref q13, .ref q14, .ref q15, .ref q16, .ref q17, .ref q18, .ref q19, .ref q20, .int 0, .ref q22, .ref q23, .ref q24, .ref q25, .ref q26, .int 0, .ref q28, .ref q29, .ref q30, .int 0, .ref q32, .ref q33, .ref q34, .int 0, .null, .null, .null, .null, .null, .null, .null, .long 0, .long 0, .long 0, .long 0] f := hV
  refine lv_aload_n hx hb d_Mo_init_223 rfl (lv_at hl 0 rfl) ?_
  refine lv_bipush (v := 9) hx hb d_Mo_init_224 (by decide) ?_
  refine pg_newa (atype := .int) (ty := .int) (N' := 9) (a0 := (9, .inl (fun _ => 0))) hx hb (hG _ k415) rfl hK hP hD hS hA (fun _ => rfl) (by decide) (by decide) (by decide) (Nat.le_of_ble_eq_true rfl) (Nat.le_of_ble_eq_true rfl) 6 rfl d_Mo_init_226 (fun q36 H hn hP hD hS => ?_)
  refine pg_putF (C := "SmokeZonesModel") (T := T_Mo) (N := 47) (ty := (.array .int)) hx hb hG in_Mo ty_Mo ok_Mo nm_Mo hown hK hP hD hS (List.mem_append_left _ hV.1.1) ((va_up_ne _ _ (show h0 ≠ q36 from fun e => hn (e ▸ hV.1.1))).trans hV.1.2) rfl 36 (by decide) (hG _ k657) (fun _ h9 => h9) rfl hin rfl (by decide +kernel) rfl rfl (Nat.le_of_ble_eq_true rfl) d_Mo_init_228 (fun H locs hP hD hS => ?_)
  have hV := hV.push (j := 36) (by decide) hn (c := .inl (ct 6, (9, .inl (fun _ => 0)))) rfl
  generalize va_up (va_up _ q36 _) h0 _ = f at hV hP hD
  generalize L34 ++ [q36] = L36 at hV hP hD
  have hV : MV ct _ L36 [36, 34, 33, 32, 30, 29, 28, 26, 25, 24, 23, 22, 20, 19, 18, 17, 16, 15, 14, 13, 12, 11, 9, 8, 7, 6, 5, 4, 3] h0 [.int 0, .int 0, .int 0, .ref q3, .ref q4, .ref q5, .ref q6, .ref q7, .ref q8, .ref q9, .int 0, .ref q11, .ref q12, .ref q13, .ref q14, .ref q15, .ref q16, .ref q17, .ref q18, .ref q19, .ref q20, .int 0, .ref q22, .ref q23, .ref q24, .ref q25, .ref q26, .int 0, .ref q28, .ref q29, .ref q30, .int 0, .ref q32, .ref q33, .ref q34, .int 0, .ref q36, .null, .null, .null, .null, .null, .null, .long 0, .long 0, .long 0, .long 0] f := hV
  refine lv_aload_n hx hb d_Mo_init_231 rfl (lv_at hl 0 rfl) ?_
  refine lv_bipush (v := 9) hx hb d_Mo_init_232 (by decide) ?_
  refine pg_newa (atype := .long) (ty := .long) (N' := 9) (a0 := (9, .inr (.inl (fun _ => 0)))) hx hb (hG _ k763) rfl hK hP hD hS hA (fun _ => rfl) (by decide) (by decide) (by decide) (Nat.le_of_ble_eq_true rfl) (Nat.le_of_ble_eq_true rfl) 7 rfl d_Mo_init_234 (fun q37 H hn hP hD hS => ?_)
  refine pg_putF (C := "SmokeZonesModel") (T := T_Mo) (N := 47) (ty := (.array .long)) hx hb hG in_Mo ty_Mo ok_Mo nm_Mo hown hK hP hD hS (List.mem_append_left _ hV.1.1) ((va_up_ne _ _ (show h0 ≠ q37 from fun e => hn (e ▸ hV.1.1))).trans hV.1.2) rfl 37 (by decide) (hG _ k658) (fun _ h9 => h9) rfl hin rfl (by decide +kernel) rfl rfl (Nat.le_of_ble_eq_true rfl) d_Mo_init_236 (fun H locs hP hD hS => ?_)
  have hV := hV.push (j := 37) (by decide) hn (c := .inl (ct 7, (9, .inr (.inl (fun _ => 0))))) rfl
  generalize va_up (va_up _ q37 _) h0 _ = f at hV hP hD
  generalize L36 ++ [q37] = L37 at hV hP hD
  have hV : MV ct _ L37 [37, 36, 34, 33, 32, 30, 29, 28, 26, 25, 24, 23, 22, 20, 19, 18, 17, 16, 15, 14, 13, 12, 11, 9, 8, 7, 6, 5, 4, 3] h0 [.int 0, .int 0, .int 0, .ref q3, .ref q4, .ref q5, .ref q6, .ref q7, .ref q8, .ref q9, .int 0, .ref q11, .ref q12, .ref q13, .ref q14, .ref q15, .ref q16, .ref q17, .ref q18, .ref q19, .ref q20, .int 0, .ref q22, .ref q23, .ref q24, .ref q25, .ref q26, .int 0, .ref q28, .ref q29, .ref q30, .int 0, .ref q32, .ref q33, .ref q34, .int 0, .ref q36, .ref q37, .null, .null, .null, .null, .null, .long 0, .long 0, .long 0, .long 0] f := hV
  refine lv_aload_n hx hb d_Mo_init_239 rfl (lv_at hl 0 rfl) ?_
  refine lv_bipush (v := 9) hx hb d_Mo_init_240 (by decide) ?_
  refine pg_newa (atype := .int) (ty := .int) (N' := 9) (a0 := (9, .inl (fun _ => 0))) hx hb (hG _ k415) rfl hK hP hD hS hA (fun _ => rfl) (by decide) (by decide) (by decide) (Nat.le_of_ble_eq_true rfl) (Nat.le_of_ble_eq_true rfl) 6 rfl d_Mo_init_242 (fun q38 H hn hP hD hS => ?_)
  refine pg_putF (C := "SmokeZonesModel") (T := T_Mo) (N := 47) (ty := (.array .int)) hx hb hG in_Mo ty_Mo ok_Mo nm_Mo hown hK hP hD hS (List.mem_append_left _ hV.1.1) ((va_up_ne _ _ (show h0 ≠ q38 from fun e => hn (e ▸ hV.1.1))).trans hV.1.2) rfl 38 (by decide) (hG _ k659) (fun _ h9 => h9) rfl hin rfl (by decide +kernel) rfl rfl (Nat.le_of_ble_eq_true rfl) d_Mo_init_244 (fun H locs hP hD hS => ?_)
  have hV := hV.push (j := 38) (by decide) hn (c := .inl (ct 6, (9, .inl (fun _ => 0)))) rfl
  generalize va_up (va_up _ q38 _) h0 _ = f at hV hP hD
  generalize L37 ++ [q38] = L38 at hV hP hD
  have hV : MV ct _ L38 [38, 37, 36, 34, 33, 32, 30, 29, 28, 26, 25, 24, 23, 22, 20, 19, 18, 17, 16, 15, 14, 13, 12, 11, 9, 8, 7, 6, 5, 4, 3] h0 [.int 0, .int 0, .int 0, .ref q3, .ref q4, .ref q5, .ref q6, .ref q7, .ref q8, .ref q9, .int 0, .ref q11, .ref q12, .ref q13, .ref q14, .ref q15, .ref q16, .ref q17, .ref q18, .ref q19, .ref q20, .int 0, .ref q22, .ref q23, .ref q24, .ref q25, .ref q26, .int 0, .ref q28, .ref q29, .ref q30, .int 0, .ref q32, .ref q33, .ref q34, .int 0, .ref q36, .ref q37, .ref q38, .null, .null, .null, .null, .long 0, .long 0, .long 0, .long 0] f := hV
  refine lv_aload_n hx hb d_Mo_init_247 rfl (lv_at hl 0 rfl) ?_
  refine lv_bipush (v := 9) hx hb d_Mo_init_248 (by decide) ?_
  refine pg_newa (atype := .int) (ty := .int) (N' := 9) (a0 := (9, .inl (fun _ => 0))) hx hb (hG _ k415) rfl hK hP hD hS hA (fun _ => rfl) (by decide) (by decide) (by decide) (Nat.le_of_ble_eq_true rfl) (Nat.le_of_ble_eq_true rfl) 6 rfl d_Mo_init_250 (fun q39 H hn hP hD hS => ?_)
  refine pg_putF (C := "SmokeZonesModel") (T := T_Mo) (N := 47) (ty := (.array .int)) hx hb hG in_Mo ty_Mo ok_Mo nm_Mo hown hK hP hD hS (List.mem_append_left _ hV.1.1) ((va_up_ne _ _ (show h0 ≠ q39 from fun e => hn (e ▸ hV.1.1))).trans hV.1.2) rfl 39 (by decide) (hG _ k660) (fun _ h9 => h9) rfl hin rfl (by decide +kernel) rfl rfl (Nat.le_of_ble_eq_true rfl) d_Mo_init_252 (fun H locs hP hD hS => ?_)
  have hV := hV.push (j := 39) (by decide) hn (c := .inl (ct 6, (9, .inl (fun _ => 0)))) rfl
  generalize va_up (va_up _ q39 _) h0 _ = f at hV hP hD
  generalize L38 ++ [q39] = L39 at hV hP hD
  have hV : MV ct _ L39 [39, 38, 37, 36, 34, 33, 32, 30, 29, 28, 26, 25, 24, 23, 22, 20, 19, 18, 17, 16, 15, 14, 13, 12, 11, 9, 8, 7, 6, 5, 4, 3] h0 [.int 0, .int 0, .int 0, .ref q3, .ref q4, .ref q5, .ref q6, .ref q7, .ref q8, .ref q9, .int 0, .ref q11, .ref q12, .ref q13, .ref q14, .ref q15, .ref q16, .ref q17, .ref q18, .ref q19, .ref q20, .int 0, .ref q22, .ref q23, .ref q24, .ref q25, .ref q26, .int 0, .ref q28, .ref q29, .ref q30, .int 0, .ref q32, .ref q33, .ref q34, .int 0, .ref q36, .ref q37, .ref q38, .ref q39, .null, .null, .null, .long 0, .long 0, .long 0, .long 0] f := hV
  refine lv_aload_n hx hb d_Mo_init_255 rfl (lv_at hl 0 rfl) ?_
  refine lv_bipush (v := 9) hx hb d_Mo_init_256 (by decide) ?_
  refine pg_newa (atype := .int) (ty := .int) (N' := 9) (a0 := (9, .inl (fun _ => 0))) hx hb (hG _ k415) rfl hK hP hD hS hA (fun _ => rfl) (by decide) (by decide) (by decide) (Nat.le_of_ble_eq_true rfl) (Nat.le_of_ble_eq_true rfl) 6 rfl d_Mo_init_258 (fun q40 H hn hP hD hS => ?_)
  refine pg_putF (C := "SmokeZonesModel") (T := T_Mo) (N := 47) (ty := (.array .int)) hx hb hG in_Mo ty_Mo ok_Mo nm_Mo hown hK hP hD hS (List.mem_append_left _ hV.1.1) ((va_up_ne _ _ (show h0 ≠ q40 from fun e => hn (e ▸ hV.1.1))).trans hV.1.2) rfl 40 (by decide) (hG _ k661) (fun _ h9 => h9) rfl hin rfl (by decide +kernel) rfl rfl (Nat.le_of_ble_eq_true rfl) d_Mo_init_260 (fun H locs hP hD hS => ?_)
  have hV := hV.push (j := 40) (by decide) hn (c := .inl (ct 6, (9, .inl (fun _ => 0)))) rfl
  generalize va_up (va_up _ q40 _) h0 _ = f at hV hP hD
  generalize L39 ++ [q40] = L40 at hV hP hD
  have hV : MV ct _ L40 [40, 39, 38, 37, 36, 34, 33, 32, 30, 29, 28, 26, 25, 24, 23, 22, 20, 19, 18, 17, 16, 15, 14, 13, 12, 11, 9, 8, 7, 6, 5, 4, 3] h0 [.int 0, .int 0, .int 0, .ref q3, .ref q4, .ref q5, .ref q6, .ref q7, .ref q8, .ref q9, .int 0, .ref q11, .ref q12, .ref q13, .ref q14, .ref q15, .ref q16, .ref q17, .ref q18, .ref q19, .ref q20, .int 0, .ref q22, .ref q23, .ref q24, .ref q25, .ref q26, .int 0, .ref q28, .ref q29, .ref q30, .int 0, .ref q32, .ref q33, .ref q34, .int 0, .ref q36, .ref q37, .ref q38, .ref q39, .ref q40, .null, .null, .long 0, .long 0, .long 0, .long 0] f := hV
  refine lv_aload_n hx hb d_Mo_init_263 rfl (lv_at hl 0 rfl) ?_
  refine lv_sipush (v := 180) hx hb d_Mo_init_264 (by decide) ?_
  refine pg_newa (atype := .int) (ty := .int) (N' := 180) (a0 := (180, .inl (fun _ => 0))) hx hb (hG _ k415) rfl hK hP hD hS hA (fun _ => rfl) (by decide) (by decide) (by decide) (Nat.le_of_ble_eq_true rfl) (Nat.le_of_ble_eq_true rfl) 6 rfl d_Mo_init_267 (fun q41 H hn hP hD hS => ?_)
  refine pg_putF (C := "SmokeZonesModel") (T := T_Mo) (N := 47) (ty := (.array .int)) hx hb hG in_Mo ty_Mo ok_Mo nm_Mo hown hK hP hD hS (List.mem_append_left _ hV.1.1) ((va_up_ne _ _ (show h0 ≠ q41 from fun e => hn (e ▸ hV.1.1))).trans hV.1.2) rfl 41 (by decide) (hG _ k662) (fun _ h9 => h9) rfl hin rfl (by decide +kernel) rfl rfl (Nat.le_of_ble_eq_true rfl) d_Mo_init_269 (fun H locs hP hD hS => ?_)
  have hV := hV.push (j := 41) (by decide) hn (c := .inl (ct 6, (180, .inl (fun _ => 0)))) rfl
  generalize va_up (va_up _ q41 _) h0 _ = f at hV hP hD
  generalize L40 ++ [q41] = L41 at hV hP hD
  have hV : MV ct _ L41 [41, 40, 39, 38, 37, 36, 34, 33, 32, 30, 29, 28, 26, 25, 24, 23, 22, 20, 19, 18, 17, 16, 15, 14, 13, 12, 11, 9, 8, 7, 6, 5, 4, 3] h0 [.int 0, .int 0, .int 0, .ref q3, .ref q4, .ref q5, .ref q6, .ref q7, .ref q8, .ref q9, .int 0, .ref q11, .ref q12, .ref q13, .ref q14, .ref q15, .ref q16, .ref q17, .ref q18, .ref q19, .ref q20, .int 0, .ref q22, .ref q23, .ref q24, .ref q25, .ref q26, .int 0, .ref q28, .ref q29, .ref q30, .int 0, .ref q32, .ref q33, .ref q34, .int 0, .ref q36, .ref q37, .ref q38, .ref q39, .ref q40, .ref q41, .null, .long 0, .long 0, .long 0, .long 0] f := hV
  refine lv_aload_n hx hb d_Mo_init_272 rfl (lv_at hl 0 rfl) ?_
  refine lv_sipush (v := 180) hx hb d_Mo_init_273 (by decide) ?_
  refine pg_newa (atype := .int) (ty := .int) (N' := 180) (a0 := (180, .inl (fun _ => 0))) hx hb (hG _ k415) rfl hK hP hD hS hA (fun _ => rfl) (by decide) (by decide) (by decide) (Nat.le_of_ble_eq_true rfl) (Nat.le_of_ble_eq_true rfl) 6 rfl d_Mo_init_276 (fun q42 H hn hP hD hS => ?_)
  refine pg_putF (C := "SmokeZonesModel") (T := T_Mo) (N := 47) (ty := (.array .int)) hx hb hG in_Mo ty_Mo ok_Mo nm_Mo hown hK hP hD hS (List.mem_append_left _ hV.1.1) ((va_up_ne _ _ (show h0 ≠ q42 from fun e => hn (e ▸ hV.1.1))).trans hV.1.2) rfl 42 (by decide) (hG _ k663) (fun _ h9 => h9) rfl hin rfl (by decide +kernel) rfl rfl (Nat.le_of_ble_eq_true rfl) d_Mo_init_278 (fun H locs hP hD hS => ?_)
  have hV := hV.push (j := 42) (by decide) hn (c := .inl (ct 6, (180, .inl (fun _ => 0)))) rfl
  generalize va_up (va_up _ q42 _) h0 _ = f at hV hP hD
  generalize L41 ++ [q42] = L42 at hV hP hD
  have hV : MV ct _ L42 [42, 41, 40, 39, 38, 37, 36, 34, 33, 32, 30, 29, 28, 26, 25, 24, 23, 22, 20, 19, 18, 17, 16, 15, 14, 13, 12, 11, 9, 8, 7, 6, 5, 4, 3] h0 [.int 0, .int 0, .int 0, .ref q3, .ref q4, .ref q5, .ref q6, .ref q7, .ref q8, .ref q9, .int 0, .ref q11, .ref q12, .ref q13, .ref q14, .ref q15, .ref q16, .ref q17, .ref q18, .ref q19, .ref q20, .int 0, .ref q22, .ref q23, .ref q24, .ref q25, .ref q26, .int 0, .ref q28, .ref q29, .ref q30, .int 0, .ref q32, .ref q33, .ref q34, .int 0, .ref q36, .ref q37, .ref q38, .ref q39, .ref q40, .ref q41, .ref q42, .long 0, .long 0, .long 0, .long 0] f := hV
  have hN : MW ct (va_up (va_up (va_up (va_up (va_up (va_up (va_up (va_up (va_up (va_up (va_up (va_up (va_up (va_up (va_up (va_up (va_up (va_up (va_up (va_up (va_up (va_up (va_up (va_up (va_up (va_up (va_up (va_up (va_up (va_up (va_up (va_up (va_up (va_up (va_up (va_up (fun _ => 0) 3 q3) 4 q4) 5 q5) 6 q6) 7 q7) 8 q8) 9 q9) 11 q11) 12 q12) 13 q13) 14 q14) 15 q15) 16 q16) 17 q17) 18 q18) 19 q19) 20 q20) 22 q22) 23 q23) 24 q24) 25 q25) 26 q26) 28 q28) 29 q29) 30 q30) 32 q32) 33 q33) 34 q34) 36 q36) 37 q37) 38 q38) 39 q39) 40 q40) 41 q41) 42 q42) 100 h0) L42 (fun _ _ => 0) (fun _ _ => 0) f := hV.done (fun j hj => va_up_ne _ _ (by omega)) (va_up_self _ _ _) (by simp [moF, va_up])
  obtain ⟨AM, hN, hA0⟩ : ∃ AM : Nat → Nat, MW ct AM L42 (fun _ _ => 0) (fun _ _ => 0) f ∧ AM 100 = h0 := ⟨_, hN, va_up_self _ 100 h0⟩
  exact W.vret hx hb hret (fun t ht hW => ⟨⟨(AM, L42, f), rfl, ⟨hN, hA0⟩, by rw [ht]; exact hP, va_K.moved hW.alike hK, hD⟩, hS.F ht⟩) hS.2.2 d_Mo_init_281
