/-! the other classes inside: Fan, Fire, Steel, Person, Opening -/
abbrev openE (nr : Nat) (fv : Value) (wi si to gl br : Int32) (fw hf fa : Int64) : va_E := .inr (1, [.ref nr, fv, .int wi, .int si, .int to, .int gl, .int br, .long fw, .long hf, .long fa])
abbrev fireE (pl : Nat) (fs gr mo hz : Int32) : va_E := .inr (2, [.ref pl, .int fs, .int gr, .int mo, .int hz])
abbrev fanE (pl : Nat) (fs ra : Int32) : va_E := .inr (3, [.ref pl, .int fs, .int ra])
abbrev steelE (pl : Nat) (sc te : Int32) : va_E := .inr (4, [.ref pl, .int sc, .int te])
abbrev personE (pl : Int32) (dz be : Int64) (ws wp : Nat) (td lt wk : Int32) : va_E := .inr (5, [.int pl, .long dz, .long be, .ref ws, .ref wp, .int td, .int lt, .int wk])
theorem ne_ci {f : Nat → va_E} {a b i j : Nat} {fs gs : List Value} (ha : f a = .inr (i, fs)) (hb : f b = .inr (j, gs)) (h : i ≠ j) : a ≠ b := fun q => by
  subst q
  rw [ha] at hb
  injection hb with h1
  injection h1 with h2
  exact h h2
theorem ne_ai {f : Nat → va_E} {a b j : Nat} {x : ClassId × vp_A} {gs : List Value} (ha : f a = .inl x) (hb : f b = .inr (j, gs)) : a ≠ b := fun q => by
  subst q
  rw [ha] at hb
  cases hb
theorem nz32' {x : Int32} (h : ¬ x ≤ 0) : ¬ Int32.toInt64 x = 0 := by
  intro q
  have h1 := congrArg Int64.toInt q
  rw [Int32.toInt_toInt64] at h1
  have h4 : (0 : Int64).toInt = 0 := by decide
  apply h
  rw [Int32.le_iff_toInt_le]
  have h3 : (0 : Int32).toInt = 0 := by decide
  omega
def m_bl (ra : Int32) (sm : Int64) : Int64 := m_min (Int32.toInt64 ra) sm
def m_bout (fs t ra : Int32) (sm : Int64) : Int64 := if fs ≤ t then m_bl ra sm else 0
def m_bsm (fs t ra : Int32) (sm : Int64) : Int64 := if fs ≤ t then sm + -(m_bl ra sm) else sm
def m_bht (fs t ra : Int32) (sm ht : Int64) : Int64 := if fs ≤ t then ht + -(m_hw sm ht (m_bl ra sm)) else ht
def m_f0 (fs t gr mo : Int32) : Int64 := m_min (Int32.toInt64 ((t - fs) + 1) * Int32.toInt64 gr) (Int32.toInt64 mo)
def m_f1 (fs t gr mo sa : Int32) : Int64 := if sa = 0 then m_f0 fs t gr mo else m_f0 fs t gr mo / 2
def m_fout (fs t gr mo sa : Int32) : Int64 := if fs ≤ t then m_f1 fs t gr mo sa else 0
def m_fsm (fs t gr mo sa : Int32) (sm : Int64) : Int64 := if fs ≤ t then sm + m_f1 fs t gr mo sa else sm
def m_fht (fs t gr mo hz sa : Int32) (ht : Int64) : Int64 := if fs ≤ t then ht + m_f1 fs t gr mo sa * Int32.toInt64 hz else ht
def m_te (sm ht : Int64) (sc te : Int32) : Int32 := if sc ≤ 0 then te else te + Int64.toInt32 ((m_warmth sm ht - Int32.toInt64 te) / Int32.toInt64 sc)

set_option maxHeartbeats 4000000 in
set_option maxRecDepth 100000 in
theorem c_Fa_blow {l : Launch} {D : va_G} {TY : List (ClassId × FieldType)} {L : List Nat} {f : Nat → va_E} {sz : Nat} {q : Nat} {fs : Int32} {ra : Int32} {r : Nat} {ar : Int32} {he : Int32} {ho : Int64} {sm : Int64} {ht : Int64} {sl : Int32} {sa : Int32} {fl : Int32} {t0 : Int32} (h_q : q ∈ L) (e_q : f q = fanE r fs ra) (h_r : r ∈ L) (e_r : f r = roomE ar he ho sm ht sl sa fl) : Met l y_Fa_blow (WS y_Fa_blow b_Fa_blow 4 (some .long)) { frames := 1, cells := 0, slots := 0, locals := 24 } (va_Pc [.ref q, .int t0] (WP D TY L f sz)) (Xl D TY L (va_up f r (roomE ar he ho (m_bsm fs t0 ra sm) (m_bht fs t0 ra sm ht) sl sa fl)) (AA L f sz) (m_bout fs t0 ra sm)) 0 0 (AA L f sz) := by
  refine Met.ofW (cc := b_Fa_blow) (maxL := 4) (ret := (some .long)) (by decide) rfl ?_
  intro p e s m args below meth c s₁ B hml hv
  obtain ⟨rfl, hsz, hP, hK, hD0⟩ := hv
  subst hsz
  have hx := B.exec
  have hb := B.bytes
  have hret := B.returns
  have hts := atoms_spec (ws := WS y_Fa_blow b_Fa_blow 4 (some .long)) B.pre
  have hG : ∀ w ∈ GW, w.before _ s = true := fun w h => hts w (List.mem_cons_of_mem _ h)
  have hown : s.vm.findClass "SmokeZones$Fan" = some m.cls := findClass_of_methodNamed B.named
  have hlocks := B.notSynchronized
  have hD : va_D (AA L f s.heap.size) (va_pl L f) := hD0.self (sz := s.heap.size)
  generalize hAe : AA L f s.heap.size = A at hD ⊢
  have hA : ∀ q : Nat, s.heap.size ≤ q → A q := fun q h => by rw [← hAe]; exact Or.inr h
  have hS : va_S A s.heap s.heap [] := va_S.rf
  have hl := lv_entry ([.ref q, .int t0]) (n := 4) (Nat.le_of_ble_eq_true rfl)
  rw [lg_entry_eq]
  generalize (lg_sl ([.ref q, .int t0]) ++ List.replicate (4 - (lg_sl ([.ref q, .int t0])).length) Slot.unset).toArray = ls at hl ⊢
  have hl : lv_has ls 4 [(0, .ref q), (1, .int t0)] := hl
  have ne_q_r : q ≠ r := ne_ci e_q e_r (by decide)
  have ne_r_q : r ≠ q := fun q => ne_q_r q.symm
  refine lv_iload_n hx hb d_Fa_blow_0 rfl (lv_at hl 1 rfl) ?_
  refine lv_aload_n hx hb d_Fa_blow_1 rfl (lv_at hl 0 rfl) ?_
  refine pg_get (C := "SmokeZones$Fan") (T := T_Fa) (N := 3) hx hb hG in_Fa hown hK hP h_q e_q rfl 1 (by decide) (hG _ k343) (fun _ h9 => h9) rfl d_Fa_blow_2 ?_
  refine lv_icmp_ge (tgt := 10) hx hb d_Fa_blow_5 (by decide) (fun c_1 => ?_) (fun c_1 => ?_)
  · refine lv_aload_n hx hb d_Fa_blow_10 rfl (lv_at hl 0 rfl) ?_
    refine pg_get (C := "SmokeZones$Fan") (T := T_Fa) (N := 3) hx hb hG in_Fa hown hK hP h_q e_q rfl 2 (by decide) (hG _ k344) (fun _ h9 => h9) rfl d_Fa_blow_11 ?_
    refine lv_i2l hx hb d_Fa_blow_14 rfl ?_
    refine lv_aload_n hx hb d_Fa_blow_15 rfl (lv_at hl 0 rfl) ?_
    refine pg_get (C := "SmokeZones$Fan") (T := T_Fa) (N := 3) hx hb hG in_Fa hown hK hP h_q e_q rfl 0 (by decide) (hG _ k342) (fun _ h9 => h9) rfl d_Fa_blow_16 ?_
    refine pg_get (C := "SmokeZones$Room") (T := T_Ro) (N := 8) hx hb hG in_Ro hown hK hP h_r e_r rfl 3 (by decide) (hG _ k201) (fun _ h9 => h9) rfl d_Fa_blow_19 ?_
    refine va_mmin_long hx hb (hml.trans hl.1.symm) hown (hG _ k507) (hG _ km_min_s) (hG _ k14) (hG _ km_min_c) (Nat.le_of_ble_eq_true rfl) (Nat.le_of_ble_eq_true rfl) (Nat.le_of_ble_eq_true rfl) (Nat.le_of_ble_eq_true rfl) d_Fa_blow_22 ?_
    refine lv_lstore_n (lv' := [(2, .long (m_min (Int32.toInt64 ra) sm)), (0, .ref q), (1, .int t0)]) hx hb d_Fa_blow_25 rfl hl (by decide) rfl (fun ls hl => ?_)
    refine lv_aload_n hx hb d_Fa_blow_26 rfl (lv_at hl 1 rfl) ?_
    refine pg_get (C := "SmokeZones$Fan") (T := T_Fa) (N := 3) hx hb hG in_Fa hown hK hP h_q e_q rfl 0 (by decide) (hG _ k342) (fun _ h9 => h9) rfl d_Fa_blow_27 ?_
    refine lv_lload_n hx hb d_Fa_blow_30 rfl (lv_at hl 0 rfl) ?_
    refine lv_lneg hx hb d_Fa_blow_31 ?_
    refine lv_aload_n hx hb d_Fa_blow_32 rfl (lv_at hl 1 rfl) ?_
    refine pg_get (C := "SmokeZones$Fan") (T := T_Fa) (N := 3) hx hb hG in_Fa hown hK hP h_q e_q rfl 0 (by decide) (hG _ k342) (fun _ h9 => h9) rfl d_Fa_blow_33 ?_
    refine lv_lload_n hx hb d_Fa_blow_36 rfl (lv_at hl 0 rfl) ?_
    refine kV_rl ⟨hx, hb, hml, hown, hG⟩ (c_Ro_heatWith h_r e_r) (cwV 1 hG (gV k508 k488 k489 k8 k490) rfl rfl rfl hd_Ro_heatWith ⟨Nat.le_of_ble_eq_true rfl, Nat.le_of_ble_eq_true rfl⟩) hK hP hS h_r e_r rfl rfl hl.1 rfl (Nat.le_of_ble_eq_true rfl) ⟨Nat.le_of_ble_eq_true rfl, Nat.le_of_ble_eq_true rfl⟩ d_Fa_blow_37 (fun locs hS => ?_)
    refine lv_lneg hx hb d_Fa_blow_40 ?_
    refine kV_wv (f' := va_up f r (.inr (0, [.int ar, .int he, .long ho, .long (sm + (-(m_min (Int32.toInt64 ra) sm))), .long (ht + (-(m_hw sm ht (m_min (Int32.toInt64 ra) sm)))), .int sl, .int sa, .int fl]))) ⟨hx, hb, hml, hown, hG⟩ (c_Ro_add h_r e_r) (cwV 2 hG (gV k509 k451 k452 k8 k453) rfl rfl rfl hd_Ro_add ⟨Nat.le_of_ble_eq_true rfl, Nat.le_of_ble_eq_true rfl⟩) hK hP hD hS hA h_r e_r rfl rfl hl.1 rfl (Nat.le_of_ble_eq_true rfl) ⟨Nat.le_of_ble_eq_true rfl, Nat.le_of_ble_eq_true rfl⟩ d_Fa_blow_41 (fun H locs hP hD hS => ?_)
    have e_2 : (va_up f r (.inr (0, [.int ar, .int he, .long ho, .long (sm + (-(m_min (Int32.toInt64 ra) sm))), .long (ht + (-(m_hw sm ht (m_min (Int32.toInt64 ra) sm)))), .int sl, .int sa, .int fl]))) r = .inr (0, [.int ar, .int he, .long ho, .long (sm + (-(m_min (Int32.toInt64 ra) sm))), .long (ht + (-(m_hw sm ht (m_min (Int32.toInt64 ra) sm)))), .int sl, .int sa, .int fl]) := va_up_self _ _ _
    have e_3 : (va_up f r (.inr (0, [.int ar, .int he, .long ho, .long (sm + (-(m_min (Int32.toInt64 ra) sm))), .long (ht + (-(m_hw sm ht (m_min (Int32.toInt64 ra) sm)))), .int sl, .int sa, .int fl]))) q = .inr (3, [.ref r, .int fs, .int ra]) := (va_up_ne _ _ ne_q_r).trans e_q
    refine lv_lload_n hx hb d_Fa_blow_44 rfl (lv_at hl 0 rfl) ?_
    have hF : (va_up f r (roomE ar he ho (m_bsm fs t0 ra sm) (m_bht fs t0 ra sm ht) sl sa fl)) = (va_up f r (.inr (0, [.int ar, .int he, .long ho, .long (sm + (-(m_min (Int32.toInt64 ra) sm))), .long (ht + (-(m_hw sm ht (m_min (Int32.toInt64 ra) sm)))), .int sl, .int sa, .int fl]))) := by
      (try simp only [m_bout, m_bsm, m_bht, m_bl, m_min, if_pos c_1])
      first | done | exact rfl | exact up_same e_r
    rw [← hF] at hP hD
    exact W.lret hx hb hret (fun t ht hW => ⟨⟨_, (), rfl, (by simp only [m_bout, m_bsm, m_bht, m_bl, m_min, if_pos c_1]), by rw [ht]; exact hP, va_K.moved hW.alike hK, hD⟩, hS.F ht⟩) hS.2.2 d_Fa_blow_45
  · refine lv_lconst (v := 0) hx hb d_Fa_blow_8 (by decide) ?_
    have hF : (va_up f r (roomE ar he ho (m_bsm fs t0 ra sm) (m_bht fs t0 ra sm ht) sl sa fl)) = (f) := by
      (try simp only [m_bout, m_bsm, m_bht, m_bl, m_min, if_neg c_1])
      first | done | exact rfl | exact up_same e_r
    rw [← hF] at hP hD
    exact W.lret hx hb hret (fun t ht hW => ⟨⟨_, (), rfl, (by simp only [m_bout, m_bsm, m_bht, m_bl, m_min, if_neg c_1]), by rw [ht]; exact hP, va_K.moved hW.alike hK, hD⟩, hS.F ht⟩) hS.2.2 d_Fa_blow_9

set_option maxHeartbeats 4000000 in
set_option maxRecDepth 100000 in
theorem c_Fi_burn {l : Launch} {D : va_G} {TY : List (ClassId × FieldType)} {L : List Nat} {f : Nat → va_E} {sz : Nat} {q : Nat} {fs : Int32} {gr : Int32} {mo : Int32} {hz : Int32} {r : Nat} {ar : Int32} {he : Int32} {ho : Int64} {sm : Int64} {ht : Int64} {sl : Int32} {sa : Int32} {fl : Int32} {t0 : Int32} (h_q : q ∈ L) (e_q : f q = fireE r fs gr mo hz) (h_r : r ∈ L) (e_r : f r = roomE ar he ho sm ht sl sa fl) : Met l y_Fi_burn (WS y_Fi_burn b_Fi_burn 6 (some .long)) { frames := 1, cells := 0, slots := 0, locals := 24 } (va_Pc [.ref q, .int t0] (WP D TY L f sz)) (Xl D TY L (va_up f r (roomE ar he ho (m_fsm fs t0 gr mo sa sm) (m_fht fs t0 gr mo hz sa ht) sl sa fl)) (AA L f sz) (m_fout fs t0 gr mo sa)) 0 0 (AA L f sz) := by
  refine Met.ofW (cc := b_Fi_burn) (maxL := 6) (ret := (some .long)) (by decide) rfl ?_
  intro p e s m args below meth c s₁ B hml hv
  obtain ⟨rfl, hsz, hP, hK, hD0⟩ := hv
  subst hsz
  have hx := B.exec
  have hb := B.bytes
  have hret := B.returns
  have hts := atoms_spec (ws := WS y_Fi_burn b_Fi_burn 6 (some .long)) B.pre
  have hG : ∀ w ∈ GW, w.before _ s = true := fun w h => hts w (List.mem_cons_of_mem _ h)
  have hown : s.vm.findClass "SmokeZones$Fire" = some m.cls := findClass_of_methodNamed B.named
  have hlocks := B.notSynchronized
  have hD : va_D (AA L f s.heap.size) (va_pl L f) := hD0.self (sz := s.heap.size)
  generalize hAe : AA L f s.heap.size = A at hD ⊢
  have hA : ∀ q : Nat, s.heap.size ≤ q → A q := fun q h => by rw [← hAe]; exact Or.inr h
  have hS : va_S A s.heap s.heap [] := va_S.rf
  have hl := lv_entry ([.ref q, .int t0]) (n := 6) (Nat.le_of_ble_eq_true rfl)
  rw [lg_entry_eq]
  generalize (lg_sl ([.ref q, .int t0]) ++ List.replicate (6 - (lg_sl ([.ref q, .int t0])).length) Slot.unset).toArray = ls at hl ⊢
  have hl : lv_has ls 6 [(0, .ref q), (1, .int t0)] := hl
  have ne_q_r : q ≠ r := ne_ci e_q e_r (by decide)
  have ne_r_q : r ≠ q := fun q => ne_q_r q.symm
  refine lv_iload_n hx hb d_Fi_burn_0 rfl (lv_at hl 1 rfl) ?_
  refine lv_aload_n hx hb d_Fi_burn_1 rfl (lv_at hl 0 rfl) ?_
  refine pg_get (C := "SmokeZones$Fire") (T := T_Fi) (N := 5) hx hb hG in_Fi hown hK hP h_q e_q rfl 1 (by decide) (hG _ k308) (fun _ h9 => h9) rfl d_Fi_burn_2 ?_
  refine lv_icmp_ge (tgt := 10) hx hb d_Fi_burn_5 (by decide) (fun c_1 => ?_) (fun c_1 => ?_)
  · refine lv_iload_n hx hb d_Fi_burn_10 rfl (lv_at hl 1 rfl) ?_
    refine lv_aload_n hx hb d_Fi_burn_11 rfl (lv_at hl 0 rfl) ?_
    refine pg_get (C := "SmokeZones$Fire") (T := T_Fi) (N := 5) hx hb hG in_Fi hown hK hP h_q e_q rfl 1 (by decide) (hG _ k308) (fun _ h9 => h9) rfl d_Fi_burn_12 ?_
    refine lv_isub hx hb d_Fi_burn_15 ?_
    refine lv_iconst (v := 1) hx hb d_Fi_burn_16 (by decide) ?_
    refine lv_iadd hx hb d_Fi_burn_17 ?_
    refine lv_i2l hx hb d_Fi_burn_18 rfl ?_
    refine lv_lstore_n (lv' := [(2, .long (Int32.toInt64 ((t0 - fs) + 1))), (0, .ref q), (1, .int t0)]) hx hb d_Fi_burn_19 rfl hl (by decide) rfl (fun ls hl => ?_)
    refine lv_lload_n hx hb d_Fi_burn_20 rfl (lv_at hl 0 rfl) ?_
    refine lv_aload_n hx hb d_Fi_burn_21 rfl (lv_at hl 1 rfl) ?_
    refine pg_get (C := "SmokeZones$Fire") (T := T_Fi) (N := 5) hx hb hG in_Fi hown hK hP h_q e_q rfl 2 (by decide) (hG _ k309) (fun _ h9 => h9) rfl d_Fi_burn_22 ?_
    refine lv_i2l hx hb d_Fi_burn_25 rfl ?_
    refine lv_lmul hx hb d_Fi_burn_26 ?_
    refine lv_aload_n hx hb d_Fi_burn_27 rfl (lv_at hl 1 rfl) ?_
    refine pg_get (C := "SmokeZones$Fire") (T := T_Fi) (N := 5) hx hb hG in_Fi hown hK hP h_q e_q rfl 3 (by decide) (hG _ k310) (fun _ h9 => h9) rfl d_Fi_burn_28 ?_
    refine lv_i2l hx hb d_Fi_burn_31 rfl ?_
    refine va_mmin_long hx hb (hml.trans hl.1.symm) hown (hG _ k446) (hG _ km_min_s) (hG _ k14) (hG _ km_min_c) (Nat.le_of_ble_eq_true rfl) (Nat.le_of_ble_eq_true rfl) (Nat.le_of_ble_eq_true rfl) (Nat.le_of_ble_eq_true rfl) d_Fi_burn_32 ?_
    refine lv_lstore (lv' := [(4, .long (m_min ((Int32.toInt64 ((t0 - fs) + 1)) * (Int32.toInt64 gr)) (Int32.toInt64 mo))), (2, .long (Int32.toInt64 ((t0 - fs) + 1))), (0, .ref q), (1, .int t0)]) hx hb d_Fi_burn_35 hl (by decide) rfl (fun ls hl => ?_)
    refine lv_aload_n hx hb d_Fi_burn_37 rfl (lv_at hl 2 rfl) ?_
    refine pg_get (C := "SmokeZones$Fire") (T := T_Fi) (N := 5) hx hb hG in_Fi hown hK hP h_q e_q rfl 0 (by decide) (hG _ k307) (fun _ h9 => h9) rfl d_Fi_burn_38 ?_
    refine pg_get (C := "SmokeZones$Room") (T := T_Ro) (N := 8) hx hb hG in_Ro hown hK hP h_r e_r rfl 6 (by decide) (hG _ k208) (fun _ h9 => h9) rfl d_Fi_burn_41 ?_
    refine lv_if_eq (tgt := 55) hx hb d_Fi_burn_44 (by decide) (fun c_2 => ?_) (fun c_2 => ?_)
    · refine lv_aload_n hx hb d_Fi_burn_55 rfl (lv_at hl 2 rfl) ?_
      refine pg_get (C := "SmokeZones$Fire") (T := T_Fi) (N := 5) hx hb hG in_Fi hown hK hP h_q e_q rfl 0 (by decide) (hG _ k307) (fun _ h9 => h9) rfl d_Fi_burn_56 ?_
      refine lv_lload hx hb d_Fi_burn_59 (lv_at hl 0 rfl) ?_
      refine lv_lload hx hb d_Fi_burn_61 (lv_at hl 0 rfl) ?_
      refine lv_aload_n hx hb d_Fi_burn_63 rfl (lv_at hl 2 rfl) ?_
      refine pg_get (C := "SmokeZones$Fire") (T := T_Fi) (N := 5) hx hb hG in_Fi hown hK hP h_q e_q rfl 4 (by decide) (hG _ k311) (fun _ h9 => h9) rfl d_Fi_burn_64 ?_
      refine lv_i2l hx hb d_Fi_burn_67 rfl ?_
      refine lv_lmul hx hb d_Fi_burn_68 ?_
      refine kV_wv (f' := va_up f r (.inr (0, [.int ar, .int he, .long ho, .long (sm + (m_min ((Int32.toInt64 ((t0 - fs) + 1)) * (Int32.toInt64 gr)) (Int32.toInt64 mo))), .long (ht + ((m_min ((Int32.toInt64 ((t0 - fs) + 1)) * (Int32.toInt64 gr)) (Int32.toInt64 mo)) * (Int32.toInt64 hz))), .int sl, .int sa, .int fl]))) ⟨hx, hb, hml, hown, hG⟩ (c_Ro_add h_r e_r) (cwV 2 hG (gV k450 k451 k452 k8 k453) rfl rfl rfl hd_Ro_add ⟨Nat.le_of_ble_eq_true rfl, Nat.le_of_ble_eq_true rfl⟩) hK hP hD hS hA h_r e_r rfl rfl hl.1 rfl (Nat.le_of_ble_eq_true rfl) ⟨Nat.le_of_ble_eq_true rfl, Nat.le_of_ble_eq_true rfl⟩ d_Fi_burn_69 (fun H locs hP hD hS => ?_)
      have e_3 : (va_up f r (.inr (0, [.int ar, .int he, .long ho, .long (sm + (m_min ((Int32.toInt64 ((t0 - fs) + 1)) * (Int32.toInt64 gr)) (Int32.toInt64 mo))), .long (ht + ((m_min ((Int32.toInt64 ((t0 - fs) + 1)) * (Int32.toInt64 gr)) (Int32.toInt64 mo)) * (Int32.toInt64 hz))), .int sl, .int sa, .int fl]))) r = .inr (0, [.int ar, .int he, .long ho, .long (sm + (m_min ((Int32.toInt64 ((t0 - fs) + 1)) * (Int32.toInt64 gr)) (Int32.toInt64 mo))), .long (ht + ((m_min ((Int32.toInt64 ((t0 - fs) + 1)) * (Int32.toInt64 gr)) (Int32.toInt64 mo)) * (Int32.toInt64 hz))), .int sl, .int sa, .int fl]) := va_up_self _ _ _
      have e_4 : (va_up f r (.inr (0, [.int ar, .int he, .long ho, .long (sm + (m_min ((Int32.toInt64 ((t0 - fs) + 1)) * (Int32.toInt64 gr)) (Int32.toInt64 mo))), .long (ht + ((m_min ((Int32.toInt64 ((t0 - fs) + 1)) * (Int32.toInt64 gr)) (Int32.toInt64 mo)) * (Int32.toInt64 hz))), .int sl, .int sa, .int fl]))) q = .inr (2, [.ref r, .int fs, .int gr, .int mo, .int hz]) := (va_up_ne _ _ ne_q_r).trans e_q
      refine lv_lload hx hb d_Fi_burn_72 (lv_at hl 0 rfl) ?_
      have hF : (va_up f r (roomE ar he ho (m_fsm fs t0 gr mo sa sm) (m_fht fs t0 gr mo hz sa ht) sl sa fl)) = (va_up f r (.inr (0, [.int ar, .int he, .long ho, .long (sm + (m_min ((Int32.toInt64 ((t0 - fs) + 1)) * (Int32.toInt64 gr)) (Int32.toInt64 mo))), .long (ht + ((m_min ((Int32.toInt64 ((t0 - fs) + 1)) * (Int32.toInt64 gr)) (Int32.toInt64 mo)) * (Int32.toInt64 hz))), .int sl, .int sa, .int fl]))) := by
        (try simp only [m_fout, m_fsm, m_fht, m_f1, m_f0, m_min, if_pos c_1, if_pos c_2])
        first | done | exact rfl | exact up_same e_r
      rw [← hF] at hP hD
      exact W.lret hx hb hret (fun t ht hW => ⟨⟨_, (), rfl, (by simp only [m_fout, m_fsm, m_fht, m_f1, m_f0, m_min, if_pos c_1, if_pos c_2]), by rw [ht]; exact hP, va_K.moved hW.alike hK, hD⟩, hS.F ht⟩) hS.2.2 d_Fi_burn_74
    · refine lv_lload hx hb d_Fi_burn_47 (lv_at hl 0 rfl) ?_
      refine lv_ldc2 hx hb hown (hG _ k449) d_Fi_burn_49 ?_
      refine lv_ldiv hx hb d_Fi_burn_52 (by decide) ?_
      refine lv_lstore (lv' := [(4, .long ((m_min ((Int32.toInt64 ((t0 - fs) + 1)) * (Int32.toInt64 gr)) (Int32.toInt64 mo)) / 2)), (2, .long (Int32.toInt64 ((t0 - fs) + 1))), (0, .ref q), (1, .int t0)]) hx hb d_Fi_burn_53 hl (by decide) rfl (fun ls hl => ?_)
      refine lv_aload_n hx hb d_Fi_burn_55 rfl (lv_at hl 2 rfl) ?_
      refine pg_get (C := "SmokeZones$Fire") (T := T_Fi) (N := 5) hx hb hG in_Fi hown hK hP h_q e_q rfl 0 (by decide) (hG _ k307) (fun _ h9 => h9) rfl d_Fi_burn_56 ?_
      refine lv_lload hx hb d_Fi_burn_59 (lv_at hl 0 rfl) ?_
      refine lv_lload hx hb d_Fi_burn_61 (lv_at hl 0 rfl) ?_
      refine lv_aload_n hx hb d_Fi_burn_63 rfl (lv_at hl 2 rfl) ?_
      refine pg_get (C := "SmokeZones$Fire") (T := T_Fi) (N := 5) hx hb hG in_Fi hown hK hP h_q e_q rfl 4 (by decide) (hG _ k311) (fun _ h9 => h9) rfl d_Fi_burn_64 ?_
      refine lv_i2l hx hb d_Fi_burn_67 rfl ?_
      refine lv_lmul hx hb d_Fi_burn_68 ?_
      refine kV_wv (f' := va_up f r (.inr (0, [.int ar, .int he, .long ho, .long (sm + ((m_min ((Int32.toInt64 ((t0 - fs) + 1)) * (Int32.toInt64 gr)) (Int32.toInt64 mo)) / 2)), .long (ht + (((m_min ((Int32.toInt64 ((t0 - fs) + 1)) * (Int32.toInt64 gr)) (Int32.toInt64 mo)) / 2) * (Int32.toInt64 hz))), .int sl, .int sa, .int fl]))) ⟨hx, hb, hml, hown, hG⟩ (c_Ro_add h_r e_r) (cwV 2 hG (gV k450 k451 k452 k8 k453) rfl rfl rfl hd_Ro_add ⟨Nat.le_of_ble_eq_true rfl, Nat.le_of_ble_eq_true rfl⟩) hK hP hD hS hA h_r e_r rfl rfl hl.1 rfl (Nat.le_of_ble_eq_true rfl) ⟨Nat.le_of_ble_eq_true rfl, Nat.le_of_ble_eq_true rfl⟩ d_Fi_burn_69 (fun H locs hP hD hS => ?_)
      have e_5 : (va_up f r (.inr (0, [.int ar, .int he, .long ho, .long (sm + ((m_min ((Int32.toInt64 ((t0 - fs) + 1)) * (Int32.toInt64 gr)) (Int32.toInt64 mo)) / 2)), .long (ht + (((m_min ((Int32.toInt64 ((t0 - fs) + 1)) * (Int32.toInt64 gr)) (Int32.toInt64 mo)) / 2) * (Int32.toInt64 hz))), .int sl, .int sa, .int fl]))) r = .inr (0, [.int ar, .int he, .long ho, .long (sm + ((m_min ((Int32.toInt64 ((t0 - fs) + 1)) * (Int32.toInt64 gr)) (Int32.toInt64 mo)) / 2)), .long (ht + (((m_min ((Int32.toInt64 ((t0 - fs) + 1)) * (Int32.toInt64 gr)) (Int32.toInt64 mo)) / 2) * (Int32.toInt64 hz))), .int sl, .int sa, .int fl]) := va_up_self _ _ _
      have e_6 : (va_up f r (.inr (0, [.int ar, .int he, .long ho, .long (sm + ((m_min ((Int32.toInt64 ((t0 - fs) + 1)) * (Int32.toInt64 gr)) (Int32.toInt64 mo)) / 2)), .long (ht + (((m_min ((Int32.toInt64 ((t0 - fs) + 1)) * (Int32.toInt64 gr)) (Int32.toInt64 mo)) / 2) * (Int32.toInt64 hz))), .int sl, .int sa, .int fl]))) q = .inr (2, [.ref r, .int fs, .int gr, .int mo, .int hz]) := (va_up_ne _ _ ne_q_r).trans e_q
      refine lv_lload hx hb d_Fi_burn_72 (lv_at hl 0 rfl) ?_
      have hF : (va_up f r (roomE ar he ho (m_fsm fs t0 gr mo sa sm) (m_fht fs t0 gr mo hz sa ht) sl sa fl)) = (va_up f r (.inr (0, [.int ar, .int he, .long ho, .long (sm + ((m_min ((Int32.toInt64 ((t0 - fs) + 1)) * (Int32.toInt64 gr)) (Int32.toInt64 mo)) / 2)), .long (ht + (((m_min ((Int32.toInt64 ((t0 - fs) + 1)) * (Int32.toInt64 gr)) (Int32.toInt64 mo)) / 2) * (Int32.toInt64 hz))), .int sl, .int sa, .int fl]))) := by
        (try simp only [m_fout, m_fsm, m_fht, m_f1, m_f0, m_min, if_pos c_1, if_neg c_2])
        first | done | exact rfl | exact up_same e_r
      rw [← hF] at hP hD
      exact W.lret hx hb hret (fun t ht hW => ⟨⟨_, (), rfl, (by simp only [m_fout, m_fsm, m_fht, m_f1, m_f0, m_min, if_pos c_1, if_neg c_2]), by rw [ht]; exact hP, va_K.moved hW.alike hK, hD⟩, hS.F ht⟩) hS.2.2 d_Fi_burn_74
  · refine lv_lconst (v := 0) hx hb d_Fi_burn_8 (by decide) ?_
    have hF : (va_up f r (roomE ar he ho (m_fsm fs t0 gr mo sa sm) (m_fht fs t0 gr mo hz sa ht) sl sa fl)) = (f) := by
      (try simp only [m_fout, m_fsm, m_fht, m_f1, m_f0, m_min, if_neg c_1])
      first | done | exact rfl | exact up_same e_r
    rw [← hF] at hP hD
    exact W.lret hx hb hret (fun t ht hW => ⟨⟨_, (), rfl, (by simp only [m_fout, m_fsm, m_fht, m_f1, m_f0, m_min, if_neg c_1]), by rw [ht]; exact hP, va_K.moved hW.alike hK, hD⟩, hS.F ht⟩) hS.2.2 d_Fi_burn_9

set_option maxHeartbeats 4000000 in
set_option maxRecDepth 100000 in
theorem c_St_getWarm {l : Launch} {D : va_G} {TY : List (ClassId × FieldType)} {L : List Nat} {f : Nat → va_E} {sz : Nat} {q : Nat} {sc : Int32} {te : Int32} {r : Nat} {ar : Int32} {he : Int32} {ho : Int64} {sm : Int64} {ht : Int64} {sl : Int32} {sa : Int32} {fl : Int32} (h_q : q ∈ L) (e_q : f q = steelE r sc te) (h_r : r ∈ L) (e_r : f r = roomE ar he ho sm ht sl sa fl) : Met l y_St_getWarm (WS y_St_getWarm b_St_getWarm 1 none) { frames := 1, cells := 0, slots := 0, locals := 20 } (va_Pc [.ref q] (WP D TY L f sz)) (Xv D TY L (va_up f q (steelE r sc (m_te sm ht sc te))) (AA L f sz)) 0 0 (AA L f sz) := by
  refine Met.ofW (cc := b_St_getWarm) (maxL := 1) (ret := none) (by decide) rfl ?_
  intro p e s m args below meth c s₁ B hml hv
  obtain ⟨rfl, hsz, hP, hK, hD0⟩ := hv
  subst hsz
  have hx := B.exec
  have hb := B.bytes
  have hret := B.returns
  have hts := atoms_spec (ws := WS y_St_getWarm b_St_getWarm 1 none) B.pre
  have hG : ∀ w ∈ GW, w.before _ s = true := fun w h => hts w (List.mem_cons_of_mem _ h)
  have hown : s.vm.findClass "SmokeZones$Steel" = some m.cls := findClass_of_methodNamed B.named
  have hlocks := B.notSynchronized
  have hD : va_D (AA L f s.heap.size) (va_pl L f) := hD0.self (sz := s.heap.size)
  generalize hAe : AA L f s.heap.size = A at hD ⊢
  have hA : ∀ q : Nat, s.heap.size ≤ q → A q := fun q h => by rw [← hAe]; exact Or.inr h
  have hS : va_S A s.heap s.heap [] := va_S.rf
  have hl := lv_entry ([.ref q]) (n := 1) (Nat.le_of_ble_eq_true rfl)
  rw [lg_entry_eq]
  generalize (lg_sl ([.ref q]) ++ List.replicate (1 - (lg_sl ([.ref q])).length) Slot.unset).toArray = ls at hl ⊢
  have hl : lv_has ls 1 [(0, .ref q)] := hl
  have ne_q_r : q ≠ r := ne_ci e_q e_r (by decide)
  have ne_r_q : r ≠ q := fun q => ne_q_r q.symm
  refine lv_aload_n hx hb d_St_getWarm_0 rfl (lv_at hl 0 rfl) ?_
  refine pg_get (C := "SmokeZones$Steel") (T := T_St) (N := 3) hx hb hG in_St hown hK hP h_q e_q rfl 1 (by decide) (hG _ k365) (fun _ h9 => h9) rfl d_St_getWarm_1 ?_
  refine lv_if_le (tgt := 36) hx hb d_St_getWarm_4 (by decide) (fun c_1 => ?_) (fun c_1 => ?_)
  · have hF : (va_up f q (steelE r sc (m_te sm ht sc te))) = (f) := by
      (try simp only [m_te, if_pos c_1])
      first | done | exact rfl | exact up_same e_q
    rw [← hF] at hP hD
    exact W.vret hx hb hret (fun t ht hW => ⟨⟨(), rfl, trivial, by rw [ht]; exact hP, va_K.moved hW.alike hK, hD⟩, hS.F ht⟩) hS.2.2 d_St_getWarm_36
  · refine lv_aload_n hx hb d_St_getWarm_7 rfl (lv_at hl 0 rfl) ?_
    refine lv_dup hx hb d_St_getWarm_8 rfl ?_
    refine pg_get (C := "SmokeZones$Steel") (T := T_St) (N := 3) hx hb hG in_St hown hK hP h_q e_q rfl 2 (by decide) (hG _ k366) (fun _ h9 => h9) rfl d_St_getWarm_9 ?_
    refine lv_aload_n hx hb d_St_getWarm_12 rfl (lv_at hl 0 rfl) ?_
    refine pg_get (C := "SmokeZones$Steel") (T := T_St) (N := 3) hx hb hG in_St hown hK hP h_q e_q rfl 0 (by decide) (hG _ k364) (fun _ h9 => h9) rfl d_St_getWarm_13 ?_
    refine kV_rl ⟨hx, hb, hml, hown, hG⟩ (c_Ro_warmth h_r e_r) (cwV 0 hG (gV k544 k528 k529 k8 k530) rfl rfl rfl hd_Ro_warmth ⟨Nat.le_of_ble_eq_true rfl, Nat.le_of_ble_eq_true rfl⟩) hK hP hS h_r e_r rfl rfl hl.1 rfl (Nat.le_of_ble_eq_true rfl) ⟨Nat.le_of_ble_eq_true rfl, Nat.le_of_ble_eq_true rfl⟩ d_St_getWarm_16 (fun locs hS => ?_)
    refine lv_aload_n hx hb d_St_getWarm_19 rfl (lv_at hl 0 rfl) ?_
    refine pg_get (C := "SmokeZones$Steel") (T := T_St) (N := 3) hx hb hG in_St hown hK hP h_q e_q rfl 2 (by decide) (hG _ k366) (fun _ h9 => h9) rfl d_St_getWarm_20 ?_
    refine lv_i2l hx hb d_St_getWarm_23 rfl ?_
    refine lv_lsub hx hb d_St_getWarm_24 ?_
    refine lv_aload_n hx hb d_St_getWarm_25 rfl (lv_at hl 0 rfl) ?_
    refine pg_get (C := "SmokeZones$Steel") (T := T_St) (N := 3) hx hb hG in_St hown hK hP h_q e_q rfl 1 (by decide) (hG _ k365) (fun _ h9 => h9) rfl d_St_getWarm_26 ?_
    refine lv_i2l hx hb d_St_getWarm_29 rfl ?_
    refine lv_ldiv hx hb d_St_getWarm_30 (nz32' c_1) ?_
    refine lv_l2i hx hb d_St_getWarm_31 rfl ?_
    refine lv_iadd hx hb d_St_getWarm_32 ?_
    refine pg_put (C := "SmokeZones$Steel") (T := T_St) (N := 3) (ty := .int) hx hb hG in_St ty_St ok_St nm_St hown hK hP hD hS h_q e_q rfl 2 (by decide) (hG _ k366) (fun _ h9 => h9) rfl (by decide +kernel) rfl rfl (Nat.le_of_ble_eq_true rfl) d_St_getWarm_33 (fun H locs hP hD hS => ?_)
    have hP : va_P D vwCl (va_pl L (va_up f q (.inr (4, [.ref r, .int sc, .int (te + (Int64.toInt32 (((m_warmth sm ht) - (Int32.toInt64 te)) / (Int32.toInt64 sc))))])))) H := hP
    have hD : va_D A (va_pl L (va_up f q (.inr (4, [.ref r, .int sc, .int (te + (Int64.toInt32 (((m_warmth sm ht) - (Int32.toInt64 te)) / (Int32.toInt64 sc))))])))) := hD
    have e_2 : (va_up f q (.inr (4, [.ref r, .int sc, .int (te + (Int64.toInt32 (((m_warmth sm ht) - (Int32.toInt64 te)) / (Int32.toInt64 sc))))]))) q = .inr (4, [.ref r, .int sc, .int (te + (Int64.toInt32 (((m_warmth sm ht) - (Int32.toInt64 te)) / (Int32.toInt64 sc))))]) := va_up_self _ _ _
    have e_3 : (va_up f q (.inr (4, [.ref r, .int sc, .int (te + (Int64.toInt32 (((m_warmth sm ht) - (Int32.toInt64 te)) / (Int32.toInt64 sc))))]))) r = .inr (0, [.int ar, .int he, .long ho, .long sm, .long ht, .int sl, .int sa, .int fl]) := (va_up_ne _ _ ne_r_q).trans e_r
    have hF : (va_up f q (steelE r sc (m_te sm ht sc te))) = (va_up f q (.inr (4, [.ref r, .int sc, .int (te + (Int64.toInt32 (((m_warmth sm ht) - (Int32.toInt64 te)) / (Int32.toInt64 sc))))]))) := by
      (try simp only [m_te, if_neg c_1])
      first | done | exact rfl | exact up_same e_q
    rw [← hF] at hP hD
    exact W.vret hx hb hret (fun t ht hW => ⟨⟨(), rfl, trivial, by rw [ht]; exact hP, va_K.moved hW.alike hK, hD⟩, hS.F ht⟩) hS.2.2 d_St_getWarm_36

def m_open (gl br : Int32) : Int32 := if gl = (-1) then 1 else if br = 0 then 0 else 1
def m_ff (wi : Int32) (sm df : Int64) : Int64 := m_min (Int32.toInt64 (5 * wi) * df) (sm / 16)
def m_hot (sm ht : Int64) (gl : Int32) : Int32 := if m_warmth sm ht < Int32.toInt64 gl then 0 else 1

set_option maxHeartbeats 4000000 in
set_option maxRecDepth 100000 in
theorem c_Op_isOpen {l : Launch} {D : va_G} {TY : List (ClassId × FieldType)} {L : List Nat} {f : Nat → va_E} {H : Heap} {q : Nat} {nr : Nat} {fv : Value} {wi : Int32} {si : Int32} {to : Int32} {gl : Int32} {br : Int32} {fw : Int64} {hf : Int64} {fa : Int64} (h_q : q ∈ L) (e_q : f q = openE nr fv wi si to gl br fw hf fa) : Met l y_Op_isOpen (WS y_Op_isOpen b_Op_isOpen 1 (some .boolean)) { frames := 0, cells := 0, slots := 0, locals := 0 } (va_Pc [.ref q] (RP D TY L f H)) (Qi (m_open gl br) H) 0 0 No := by
  refine Met.ofW (cc := b_Op_isOpen) (maxL := 1) (ret := (some .boolean)) (by decide) rfl ?_
  intro p e s m args below meth c s₁ B hml hv
  obtain ⟨rfl, hH, hP, hK⟩ := hv
  subst hH
  have hx := B.exec
  have hb := B.bytes
  have hret := B.returns
  have hts := atoms_spec (ws := WS y_Op_isOpen b_Op_isOpen 1 (some .boolean)) B.pre
  have hG : ∀ w ∈ GW, w.before _ s = true := fun w h => hts w (List.mem_cons_of_mem _ h)
  have hown : s.vm.findClass "SmokeZones$Opening" = some m.cls := findClass_of_methodNamed B.named
  have hlocks := B.notSynchronized
  have hS : va_S No s.heap s.heap [] := va_S.rf
  have hl := lv_entry ([.ref q]) (n := 1) (Nat.le_of_ble_eq_true rfl)
  rw [lg_entry_eq]
  generalize (lg_sl ([.ref q]) ++ List.replicate (1 - (lg_sl ([.ref q])).length) Slot.unset).toArray = ls at hl ⊢
  have hl : lv_has ls 1 [(0, .ref q)] := hl
  refine lv_aload_n hx hb d_Op_isOpen_0 rfl (lv_at hl 0 rfl) ?_
  refine pg_get (C := "SmokeZones$Opening") (T := T_Op) (N := 10) hx hb hG in_Op hown hK hP h_q e_q rfl 5 (by decide) (hG _ k258) (fun _ h9 => h9) rfl d_Op_isOpen_1 ?_
  refine lv_iconst (v := (-1)) hx hb d_Op_isOpen_4 (by decide) ?_
  refine lv_icmp_eq (tgt := 15) hx hb d_Op_isOpen_5 (by decide) (fun c_1 => ?_) (fun c_1 => ?_)
  · refine lv_iconst (v := 1) hx hb d_Op_isOpen_15 (by decide) ?_
    refine lv_goto (tgt := 20) hx hb d_Op_isOpen_16 (by decide) ?_
    exact W.zret hx hb hret rfl (fun t ht hW => ⟨⟨_, (), rfl, (by simp only [m_open, if_pos c_1]), ht⟩, hS.F ht⟩) hS.2.2 d_Op_isOpen_20
  · refine lv_aload_n hx hb d_Op_isOpen_8 rfl (lv_at hl 0 rfl) ?_
    refine pg_get (C := "SmokeZones$Opening") (T := T_Op) (N := 10) hx hb hG in_Op hown hK hP h_q e_q rfl 6 (by decide) (hG _ k260) (fun _ h9 => h9) rfl d_Op_isOpen_9 ?_
    refine lv_if_eq (tgt := 19) hx hb d_Op_isOpen_12 (by decide) (fun c_2 => ?_) (fun c_2 => ?_)
    · refine lv_iconst (v := 0) hx hb d_Op_isOpen_19 (by decide) ?_
      exact W.zret hx hb hret rfl (fun t ht hW => ⟨⟨_, (), rfl, (by simp only [m_open, if_neg c_1, if_pos c_2]), ht⟩, hS.F ht⟩) hS.2.2 d_Op_isOpen_20
    · refine lv_iconst (v := 1) hx hb d_Op_isOpen_15 (by decide) ?_
      refine lv_goto (tgt := 20) hx hb d_Op_isOpen_16 (by decide) ?_
      exact W.zret hx hb hret rfl (fun t ht hW => ⟨⟨_, (), rfl, (by simp only [m_open, if_neg c_1, if_neg c_2]), ht⟩, hS.F ht⟩) hS.2.2 d_Op_isOpen_20

set_option maxHeartbeats 4000000 in
set_option maxRecDepth 100000 in
theorem c_Op_flowFrom {l : Launch} {D : va_G} {TY : List (ClassId × FieldType)} {L : List Nat} {f : Nat → va_E} {H : Heap} {q : Nat} {nr : Nat} {fv : Value} {wi : Int32} {si : Int32} {to : Int32} {gl : Int32} {br : Int32} {fw : Int64} {hf : Int64} {fa : Int64} {r : Nat} {ar : Int32} {he : Int32} {ho : Int64} {sm : Int64} {ht : Int64} {sl : Int32} {sa : Int32} {fl : Int32} {df : Int64} (h_q : q ∈ L) (e_q : f q = openE nr fv wi si to gl br fw hf fa) (h_r : r ∈ L) (e_r : f r = roomE ar he ho sm ht sl sa fl) : Met l y_Op_flowFrom (WS y_Op_flowFrom b_Op_flowFrom 4 (some .long)) { frames := 1, cells := 0, slots := 0, locals := 15 } (va_Pc [.ref q, .ref r, .long df] (RP D TY L f H)) (Ql (m_ff wi sm df) H) 0 0 No := by
  refine Met.ofW (cc := b_Op_flowFrom) (maxL := 4) (ret := (some .long)) (by decide) rfl ?_
  intro p e s m args below meth c s₁ B hml hv
  obtain ⟨rfl, hH, hP, hK⟩ := hv
  subst hH
  have hx := B.exec
  have hb := B.bytes
  have hret := B.returns
  have hts := atoms_spec (ws := WS y_Op_flowFrom b_Op_flowFrom 4 (some .long)) B.pre
  have hG : ∀ w ∈ GW, w.before _ s = true := fun w h => hts w (List.mem_cons_of_mem _ h)
  have hown : s.vm.findClass "SmokeZones$Opening" = some m.cls := findClass_of_methodNamed B.named
  have hlocks := B.notSynchronized
  have hS : va_S No s.heap s.heap [] := va_S.rf
  have hl := lv_entry ([.ref q, .ref r, .long df]) (n := 4) (Nat.le_of_ble_eq_true rfl)
  rw [lg_entry_eq]
  generalize (lg_sl ([.ref q, .ref r, .long df]) ++ List.replicate (4 - (lg_sl ([.ref q, .ref r, .long df])).length) Slot.unset).toArray = ls at hl ⊢
  have hl : lv_has ls 4 [(0, .ref q), (1, .ref r), (2, .long df)] := hl
  refine lv_iconst (v := 5) hx hb d_Op_flowFrom_0 (by decide) ?_
  refine lv_aload_n hx hb d_Op_flowFrom_1 rfl (lv_at hl 0 rfl) ?_
  refine pg_get (C := "SmokeZones$Opening") (T := T_Op) (N := 10) hx hb hG in_Op hown hK hP h_q e_q rfl 2 (by decide) (hG _ k255) (fun _ h9 => h9) rfl d_Op_flowFrom_2 ?_
  refine lv_imul hx hb d_Op_flowFrom_5 ?_
  refine lv_i2l hx hb d_Op_flowFrom_6 rfl ?_
  refine lv_lload_n hx hb d_Op_flowFrom_7 rfl (lv_at hl 2 rfl) ?_
  refine lv_lmul hx hb d_Op_flowFrom_8 ?_
  refine lv_aload_n hx hb d_Op_flowFrom_9 rfl (lv_at hl 1 rfl) ?_
  refine pg_get (C := "SmokeZones$Room") (T := T_Ro) (N := 8) hx hb hG in_Ro hown hK hP h_r e_r rfl 3 (by decide) (hG _ k202) (fun _ h9 => h9) rfl d_Op_flowFrom_10 ?_
  refine lv_ldc2 hx hb hown (hG _ k485) d_Op_flowFrom_13 ?_
  refine lv_ldiv hx hb d_Op_flowFrom_16 (by decide) ?_
  refine va_mmin_long hx hb (hml.trans hl.1.symm) hown (hG _ k486) (hG _ km_min_s) (hG _ k14) (hG _ km_min_c) (Nat.le_of_ble_eq_true rfl) (Nat.le_of_ble_eq_true rfl) (Nat.le_of_ble_eq_true rfl) (Nat.le_of_ble_eq_true rfl) d_Op_flowFrom_17 ?_
  exact W.lret hx hb hret (fun t ht hW => ⟨⟨_, (), rfl, rfl, ht⟩, hS.F ht⟩) hS.2.2 d_Op_flowFrom_20

set_option maxHeartbeats 4000000 in
set_option maxRecDepth 100000 in
theorem c_Op_isHot_s {l : Launch} {D : va_G} {TY : List (ClassId × FieldType)} {L : List Nat} {f : Nat → va_E} {H : Heap} {q : Nat} {nr : Nat} {fv : Value} {wi : Int32} {si : Int32} {to : Int32} {gl : Int32} {br : Int32} {fw : Int64} {hf : Int64} {fa : Int64} {r : Nat} {ar : Int32} {he : Int32} {ho : Int64} {sm : Int64} {ht : Int64} {sl : Int32} {sa : Int32} {fl : Int32} (h_q : q ∈ L) (e_q : f q = openE nr fv wi si to gl br fw hf fa) (h_r : r ∈ L) (e_r : f r = roomE ar he ho sm ht sl sa fl) : Met l y_Op_isHot (WS y_Op_isHot b_Op_isHot 2 (some .boolean)) { frames := 1, cells := 0, slots := 0, locals := 20 } (va_Pc [.ref q, .ref r] (RP D TY L f H)) (Qi (m_hot sm ht gl) H) 0 0 No := by
  refine Met.ofW (cc := b_Op_isHot) (maxL := 2) (ret := (some .boolean)) (by decide) rfl ?_
  intro p e s m args below meth c s₁ B hml hv
  obtain ⟨rfl, hH, hP, hK⟩ := hv
  subst hH
  have hx := B.exec
  have hb := B.bytes
  have hret := B.returns
  have hts := atoms_spec (ws := WS y_Op_isHot b_Op_isHot 2 (some .boolean)) B.pre
  have hG : ∀ w ∈ GW, w.before _ s = true := fun w h => hts w (List.mem_cons_of_mem _ h)
  have hown : s.vm.findClass "SmokeZones$Opening" = some m.cls := findClass_of_methodNamed B.named
  have hlocks := B.notSynchronized
  have hS : va_S No s.heap s.heap [] := va_S.rf
  have hl := lv_entry ([.ref q, .ref r]) (n := 2) (Nat.le_of_ble_eq_true rfl)
  rw [lg_entry_eq]
  generalize (lg_sl ([.ref q, .ref r]) ++ List.replicate (2 - (lg_sl ([.ref q, .ref r])).length) Slot.unset).toArray = ls at hl ⊢
  have hl : lv_has ls 2 [(0, .ref q), (1, .ref r)] := hl
  refine lv_aload_n hx hb d_Op_isHot_0 rfl (lv_at hl 1 rfl) ?_
  refine lv_ifnull hx hb d_Op_isHot_1 ?_
  refine lv_aload_n hx hb d_Op_isHot_4 rfl (lv_at hl 1 rfl) ?_
  refine kV_rl ⟨hx, hb, hml, hown, hG⟩ (c_Ro_warmth h_r e_r) (cwV 0 hG (gV k539 k528 k529 k8 k530) rfl rfl rfl hd_Ro_warmth ⟨Nat.le_of_ble_eq_true rfl, Nat.le_of_ble_eq_true rfl⟩) hK hP hS h_r e_r rfl rfl hl.1 rfl (Nat.le_of_ble_eq_true rfl) ⟨Nat.le_of_ble_eq_true rfl, Nat.le_of_ble_eq_true rfl⟩ d_Op_isHot_5 (fun locs hS => ?_)
  refine lv_aload_n hx hb d_Op_isHot_8 rfl (lv_at hl 0 rfl) ?_
  refine pg_get (C := "SmokeZones$Opening") (T := T_Op) (N := 10) hx hb hG in_Op hown hK hP h_q e_q rfl 5 (by decide) (hG _ k258) (fun _ h9 => h9) rfl d_Op_isHot_9 ?_
  refine lv_i2l hx hb d_Op_isHot_12 rfl ?_
  refine lc_lt (tgt := 21) hx hb d_Op_isHot_13 d_Op_isHot_14 (by decide) (fun c_1 => ?_) (fun c_1 => ?_)
  · refine lv_iconst (v := 0) hx hb d_Op_isHot_21 (by decide) ?_
    exact W.zret hx hb hret rfl (fun t ht hW => ⟨⟨_, (), rfl, (by simp only [m_hot, if_pos c_1]), ht⟩, hS.F ht⟩) hS.2.2 d_Op_isHot_22
  · refine lv_iconst (v := 1) hx hb d_Op_isHot_17 (by decide) ?_
    refine lv_goto (tgt := 22) hx hb d_Op_isHot_18 (by decide) ?_
    exact W.zret hx hb hret rfl (fun t ht hW => ⟨⟨_, (), rfl, (by simp only [m_hot, if_neg c_1]), ht⟩, hS.F ht⟩) hS.2.2 d_Op_isHot_22

set_option maxHeartbeats 4000000 in
set_option maxRecDepth 100000 in
theorem c_Op_isHot_n {l : Launch} {D : va_G} {TY : List (ClassId × FieldType)} {L : List Nat} {f : Nat → va_E} {H : Heap} {q : Nat} {nr : Nat} {fv : Value} {wi : Int32} {si : Int32} {to : Int32} {gl : Int32} {br : Int32} {fw : Int64} {hf : Int64} {fa : Int64} (h_q : q ∈ L) (e_q : f q = openE nr fv wi si to gl br fw hf fa) : Met l y_Op_isHot (WS y_Op_isHot b_Op_isHot 2 (some .boolean)) { frames := 0, cells := 0, slots := 0, locals := 0 } (va_Pc [.ref q, .null] (RP D TY L f H)) (Qi (0) H) 0 0 No := by
  refine Met.ofW (cc := b_Op_isHot) (maxL := 2) (ret := (some .boolean)) (by decide) rfl ?_
  intro p e s m args below meth c s₁ B hml hv
  obtain ⟨rfl, hH, hP, hK⟩ := hv
  subst hH
  have hx := B.exec
  have hb := B.bytes
  have hret := B.returns
  have hts := atoms_spec (ws := WS y_Op_isHot b_Op_isHot 2 (some .boolean)) B.pre
  have hG : ∀ w ∈ GW, w.before _ s = true := fun w h => hts w (List.mem_cons_of_mem _ h)
  have hown : s.vm.findClass "SmokeZones$Opening" = some m.cls := findClass_of_methodNamed B.named
  have hlocks := B.notSynchronized
  have hS : va_S No s.heap s.heap [] := va_S.rf
  have hl := lv_entry ([.ref q, .null]) (n := 2) (Nat.le_of_ble_eq_true rfl)
  rw [lg_entry_eq]
  generalize (lg_sl ([.ref q, .null]) ++ List.replicate (2 - (lg_sl ([.ref q, .null])).length) Slot.unset).toArray = ls at hl ⊢
  have hl : lv_has ls 2 [(0, .ref q), (1, .null)] := hl
  refine lv_aload_nN hx hb d_Op_isHot_0 rfl (lv_at hl 1 rfl) ?_
  refine lv_ifnullN (tgt := 21) hx hb d_Op_isHot_1 (by decide) ?_
  refine lv_iconst (v := 0) hx hb d_Op_isHot_21 (by decide) ?_
  exact W.zret hx hb hret rfl (fun t ht hW => ⟨⟨_, (), rfl, rfl, ht⟩, hS.F ht⟩) hS.2.2 d_Op_isHot_22

def m_nh (fw hf : Int64) : Int64 := if 0 ≤ fw then -hf else hf
def m_fh (fw hf : Int64) : Int64 := if 0 ≤ fw then hf else -hf
def m_flN (op wi : Int32) (cn sm : Int64) : Int64 := if op = 0 then 0 else if cn ≤ 0 then 0 else m_ff wi sm (cn - 0)
def m_fhN (op wi : Int32) (cn sm ht : Int64) : Int64 := if op = 0 then 0 else if cn ≤ 0 then 0 else m_hw sm ht (m_ff wi sm (cn - 0))
def m_flS (op wi : Int32) (cn cf sm smg : Int64) : Int64 := if op = 0 then 0 else if cn ≤ cf then (if cf ≤ cn then 0 else -(m_ff wi smg (cf - cn))) else m_ff wi sm (cn - cf)
def m_fhS (op wi : Int32) (cn cf sm ht smg htg : Int64) : Int64 := if op = 0 then 0 else if cn ≤ cf then (if cf ≤ cn then 0 else m_hw smg htg (m_ff wi smg (cf - cn))) else m_hw sm ht (m_ff wi sm (cn - cf))
def m_brN (op hn br : Int32) : Int32 := if op = 0 then (if hn = 0 then br else 1) else br
def m_brS (op hn hg br : Int32) : Int32 := if op = 0 then (if hn = 0 then (if hg = 0 then br else 1) else 1) else br

set_option maxHeartbeats 4000000 in
set_option maxRecDepth 100000 in
theorem c_Op_measureFlow_n {l : Launch} {D : va_G} {TY : List (ClassId × FieldType)} {L : List Nat} {f : Nat → va_E} {sz : Nat} {q : Nat} {wi : Int32} {si : Int32} {to : Int32} {gl : Int32} {br : Int32} {fw : Int64} {hf : Int64} {fa : Int64} {r : Nat} {ar : Int32} {he : Int32} {ho : Int64} {sm : Int64} {ht : Int64} {sl : Int32} {sa : Int32} {fl : Int32} (h_q : q ∈ L) (e_q : f q = openE r .null wi si to gl br fw hf fa) (h_r : r ∈ L) (e_r : f r = roomE ar he ho sm ht sl sa fl) : Met l y_Op_measureFlow (WS y_Op_measureFlow b_Op_measureFlow 7 none) { frames := 3, cells := 0, slots := 0, locals := 62 } (va_Pc [.ref q] (WP D TY L f sz)) (Xv D TY L (va_up f q (openE r .null wi si to gl br (m_flN (m_open gl br) wi (m_cov ar he sm si to) sm) (m_fhN (m_open gl br) wi (m_cov ar he sm si to) sm ht) fa)) (AA L f sz)) 0 0 (AA L f sz) := by
  refine Met.ofW (cc := b_Op_measureFlow) (maxL := 7) (ret := none) (by decide) rfl ?_
  intro p e s m args below meth c s₁ B hml hv
  obtain ⟨rfl, hsz, hP, hK, hD0⟩ := hv
  subst hsz
  have hx := B.exec
  have hb := B.bytes
  have hret := B.returns
  have hts := atoms_spec (ws := WS y_Op_measureFlow b_Op_measureFlow 7 none) B.pre
  have hG : ∀ w ∈ GW, w.before _ s = true := fun w h => hts w (List.mem_cons_of_mem _ h)
  have hown : s.vm.findClass "SmokeZones$Opening" = some m.cls := findClass_of_methodNamed B.named
  have hlocks := B.notSynchronized
  have hD : va_D (AA L f s.heap.size) (va_pl L f) := hD0.self (sz := s.heap.size)
  generalize hAe : AA L f s.heap.size = A at hD ⊢
  have hA : ∀ q : Nat, s.heap.size ≤ q → A q := fun q h => by rw [← hAe]; exact Or.inr h
  have hS : va_S A s.heap s.heap [] := va_S.rf
  have hl := lv_entry ([.ref q]) (n := 7) (Nat.le_of_ble_eq_true rfl)
  rw [lg_entry_eq]
  generalize (lg_sl ([.ref q]) ++ List.replicate (7 - (lg_sl ([.ref q])).length) Slot.unset).toArray = ls at hl ⊢
  have hl : lv_has ls 7 [(0, .ref q)] := hl
  have ne_q_r : q ≠ r := ne_ci e_q e_r (by decide)
  have ne_r_q : r ≠ q := fun q => ne_q_r q.symm
  refine lv_aload_n hx hb d_Op_measureFlow_0 rfl (lv_at hl 0 rfl) ?_
  refine lv_lconst (v := 0) hx hb d_Op_measureFlow_1 (by decide) ?_
  refine pg_put (C := "SmokeZones$Opening") (T := T_Op) (N := 10) (ty := .long) hx hb hG in_Op ty_Op ok_Op nm_Op hown hK hP hD hS h_q e_q rfl 7 (by decide) (hG _ k261) (fun _ h9 => h9) rfl (by decide +kernel) rfl rfl (Nat.le_of_ble_eq_true rfl) d_Op_measureFlow_2 (fun H locs hP hD hS => ?_)
  have hP : va_P D vwCl (va_pl L (va_up f q (.inr (1, [.ref r, .null, .int wi, .int si, .int to, .int gl, .int br, .long 0, .long hf, .long fa])))) H := hP
  have hD : va_D A (va_pl L (va_up f q (.inr (1, [.ref r, .null, .int wi, .int si, .int to, .int gl, .int br, .long 0, .long hf, .long fa])))) := hD
  have e_1 : (va_up f q (.inr (1, [.ref r, .null, .int wi, .int si, .int to, .int gl, .int br, .long 0, .long hf, .long fa]))) q = .inr (1, [.ref r, .null, .int wi, .int si, .int to, .int gl, .int br, .long 0, .long hf, .long fa]) := va_up_self _ _ _
  have e_2 : (va_up f q (.inr (1, [.ref r, .null, .int wi, .int si, .int to, .int gl, .int br, .long 0, .long hf, .long fa]))) r = .inr (0, [.int ar, .int he, .long ho, .long sm, .long ht, .int sl, .int sa, .int fl]) := (va_up_ne _ _ ne_r_q).trans e_r
  refine lv_aload_n hx hb d_Op_measureFlow_5 rfl (lv_at hl 0 rfl) ?_
  refine lv_lconst (v := 0) hx hb d_Op_measureFlow_6 (by decide) ?_
  refine pg_put (C := "SmokeZones$Opening") (T := T_Op) (N := 10) (ty := .long) hx hb hG in_Op ty_Op ok_Op nm_Op hown hK hP hD hS h_q e_1 rfl 8 (by decide) (hG _ k263) (fun _ h9 => h9) rfl (by decide +kernel) rfl rfl (Nat.le_of_ble_eq_true rfl) d_Op_measureFlow_7 (fun H locs hP hD hS => ?_)
  rw [bx_uu] at hP hD
  have hP : va_P D vwCl (va_pl L (va_up f q (.inr (1, [.ref r, .null, .int wi, .int si, .int to, .int gl, .int br, .long 0, .long 0, .long fa])))) H := hP
  have hD : va_D A (va_pl L (va_up f q (.inr (1, [.ref r, .null, .int wi, .int si, .int to, .int gl, .int br, .long 0, .long 0, .long fa])))) := hD
  have e_3 : (va_up f q (.inr (1, [.ref r, .null, .int wi, .int si, .int to, .int gl, .int br, .long 0, .long 0, .long fa]))) q = .inr (1, [.ref r, .null, .int wi, .int si, .int to, .int gl, .int br, .long 0, .long 0, .long fa]) := va_up_self _ _ _
  have e_4 : (va_up f q (.inr (1, [.ref r, .null, .int wi, .int si, .int to, .int gl, .int br, .long 0, .long 0, .long fa]))) r = .inr (0, [.int ar, .int he, .long ho, .long sm, .long ht, .int sl, .int sa, .int fl]) := (va_up_ne _ _ ne_r_q).trans e_r
  refine lv_aload_n hx hb d_Op_measureFlow_10 rfl (lv_at hl 0 rfl) ?_
  refine kV_ri ⟨hx, hb, hml, hown, hG⟩ (c_Op_isOpen h_q e_3) (cwV 0 hG (gV k462 k463 k464 k9 k465) rfl rfl rfl hd_Op_isOpen ⟨Nat.le_of_ble_eq_true rfl, Nat.le_of_ble_eq_true rfl⟩) hK hP hS h_q e_3 rfl rfl hl.1 rfl (Nat.le_of_ble_eq_true rfl) ⟨Nat.le_of_ble_eq_true rfl, Nat.le_of_ble_eq_true rfl⟩ d_Op_measureFlow_11 (fun locs hS => ?_)
  refine lv_if_ne (tgt := 18) hx hb d_Op_measureFlow_14 (by decide) (fun c_5 => ?_) (fun c_5 => ?_)
  · refine lv_aload_n hx hb d_Op_measureFlow_18 rfl (lv_at hl 0 rfl) ?_
    refine pg_get (C := "SmokeZones$Opening") (T := T_Op) (N := 10) hx hb hG in_Op hown hK hP h_q e_3 rfl 0 (by decide) (hG _ k253) (fun _ h9 => h9) rfl d_Op_measureFlow_19 ?_
    refine lv_aload_n hx hb d_Op_measureFlow_22 rfl (lv_at hl 0 rfl) ?_
    refine pg_get (C := "SmokeZones$Opening") (T := T_Op) (N := 10) hx hb hG in_Op hown hK hP h_q e_3 rfl 3 (by decide) (hG _ k256) (fun _ h9 => h9) rfl d_Op_measureFlow_23 ?_
    refine lv_aload_n hx hb d_Op_measureFlow_26 rfl (lv_at hl 0 rfl) ?_
    refine pg_get (C := "SmokeZones$Opening") (T := T_Op) (N := 10) hx hb hG in_Op hown hK hP h_q e_3 rfl 4 (by decide) (hG _ k257) (fun _ h9 => h9) rfl d_Op_measureFlow_27 ?_
    refine kV_rl ⟨hx, hb, hml, hown, hG⟩ (c_Ro_covered h_r e_4) (cwV 2 hG (gV k466 k467 k468 k8 k469) rfl rfl rfl hd_Ro_covered ⟨Nat.le_of_ble_eq_true rfl, Nat.le_of_ble_eq_true rfl⟩) hK hP hS h_r e_4 rfl rfl hl.1 rfl (Nat.le_of_ble_eq_true rfl) ⟨Nat.le_of_ble_eq_true rfl, Nat.le_of_ble_eq_true rfl⟩ d_Op_measureFlow_30 (fun locs hS => ?_)
    refine lv_lstore_n (lv' := [(1, .long (m_cov ar he sm si to)), (0, .ref q)]) hx hb d_Op_measureFlow_33 rfl hl (by decide) rfl (fun ls hl => ?_)
    refine lv_aload_n hx hb d_Op_measureFlow_34 rfl (lv_at hl 1 rfl) ?_
    refine pg_get (C := "SmokeZones$Opening") (T := T_Op) (N := 10) hx hb hG in_Op hown hK hP h_q e_3 rfl 1 (by decide) (hG _ k254) (fun _ h9 => h9) rfl d_Op_measureFlow_35 ?_
    refine lv_ifnonnullN hx hb d_Op_measureFlow_38 ?_
    refine lv_lconst (v := 0) hx hb d_Op_measureFlow_41 (by decide) ?_
    refine lv_goto (tgt := 60) hx hb d_Op_measureFlow_42 (by decide) ?_
    refine lv_lstore_n (lv' := [(3, .long 0), (1, .long (m_cov ar he sm si to)), (0, .ref q)]) hx hb d_Op_measureFlow_60 rfl hl (by decide) rfl (fun ls hl => ?_)
    refine lv_lload_n hx hb d_Op_measureFlow_61 rfl (lv_at hl 1 rfl) ?_
    refine lv_lload_n hx hb d_Op_measureFlow_62 rfl (lv_at hl 0 rfl) ?_
    refine lc_le (tgt := 100) hx hb d_Op_measureFlow_63 d_Op_measureFlow_64 (by decide) (fun c_6 => ?_) (fun c_6 => ?_)
    · refine lv_aload_n hx hb d_Op_measureFlow_100 rfl (lv_at hl 2 rfl) ?_
      refine pg_get (C := "SmokeZones$Opening") (T := T_Op) (N := 10) hx hb hG in_Op hown hK hP h_q e_3 rfl 1 (by decide) (hG _ k254) (fun _ h9 => h9) rfl d_Op_measureFlow_101 ?_
      refine lv_ifnullN (tgt := 146) hx hb d_Op_measureFlow_104 (by decide) ?_
      have hF : (va_up f q (openE r .null wi si to gl br (m_flN (m_open gl br) wi (m_cov ar he sm si to) sm) (m_fhN (m_open gl br) wi (m_cov ar he sm si to) sm ht) fa)) = (va_up f q (.inr (1, [.ref r, .null, .int wi, .int si, .int to, .int gl, .int br, .long 0, .long 0, .long fa]))) := by
        (try simp only [m_flN, m_fhN, if_neg c_5, if_pos c_6])
        first | done | exact rfl | exact up_same e_q
      rw [← hF] at hP hD
      exact W.vret hx hb hret (fun t ht hW => ⟨⟨(), rfl, trivial, by rw [ht]; exact hP, va_K.moved hW.alike hK, hD⟩, hS.F ht⟩) hS.2.2 d_Op_measureFlow_146
    · refine lv_aload_n hx hb d_Op_measureFlow_67 rfl (lv_at hl 2 rfl) ?_
      refine lv_aload_n hx hb d_Op_measureFlow_68 rfl (lv_at hl 2 rfl) ?_
      refine lv_aload_n hx hb d_Op_measureFlow_69 rfl (lv_at hl 2 rfl) ?_
      refine pg_get (C := "SmokeZones$Opening") (T := T_Op) (N := 10) hx hb hG in_Op hown hK hP h_q e_3 rfl 0 (by decide) (hG _ k253) (fun _ h9 => h9) rfl d_Op_measureFlow_70 ?_
      refine lv_lload_n hx hb d_Op_measureFlow_73 rfl (lv_at hl 1 rfl) ?_
      refine lv_lload_n hx hb d_Op_measureFlow_74 rfl (lv_at hl 0 rfl) ?_
      refine lv_lsub hx hb d_Op_measureFlow_75 ?_
      refine kV_rl ⟨hx, hb, hml, hown, hG⟩ (c_Op_flowFrom h_q e_3 h_r e_4) (cwV 2 hG (gV k481 k482 k483 k9 k484) rfl rfl rfl hd_Op_flowFrom ⟨Nat.le_of_ble_eq_true rfl, Nat.le_of_ble_eq_true rfl⟩) hK hP hS h_q e_3 rfl rfl hl.1 rfl (Nat.le_of_ble_eq_true rfl) ⟨Nat.le_of_ble_eq_true rfl, Nat.le_of_ble_eq_true rfl⟩ d_Op_measureFlow_76 (fun locs hS => ?_)
      refine pg_put (C := "SmokeZones$Opening") (T := T_Op) (N := 10) (ty := .long) hx hb hG in_Op ty_Op ok_Op nm_Op hown hK hP hD hS h_q e_3 rfl 7 (by decide) (hG _ k261) (fun _ h9 => h9) rfl (by decide +kernel) rfl rfl (Nat.le_of_ble_eq_true rfl) d_Op_measureFlow_79 (fun H locs hP hD hS => ?_)
      rw [bx_uu] at hP hD
      have hP : va_P D vwCl (va_pl L (va_up f q (.inr (1, [.ref r, .null, .int wi, .int si, .int to, .int gl, .int br, .long (m_ff wi sm ((m_cov ar he sm si to) - 0)), .long 0, .long fa])))) H := hP
      have hD : va_D A (va_pl L (va_up f q (.inr (1, [.ref r, .null, .int wi, .int si, .int to, .int gl, .int br, .long (m_ff wi sm ((m_cov ar he sm si to) - 0)), .long 0, .long fa])))) := hD
      have e_7 : (va_up f q (.inr (1, [.ref r, .null, .int wi, .int si, .int to, .int gl, .int br, .long (m_ff wi sm ((m_cov ar he sm si to) - 0)), .long 0, .long fa]))) q = .inr (1, [.ref r, .null, .int wi, .int si, .int to, .int gl, .int br, .long (m_ff wi sm ((m_cov ar he sm si to) - 0)), .long 0, .long fa]) := va_up_self _ _ _
      have e_8 : (va_up f q (.inr (1, [.ref r, .null, .int wi, .int si, .int to, .int gl, .int br, .long (m_ff wi sm ((m_cov ar he sm si to) - 0)), .long 0, .long fa]))) r = .inr (0, [.int ar, .int he, .long ho, .long sm, .long ht, .int sl, .int sa, .int fl]) := (va_up_ne _ _ ne_r_q).trans e_r
      refine lv_aload_n hx hb d_Op_measureFlow_82 rfl (lv_at hl 2 rfl) ?_
      refine lv_aload_n hx hb d_Op_measureFlow_83 rfl (lv_at hl 2 rfl) ?_
      refine pg_get (C := "SmokeZones$Opening") (T := T_Op) (N := 10) hx hb hG in_Op hown hK hP h_q e_7 rfl 0 (by decide) (hG _ k253) (fun _ h9 => h9) rfl d_Op_measureFlow_84 ?_
      refine lv_aload_n hx hb d_Op_measureFlow_87 rfl (lv_at hl 2 rfl) ?_
      refine pg_get (C := "SmokeZones$Opening") (T := T_Op) (N := 10) hx hb hG in_Op hown hK hP h_q e_7 rfl 7 (by decide) (hG _ k261) (fun _ h9 => h9) rfl d_Op_measureFlow_88 ?_
      refine kV_rl ⟨hx, hb, hml, hown, hG⟩ (c_Ro_heatWith h_r e_8) (cwV 1 hG (gV k487 k488 k489 k8 k490) rfl rfl rfl hd_Ro_heatWith ⟨Nat.le_of_ble_eq_true rfl, Nat.le_of_ble_eq_true rfl⟩) hK hP hS h_r e_8 rfl rfl hl.1 rfl (Nat.le_of_ble_eq_true rfl) ⟨Nat.le_of_ble_eq_true rfl, Nat.le_of_ble_eq_true rfl⟩ d_Op_measureFlow_91 (fun locs hS => ?_)
      refine pg_put (C := "SmokeZones$Opening") (T := T_Op) (N := 10) (ty := .long) hx hb hG in_Op ty_Op ok_Op nm_Op hown hK hP hD hS h_q e_7 rfl 8 (by decide) (hG _ k263) (fun _ h9 => h9) rfl (by decide +kernel) rfl rfl (Nat.le_of_ble_eq_true rfl) d_Op_measureFlow_94 (fun H locs hP hD hS => ?_)
      rw [bx_uu] at hP hD
      have hP : va_P D vwCl (va_pl L (va_up f q (.inr (1, [.ref r, .null, .int wi, .int si, .int to, .int gl, .int br, .long (m_ff wi sm ((m_cov ar he sm si to) - 0)), .long (m_hw sm ht (m_ff wi sm ((m_cov ar he sm si to) - 0))), .long fa])))) H := hP
      have hD : va_D A (va_pl L (va_up f q (.inr (1, [.ref r, .null, .int wi, .int si, .int to, .int gl, .int br, .long (m_ff wi sm ((m_cov ar he sm si to) - 0)), .long (m_hw sm ht (m_ff wi sm ((m_cov ar he sm si to) - 0))), .long fa])))) := hD
      have e_9 : (va_up f q (.inr (1, [.ref r, .null, .int wi, .int si, .int to, .int gl, .int br, .long (m_ff wi sm ((m_cov ar he sm si to) - 0)), .long (m_hw sm ht (m_ff wi sm ((m_cov ar he sm si to) - 0))), .long fa]))) q = .inr (1, [.ref r, .null, .int wi, .int si, .int to, .int gl, .int br, .long (m_ff wi sm ((m_cov ar he sm si to) - 0)), .long (m_hw sm ht (m_ff wi sm ((m_cov ar he sm si to) - 0))), .long fa]) := va_up_self _ _ _
      have e_10 : (va_up f q (.inr (1, [.ref r, .null, .int wi, .int si, .int to, .int gl, .int br, .long (m_ff wi sm ((m_cov ar he sm si to) - 0)), .long (m_hw sm ht (m_ff wi sm ((m_cov ar he sm si to) - 0))), .long fa]))) r = .inr (0, [.int ar, .int he, .long ho, .long sm, .long ht, .int sl, .int sa, .int fl]) := (va_up_ne _ _ ne_r_q).trans e_r
      refine lv_goto (tgt := 146) hx hb d_Op_measureFlow_97 (by decide) ?_
      have hF : (va_up f q (openE r .null wi si to gl br (m_flN (m_open gl br) wi (m_cov ar he sm si to) sm) (m_fhN (m_open gl br) wi (m_cov ar he sm si to) sm ht) fa)) = (va_up f q (.inr (1, [.ref r, .null, .int wi, .int si, .int to, .int gl, .int br, .long (m_ff wi sm ((m_cov ar he sm si to) - 0)), .long (m_hw sm ht (m_ff wi sm ((m_cov ar he sm si to) - 0))), .long fa]))) := by
        (try simp only [m_flN, m_fhN, if_neg c_5, if_neg c_6])
        first | done | exact rfl | exact up_same e_q
      rw [← hF] at hP hD
      exact W.vret hx hb hret (fun t ht hW => ⟨⟨(), rfl, trivial, by rw [ht]; exact hP, va_K.moved hW.alike hK, hD⟩, hS.F ht⟩) hS.2.2 d_Op_measureFlow_146
  · have hF : (va_up f q (openE r .null wi si to gl br (m_flN (m_open gl br) wi (m_cov ar he sm si to) sm) (m_fhN (m_open gl br) wi (m_cov ar he sm si to) sm ht) fa)) = (va_up f q (.inr (1, [.ref r, .null, .int wi, .int si, .int to, .int gl, .int br, .long 0, .long 0, .long fa]))) := by
      (try simp only [m_flN, m_fhN, if_pos c_5])
      first | done | exact rfl | exact up_same e_q
    rw [← hF] at hP hD
    exact W.vret hx hb hret (fun t ht hW => ⟨⟨(), rfl, trivial, by rw [ht]; exact hP, va_K.moved hW.alike hK, hD⟩, hS.F ht⟩) hS.2.2 d_Op_measureFlow_17

set_option maxHeartbeats 4000000 in
set_option maxRecDepth 100000 in
theorem c_Op_measureFlow_s {l : Launch} {D : va_G} {TY : List (ClassId × FieldType)} {L : List Nat} {f : Nat → va_E} {sz : Nat} {q : Nat} {wi : Int32} {si : Int32} {to : Int32} {gl : Int32} {br : Int32} {fw : Int64} {hf : Int64} {fa : Int64} {r : Nat} {ar : Int32} {he : Int32} {ho : Int64} {sm : Int64} {ht : Int64} {sl : Int32} {sa : Int32} {fl : Int32} {g : Nat} {arg : Int32} {heg : Int32} {hog : Int64} {smg : Int64} {htg : Int64} {slg : Int32} {sag : Int32} {flg : Int32} (h_q : q ∈ L) (e_q : f q = openE r (.ref g) wi si to gl br fw hf fa) (h_r : r ∈ L) (e_r : f r = roomE ar he ho sm ht sl sa fl) (h_g : g ∈ L) (e_g : f g = roomE arg heg hog smg htg slg sag flg) : Met l y_Op_measureFlow (WS y_Op_measureFlow b_Op_measureFlow 7 none) { frames := 3, cells := 0, slots := 0, locals := 62 } (va_Pc [.ref q] (WP D TY L f sz)) (Xv D TY L (va_up f q (openE r (.ref g) wi si to gl br (m_flS (m_open gl br) wi (m_cov ar he sm si to) (m_cov arg heg smg si to) sm smg) (m_fhS (m_open gl br) wi (m_cov ar he sm si to) (m_cov arg heg smg si to) sm ht smg htg) fa)) (AA L f sz)) 0 0 (AA L f sz) := by
  refine Met.ofW (cc := b_Op_measureFlow) (maxL := 7) (ret := none) (by decide) rfl ?_
  intro p e s m args below meth c s₁ B hml hv
  obtain ⟨rfl, hsz, hP, hK, hD0⟩ := hv
  subst hsz
  have hx := B.exec
  have hb := B.bytes
  have hret := B.returns
  have hts := atoms_spec (ws := WS y_Op_measureFlow b_Op_measureFlow 7 none) B.pre
  have hG : ∀ w ∈ GW, w.before _ s = true := fun w h => hts w (List.mem_cons_of_mem _ h)
  have hown : s.vm.findClass "SmokeZones$Opening" = some m.cls := findClass_of_methodNamed B.named
  have hlocks := B.notSynchronized
  have hD : va_D (AA L f s.heap.size) (va_pl L f) := hD0.self (sz := s.heap.size)
  generalize hAe : AA L f s.heap.size = A at hD ⊢
  have hA : ∀ q : Nat, s.heap.size ≤ q → A q := fun q h => by rw [← hAe]; exact Or.inr h
  have hS : va_S A s.heap s.heap [] := va_S.rf
  have hl := lv_entry ([.ref q]) (n := 7) (Nat.le_of_ble_eq_true rfl)
  rw [lg_entry_eq]
  generalize (lg_sl ([.ref q]) ++ List.replicate (7 - (lg_sl ([.ref q])).length) Slot.unset).toArray = ls at hl ⊢
  have hl : lv_has ls 7 [(0, .ref q)] := hl
  have ne_q_r : q ≠ r := ne_ci e_q e_r (by decide)
  have ne_r_q : r ≠ q := fun q => ne_q_r q.symm
  have ne_q_g : q ≠ g := ne_ci e_q e_g (by decide)
  have ne_g_q : g ≠ q := fun q => ne_q_g q.symm
  refine lv_aload_n hx hb d_Op_measureFlow_0 rfl (lv_at hl 0 rfl) ?_
  refine lv_lconst (v := 0) hx hb d_Op_measureFlow_1 (by decide) ?_
  refine pg_put (C := "SmokeZones$Opening") (T := T_Op) (N := 10) (ty := .long) hx hb hG in_Op ty_Op ok_Op nm_Op hown hK hP hD hS h_q e_q rfl 7 (by decide) (hG _ k261) (fun _ h9 => h9) rfl (by decide +kernel) rfl rfl (Nat.le_of_ble_eq_true rfl) d_Op_measureFlow_2 (fun H locs hP hD hS => ?_)
  have hP : va_P D vwCl (va_pl L (va_up f q (.inr (1, [.ref r, .ref g, .int wi, .int si, .int to, .int gl, .int br, .long 0, .long hf, .long fa])))) H := hP
  have hD : va_D A (va_pl L (va_up f q (.inr (1, [.ref r, .ref g, .int wi, .int si, .int to, .int gl, .int br, .long 0, .long hf, .long fa])))) := hD
  have e_1 : (va_up f q (.inr (1, [.ref r, .ref g, .int wi, .int si, .int to, .int gl, .int br, .long 0, .long hf, .long fa]))) q = .inr (1, [.ref r, .ref g, .int wi, .int si, .int to, .int gl, .int br, .long 0, .long hf, .long fa]) := va_up_self _ _ _
  have e_2 : (va_up f q (.inr (1, [.ref r, .ref g, .int wi, .int si, .int to, .int gl, .int br, .long 0, .long hf, .long fa]))) r = .inr (0, [.int ar, .int he, .long ho, .long sm, .long ht, .int sl, .int sa, .int fl]) := (va_up_ne _ _ ne_r_q).trans e_r
  have e_3 : (va_up f q (.inr (1, [.ref r, .ref g, .int wi, .int si, .int to, .int gl, .int br, .long 0, .long hf, .long fa]))) g = .inr (0, [.int arg, .int heg, .long hog, .long smg, .long htg, .int slg, .int sag, .int flg]) := (va_up_ne _ _ ne_g_q).trans e_g
  refine lv_aload_n hx hb d_Op_measureFlow_5 rfl (lv_at hl 0 rfl) ?_
  refine lv_lconst (v := 0) hx hb d_Op_measureFlow_6 (by decide) ?_
  refine pg_put (C := "SmokeZones$Opening") (T := T_Op) (N := 10) (ty := .long) hx hb hG in_Op ty_Op ok_Op nm_Op hown hK hP hD hS h_q e_1 rfl 8 (by decide) (hG _ k263) (fun _ h9 => h9) rfl (by decide +kernel) rfl rfl (Nat.le_of_ble_eq_true rfl) d_Op_measureFlow_7 (fun H locs hP hD hS => ?_)
  rw [bx_uu] at hP hD
  have hP : va_P D vwCl (va_pl L (va_up f q (.inr (1, [.ref r, .ref g, .int wi, .int si, .int to, .int gl, .int br, .long 0, .long 0, .long fa])))) H := hP
  have hD : va_D A (va_pl L (va_up f q (.inr (1, [.ref r, .ref g, .int wi, .int si, .int to, .int gl, .int br, .long 0, .long 0, .long fa])))) := hD
  have e_4 : (va_up f q (.inr (1, [.ref r, .ref g, .int wi, .int si, .int to, .int gl, .int br, .long 0, .long 0, .long fa]))) q = .inr (1, [.ref r, .ref g, .int wi, .int si, .int to, .int gl, .int br, .long 0, .long 0, .long fa]) := va_up_self _ _ _
  have e_5 : (va_up f q (.inr (1, [.ref r, .ref g, .int wi, .int si, .int to, .int gl, .int br, .long 0, .long 0, .long fa]))) r = .inr (0, [.int ar, .int he, .long ho, .long sm, .long ht, .int sl, .int sa, .int fl]) := (va_up_ne _ _ ne_r_q).trans e_r
  have e_6 : (va_up f q (.inr (1, [.ref r, .ref g, .int wi, .int si, .int to, .int gl, .int br, .long 0, .long 0, .long fa]))) g = .inr (0, [.int arg, .int heg, .long hog, .long smg, .long htg, .int slg, .int sag, .int flg]) := (va_up_ne _ _ ne_g_q).trans e_g
  refine lv_aload_n hx hb d_Op_measureFlow_10 rfl (lv_at hl 0 rfl) ?_
  refine kV_ri ⟨hx, hb, hml, hown, hG⟩ (c_Op_isOpen h_q e_4) (cwV 0 hG (gV k462 k463 k464 k9 k465) rfl rfl rfl hd_Op_isOpen ⟨Nat.le_of_ble_eq_true rfl, Nat.le_of_ble_eq_true rfl⟩) hK hP hS h_q e_4 rfl rfl hl.1 rfl (Nat.le_of_ble_eq_true rfl) ⟨Nat.le_of_ble_eq_true rfl, Nat.le_of_ble_eq_true rfl⟩ d_Op_measureFlow_11 (fun locs hS => ?_)
  refine lv_if_ne (tgt := 18) hx hb d_Op_measureFlow_14 (by decide) (fun c_7 => ?_) (fun c_7 => ?_)
  · refine lv_aload_n hx hb d_Op_measureFlow_18 rfl (lv_at hl 0 rfl) ?_
    refine pg_get (C := "SmokeZones$Opening") (T := T_Op) (N := 10) hx hb hG in_Op hown hK hP h_q e_4 rfl 0 (by decide) (hG _ k253) (fun _ h9 => h9) rfl d_Op_measureFlow_19 ?_
    refine lv_aload_n hx hb d_Op_measureFlow_22 rfl (lv_at hl 0 rfl) ?_
    refine pg_get (C := "SmokeZones$Opening") (T := T_Op) (N := 10) hx hb hG in_Op hown hK hP h_q e_4 rfl 3 (by decide) (hG _ k256) (fun _ h9 => h9) rfl d_Op_measureFlow_23 ?_
    refine lv_aload_n hx hb d_Op_measureFlow_26 rfl (lv_at hl 0 rfl) ?_
    refine pg_get (C := "SmokeZones$Opening") (T := T_Op) (N := 10) hx hb hG in_Op hown hK hP h_q e_4 rfl 4 (by decide) (hG _ k257) (fun _ h9 => h9) rfl d_Op_measureFlow_27 ?_
    refine kV_rl ⟨hx, hb, hml, hown, hG⟩ (c_Ro_covered h_r e_5) (cwV 2 hG (gV k466 k467 k468 k8 k469) rfl rfl rfl hd_Ro_covered ⟨Nat.le_of_ble_eq_true rfl, Nat.le_of_ble_eq_true rfl⟩) hK hP hS h_r e_5 rfl rfl hl.1 rfl (Nat.le_of_ble_eq_true rfl) ⟨Nat.le_of_ble_eq_true rfl, Nat.le_of_ble_eq_true rfl⟩ d_Op_measureFlow_30 (fun locs hS => ?_)
    refine lv_lstore_n (lv' := [(1, .long (m_cov ar he sm si to)), (0, .ref q)]) hx hb d_Op_measureFlow_33 rfl hl (by decide) rfl (fun ls hl => ?_)
    refine lv_aload_n hx hb d_Op_measureFlow_34 rfl (lv_at hl 1 rfl) ?_
    refine pg_get (C := "SmokeZones$Opening") (T := T_Op) (N := 10) hx hb hG in_Op hown hK hP h_q e_4 rfl 1 (by decide) (hG _ k254) (fun _ h9 => h9) rfl d_Op_measureFlow_35 ?_
    refine lv_ifnonnull (tgt := 45) hx hb d_Op_measureFlow_38 (by decide) ?_
    refine lv_aload_n hx hb d_Op_measureFlow_45 rfl (lv_at hl 1 rfl) ?_
    refine pg_get (C := "SmokeZones$Opening") (T := T_Op) (N := 10) hx hb hG in_Op hown hK hP h_q e_4 rfl 1 (by decide) (hG _ k254) (fun _ h9 => h9) rfl d_Op_measureFlow_46 ?_
    refine lv_aload_n hx hb d_Op_measureFlow_49 rfl (lv_at hl 1 rfl) ?_
    refine pg_get (C := "SmokeZones$Opening") (T := T_Op) (N := 10) hx hb hG in_Op hown hK hP h_q e_4 rfl 3 (by decide) (hG _ k256) (fun _ h9 => h9) rfl d_Op_measureFlow_50 ?_
    refine lv_aload_n hx hb d_Op_measureFlow_53 rfl (lv_at hl 1 rfl) ?_
    refine pg_get (C := "SmokeZones$Opening") (T := T_Op) (N := 10) hx hb hG in_Op hown hK hP h_q e_4 rfl 4 (by decide) (hG _ k257) (fun _ h9 => h9) rfl d_Op_measureFlow_54 ?_
    refine kV_rl ⟨hx, hb, hml, hown, hG⟩ (c_Ro_covered h_g e_6) (cwV 2 hG (gV k466 k467 k468 k8 k469) rfl rfl rfl hd_Ro_covered ⟨Nat.le_of_ble_eq_true rfl, Nat.le_of_ble_eq_true rfl⟩) hK hP hS h_g e_6 rfl rfl hl.1 rfl (Nat.le_of_ble_eq_true rfl) ⟨Nat.le_of_ble_eq_true rfl, Nat.le_of_ble_eq_true rfl⟩ d_Op_measureFlow_57 (fun locs hS => ?_)
    refine lv_lstore_n (lv' := [(3, .long (m_cov arg heg smg si to)), (1, .long (m_cov ar he sm si to)), (0, .ref q)]) hx hb d_Op_measureFlow_60 rfl hl (by decide) rfl (fun ls hl => ?_)
    refine lv_lload_n hx hb d_Op_measureFlow_61 rfl (lv_at hl 1 rfl) ?_
    refine lv_lload_n hx hb d_Op_measureFlow_62 rfl (lv_at hl 0 rfl) ?_
    refine lc_le (tgt := 100) hx hb d_Op_measureFlow_63 d_Op_measureFlow_64 (by decide) (fun c_8 => ?_) (fun c_8 => ?_)
    · refine lv_aload_n hx hb d_Op_measureFlow_100 rfl (lv_at hl 2 rfl) ?_
      refine pg_get (C := "SmokeZones$Opening") (T := T_Op) (N := 10) hx hb hG in_Op hown hK hP h_q e_4 rfl 1 (by decide) (hG _ k254) (fun _ h9 => h9) rfl d_Op_measureFlow_101 ?_
      refine lv_ifnull hx hb d_Op_measureFlow_104 ?_
      refine lv_lload_n hx hb d_Op_measureFlow_107 rfl (lv_at hl 0 rfl) ?_
      refine lv_lload_n hx hb d_Op_measureFlow_108 rfl (lv_at hl 1 rfl) ?_
      refine lc_le (tgt := 146) hx hb d_Op_measureFlow_109 d_Op_measureFlow_110 (by decide) (fun c_9 => ?_) (fun c_9 => ?_)
      · have hF : (va_up f q (openE r (.ref g) wi si to gl br (m_flS (m_open gl br) wi (m_cov ar he sm si to) (m_cov arg heg smg si to) sm smg) (m_fhS (m_open gl br) wi (m_cov ar he sm si to) (m_cov arg heg smg si to) sm ht smg htg) fa)) = (va_up f q (.inr (1, [.ref r, .ref g, .int wi, .int si, .int to, .int gl, .int br, .long 0, .long 0, .long fa]))) := by
          (try simp only [m_flS, m_fhS, if_neg c_7, if_pos c_8, if_pos c_9])
          first | done | exact rfl | exact up_same e_q
        rw [← hF] at hP hD
        exact W.vret hx hb hret (fun t ht hW => ⟨⟨(), rfl, trivial, by rw [ht]; exact hP, va_K.moved hW.alike hK, hD⟩, hS.F ht⟩) hS.2.2 d_Op_measureFlow_146
      · refine lv_aload_n hx hb d_Op_measureFlow_113 rfl (lv_at hl 2 rfl) ?_
        refine lv_aload_n hx hb d_Op_measureFlow_114 rfl (lv_at hl 2 rfl) ?_
        refine pg_get (C := "SmokeZones$Opening") (T := T_Op) (N := 10) hx hb hG in_Op hown hK hP h_q e_4 rfl 1 (by decide) (hG _ k254) (fun _ h9 => h9) rfl d_Op_measureFlow_115 ?_
        refine lv_lload_n hx hb d_Op_measureFlow_118 rfl (lv_at hl 0 rfl) ?_
        refine lv_lload_n hx hb d_Op_measureFlow_119 rfl (lv_at hl 1 rfl) ?_
        refine lv_lsub hx hb d_Op_measureFlow_120 ?_
        refine kV_rl ⟨hx, hb, hml, hown, hG⟩ (c_Op_flowFrom h_q e_4 h_g e_6) (cwV 2 hG (gV k481 k482 k483 k9 k484) rfl rfl rfl hd_Op_flowFrom ⟨Nat.le_of_ble_eq_true rfl, Nat.le_of_ble_eq_true rfl⟩) hK hP hS h_q e_4 rfl rfl hl.1 rfl (Nat.le_of_ble_eq_true rfl) ⟨Nat.le_of_ble_eq_true rfl, Nat.le_of_ble_eq_true rfl⟩ d_Op_measureFlow_121 (fun locs hS => ?_)
        refine lv_lstore (lv' := [(5, .long (m_ff wi smg ((m_cov arg heg smg si to) - (m_cov ar he sm si to)))), (3, .long (m_cov arg heg smg si to)), (1, .long (m_cov ar he sm si to)), (0, .ref q)]) hx hb d_Op_measureFlow_124 hl (by decide) rfl (fun ls hl => ?_)
        refine lv_aload_n hx hb d_Op_measureFlow_126 rfl (lv_at hl 3 rfl) ?_
        refine lv_lload hx hb d_Op_measureFlow_127 (lv_at hl 0 rfl) ?_
        refine lv_lneg hx hb d_Op_measureFlow_129 ?_
        refine pg_put (C := "SmokeZones$Opening") (T := T_Op) (N := 10) (ty := .long) hx hb hG in_Op ty_Op ok_Op nm_Op hown hK hP hD hS h_q e_4 rfl 7 (by decide) (hG _ k261) (fun _ h9 => h9) rfl (by decide +kernel) rfl rfl (Nat.le_of_ble_eq_true rfl) d_Op_measureFlow_130 (fun H locs hP hD hS => ?_)
        rw [bx_uu] at hP hD
        have hP : va_P D vwCl (va_pl L (va_up f q (.inr (1, [.ref r, .ref g, .int wi, .int si, .int to, .int gl, .int br, .long (-(m_ff wi smg ((m_cov arg heg smg si to) - (m_cov ar he sm si to)))), .long 0, .long fa])))) H := hP
        have hD : va_D A (va_pl L (va_up f q (.inr (1, [.ref r, .ref g, .int wi, .int si, .int to, .int gl, .int br, .long (-(m_ff wi smg ((m_cov arg heg smg si to) - (m_cov ar he sm si to)))), .long 0, .long fa])))) := hD
        have e_10 : (va_up f q (.inr (1, [.ref r, .ref g, .int wi, .int si, .int to, .int gl, .int br, .long (-(m_ff wi smg ((m_cov arg heg smg si to) - (m_cov ar he sm si to)))), .long 0, .long fa]))) q = .inr (1, [.ref r, .ref g, .int wi, .int si, .int to, .int gl, .int br, .long (-(m_ff wi smg ((m_cov arg heg smg si to) - (m_cov ar he sm si to)))), .long 0, .long fa]) := va_up_self _ _ _
        have e_11 : (va_up f q (.inr (1, [.ref r, .ref g, .int wi, .int si, .int to, .int gl, .int br, .long (-(m_ff wi smg ((m_cov arg heg smg si to) - (m_cov ar he sm si to)))), .long 0, .long fa]))) r = .inr (0, [.int ar, .int he, .long ho, .long sm, .long ht, .int sl, .int sa, .int fl]) := (va_up_ne _ _ ne_r_q).trans e_r
        have e_12 : (va_up f q (.inr (1, [.ref r, .ref g, .int wi, .int si, .int to, .int gl, .int br, .long (-(m_ff wi smg ((m_cov arg heg smg si to) - (m_cov ar he sm si to)))), .long 0, .long fa]))) g = .inr (0, [.int arg, .int heg, .long hog, .long smg, .long htg, .int slg, .int sag, .int flg]) := (va_up_ne _ _ ne_g_q).trans e_g
        refine lv_aload_n hx hb d_Op_measureFlow_133 rfl (lv_at hl 3 rfl) ?_
        refine lv_aload_n hx hb d_Op_measureFlow_134 rfl (lv_at hl 3 rfl) ?_
        refine pg_get (C := "SmokeZones$Opening") (T := T_Op) (N := 10) hx hb hG in_Op hown hK hP h_q e_10 rfl 1 (by decide) (hG _ k254) (fun _ h9 => h9) rfl d_Op_measureFlow_135 ?_
        refine lv_lload hx hb d_Op_measureFlow_138 (lv_at hl 0 rfl) ?_
        refine kV_rl ⟨hx, hb, hml, hown, hG⟩ (c_Ro_heatWith h_g e_12) (cwV 1 hG (gV k487 k488 k489 k8 k490) rfl rfl rfl hd_Ro_heatWith ⟨Nat.le_of_ble_eq_true rfl, Nat.le_of_ble_eq_true rfl⟩) hK hP hS h_g e_12 rfl rfl hl.1 rfl (Nat.le_of_ble_eq_true rfl) ⟨Nat.le_of_ble_eq_true rfl, Nat.le_of_ble_eq_true rfl⟩ d_Op_measureFlow_140 (fun locs hS => ?_)
        refine pg_put (C := "SmokeZones$Opening") (T := T_Op) (N := 10) (ty := .long) hx hb hG in_Op ty_Op ok_Op nm_Op hown hK hP hD hS h_q e_10 rfl 8 (by decide) (hG _ k263) (fun _ h9 => h9) rfl (by decide +kernel) rfl rfl (Nat.le_of_ble_eq_true rfl) d_Op_measureFlow_143 (fun H locs hP hD hS => ?_)
        rw [bx_uu] at hP hD
        have hP : va_P D vwCl (va_pl L (va_up f q (.inr (1, [.ref r, .ref g, .int wi, .int si, .int to, .int gl, .int br, .long (-(m_ff wi smg ((m_cov arg heg smg si to) - (m_cov ar he sm si to)))), .long (m_hw smg htg (m_ff wi smg ((m_cov arg heg smg si to) - (m_cov ar he sm si to)))), .long fa])))) H := hP
        have hD : va_D A (va_pl L (va_up f q (.inr (1, [.ref r, .ref g, .int wi, .int si, .int to, .int gl, .int br, .long (-(m_ff wi smg ((m_cov arg heg smg si to) - (m_cov ar he sm si to)))), .long (m_hw smg htg (m_ff wi smg ((m_cov arg heg smg si to) - (m_cov ar he sm si to)))), .long fa])))) := hD
        have e_13 : (va_up f q (.inr (1, [.ref r, .ref g, .int wi, .int si, .int to, .int gl, .int br, .long (-(m_ff wi smg ((m_cov arg heg smg si to) - (m_cov ar he sm si to)))), .long (m_hw smg htg (m_ff wi smg ((m_cov arg heg smg si to) - (m_cov ar he sm si to)))), .long fa]))) q = .inr (1, [.ref r, .ref g, .int wi, .int si, .int to, .int gl, .int br, .long (-(m_ff wi smg ((m_cov arg heg smg si to) - (m_cov ar he sm si to)))), .long (m_hw smg htg (m_ff wi smg ((m_cov arg heg smg si to) - (m_cov ar he sm si to)))), .long fa]) := va_up_self _ _ _
        have e_14 : (va_up f q (.inr (1, [.ref r, .ref g, .int wi, .int si, .int to, .int gl, .int br, .long (-(m_ff wi smg ((m_cov arg heg smg si to) - (m_cov ar he sm si to)))), .long (m_hw smg htg (m_ff wi smg ((m_cov arg heg smg si to) - (m_cov ar he sm si to)))), .long fa]))) r = .inr (0, [.int ar, .int he, .long ho, .long sm, .long ht, .int sl, .int sa, .int fl]) := (va_up_ne _ _ ne_r_q).trans e_r
        have e_15 : (va_up f q (.inr (1, [.ref r, .ref g, .int wi, .int si, .int to, .int gl, .int br, .long (-(m_ff wi smg ((m_cov arg heg smg si to) - (m_cov ar he sm si to)))), .long (m_hw smg htg (m_ff wi smg ((m_cov arg heg smg si to) - (m_cov ar he sm si to)))), .long fa]))) g = .inr (0, [.int arg, .int heg, .long hog, .long smg, .long htg, .int slg, .int sag, .int flg]) := (va_up_ne _ _ ne_g_q).trans e_g
        have hF : (va_up f q (openE r (.ref g) wi si to gl br (m_flS (m_open gl br) wi (m_cov ar he sm si to) (m_cov arg heg smg si to) sm smg) (m_fhS (m_open gl br) wi (m_cov ar he sm si to) (m_cov arg heg smg si to) sm ht smg htg) fa)) = (va_up f q (.inr (1, [.ref r, .ref g, .int wi, .int si, .int to, .int gl, .int br, .long (-(m_ff wi smg ((m_cov arg heg smg si to) - (m_cov ar he sm si to)))), .long (m_hw smg htg (m_ff wi smg ((m_cov arg heg smg si to) - (m_cov ar he sm si to)))), .long fa]))) := by
          (try simp only [m_flS, m_fhS, if_neg c_7, if_pos c_8, if_neg c_9])
          first | done | exact rfl | exact up_same e_q
        rw [← hF] at hP hD
        exact W.vret hx hb hret (fun t ht hW => ⟨⟨(), rfl, trivial, by rw [ht]; exact hP, va_K.moved hW.alike hK, hD⟩, hS.F ht⟩) hS.2.2 d_Op_measureFlow_146
    · refine lv_aload_n hx hb d_Op_measureFlow_67 rfl (lv_at hl 2 rfl) ?_
      refine lv_aload_n hx hb d_Op_measureFlow_68 rfl (lv_at hl 2 rfl) ?_
      refine lv_aload_n hx hb d_Op_measureFlow_69 rfl (lv_at hl 2 rfl) ?_
      refine pg_get (C := "SmokeZones$Opening") (T := T_Op) (N := 10) hx hb hG in_Op hown hK hP h_q e_4 rfl 0 (by decide) (hG _ k253) (fun _ h9 => h9) rfl d_Op_measureFlow_70 ?_
      refine lv_lload_n hx hb d_Op_measureFlow_73 rfl (lv_at hl 1 rfl) ?_
      refine lv_lload_n hx hb d_Op_measureFlow_74 rfl (lv_at hl 0 rfl) ?_
      refine lv_lsub hx hb d_Op_measureFlow_75 ?_
      refine kV_rl ⟨hx, hb, hml, hown, hG⟩ (c_Op_flowFrom h_q e_4 h_r e_5) (cwV 2 hG (gV k481 k482 k483 k9 k484) rfl rfl rfl hd_Op_flowFrom ⟨Nat.le_of_ble_eq_true rfl, Nat.le_of_ble_eq_true rfl⟩) hK hP hS h_q e_4 rfl rfl hl.1 rfl (Nat.le_of_ble_eq_true rfl) ⟨Nat.le_of_ble_eq_true rfl, Nat.le_of_ble_eq_true rfl⟩ d_Op_measureFlow_76 (fun locs hS => ?_)
      refine pg_put (C := "SmokeZones$Opening") (T := T_Op) (N := 10) (ty := .long) hx hb hG in_Op ty_Op ok_Op nm_Op hown hK hP hD hS h_q e_4 rfl 7 (by decide) (hG _ k261) (fun _ h9 => h9) rfl (by decide +kernel) rfl rfl (Nat.le_of_ble_eq_true rfl) d_Op_measureFlow_79 (fun H locs hP hD hS => ?_)
      rw [bx_uu] at hP hD
      have hP : va_P D vwCl (va_pl L (va_up f q (.inr (1, [.ref r, .ref g, .int wi, .int si, .int to, .int gl, .int br, .long (m_ff wi sm ((m_cov ar he sm si to) - (m_cov arg heg smg si to))), .long 0, .long fa])))) H := hP
      have hD : va_D A (va_pl L (va_up f q (.inr (1, [.ref r, .ref g, .int wi, .int si, .int to, .int gl, .int br, .long (m_ff wi sm ((m_cov ar he sm si to) - (m_cov arg heg smg si to))), .long 0, .long fa])))) := hD
      have e_16 : (va_up f q (.inr (1, [.ref r, .ref g, .int wi, .int si, .int to, .int gl, .int br, .long (m_ff wi sm ((m_cov ar he sm si to) - (m_cov arg heg smg si to))), .long 0, .long fa]))) q = .inr (1, [.ref r, .ref g, .int wi, .int si, .int to, .int gl, .int br, .long (m_ff wi sm ((m_cov ar he sm si to) - (m_cov arg heg smg si to))), .long 0, .long fa]) := va_up_self _ _ _
      have e_17 : (va_up f q (.inr (1, [.ref r, .ref g, .int wi, .int si, .int to, .int gl, .int br, .long (m_ff wi sm ((m_cov ar he sm si to) - (m_cov arg heg smg si to))), .long 0, .long fa]))) r = .inr (0, [.int ar, .int he, .long ho, .long sm, .long ht, .int sl, .int sa, .int fl]) := (va_up_ne _ _ ne_r_q).trans e_r
      have e_18 : (va_up f q (.inr (1, [.ref r, .ref g, .int wi, .int si, .int to, .int gl, .int br, .long (m_ff wi sm ((m_cov ar he sm si to) - (m_cov arg heg smg si to))), .long 0, .long fa]))) g = .inr (0, [.int arg, .int heg, .long hog, .long smg, .long htg, .int slg, .int sag, .int flg]) := (va_up_ne _ _ ne_g_q).trans e_g
      refine lv_aload_n hx hb d_Op_measureFlow_82 rfl (lv_at hl 2 rfl) ?_
      refine lv_aload_n hx hb d_Op_measureFlow_83 rfl (lv_at hl 2 rfl) ?_
      refine pg_get (C := "SmokeZones$Opening") (T := T_Op) (N := 10) hx hb hG in_Op hown hK hP h_q e_16 rfl 0 (by decide) (hG _ k253) (fun _ h9 => h9) rfl d_Op_measureFlow_84 ?_
      refine lv_aload_n hx hb d_Op_measureFlow_87 rfl (lv_at hl 2 rfl) ?_
      refine pg_get (C := "SmokeZones$Opening") (T := T_Op) (N := 10) hx hb hG in_Op hown hK hP h_q e_16 rfl 7 (by decide) (hG _ k261) (fun _ h9 => h9) rfl d_Op_measureFlow_88 ?_
      refine kV_rl ⟨hx, hb, hml, hown, hG⟩ (c_Ro_heatWith h_r e_17) (cwV 1 hG (gV k487 k488 k489 k8 k490) rfl rfl rfl hd_Ro_heatWith ⟨Nat.le_of_ble_eq_true rfl, Nat.le_of_ble_eq_true rfl⟩) hK hP hS h_r e_17 rfl rfl hl.1 rfl (Nat.le_of_ble_eq_true rfl) ⟨Nat.le_of_ble_eq_true rfl, Nat.le_of_ble_eq_true rfl⟩ d_Op_measureFlow_91 (fun locs hS => ?_)
      refine pg_put (C := "SmokeZones$Opening") (T := T_Op) (N := 10) (ty := .long) hx hb hG in_Op ty_Op ok_Op nm_Op hown hK hP hD hS h_q e_16 rfl 8 (by decide) (hG _ k263) (fun _ h9 => h9) rfl (by decide +kernel) rfl rfl (Nat.le_of_ble_eq_true rfl) d_Op_measureFlow_94 (fun H locs hP hD hS => ?_)
      rw [bx_uu] at hP hD
      have hP : va_P D vwCl (va_pl L (va_up f q (.inr (1, [.ref r, .ref g, .int wi, .int si, .int to, .int gl, .int br, .long (m_ff wi sm ((m_cov ar he sm si to) - (m_cov arg heg smg si to))), .long (m_hw sm ht (m_ff wi sm ((m_cov ar he sm si to) - (m_cov arg heg smg si to)))), .long fa])))) H := hP
      have hD : va_D A (va_pl L (va_up f q (.inr (1, [.ref r, .ref g, .int wi, .int si, .int to, .int gl, .int br, .long (m_ff wi sm ((m_cov ar he sm si to) - (m_cov arg heg smg si to))), .long (m_hw sm ht (m_ff wi sm ((m_cov ar he sm si to) - (m_cov arg heg smg si to)))), .long fa])))) := hD
      have e_19 : (va_up f q (.inr (1, [.ref r, .ref g, .int wi, .int si, .int to, .int gl, .int br, .long (m_ff wi sm ((m_cov ar he sm si to) - (m_cov arg heg smg si to))), .long (m_hw sm ht (m_ff wi sm ((m_cov ar he sm si to) - (m_cov arg heg smg si to)))), .long fa]))) q = .inr (1, [.ref r, .ref g, .int wi, .int si, .int to, .int gl, .int br, .long (m_ff wi sm ((m_cov ar he sm si to) - (m_cov arg heg smg si to))), .long (m_hw sm ht (m_ff wi sm ((m_cov ar he sm si to) - (m_cov arg heg smg si to)))), .long fa]) := va_up_self _ _ _
      have e_20 : (va_up f q (.inr (1, [.ref r, .ref g, .int wi, .int si, .int to, .int gl, .int br, .long (m_ff wi sm ((m_cov ar he sm si to) - (m_cov arg heg smg si to))), .long (m_hw sm ht (m_ff wi sm ((m_cov ar he sm si to) - (m_cov arg heg smg si to)))), .long fa]))) r = .inr (0, [.int ar, .int he, .long ho, .long sm, .long ht, .int sl, .int sa, .int fl]) := (va_up_ne _ _ ne_r_q).trans e_r
      have e_21 : (va_up f q (.inr (1, [.ref r, .ref g, .int wi, .int si, .int to, .int gl, .int br, .long (m_ff wi sm ((m_cov ar he sm si to) - (m_cov arg heg smg si to))), .long (m_hw sm ht (m_ff wi sm ((m_cov ar he sm si to) - (m_cov arg heg smg si to)))), .long fa]))) g = .inr (0, [.int arg, .int heg, .long hog, .long smg, .long htg, .int slg, .int sag, .int flg]) := (va_up_ne _ _ ne_g_q).trans e_g
      refine lv_goto (tgt := 146) hx hb d_Op_measureFlow_97 (by decide) ?_
      have hF : (va_up f q (openE r (.ref g) wi si to gl br (m_flS (m_open gl br) wi (m_cov ar he sm si to) (m_cov arg heg smg si to) sm smg) (m_fhS (m_open gl br) wi (m_cov ar he sm si to) (m_cov arg heg smg si to) sm ht smg htg) fa)) = (va_up f q (.inr (1, [.ref r, .ref g, .int wi, .int si, .int to, .int gl, .int br, .long (m_ff wi sm ((m_cov ar he sm si to) - (m_cov arg heg smg si to))), .long (m_hw sm ht (m_ff wi sm ((m_cov ar he sm si to) - (m_cov arg heg smg si to)))), .long fa]))) := by
        (try simp only [m_flS, m_fhS, if_neg c_7, if_neg c_8])
        first | done | exact rfl | exact up_same e_q
      rw [← hF] at hP hD
      exact W.vret hx hb hret (fun t ht hW => ⟨⟨(), rfl, trivial, by rw [ht]; exact hP, va_K.moved hW.alike hK, hD⟩, hS.F ht⟩) hS.2.2 d_Op_measureFlow_146
  · have hF : (va_up f q (openE r (.ref g) wi si to gl br (m_flS (m_open gl br) wi (m_cov ar he sm si to) (m_cov arg heg smg si to) sm smg) (m_fhS (m_open gl br) wi (m_cov ar he sm si to) (m_cov arg heg smg si to) sm ht smg htg) fa)) = (va_up f q (.inr (1, [.ref r, .ref g, .int wi, .int si, .int to, .int gl, .int br, .long 0, .long 0, .long fa]))) := by
      (try simp only [m_flS, m_fhS, if_pos c_7])
      first | done | exact rfl | exact up_same e_q
    rw [← hF] at hP hD
    exact W.vret hx hb hret (fun t ht hW => ⟨⟨(), rfl, trivial, by rw [ht]; exact hP, va_K.moved hW.alike hK, hD⟩, hS.F ht⟩) hS.2.2 d_Op_measureFlow_17

set_option maxHeartbeats 4000000 in
set_option maxRecDepth 100000 in
theorem c_Op_moveFlow_n {l : Launch} {D : va_G} {TY : List (ClassId × FieldType)} {L : List Nat} {f : Nat → va_E} {sz : Nat} {q : Nat} {wi : Int32} {si : Int32} {to : Int32} {gl : Int32} {br : Int32} {fw : Int64} {hf : Int64} {fa : Int64} {r : Nat} {ar : Int32} {he : Int32} {ho : Int64} {sm : Int64} {ht : Int64} {sl : Int32} {sa : Int32} {fl : Int32} (h_q : q ∈ L) (e_q : f q = openE r .null wi si to gl br fw hf fa) (h_r : r ∈ L) (e_r : f r = roomE ar he ho sm ht sl sa fl) : Met l y_Op_moveFlow (WS y_Op_moveFlow b_Op_moveFlow 1 (some .long)) { frames := 1, cells := 0, slots := 0, locals := 24 } (va_Pc [.ref q] (WP D TY L f sz)) (Xl D TY L (va_up (va_up f q (openE r .null wi si to gl br fw hf (fa + m_abs fw))) r (roomE ar he ho (sm + -fw) (ht + m_nh fw hf) sl sa fl)) (AA L f sz) (fw)) 0 0 (AA L f sz) := by
  refine Met.ofW (cc := b_Op_moveFlow) (maxL := 1) (ret := (some .long)) (by decide) rfl ?_
  intro p e s m args below meth c s₁ B hml hv
  obtain ⟨rfl, hsz, hP, hK, hD0⟩ := hv
  subst hsz
  have hx := B.exec
  have hb := B.bytes
  have hret := B.returns
  have hts := atoms_spec (ws := WS y_Op_moveFlow b_Op_moveFlow 1 (some .long)) B.pre
  have hG : ∀ w ∈ GW, w.before _ s = true := fun w h => hts w (List.mem_cons_of_mem _ h)
  have hown : s.vm.findClass "SmokeZones$Opening" = some m.cls := findClass_of_methodNamed B.named
  have hlocks := B.notSynchronized
  have hD : va_D (AA L f s.heap.size) (va_pl L f) := hD0.self (sz := s.heap.size)
  generalize hAe : AA L f s.heap.size = A at hD ⊢
  have hA : ∀ q : Nat, s.heap.size ≤ q → A q := fun q h => by rw [← hAe]; exact Or.inr h
  have hS : va_S A s.heap s.heap [] := va_S.rf
  have hl := lv_entry ([.ref q]) (n := 1) (Nat.le_of_ble_eq_true rfl)
  rw [lg_entry_eq]
  generalize (lg_sl ([.ref q]) ++ List.replicate (1 - (lg_sl ([.ref q])).length) Slot.unset).toArray = ls at hl ⊢
  have hl : lv_has ls 1 [(0, .ref q)] := hl
  have ne_q_r : q ≠ r := ne_ci e_q e_r (by decide)
  have ne_r_q : r ≠ q := fun q => ne_q_r q.symm
  refine lv_aload_n hx hb d_Op_moveFlow_0 rfl (lv_at hl 0 rfl) ?_
  refine lv_dup hx hb d_Op_moveFlow_1 rfl ?_
  refine pg_get (C := "SmokeZones$Opening") (T := T_Op) (N := 10) hx hb hG in_Op hown hK hP h_q e_q rfl 9 (by decide) (hG _ k264) (fun _ h9 => h9) rfl d_Op_moveFlow_2 ?_
  refine lv_aload_n hx hb d_Op_moveFlow_5 rfl (lv_at hl 0 rfl) ?_
  refine pg_get (C := "SmokeZones$Opening") (T := T_Op) (N := 10) hx hb hG in_Op hown hK hP h_q e_q rfl 7 (by decide) (hG _ k261) (fun _ h9 => h9) rfl d_Op_moveFlow_6 ?_
  refine va_mabs_long hx hb (hml.trans hl.1.symm) hown (hG _ k495) (hG _ km_abs_s) (hG _ k14) (hG _ km_abs_c) (Nat.le_of_ble_eq_true rfl) (Nat.le_of_ble_eq_true rfl) (Nat.le_of_ble_eq_true rfl) (Nat.le_of_ble_eq_true rfl) d_Op_moveFlow_9 ?_
  refine lv_ladd hx hb d_Op_moveFlow_12 ?_
  refine pg_put (C := "SmokeZones$Opening") (T := T_Op) (N := 10) (ty := .long) hx hb hG in_Op ty_Op ok_Op nm_Op hown hK hP hD hS h_q e_q rfl 9 (by decide) (hG _ k264) (fun _ h9 => h9) rfl (by decide +kernel) rfl rfl (Nat.le_of_ble_eq_true rfl) d_Op_moveFlow_13 (fun H locs hP hD hS => ?_)
  have hP : va_P D vwCl (va_pl L (va_up f q (.inr (1, [.ref r, .null, .int wi, .int si, .int to, .int gl, .int br, .long fw, .long hf, .long (fa + (m_abs fw))])))) H := hP
  have hD : va_D A (va_pl L (va_up f q (.inr (1, [.ref r, .null, .int wi, .int si, .int to, .int gl, .int br, .long fw, .long hf, .long (fa + (m_abs fw))])))) := hD
  have e_1 : (va_up f q (.inr (1, [.ref r, .null, .int wi, .int si, .int to, .int gl, .int br, .long fw, .long hf, .long (fa + (m_abs fw))]))) q = .inr (1, [.ref r, .null, .int wi, .int si, .int to, .int gl, .int br, .long fw, .long hf, .long (fa + (m_abs fw))]) := va_up_self _ _ _
  have e_2 : (va_up f q (.inr (1, [.ref r, .null, .int wi, .int si, .int to, .int gl, .int br, .long fw, .long hf, .long (fa + (m_abs fw))]))) r = .inr (0, [.int ar, .int he, .long ho, .long sm, .long ht, .int sl, .int sa, .int fl]) := (va_up_ne _ _ ne_r_q).trans e_r
  refine lv_aload_n hx hb d_Op_moveFlow_16 rfl (lv_at hl 0 rfl) ?_
  refine pg_get (C := "SmokeZones$Opening") (T := T_Op) (N := 10) hx hb hG in_Op hown hK hP h_q e_1 rfl 0 (by decide) (hG _ k253) (fun _ h9 => h9) rfl d_Op_moveFlow_17 ?_
  refine lv_aload_n hx hb d_Op_moveFlow_20 rfl (lv_at hl 0 rfl) ?_
  refine pg_get (C := "SmokeZones$Opening") (T := T_Op) (N := 10) hx hb hG in_Op hown hK hP h_q e_1 rfl 7 (by decide) (hG _ k261) (fun _ h9 => h9) rfl d_Op_moveFlow_21 ?_
  refine lv_lneg hx hb d_Op_moveFlow_24 ?_
  refine lv_aload_n hx hb d_Op_moveFlow_25 rfl (lv_at hl 0 rfl) ?_
  refine pg_get (C := "SmokeZones$Opening") (T := T_Op) (N := 10) hx hb hG in_Op hown hK hP h_q e_1 rfl 7 (by decide) (hG _ k261) (fun _ h9 => h9) rfl d_Op_moveFlow_26 ?_
  refine lv_lconst (v := 0) hx hb d_Op_moveFlow_29 (by decide) ?_
  refine lc_ge (tgt := 41) hx hb d_Op_moveFlow_30 d_Op_moveFlow_31 (by decide) (fun c_3 => ?_) (fun c_3 => ?_)
  · refine lv_aload_n hx hb d_Op_moveFlow_41 rfl (lv_at hl 0 rfl) ?_
    refine pg_get (C := "SmokeZones$Opening") (T := T_Op) (N := 10) hx hb hG in_Op hown hK hP h_q e_1 rfl 8 (by decide) (hG _ k263) (fun _ h9 => h9) rfl d_Op_moveFlow_42 ?_
    refine lv_lneg hx hb d_Op_moveFlow_45 ?_
    refine kV_wv (f' := va_up (va_up f q (.inr (1, [.ref r, .null, .int wi, .int si, .int to, .int gl, .int br, .long fw, .long hf, .long (fa + (m_abs fw))]))) r (.inr (0, [.int ar, .int he, .long ho, .long (sm + (-fw)), .long (ht + (-hf)), .int sl, .int sa, .int fl]))) ⟨hx, hb, hml, hown, hG⟩ (c_Ro_add h_r e_2) (cwV 2 hG (gV k498 k451 k452 k8 k453) rfl rfl rfl hd_Ro_add ⟨Nat.le_of_ble_eq_true rfl, Nat.le_of_ble_eq_true rfl⟩) hK hP hD hS hA h_r e_2 rfl rfl hl.1 rfl (Nat.le_of_ble_eq_true rfl) ⟨Nat.le_of_ble_eq_true rfl, Nat.le_of_ble_eq_true rfl⟩ d_Op_moveFlow_46 (fun H locs hP hD hS => ?_)
    have e_4 : (va_up (va_up f q (.inr (1, [.ref r, .null, .int wi, .int si, .int to, .int gl, .int br, .long fw, .long hf, .long (fa + (m_abs fw))]))) r (.inr (0, [.int ar, .int he, .long ho, .long (sm + (-fw)), .long (ht + (-hf)), .int sl, .int sa, .int fl]))) r = .inr (0, [.int ar, .int he, .long ho, .long (sm + (-fw)), .long (ht + (-hf)), .int sl, .int sa, .int fl]) := va_up_self _ _ _
    have e_5 : (va_up (va_up f q (.inr (1, [.ref r, .null, .int wi, .int si, .int to, .int gl, .int br, .long fw, .long hf, .long (fa + (m_abs fw))]))) r (.inr (0, [.int ar, .int he, .long ho, .long (sm + (-fw)), .long (ht + (-hf)), .int sl, .int sa, .int fl]))) q = .inr (1, [.ref r, .null, .int wi, .int si, .int to, .int gl, .int br, .long fw, .long hf, .long (fa + (m_abs fw))]) := (va_up_ne _ _ ne_q_r).trans e_1
    refine lv_aload_n hx hb d_Op_moveFlow_49 rfl (lv_at hl 0 rfl) ?_
    refine pg_get (C := "SmokeZones$Opening") (T := T_Op) (N := 10) hx hb hG in_Op hown hK hP h_q e_5 rfl 1 (by decide) (hG _ k254) (fun _ h9 => h9) rfl d_Op_moveFlow_50 ?_
    refine lv_ifnonnullN hx hb d_Op_moveFlow_53 ?_
    refine lv_aload_n hx hb d_Op_moveFlow_56 rfl (lv_at hl 0 rfl) ?_
    refine pg_get (C := "SmokeZones$Opening") (T := T_Op) (N := 10) hx hb hG in_Op hown hK hP h_q e_5 rfl 7 (by decide) (hG _ k261) (fun _ h9 => h9) rfl d_Op_moveFlow_57 ?_
    have hF : (va_up (va_up f q (openE r .null wi si to gl br fw hf (fa + m_abs fw))) r (roomE ar he ho (sm + -fw) (ht + m_nh fw hf) sl sa fl)) = (va_up (va_up f q (.inr (1, [.ref r, .null, .int wi, .int si, .int to, .int gl, .int br, .long fw, .long hf, .long (fa + (m_abs fw))]))) r (.inr (0, [.int ar, .int he, .long ho, .long (sm + (-fw)), .long (ht + (-hf)), .int sl, .int sa, .int fl]))) := by
      (try simp only [m_nh, if_pos c_3])
      first | done | exact rfl
    rw [← hF] at hP hD
    exact W.lret hx hb hret (fun t ht hW => ⟨⟨_, (), rfl, rfl, by rw [ht]; exact hP, va_K.moved hW.alike hK, hD⟩, hS.F ht⟩) hS.2.2 d_Op_moveFlow_60
  · refine lv_aload_n hx hb d_Op_moveFlow_34 rfl (lv_at hl 0 rfl) ?_
    refine pg_get (C := "SmokeZones$Opening") (T := T_Op) (N := 10) hx hb hG in_Op hown hK hP h_q e_1 rfl 8 (by decide) (hG _ k263) (fun _ h9 => h9) rfl d_Op_moveFlow_35 ?_
    refine lv_goto (tgt := 46) hx hb d_Op_moveFlow_38 (by decide) ?_
    refine kV_wv (f' := va_up (va_up f q (.inr (1, [.ref r, .null, .int wi, .int si, .int to, .int gl, .int br, .long fw, .long hf, .long (fa + (m_abs fw))]))) r (.inr (0, [.int ar, .int he, .long ho, .long (sm + (-fw)), .long (ht + hf), .int sl, .int sa, .int fl]))) ⟨hx, hb, hml, hown, hG⟩ (c_Ro_add h_r e_2) (cwV 2 hG (gV k498 k451 k452 k8 k453) rfl rfl rfl hd_Ro_add ⟨Nat.le_of_ble_eq_true rfl, Nat.le_of_ble_eq_true rfl⟩) hK hP hD hS hA h_r e_2 rfl rfl hl.1 rfl (Nat.le_of_ble_eq_true rfl) ⟨Nat.le_of_ble_eq_true rfl, Nat.le_of_ble_eq_true rfl⟩ d_Op_moveFlow_46 (fun H locs hP hD hS => ?_)
    have e_6 : (va_up (va_up f q (.inr (1, [.ref r, .null, .int wi, .int si, .int to, .int gl, .int br, .long fw, .long hf, .long (fa + (m_abs fw))]))) r (.inr (0, [.int ar, .int he, .long ho, .long (sm + (-fw)), .long (ht + hf), .int sl, .int sa, .int fl]))) r = .inr (0, [.int ar, .int he, .long ho, .long (sm + (-fw)), .long (ht + hf), .int sl, .int sa, .int fl]) := va_up_self _ _ _
    have e_7 : (va_up (va_up f q (.inr (1, [.ref r, .null, .int wi, .int si, .int to, .int gl, .int br, .long fw, .long hf, .long (fa + (m_abs fw))]))) r (.inr (0, [.int ar, .int he, .long ho, .long (sm + (-fw)), .long (ht + hf), .int sl, .int sa, .int fl]))) q = .inr (1, [.ref r, .null, .int wi, .int si, .int to, .int gl, .int br, .long fw, .long hf, .long (fa + (m_abs fw))]) := (va_up_ne _ _ ne_q_r).trans e_1
    refine lv_aload_n hx hb d_Op_moveFlow_49 rfl (lv_at hl 0 rfl) ?_
    refine pg_get (C := "SmokeZones$Opening") (T := T_Op) (N := 10) hx hb hG in_Op hown hK hP h_q e_7 rfl 1 (by decide) (hG _ k254) (fun _ h9 => h9) rfl d_Op_moveFlow_50 ?_
    refine lv_ifnonnullN hx hb d_Op_moveFlow_53 ?_
    refine lv_aload_n hx hb d_Op_moveFlow_56 rfl (lv_at hl 0 rfl) ?_
    refine pg_get (C := "SmokeZones$Opening") (T := T_Op) (N := 10) hx hb hG in_Op hown hK hP h_q e_7 rfl 7 (by decide) (hG _ k261) (fun _ h9 => h9) rfl d_Op_moveFlow_57 ?_
    have hF : (va_up (va_up f q (openE r .null wi si to gl br fw hf (fa + m_abs fw))) r (roomE ar he ho (sm + -fw) (ht + m_nh fw hf) sl sa fl)) = (va_up (va_up f q (.inr (1, [.ref r, .null, .int wi, .int si, .int to, .int gl, .int br, .long fw, .long hf, .long (fa + (m_abs fw))]))) r (.inr (0, [.int ar, .int he, .long ho, .long (sm + (-fw)), .long (ht + hf), .int sl, .int sa, .int fl]))) := by
      (try simp only [m_nh, if_neg c_3])
      first | done | exact rfl
    rw [← hF] at hP hD
    exact W.lret hx hb hret (fun t ht hW => ⟨⟨_, (), rfl, rfl, by rw [ht]; exact hP, va_K.moved hW.alike hK, hD⟩, hS.F ht⟩) hS.2.2 d_Op_moveFlow_60

set_option maxHeartbeats 4000000 in
set_option maxRecDepth 100000 in
theorem c_Op_moveFlow_s {l : Launch} {D : va_G} {TY : List (ClassId × FieldType)} {L : List Nat} {f : Nat → va_E} {sz : Nat} {q : Nat} {wi : Int32} {si : Int32} {to : Int32} {gl : Int32} {br : Int32} {fw : Int64} {hf : Int64} {fa : Int64} {r : Nat} {ar : Int32} {he : Int32} {ho : Int64} {sm : Int64} {ht : Int64} {sl : Int32} {sa : Int32} {fl : Int32} {g : Nat} {arg : Int32} {heg : Int32} {hog : Int64} {smg : Int64} {htg : Int64} {slg : Int32} {sag : Int32} {flg : Int32} (h_q : q ∈ L) (e_q : f q = openE r (.ref g) wi si to gl br fw hf fa) (h_r : r ∈ L) (e_r : f r = roomE ar he ho sm ht sl sa fl) (h_g : g ∈ L) (e_g : f g = roomE arg heg hog smg htg slg sag flg) (ne_r_g : r ≠ g) : Met l y_Op_moveFlow (WS y_Op_moveFlow b_Op_moveFlow 1 (some .long)) { frames := 1, cells := 0, slots := 0, locals := 24 } (va_Pc [.ref q] (WP D TY L f sz)) (Xl D TY L (va_up (va_up (va_up f q (openE r (.ref g) wi si to gl br fw hf (fa + m_abs fw))) r (roomE ar he ho (sm + -fw) (ht + m_nh fw hf) sl sa fl)) g (roomE arg heg hog (smg + fw) (htg + m_fh fw hf) slg sag flg)) (AA L f sz) (0)) 0 0 (AA L f sz) := by
  refine Met.ofW (cc := b_Op_moveFlow) (maxL := 1) (ret := (some .long)) (by decide) rfl ?_
  intro p e s m args below meth c s₁ B hml hv
  obtain ⟨rfl, hsz, hP, hK, hD0⟩ := hv
  subst hsz
  have hx := B.exec
  have hb := B.bytes
  have hret := B.returns
  have hts := atoms_spec (ws := WS y_Op_moveFlow b_Op_moveFlow 1 (some .long)) B.pre
  have hG : ∀ w ∈ GW, w.before _ s = true := fun w h => hts w (List.mem_cons_of_mem _ h)
  have hown : s.vm.findClass "SmokeZones$Opening" = some m.cls := findClass_of_methodNamed B.named
  have hlocks := B.notSynchronized
  have hD : va_D (AA L f s.heap.size) (va_pl L f) := hD0.self (sz := s.heap.size)
  generalize hAe : AA L f s.heap.size = A at hD ⊢
  have hA : ∀ q : Nat, s.heap.size ≤ q → A q := fun q h => by rw [← hAe]; exact Or.inr h
  have hS : va_S A s.heap s.heap [] := va_S.rf
  have hl := lv_entry ([.ref q]) (n := 1) (Nat.le_of_ble_eq_true rfl)
  rw [lg_entry_eq]
  generalize (lg_sl ([.ref q]) ++ List.replicate (1 - (lg_sl ([.ref q])).length) Slot.unset).toArray = ls at hl ⊢
  have hl : lv_has ls 1 [(0, .ref q)] := hl
  have ne_q_r : q ≠ r := ne_ci e_q e_r (by decide)
  have ne_r_q : r ≠ q := fun q => ne_q_r q.symm
  have ne_q_g : q ≠ g := ne_ci e_q e_g (by decide)
  have ne_g_q : g ≠ q := fun q => ne_q_g q.symm
  have ne_g_r : g ≠ r := fun q => ne_r_g q.symm
  refine lv_aload_n hx hb d_Op_moveFlow_0 rfl (lv_at hl 0 rfl) ?_
  refine lv_dup hx hb d_Op_moveFlow_1 rfl ?_
  refine pg_get (C := "SmokeZones$Opening") (T := T_Op) (N := 10) hx hb hG in_Op hown hK hP h_q e_q rfl 9 (by decide) (hG _ k264) (fun _ h9 => h9) rfl d_Op_moveFlow_2 ?_
  refine lv_aload_n hx hb d_Op_moveFlow_5 rfl (lv_at hl 0 rfl) ?_
  refine pg_get (C := "SmokeZones$Opening") (T := T_Op) (N := 10) hx hb hG in_Op hown hK hP h_q e_q rfl 7 (by decide) (hG _ k261) (fun _ h9 => h9) rfl d_Op_moveFlow_6 ?_
  refine va_mabs_long hx hb (hml.trans hl.1.symm) hown (hG _ k495) (hG _ km_abs_s) (hG _ k14) (hG _ km_abs_c) (Nat.le_of_ble_eq_true rfl) (Nat.le_of_ble_eq_true rfl) (Nat.le_of_ble_eq_true rfl) (Nat.le_of_ble_eq_true rfl) d_Op_moveFlow_9 ?_
  refine lv_ladd hx hb d_Op_moveFlow_12 ?_
  refine pg_put (C := "SmokeZones$Opening") (T := T_Op) (N := 10) (ty := .long) hx hb hG in_Op ty_Op ok_Op nm_Op hown hK hP hD hS h_q e_q rfl 9 (by decide) (hG _ k264) (fun _ h9 => h9) rfl (by decide +kernel) rfl rfl (Nat.le_of_ble_eq_true rfl) d_Op_moveFlow_13 (fun H locs hP hD hS => ?_)
  have hP : va_P D vwCl (va_pl L (va_up f q (.inr (1, [.ref r, .ref g, .int wi, .int si, .int to, .int gl, .int br, .long fw, .long hf, .long (fa + (m_abs fw))])))) H := hP
  have hD : va_D A (va_pl L (va_up f q (.inr (1, [.ref r, .ref g, .int wi, .int si, .int to, .int gl, .int br, .long fw, .long hf, .long (fa + (m_abs fw))])))) := hD
  have e_1 : (va_up f q (.inr (1, [.ref r, .ref g, .int wi, .int si, .int to, .int gl, .int br, .long fw, .long hf, .long (fa + (m_abs fw))]))) q = .inr (1, [.ref r, .ref g, .int wi, .int si, .int to, .int gl, .int br, .long fw, .long hf, .long (fa + (m_abs fw))]) := va_up_self _ _ _
  have e_2 : (va_up f q (.inr (1, [.ref r, .ref g, .int wi, .int si, .int to, .int gl, .int br, .long fw, .long hf, .long (fa + (m_abs fw))]))) r = .inr (0, [.int ar, .int he, .long ho, .long sm, .long ht, .int sl, .int sa, .int fl]) := (va_up_ne _ _ ne_r_q).trans e_r
  have e_3 : (va_up f q (.inr (1, [.ref r, .ref g, .int wi, .int si, .int to, .int gl, .int br, .long fw, .long hf, .long (fa + (m_abs fw))]))) g = .inr (0, [.int arg, .int heg, .long hog, .long smg, .long htg, .int slg, .int sag, .int flg]) := (va_up_ne _ _ ne_g_q).trans e_g
  refine lv_aload_n hx hb d_Op_moveFlow_16 rfl (lv_at hl 0 rfl) ?_
  refine pg_get (C := "SmokeZones$Opening") (T := T_Op) (N := 10) hx hb hG in_Op hown hK hP h_q e_1 rfl 0 (by decide) (hG _ k253) (fun _ h9 => h9) rfl d_Op_moveFlow_17 ?_
  refine lv_aload_n hx hb d_Op_moveFlow_20 rfl (lv_at hl 0 rfl) ?_
  refine pg_get (C := "SmokeZones$Opening") (T := T_Op) (N := 10) hx hb hG in_Op hown hK hP h_q e_1 rfl 7 (by decide) (hG _ k261) (fun _ h9 => h9) rfl d_Op_moveFlow_21 ?_
  refine lv_lneg hx hb d_Op_moveFlow_24 ?_
  refine lv_aload_n hx hb d_Op_moveFlow_25 rfl (lv_at hl 0 rfl) ?_
  refine pg_get (C := "SmokeZones$Opening") (T := T_Op) (N := 10) hx hb hG in_Op hown hK hP h_q e_1 rfl 7 (by decide) (hG _ k261) (fun _ h9 => h9) rfl d_Op_moveFlow_26 ?_
  refine lv_lconst (v := 0) hx hb d_Op_moveFlow_29 (by decide) ?_
  refine lc_ge (tgt := 41) hx hb d_Op_moveFlow_30 d_Op_moveFlow_31 (by decide) (fun c_4 => ?_) (fun c_4 => ?_)
  · refine lv_aload_n hx hb d_Op_moveFlow_41 rfl (lv_at hl 0 rfl) ?_
    refine pg_get (C := "SmokeZones$Opening") (T := T_Op) (N := 10) hx hb hG in_Op hown hK hP h_q e_1 rfl 8 (by decide) (hG _ k263) (fun _ h9 => h9) rfl d_Op_moveFlow_42 ?_
    refine lv_lneg hx hb d_Op_moveFlow_45 ?_
    refine kV_wv (f' := va_up (va_up f q (.inr (1, [.ref r, .ref g, .int wi, .int si, .int to, .int gl, .int br, .long fw, .long hf, .long (fa + (m_abs fw))]))) r (.inr (0, [.int ar, .int he, .long ho, .long (sm + (-fw)), .long (ht + (-hf)), .int sl, .int sa, .int fl]))) ⟨hx, hb, hml, hown, hG⟩ (c_Ro_add h_r e_2) (cwV 2 hG (gV k498 k451 k452 k8 k453) rfl rfl rfl hd_Ro_add ⟨Nat.le_of_ble_eq_true rfl, Nat.le_of_ble_eq_true rfl⟩) hK hP hD hS hA h_r e_2 rfl rfl hl.1 rfl (Nat.le_of_ble_eq_true rfl) ⟨Nat.le_of_ble_eq_true rfl, Nat.le_of_ble_eq_true rfl⟩ d_Op_moveFlow_46 (fun H locs hP hD hS => ?_)
    have e_5 : (va_up (va_up f q (.inr (1, [.ref r, .ref g, .int wi, .int si, .int to, .int gl, .int br, .long fw, .long hf, .long (fa + (m_abs fw))]))) r (.inr (0, [.int ar, .int he, .long ho, .long (sm + (-fw)), .long (ht + (-hf)), .int sl, .int sa, .int fl]))) r = .inr (0, [.int ar, .int he, .long ho, .long (sm + (-fw)), .long (ht + (-hf)), .int sl, .int sa, .int fl]) := va_up_self _ _ _
    have e_6 : (va_up (va_up f q (.inr (1, [.ref r, .ref g, .int wi, .int si, .int to, .int gl, .int br, .long fw, .long hf, .long (fa + (m_abs fw))]))) r (.inr (0, [.int ar, .int he, .long ho, .long (sm + (-fw)), .long (ht + (-hf)), .int sl, .int sa, .int fl]))) q = .inr (1, [.ref r, .ref g, .int wi, .int si, .int to, .int gl, .int br, .long fw, .long hf, .long (fa + (m_abs fw))]) := (va_up_ne _ _ ne_q_r).trans e_1
    have e_7 : (va_up (va_up f q (.inr (1, [.ref r, .ref g, .int wi, .int si, .int to, .int gl, .int br, .long fw, .long hf, .long (fa + (m_abs fw))]))) r (.inr (0, [.int ar, .int he, .long ho, .long (sm + (-fw)), .long (ht + (-hf)), .int sl, .int sa, .int fl]))) g = .inr (0, [.int arg, .int heg, .long hog, .long smg, .long htg, .int slg, .int sag, .int flg]) := (va_up_ne _ _ ne_g_r).trans e_3
    refine lv_aload_n hx hb d_Op_moveFlow_49 rfl (lv_at hl 0 rfl) ?_
    refine pg_get (C := "SmokeZones$Opening") (T := T_Op) (N := 10) hx hb hG in_Op hown hK hP h_q e_6 rfl 1 (by decide) (hG _ k254) (fun _ h9 => h9) rfl d_Op_moveFlow_50 ?_
    refine lv_ifnonnull (tgt := 61) hx hb d_Op_moveFlow_53 (by decide) ?_
    refine lv_aload_n hx hb d_Op_moveFlow_61 rfl (lv_at hl 0 rfl) ?_
    refine pg_get (C := "SmokeZones$Opening") (T := T_Op) (N := 10) hx hb hG in_Op hown hK hP h_q e_6 rfl 1 (by decide) (hG _ k254) (fun _ h9 => h9) rfl d_Op_moveFlow_62 ?_
    refine lv_aload_n hx hb d_Op_moveFlow_65 rfl (lv_at hl 0 rfl) ?_
    refine pg_get (C := "SmokeZones$Opening") (T := T_Op) (N := 10) hx hb hG in_Op hown hK hP h_q e_6 rfl 7 (by decide) (hG _ k261) (fun _ h9 => h9) rfl d_Op_moveFlow_66 ?_
    refine lv_aload_n hx hb d_Op_moveFlow_69 rfl (lv_at hl 0 rfl) ?_
    refine pg_get (C := "SmokeZones$Opening") (T := T_Op) (N := 10) hx hb hG in_Op hown hK hP h_q e_6 rfl 7 (by decide) (hG _ k261) (fun _ h9 => h9) rfl d_Op_moveFlow_70 ?_
    refine lv_lconst (v := 0) hx hb d_Op_moveFlow_73 (by decide) ?_
    refine lc_ge (tgt := 86) hx hb d_Op_moveFlow_74 d_Op_moveFlow_75 (by decide) (fun c_8 => ?_) (fun c_8 => ?_)
    · refine lv_aload_n hx hb d_Op_moveFlow_86 rfl (lv_at hl 0 rfl) ?_
      refine pg_get (C := "SmokeZones$Opening") (T := T_Op) (N := 10) hx hb hG in_Op hown hK hP h_q e_6 rfl 8 (by decide) (hG _ k263) (fun _ h9 => h9) rfl d_Op_moveFlow_87 ?_
      refine kV_wv (f' := va_up (va_up (va_up f q (.inr (1, [.ref r, .ref g, .int wi, .int si, .int to, .int gl, .int br, .long fw, .long hf, .long (fa + (m_abs fw))]))) r (.inr (0, [.int ar, .int he, .long ho, .long (sm + (-fw)), .long (ht + (-hf)), .int sl, .int sa, .int fl]))) g (.inr (0, [.int arg, .int heg, .long hog, .long (smg + fw), .long (htg + hf), .int slg, .int sag, .int flg]))) ⟨hx, hb, hml, hown, hG⟩ (c_Ro_add h_g e_7) (cwV 2 hG (gV k498 k451 k452 k8 k453) rfl rfl rfl hd_Ro_add ⟨Nat.le_of_ble_eq_true rfl, Nat.le_of_ble_eq_true rfl⟩) hK hP hD hS hA h_g e_7 rfl rfl hl.1 rfl (Nat.le_of_ble_eq_true rfl) ⟨Nat.le_of_ble_eq_true rfl, Nat.le_of_ble_eq_true rfl⟩ d_Op_moveFlow_90 (fun H locs hP hD hS => ?_)
      have e_9 : (va_up (va_up (va_up f q (.inr (1, [.ref r, .ref g, .int wi, .int si, .int to, .int gl, .int br, .long fw, .long hf, .long (fa + (m_abs fw))]))) r (.inr (0, [.int ar, .int he, .long ho, .long (sm + (-fw)), .long (ht + (-hf)), .int sl, .int sa, .int fl]))) g (.inr (0, [.int arg, .int heg, .long hog, .long (smg + fw), .long (htg + hf), .int slg, .int sag, .int flg]))) g = .inr (0, [.int arg, .int heg, .long hog, .long (smg + fw), .long (htg + hf), .int slg, .int sag, .int flg]) := va_up_self _ _ _
      have e_10 : (va_up (va_up (va_up f q (.inr (1, [.ref r, .ref g, .int wi, .int si, .int to, .int gl, .int br, .long fw, .long hf, .long (fa + (m_abs fw))]))) r (.inr (0, [.int ar, .int he, .long ho, .long (sm + (-fw)), .long (ht + (-hf)), .int sl, .int sa, .int fl]))) g (.inr (0, [.int arg, .int heg, .long hog, .long (smg + fw), .long (htg + hf), .int slg, .int sag, .int flg]))) q = .inr (1, [.ref r, .ref g, .int wi, .int si, .int to, .int gl, .int br, .long fw, .long hf, .long (fa + (m_abs fw))]) := (va_up_ne _ _ ne_q_g).trans e_6
      have e_11 : (va_up (va_up (va_up f q (.inr (1, [.ref r, .ref g, .int wi, .int si, .int to, .int gl, .int br, .long fw, .long hf, .long (fa + (m_abs fw))]))) r (.inr (0, [.int ar, .int he, .long ho, .long (sm + (-fw)), .long (ht + (-hf)), .int sl, .int sa, .int fl]))) g (.inr (0, [.int arg, .int heg, .long hog, .long (smg + fw), .long (htg + hf), .int slg, .int sag, .int flg]))) r = .inr (0, [.int ar, .int he, .long ho, .long (sm + (-fw)), .long (ht + (-hf)), .int sl, .int sa, .int fl]) := (va_up_ne _ _ ne_r_g).trans e_5
      refine lv_lconst (v := 0) hx hb d_Op_moveFlow_93 (by decide) ?_
      have hF : (va_up (va_up (va_up f q (openE r (.ref g) wi si to gl br fw hf (fa + m_abs fw))) r (roomE ar he ho (sm + -fw) (ht + m_nh fw hf) sl sa fl)) g (roomE arg heg hog (smg + fw) (htg + m_fh fw hf) slg sag flg)) = (va_up (va_up (va_up f q (.inr (1, [.ref r, .ref g, .int wi, .int si, .int to, .int gl, .int br, .long fw, .long hf, .long (fa + (m_abs fw))]))) r (.inr (0, [.int ar, .int he, .long ho, .long (sm + (-fw)), .long (ht + (-hf)), .int sl, .int sa, .int fl]))) g (.inr (0, [.int arg, .int heg, .long hog, .long (smg + fw), .long (htg + hf), .int slg, .int sag, .int flg]))) := by
        (try simp only [m_nh, m_fh, if_pos c_4, if_pos c_8])
        first | done | exact rfl
      rw [← hF] at hP hD
      exact W.lret hx hb hret (fun t ht hW => ⟨⟨_, (), rfl, rfl, by rw [ht]; exact hP, va_K.moved hW.alike hK, hD⟩, hS.F ht⟩) hS.2.2 d_Op_moveFlow_94
    · exact absurd c_4 c_8
  · refine lv_aload_n hx hb d_Op_moveFlow_34 rfl (lv_at hl 0 rfl) ?_
    refine pg_get (C := "SmokeZones$Opening") (T := T_Op) (N := 10) hx hb hG in_Op hown hK hP h_q e_1 rfl 8 (by decide) (hG _ k263) (fun _ h9 => h9) rfl d_Op_moveFlow_35 ?_
    refine lv_goto (tgt := 46) hx hb d_Op_moveFlow_38 (by decide) ?_
    refine kV_wv (f' := va_up (va_up f q (.inr (1, [.ref r, .ref g, .int wi, .int si, .int to, .int gl, .int br, .long fw, .long hf, .long (fa + (m_abs fw))]))) r (.inr (0, [.int ar, .int he, .long ho, .long (sm + (-fw)), .long (ht + hf), .int sl, .int sa, .int fl]))) ⟨hx, hb, hml, hown, hG⟩ (c_Ro_add h_r e_2) (cwV 2 hG (gV k498 k451 k452 k8 k453) rfl rfl rfl hd_Ro_add ⟨Nat.le_of_ble_eq_true rfl, Nat.le_of_ble_eq_true rfl⟩) hK hP hD hS hA h_r e_2 rfl rfl hl.1 rfl (Nat.le_of_ble_eq_true rfl) ⟨Nat.le_of_ble_eq_true rfl, Nat.le_of_ble_eq_true rfl⟩ d_Op_moveFlow_46 (fun H locs hP hD hS => ?_)
    have e_12 : (va_up (va_up f q (.inr (1, [.ref r, .ref g, .int wi, .int si, .int to, .int gl, .int br, .long fw, .long hf, .long (fa + (m_abs fw))]))) r (.inr (0, [.int ar, .int he, .long ho, .long (sm + (-fw)), .long (ht + hf), .int sl, .int sa, .int fl]))) r = .inr (0, [.int ar, .int he, .long ho, .long (sm + (-fw)), .long (ht + hf), .int sl, .int sa, .int fl]) := va_up_self _ _ _
    have e_13 : (va_up (va_up f q (.inr (1, [.ref r, .ref g, .int wi, .int si, .int to, .int gl, .int br, .long fw, .long hf, .long (fa + (m_abs fw))]))) r (.inr (0, [.int ar, .int he, .long ho, .long (sm + (-fw)), .long (ht + hf), .int sl, .int sa, .int fl]))) q = .inr (1, [.ref r, .ref g, .int wi, .int si, .int to, .int gl, .int br, .long fw, .long hf, .long (fa + (m_abs fw))]) := (va_up_ne _ _ ne_q_r).trans e_1
    have e_14 : (va_up (va_up f q (.inr (1, [.ref r, .ref g, .int wi, .int si, .int to, .int gl, .int br, .long fw, .long hf, .long (fa + (m_abs fw))]))) r (.inr (0, [.int ar, .int he, .long ho, .long (sm + (-fw)), .long (ht + hf), .int sl, .int sa, .int fl]))) g = .inr (0, [.int arg, .int heg, .long hog, .long smg, .long htg, .int slg, .int sag, .int flg]) := (va_up_ne _ _ ne_g_r).trans e_3
    refine lv_aload_n hx hb d_Op_moveFlow_49 rfl (lv_at hl 0 rfl) ?_
    refine pg_get (C := "SmokeZones$Opening") (T := T_Op) (N := 10) hx hb hG in_Op hown hK hP h_q e_13 rfl 1 (by decide) (hG _ k254) (fun _ h9 => h9) rfl d_Op_moveFlow_50 ?_
    refine lv_ifnonnull (tgt := 61) hx hb d_Op_moveFlow_53 (by decide) ?_
    refine lv_aload_n hx hb d_Op_moveFlow_61 rfl (lv_at hl 0 rfl) ?_
    refine pg_get (C := "SmokeZones$Opening") (T := T_Op) (N := 10) hx hb hG in_Op hown hK hP h_q e_13 rfl 1 (by decide) (hG _ k254) (fun _ h9 => h9) rfl d_Op_moveFlow_62 ?_
    refine lv_aload_n hx hb d_Op_moveFlow_65 rfl (lv_at hl 0 rfl) ?_
    refine pg_get (C := "SmokeZones$Opening") (T := T_Op) (N := 10) hx hb hG in_Op hown hK hP h_q e_13 rfl 7 (by decide) (hG _ k261) (fun _ h9 => h9) rfl d_Op_moveFlow_66 ?_
    refine lv_aload_n hx hb d_Op_moveFlow_69 rfl (lv_at hl 0 rfl) ?_
    refine pg_get (C := "SmokeZones$Opening") (T := T_Op) (N := 10) hx hb hG in_Op hown hK hP h_q e_13 rfl 7 (by decide) (hG _ k261) (fun _ h9 => h9) rfl d_Op_moveFlow_70 ?_
    refine lv_lconst (v := 0) hx hb d_Op_moveFlow_73 (by decide) ?_
    refine lc_ge (tgt := 86) hx hb d_Op_moveFlow_74 d_Op_moveFlow_75 (by decide) (fun c_15 => ?_) (fun c_15 => ?_)
    · exact absurd c_15 c_4
    · refine lv_aload_n hx hb d_Op_moveFlow_78 rfl (lv_at hl 0 rfl) ?_
      refine pg_get (C := "SmokeZones$Opening") (T := T_Op) (N := 10) hx hb hG in_Op hown hK hP h_q e_13 rfl 8 (by decide) (hG _ k263) (fun _ h9 => h9) rfl d_Op_moveFlow_79 ?_
      refine lv_lneg hx hb d_Op_moveFlow_82 ?_
      refine lv_goto (tgt := 90) hx hb d_Op_moveFlow_83 (by decide) ?_
      refine kV_wv (f' := va_up (va_up (va_up f q (.inr (1, [.ref r, .ref g, .int wi, .int si, .int to, .int gl, .int br, .long fw, .long hf, .long (fa + (m_abs fw))]))) r (.inr (0, [.int ar, .int he, .long ho, .long (sm + (-fw)), .long (ht + hf), .int sl, .int sa, .int fl]))) g (.inr (0, [.int arg, .int heg, .long hog, .long (smg + fw), .long (htg + (-hf)), .int slg, .int sag, .int flg]))) ⟨hx, hb, hml, hown, hG⟩ (c_Ro_add h_g e_14) (cwV 2 hG (gV k498 k451 k452 k8 k453) rfl rfl rfl hd_Ro_add ⟨Nat.le_of_ble_eq_true rfl, Nat.le_of_ble_eq_true rfl⟩) hK hP hD hS hA h_g e_14 rfl rfl hl.1 rfl (Nat.le_of_ble_eq_true rfl) ⟨Nat.le_of_ble_eq_true rfl, Nat.le_of_ble_eq_true rfl⟩ d_Op_moveFlow_90 (fun H locs hP hD hS => ?_)
      have e_16 : (va_up (va_up (va_up f q (.inr (1, [.ref r, .ref g, .int wi, .int si, .int to, .int gl, .int br, .long fw, .long hf, .long (fa + (m_abs fw))]))) r (.inr (0, [.int ar, .int he, .long ho, .long (sm + (-fw)), .long (ht + hf), .int sl, .int sa, .int fl]))) g (.inr (0, [.int arg, .int heg, .long hog, .long (smg + fw), .long (htg + (-hf)), .int slg, .int sag, .int flg]))) g = .inr (0, [.int arg, .int heg, .long hog, .long (smg + fw), .long (htg + (-hf)), .int slg, .int sag, .int flg]) := va_up_self _ _ _
      have e_17 : (va_up (va_up (va_up f q (.inr (1, [.ref r, .ref g, .int wi, .int si, .int to, .int gl, .int br, .long fw, .long hf, .long (fa + (m_abs fw))]))) r (.inr (0, [.int ar, .int he, .long ho, .long (sm + (-fw)), .long (ht + hf), .int sl, .int sa, .int fl]))) g (.inr (0, [.int arg, .int heg, .long hog, .long (smg + fw), .long (htg + (-hf)), .int slg, .int sag, .int flg]))) q = .inr (1, [.ref r, .ref g, .int wi, .int si, .int to, .int gl, .int br, .long fw, .long hf, .long (fa + (m_abs fw))]) := (va_up_ne _ _ ne_q_g).trans e_13
      have e_18 : (va_up (va_up (va_up f q (.inr (1, [.ref r, .ref g, .int wi, .int si, .int to, .int gl, .int br, .long fw, .long hf, .long (fa + (m_abs fw))]))) r (.inr (0, [.int ar, .int he, .long ho, .long (sm + (-fw)), .long (ht + hf), .int sl, .int sa, .int fl]))) g (.inr (0, [.int arg, .int heg, .long hog, .long (smg + fw), .long (htg + (-hf)), .int slg, .int sag, .int flg]))) r = .inr (0, [.int ar, .int he, .long ho, .long (sm + (-fw)), .long (ht + hf), .int sl, .int sa, .int fl]) := (va_up_ne _ _ ne_r_g).trans e_12
      refine lv_lconst (v := 0) hx hb d_Op_moveFlow_93 (by decide) ?_
      have hF : (va_up (va_up (va_up f q (openE r (.ref g) wi si to gl br fw hf (fa + m_abs fw))) r (roomE ar he ho (sm + -fw) (ht + m_nh fw hf) sl sa fl)) g (roomE arg heg hog (smg + fw) (htg + m_fh fw hf) slg sag flg)) = (va_up (va_up (va_up f q (.inr (1, [.ref r, .ref g, .int wi, .int si, .int to, .int gl, .int br, .long fw, .long hf, .long (fa + (m_abs fw))]))) r (.inr (0, [.int ar, .int he, .long ho, .long (sm + (-fw)), .long (ht + hf), .int sl, .int sa, .int fl]))) g (.inr (0, [.int arg, .int heg, .long hog, .long (smg + fw), .long (htg + (-hf)), .int slg, .int sag, .int flg]))) := by
        (try simp only [m_nh, m_fh, if_neg c_4, if_neg c_15])
        first | done | exact rfl
      rw [← hF] at hP hD
      exact W.lret hx hb hret (fun t ht hW => ⟨⟨_, (), rfl, rfl, by rw [ht]; exact hP, va_K.moved hW.alike hK, hD⟩, hS.F ht⟩) hS.2.2 d_Op_moveFlow_94

set_option maxHeartbeats 4000000 in
set_option maxRecDepth 100000 in
theorem c_Op_testGlass_n {l : Launch} {D : va_G} {TY : List (ClassId × FieldType)} {L : List Nat} {f : Nat → va_E} {sz : Nat} {q : Nat} {wi : Int32} {si : Int32} {to : Int32} {gl : Int32} {br : Int32} {fw : Int64} {hf : Int64} {fa : Int64} {r : Nat} {ar : Int32} {he : Int32} {ho : Int64} {sm : Int64} {ht : Int64} {sl : Int32} {sa : Int32} {fl : Int32} (h_q : q ∈ L) (e_q : f q = openE r .null wi si to gl br fw hf fa) (h_r : r ∈ L) (e_r : f r = roomE ar he ho sm ht sl sa fl) : Met l y_Op_testGlass (WS y_Op_testGlass b_Op_testGlass 1 none) { frames := 2, cells := 0, slots := 0, locals := 41 } (va_Pc [.ref q] (WP D TY L f sz)) (Xv D TY L (va_up f q (openE r .null wi si to gl (m_brN (m_open gl br) (m_hot sm ht gl) br) fw hf fa)) (AA L f sz)) 0 0 (AA L f sz) := by
  refine Met.ofW (cc := b_Op_testGlass) (maxL := 1) (ret := none) (by decide) rfl ?_
  intro p e s m args below meth c s₁ B hml hv
  obtain ⟨rfl, hsz, hP, hK, hD0⟩ := hv
  subst hsz
  have hx := B.exec
  have hb := B.bytes
  have hret := B.returns
  have hts := atoms_spec (ws := WS y_Op_testGlass b_Op_testGlass 1 none) B.pre
  have hG : ∀ w ∈ GW, w.before _ s = true := fun w h => hts w (List.mem_cons_of_mem _ h)
  have hown : s.vm.findClass "SmokeZones$Opening" = some m.cls := findClass_of_methodNamed B.named
  have hlocks := B.notSynchronized
  have hD : va_D (AA L f s.heap.size) (va_pl L f) := hD0.self (sz := s.heap.size)
  generalize hAe : AA L f s.heap.size = A at hD ⊢
  have hA : ∀ q : Nat, s.heap.size ≤ q → A q := fun q h => by rw [← hAe]; exact Or.inr h
  have hS : va_S A s.heap s.heap [] := va_S.rf
  have hl := lv_entry ([.ref q]) (n := 1) (Nat.le_of_ble_eq_true rfl)
  rw [lg_entry_eq]
  generalize (lg_sl ([.ref q]) ++ List.replicate (1 - (lg_sl ([.ref q])).length) Slot.unset).toArray = ls at hl ⊢
  have hl : lv_has ls 1 [(0, .ref q)] := hl
  have ne_q_r : q ≠ r := ne_ci e_q e_r (by decide)
  have ne_r_q : r ≠ q := fun q => ne_q_r q.symm
  refine lv_aload_n hx hb d_Op_testGlass_0 rfl (lv_at hl 0 rfl) ?_
  refine kV_ri ⟨hx, hb, hml, hown, hG⟩ (c_Op_isOpen h_q e_q) (cwV 0 hG (gV k462 k463 k464 k9 k465) rfl rfl rfl hd_Op_isOpen ⟨Nat.le_of_ble_eq_true rfl, Nat.le_of_ble_eq_true rfl⟩) hK hP hS h_q e_q rfl rfl hl.1 rfl (Nat.le_of_ble_eq_true rfl) ⟨Nat.le_of_ble_eq_true rfl, Nat.le_of_ble_eq_true rfl⟩ d_Op_testGlass_1 (fun locs hS => ?_)
  refine lv_if_ne (tgt := 34) hx hb d_Op_testGlass_4 (by decide) (fun c_1 => ?_) (fun c_1 => ?_)
  · have hF : (va_up f q (openE r .null wi si to gl (m_brN (m_open gl br) (m_hot sm ht gl) br) fw hf fa)) = (f) := by
      (try simp only [m_brN, if_neg c_1])
      first | done | exact rfl | exact up_same e_q
    rw [← hF] at hP hD
    exact W.vret hx hb hret (fun t ht hW => ⟨⟨(), rfl, trivial, by rw [ht]; exact hP, va_K.moved hW.alike hK, hD⟩, hS.F ht⟩) hS.2.2 d_Op_testGlass_34
  · refine lv_aload_n hx hb d_Op_testGlass_7 rfl (lv_at hl 0 rfl) ?_
    refine lv_aload_n hx hb d_Op_testGlass_8 rfl (lv_at hl 0 rfl) ?_
    refine pg_get (C := "SmokeZones$Opening") (T := T_Op) (N := 10) hx hb hG in_Op hown hK hP h_q e_q rfl 0 (by decide) (hG _ k253) (fun _ h9 => h9) rfl d_Op_testGlass_9 ?_
    refine kV_ri ⟨hx, hb, hml, hown, hG⟩ (c_Op_isHot_s h_q e_q h_r e_r) (cwV 1 hG (gV k535 k536 k537 k9 k538) rfl rfl rfl hd_Op_isHot ⟨Nat.le_of_ble_eq_true rfl, Nat.le_of_ble_eq_true rfl⟩) hK hP hS h_q e_q rfl rfl hl.1 rfl (Nat.le_of_ble_eq_true rfl) ⟨Nat.le_of_ble_eq_true rfl, Nat.le_of_ble_eq_true rfl⟩ d_Op_testGlass_12 (fun locs hS => ?_)
    refine lv_if_ne (tgt := 29) hx hb d_Op_testGlass_15 (by decide) (fun c_2 => ?_) (fun c_2 => ?_)
    · refine lv_aload_n hx hb d_Op_testGlass_29 rfl (lv_at hl 0 rfl) ?_
      refine lv_iconst (v := 1) hx hb d_Op_testGlass_30 (by decide) ?_
      refine pg_put (C := "SmokeZones$Opening") (T := T_Op) (N := 10) (ty := .boolean) hx hb hG in_Op ty_Op ok_Op nm_Op hown hK hP hD hS h_q e_q rfl 6 (by decide) (hG _ k260) (fun _ h9 => h9) rfl (by decide +kernel) rfl rfl (Nat.le_of_ble_eq_true rfl) d_Op_testGlass_31 (fun H locs hP hD hS => ?_)
      have hP : va_P D vwCl (va_pl L (va_up f q (.inr (1, [.ref r, .null, .int wi, .int si, .int to, .int gl, .int 1, .long fw, .long hf, .long fa])))) H := hP
      have hD : va_D A (va_pl L (va_up f q (.inr (1, [.ref r, .null, .int wi, .int si, .int to, .int gl, .int 1, .long fw, .long hf, .long fa])))) := hD
      have e_3 : (va_up f q (.inr (1, [.ref r, .null, .int wi, .int si, .int to, .int gl, .int 1, .long fw, .long hf, .long fa]))) q = .inr (1, [.ref r, .null, .int wi, .int si, .int to, .int gl, .int 1, .long fw, .long hf, .long fa]) := va_up_self _ _ _
      have e_4 : (va_up f q (.inr (1, [.ref r, .null, .int wi, .int si, .int to, .int gl, .int 1, .long fw, .long hf, .long fa]))) r = .inr (0, [.int ar, .int he, .long ho, .long sm, .long ht, .int sl, .int sa, .int fl]) := (va_up_ne _ _ ne_r_q).trans e_r
      have hF : (va_up f q (openE r .null wi si to gl (m_brN (m_open gl br) (m_hot sm ht gl) br) fw hf fa)) = (va_up f q (.inr (1, [.ref r, .null, .int wi, .int si, .int to, .int gl, .int 1, .long fw, .long hf, .long fa]))) := by
        (try simp only [m_brN, if_pos c_1, if_neg c_2])
        first | done | exact rfl | exact up_same e_q
      rw [← hF] at hP hD
      exact W.vret hx hb hret (fun t ht hW => ⟨⟨(), rfl, trivial, by rw [ht]; exact hP, va_K.moved hW.alike hK, hD⟩, hS.F ht⟩) hS.2.2 d_Op_testGlass_34
    · refine lv_aload_n hx hb d_Op_testGlass_18 rfl (lv_at hl 0 rfl) ?_
      refine lv_aload_n hx hb d_Op_testGlass_19 rfl (lv_at hl 0 rfl) ?_
      refine pg_get (C := "SmokeZones$Opening") (T := T_Op) (N := 10) hx hb hG in_Op hown hK hP h_q e_q rfl 1 (by decide) (hG _ k254) (fun _ h9 => h9) rfl d_Op_testGlass_20 ?_
      refine kV_ri ⟨hx, hb, hml, hown, hG⟩ (c_Op_isHot_n h_q e_q) (cwV 1 hG (gV k535 k536 k537 k9 k538) rfl rfl rfl hd_Op_isHot ⟨Nat.le_of_ble_eq_true rfl, Nat.le_of_ble_eq_true rfl⟩) hK hP hS h_q e_q rfl rfl hl.1 rfl (Nat.le_of_ble_eq_true rfl) ⟨Nat.le_of_ble_eq_true rfl, Nat.le_of_ble_eq_true rfl⟩ d_Op_testGlass_23 (fun locs hS => ?_)
      refine lv_if_eq (tgt := 34) hx hb d_Op_testGlass_26 (by decide) (fun c_5 => ?_) (fun c_5 => ?_)
      · have hF : (va_up f q (openE r .null wi si to gl (m_brN (m_open gl br) (m_hot sm ht gl) br) fw hf fa)) = (f) := by
          (try simp only [m_brN, if_pos c_1, if_pos c_2, if_pos c_5])
          first | done | exact rfl | exact up_same e_q
        rw [← hF] at hP hD
        exact W.vret hx hb hret (fun t ht hW => ⟨⟨(), rfl, trivial, by rw [ht]; exact hP, va_K.moved hW.alike hK, hD⟩, hS.F ht⟩) hS.2.2 d_Op_testGlass_34
      · exact absurd rfl c_5

set_option maxHeartbeats 4000000 in
set_option maxRecDepth 100000 in
theorem c_Op_testGlass_s {l : Launch} {D : va_G} {TY : List (ClassId × FieldType)} {L : List Nat} {f : Nat → va_E} {sz : Nat} {q : Nat} {wi : Int32} {si : Int32} {to : Int32} {gl : Int32} {br : Int32} {fw : Int64} {hf : Int64} {fa : Int64} {r : Nat} {ar : Int32} {he : Int32} {ho : Int64} {sm : Int64} {ht : Int64} {sl : Int32} {sa : Int32} {fl : Int32} {g : Nat} {arg : Int32} {heg : Int32} {hog : Int64} {smg : Int64} {htg : Int64} {slg : Int32} {sag : Int32} {flg : Int32} (h_q : q ∈ L) (e_q : f q = openE r (.ref g) wi si to gl br fw hf fa) (h_r : r ∈ L) (e_r : f r = roomE ar he ho sm ht sl sa fl) (h_g : g ∈ L) (e_g : f g = roomE arg heg hog smg htg slg sag flg) : Met l y_Op_testGlass (WS y_Op_testGlass b_Op_testGlass 1 none) { frames := 2, cells := 0, slots := 0, locals := 41 } (va_Pc [.ref q] (WP D TY L f sz)) (Xv D TY L (va_up f q (openE r (.ref g) wi si to gl (m_brS (m_open gl br) (m_hot sm ht gl) (m_hot smg htg gl) br) fw hf fa)) (AA L f sz)) 0 0 (AA L f sz) := by
  refine Met.ofW (cc := b_Op_testGlass) (maxL := 1) (ret := none) (by decide) rfl ?_
  intro p e s m args below meth c s₁ B hml hv
  obtain ⟨rfl, hsz, hP, hK, hD0⟩ := hv
  subst hsz
  have hx := B.exec
  have hb := B.bytes
  have hret := B.returns
  have hts := atoms_spec (ws := WS y_Op_testGlass b_Op_testGlass 1 none) B.pre
  have hG : ∀ w ∈ GW, w.before _ s = true := fun w h => hts w (List.mem_cons_of_mem _ h)
  have hown : s.vm.findClass "SmokeZones$Opening" = some m.cls := findClass_of_methodNamed B.named
  have hlocks := B.notSynchronized
  have hD : va_D (AA L f s.heap.size) (va_pl L f) := hD0.self (sz := s.heap.size)
  generalize hAe : AA L f s.heap.size = A at hD ⊢
  have hA : ∀ q : Nat, s.heap.size ≤ q → A q := fun q h => by rw [← hAe]; exact Or.inr h
  have hS : va_S A s.heap s.heap [] := va_S.rf
  have hl := lv_entry ([.ref q]) (n := 1) (Nat.le_of_ble_eq_true rfl)
  rw [lg_entry_eq]
  generalize (lg_sl ([.ref q]) ++ List.replicate (1 - (lg_sl ([.ref q])).length) Slot.unset).toArray = ls at hl ⊢
  have hl : lv_has ls 1 [(0, .ref q)] := hl
  have ne_q_r : q ≠ r := ne_ci e_q e_r (by decide)
  have ne_r_q : r ≠ q := fun q => ne_q_r q.symm
  have ne_q_g : q ≠ g := ne_ci e_q e_g (by decide)
  have ne_g_q : g ≠ q := fun q => ne_q_g q.symm
  refine lv_aload_n hx hb d_Op_testGlass_0 rfl (lv_at hl 0 rfl) ?_
  refine kV_ri ⟨hx, hb, hml, hown, hG⟩ (c_Op_isOpen h_q e_q) (cwV 0 hG (gV k462 k463 k464 k9 k465) rfl rfl rfl hd_Op_isOpen ⟨Nat.le_of_ble_eq_true rfl, Nat.le_of_ble_eq_true rfl⟩) hK hP hS h_q e_q rfl rfl hl.1 rfl (Nat.le_of_ble_eq_true rfl) ⟨Nat.le_of_ble_eq_true rfl, Nat.le_of_ble_eq_true rfl⟩ d_Op_testGlass_1 (fun locs hS => ?_)
  refine lv_if_ne (tgt := 34) hx hb d_Op_testGlass_4 (by decide) (fun c_1 => ?_) (fun c_1 => ?_)
  · have hF : (va_up f q (openE r (.ref g) wi si to gl (m_brS (m_open gl br) (m_hot sm ht gl) (m_hot smg htg gl) br) fw hf fa)) = (f) := by
      (try simp only [m_brS, if_neg c_1])
      first | done | exact rfl | exact up_same e_q
    rw [← hF] at hP hD
    exact W.vret hx hb hret (fun t ht hW => ⟨⟨(), rfl, trivial, by rw [ht]; exact hP, va_K.moved hW.alike hK, hD⟩, hS.F ht⟩) hS.2.2 d_Op_testGlass_34
  · refine lv_aload_n hx hb d_Op_testGlass_7 rfl (lv_at hl 0 rfl) ?_
    refine lv_aload_n hx hb d_Op_testGlass_8 rfl (lv_at hl 0 rfl) ?_
    refine pg_get (C := "SmokeZones$Opening") (T := T_Op) (N := 10) hx hb hG in_Op hown hK hP h_q e_q rfl 0 (by decide) (hG _ k253) (fun _ h9 => h9) rfl d_Op_testGlass_9 ?_
    refine kV_ri ⟨hx, hb, hml, hown, hG⟩ (c_Op_isHot_s h_q e_q h_r e_r) (cwV 1 hG (gV k535 k536 k537 k9 k538) rfl rfl rfl hd_Op_isHot ⟨Nat.le_of_ble_eq_true rfl, Nat.le_of_ble_eq_true rfl⟩) hK hP hS h_q e_q rfl rfl hl.1 rfl (Nat.le_of_ble_eq_true rfl) ⟨Nat.le_of_ble_eq_true rfl, Nat.le_of_ble_eq_true rfl⟩ d_Op_testGlass_12 (fun locs hS => ?_)
    refine lv_if_ne (tgt := 29) hx hb d_Op_testGlass_15 (by decide) (fun c_2 => ?_) (fun c_2 => ?_)
    · refine lv_aload_n hx hb d_Op_testGlass_29 rfl (lv_at hl 0 rfl) ?_
      refine lv_iconst (v := 1) hx hb d_Op_testGlass_30 (by decide) ?_
      refine pg_put (C := "SmokeZones$Opening") (T := T_Op) (N := 10) (ty := .boolean) hx hb hG in_Op ty_Op ok_Op nm_Op hown hK hP hD hS h_q e_q rfl 6 (by decide) (hG _ k260) (fun _ h9 => h9) rfl (by decide +kernel) rfl rfl (Nat.le_of_ble_eq_true rfl) d_Op_testGlass_31 (fun H locs hP hD hS => ?_)
      have hP : va_P D vwCl (va_pl L (va_up f q (.inr (1, [.ref r, .ref g, .int wi, .int si, .int to, .int gl, .int 1, .long fw, .long hf, .long fa])))) H := hP
      have hD : va_D A (va_pl L (va_up f q (.inr (1, [.ref r, .ref g, .int wi, .int si, .int to, .int gl, .int 1, .long fw, .long hf, .long fa])))) := hD
      have e_3 : (va_up f q (.inr (1, [.ref r, .ref g, .int wi, .int si, .int to, .int gl, .int 1, .long fw, .long hf, .long fa]))) q = .inr (1, [.ref r, .ref g, .int wi, .int si, .int to, .int gl, .int 1, .long fw, .long hf, .long fa]) := va_up_self _ _ _
      have e_4 : (va_up f q (.inr (1, [.ref r, .ref g, .int wi, .int si, .int to, .int gl, .int 1, .long fw, .long hf, .long fa]))) r = .inr (0, [.int ar, .int he, .long ho, .long sm, .long ht, .int sl, .int sa, .int fl]) := (va_up_ne _ _ ne_r_q).trans e_r
      have e_5 : (va_up f q (.inr (1, [.ref r, .ref g, .int wi, .int si, .int to, .int gl, .int 1, .long fw, .long hf, .long fa]))) g = .inr (0, [.int arg, .int heg, .long hog, .long smg, .long htg, .int slg, .int sag, .int flg]) := (va_up_ne _ _ ne_g_q).trans e_g
      have hF : (va_up f q (openE r (.ref g) wi si to gl (m_brS (m_open gl br) (m_hot sm ht gl) (m_hot smg htg gl) br) fw hf fa)) = (va_up f q (.inr (1, [.ref r, .ref g, .int wi, .int si, .int to, .int gl, .int 1, .long fw, .long hf, .long fa]))) := by
        (try simp only [m_brS, if_pos c_1, if_neg c_2])
        first | done | exact rfl | exact up_same e_q
      rw [← hF] at hP hD
      exact W.vret hx hb hret (fun t ht hW => ⟨⟨(), rfl, trivial, by rw [ht]; exact hP, va_K.moved hW.alike hK, hD⟩, hS.F ht⟩) hS.2.2 d_Op_testGlass_34
    · refine lv_aload_n hx hb d_Op_testGlass_18 rfl (lv_at hl 0 rfl) ?_
      refine lv_aload_n hx hb d_Op_testGlass_19 rfl (lv_at hl 0 rfl) ?_
      refine pg_get (C := "SmokeZones$Opening") (T := T_Op) (N := 10) hx hb hG in_Op hown hK hP h_q e_q rfl 1 (by decide) (hG _ k254) (fun _ h9 => h9) rfl d_Op_testGlass_20 ?_
      refine kV_ri ⟨hx, hb, hml, hown, hG⟩ (c_Op_isHot_s h_q e_q h_g e_g) (cwV 1 hG (gV k535 k536 k537 k9 k538) rfl rfl rfl hd_Op_isHot ⟨Nat.le_of_ble_eq_true rfl, Nat.le_of_ble_eq_true rfl⟩) hK hP hS h_q e_q rfl rfl hl.1 rfl (Nat.le_of_ble_eq_true rfl) ⟨Nat.le_of_ble_eq_true rfl, Nat.le_of_ble_eq_true rfl⟩ d_Op_testGlass_23 (fun locs hS => ?_)
      refine lv_if_eq (tgt := 34) hx hb d_Op_testGlass_26 (by decide) (fun c_6 => ?_) (fun c_6 => ?_)
      · have hF : (va_up f q (openE r (.ref g) wi si to gl (m_brS (m_open gl br) (m_hot sm ht gl) (m_hot smg htg gl) br) fw hf fa)) = (f) := by
          (try simp only [m_brS, if_pos c_1, if_pos c_2, if_pos c_6])
          first | done | exact rfl | exact up_same e_q
        rw [← hF] at hP hD
        exact W.vret hx hb hret (fun t ht hW => ⟨⟨(), rfl, trivial, by rw [ht]; exact hP, va_K.moved hW.alike hK, hD⟩, hS.F ht⟩) hS.2.2 d_Op_testGlass_34
      · refine lv_aload_n hx hb d_Op_testGlass_29 rfl (lv_at hl 0 rfl) ?_
        refine lv_iconst (v := 1) hx hb d_Op_testGlass_30 (by decide) ?_
        refine pg_put (C := "SmokeZones$Opening") (T := T_Op) (N := 10) (ty := .boolean) hx hb hG in_Op ty_Op ok_Op nm_Op hown hK hP hD hS h_q e_q rfl 6 (by decide) (hG _ k260) (fun _ h9 => h9) rfl (by decide +kernel) rfl rfl (Nat.le_of_ble_eq_true rfl) d_Op_testGlass_31 (fun H locs hP hD hS => ?_)
        have hP : va_P D vwCl (va_pl L (va_up f q (.inr (1, [.ref r, .ref g, .int wi, .int si, .int to, .int gl, .int 1, .long fw, .long hf, .long fa])))) H := hP
        have hD : va_D A (va_pl L (va_up f q (.inr (1, [.ref r, .ref g, .int wi, .int si, .int to, .int gl, .int 1, .long fw, .long hf, .long fa])))) := hD
        have e_7 : (va_up f q (.inr (1, [.ref r, .ref g, .int wi, .int si, .int to, .int gl, .int 1, .long fw, .long hf, .long fa]))) q = .inr (1, [.ref r, .ref g, .int wi, .int si, .int to, .int gl, .int 1, .long fw, .long hf, .long fa]) := va_up_self _ _ _
        have e_8 : (va_up f q (.inr (1, [.ref r, .ref g, .int wi, .int si, .int to, .int gl, .int 1, .long fw, .long hf, .long fa]))) r = .inr (0, [.int ar, .int he, .long ho, .long sm, .long ht, .int sl, .int sa, .int fl]) := (va_up_ne _ _ ne_r_q).trans e_r
        have e_9 : (va_up f q (.inr (1, [.ref r, .ref g, .int wi, .int si, .int to, .int gl, .int 1, .long fw, .long hf, .long fa]))) g = .inr (0, [.int arg, .int heg, .long hog, .long smg, .long htg, .int slg, .int sag, .int flg]) := (va_up_ne _ _ ne_g_q).trans e_g
        have hF : (va_up f q (openE r (.ref g) wi si to gl (m_brS (m_open gl br) (m_hot sm ht gl) (m_hot smg htg gl) br) fw hf fa)) = (va_up f q (.inr (1, [.ref r, .ref g, .int wi, .int si, .int to, .int gl, .int 1, .long fw, .long hf, .long fa]))) := by
          (try simp only [m_brS, if_pos c_1, if_pos c_2, if_neg c_6])
          first | done | exact rfl | exact up_same e_q
        rw [← hF] at hP hD
        exact W.vret hx hb hret (fun t ht hW => ⟨⟨(), rfl, trivial, by rw [ht]; exact hP, va_K.moved hW.alike hK, hD⟩, hS.F ht⟩) hS.2.2 d_Op_testGlass_34

theorem in20 {n : Nat} (h : n ≤ 20) (c : ¬ (20 : Int32) ≤ nI n) : vp_in (nI n) 20 := by
  rcases Nat.lt_or_ge n 20 with q | q
  · exact vp_in_nI q (by decide)
  · exact absurd (show (20 : Int32) ≤ nI n from nI_le (a := 20) q (by omega)) c
theorem inw {n k : Nat} (h : n ≤ 20) (hk : k ≤ 20) (c : ¬ nI n ≤ nI k) : vp_in (nI k) 20 := by
  rcases Nat.lt_or_ge k n with q | q
  · exact vp_in_nI (by omega) (by decide)
  · exact absurd (nI_le q (by omega)) c
def m_tell (n : Nat) (lt t : Int32) : Int32 := if 20 ≤ nI n then 0 else if lt < t then 1 else 0
def m_wpl (n k : Nat) (g1 g2 : Nat → Int32) (t pl : Int32) : Int32 := if nI n ≤ nI k then pl else if g1 (Int32.toNatClampNeg (nI k)) = t then g2 (Int32.toNatClampNeg (nI k)) else pl
def m_wwk (n k : Nat) (g1 : Nat → Int32) (t : Int32) : Int32 := if nI n ≤ nI k then nI k else if g1 (Int32.toNatClampNeg (nI k)) = t then nI k + 1 else nI k
def m_dz (lo : Int32) (sm ht dz : Int64) : Int64 := if lo = 0 then dz else dz + (m_warmth sm ht + 1)
def m_be (lo : Int32) (be : Int64) : Int64 := if lo = 0 then be else be + 1

set_option maxHeartbeats 4000000 in
set_option maxRecDepth 100000 in
theorem c_Pe_tell {l : Launch} {D : va_G} {ct : Nat → ClassId} {L : List Nat} {f : Nat → va_E} {sz : Nat} {n : Nat} {ws : Nat} {g1 : Nat → Int32} {wp : Nat} {g2 : Nat → Int32} {q : Nat} {pl : Int32} {dz : Int64} {be : Int64} {lt : Int32} {wk : Int32} {t0 : Int32} {go : Int32} (h_ws : ws ∈ L) (e_ws : f ws = .inl (ct 6, 20, .inl g1)) (h_wp : wp ∈ L) (e_wp : f wp = .inl (ct 6, 20, .inl g2)) (h_q : q ∈ L) (e_q : f q = personE pl dz be ws wp (nI n) lt wk) (ne_ws_wp : ws ≠ wp) (hn : n ≤ 20) : Met l y_Pe_tell (WS y_Pe_tell b_Pe_tell 3 (some .boolean)) { frames := 0, cells := 0, slots := 0, locals := 0 } (va_Pc [.ref q, .int t0, .int go] (WP D (TYS ct) L f sz)) (Xi D (TYS ct) L (if 20 ≤ nI n then f else if lt < t0 then va_up (va_up (va_up f ws (.inl (ct 6, 20, .inl (upd g1 (Int32.toNatClampNeg (nI n)) t0)))) wp (.inl (ct 6, 20, .inl (upd g2 (Int32.toNatClampNeg (nI n)) go)))) q (personE pl dz be ws wp (nI n + 1) t0 wk) else f) (AA L f sz) (m_tell n lt t0)) 0 0 (AA L f sz) := by
  refine Met.ofW (cc := b_Pe_tell) (maxL := 3) (ret := (some .boolean)) (by decide) rfl ?_
  intro p e s m args below meth c s₁ B hml hv
  obtain ⟨rfl, hsz, hP, hK, hD0⟩ := hv
  subst hsz
  have hx := B.exec
  have hb := B.bytes
  have hret := B.returns
  have hts := atoms_spec (ws := WS y_Pe_tell b_Pe_tell 3 (some .boolean)) B.pre
  have hG : ∀ w ∈ GW, w.before _ s = true := fun w h => hts w (List.mem_cons_of_mem _ h)
  have hown : s.vm.findClass "SmokeZones$Person" = some m.cls := findClass_of_methodNamed B.named
  have hlocks := B.notSynchronized
  have hD : va_D (AA L f s.heap.size) (va_pl L f) := hD0.self (sz := s.heap.size)
  generalize hAe : AA L f s.heap.size = A at hD ⊢
  have hA : ∀ q : Nat, s.heap.size ≤ q → A q := fun q h => by rw [← hAe]; exact Or.inr h
  have hS : va_S A s.heap s.heap [] := va_S.rf
  have hl := lv_entry ([.ref q, .int t0, .int go]) (n := 3) (Nat.le_of_ble_eq_true rfl)
  rw [lg_entry_eq]
  generalize (lg_sl ([.ref q, .int t0, .int go]) ++ List.replicate (3 - (lg_sl ([.ref q, .int t0, .int go])).length) Slot.unset).toArray = ls at hl ⊢
  have hl : lv_has ls 3 [(0, .ref q), (1, .int t0), (2, .int go)] := hl
  have ne_ws_q : ws ≠ q := ne_ai e_ws e_q
  have ne_q_ws : q ≠ ws := fun q => ne_ws_q q.symm
  have ne_wp_q : wp ≠ q := ne_ai e_wp e_q
  have ne_q_wp : q ≠ wp := fun q => ne_wp_q q.symm
  have ne_wp_ws : wp ≠ ws := fun q => ne_ws_wp q.symm
  refine lv_aload_n hx hb d_Pe_tell_0 rfl (lv_at hl 0 rfl) ?_
  refine pg_get (C := "SmokeZones$Person") (T := T_Pe) (N := 8) hx hb hG in_Pe hown hK hP h_q e_q rfl 5 (by decide) (hG _ k395) (fun _ h9 => h9) rfl d_Pe_tell_1 ?_
  refine lv_bipush (v := 20) hx hb d_Pe_tell_4 (by decide) ?_
  refine lv_icmp_ge (tgt := 17) hx hb d_Pe_tell_6 (by decide) (fun c_1 => ?_) (fun c_1 => ?_)
  · refine lv_iconst (v := 0) hx hb d_Pe_tell_17 (by decide) ?_
    have hF : (if 20 ≤ nI n then f else if lt < t0 then va_up (va_up (va_up f ws (.inl (ct 6, 20, .inl (upd g1 (Int32.toNatClampNeg (nI n)) t0)))) wp (.inl (ct 6, 20, .inl (upd g2 (Int32.toNatClampNeg (nI n)) go)))) q (personE pl dz be ws wp (nI n + 1) t0 wk) else f) = (f) := by
      (try simp only [m_tell, if_pos c_1])
      first | done | exact rfl
    rw [← hF] at hP hD
    exact W.zret hx hb hret rfl (fun t ht hW => ⟨⟨_, (), rfl, (by simp only [m_tell, if_pos c_1]), by rw [ht]; exact hP, va_K.moved hW.alike hK, hD⟩, hS.F ht⟩) hS.2.2 d_Pe_tell_18
  · refine lv_iload_n hx hb d_Pe_tell_9 rfl (lv_at hl 1 rfl) ?_
    refine lv_aload_n hx hb d_Pe_tell_10 rfl (lv_at hl 0 rfl) ?_
    refine pg_get (C := "SmokeZones$Person") (T := T_Pe) (N := 8) hx hb hG in_Pe hown hK hP h_q e_q rfl 6 (by decide) (hG _ k396) (fun _ h9 => h9) rfl d_Pe_tell_11 ?_
    refine lv_icmp_gt (tgt := 19) hx hb d_Pe_tell_14 (by decide) (fun c_2 => ?_) (fun c_2 => ?_)
    · refine lv_aload_n hx hb d_Pe_tell_19 rfl (lv_at hl 0 rfl) ?_
      refine pg_get (C := "SmokeZones$Person") (T := T_Pe) (N := 8) hx hb hG in_Pe hown hK hP h_q e_q rfl 3 (by decide) (hG _ k393) (fun _ h9 => h9) rfl d_Pe_tell_20 ?_
      refine lv_aload_n hx hb d_Pe_tell_23 rfl (lv_at hl 0 rfl) ?_
      refine pg_get (C := "SmokeZones$Person") (T := T_Pe) (N := 8) hx hb hG in_Pe hown hK hP h_q e_q rfl 5 (by decide) (hG _ k395) (fun _ h9 => h9) rfl d_Pe_tell_24 ?_
      refine lv_iload_n hx hb d_Pe_tell_27 rfl (lv_at hl 1 rfl) ?_
      refine pg_iast hx hb hK hP hD hS 6 h_ws e_ws rfl (in20 hn c_1) d_Pe_tell_28 (fun H locs hP hD hS => ?_)
      have hP : va_P D vwCl (va_pl L (va_up f ws (.inl (ct 6, 20, .inl (upd g1 (Int32.toNatClampNeg (nI n)) t0))))) H := hP
      have hD : va_D A (va_pl L (va_up f ws (.inl (ct 6, 20, .inl (upd g1 (Int32.toNatClampNeg (nI n)) t0))))) := hD
      have e_3 : (va_up f ws (.inl (ct 6, 20, .inl (upd g1 (Int32.toNatClampNeg (nI n)) t0)))) ws = .inl (ct 6, 20, .inl (upd g1 (Int32.toNatClampNeg (nI n)) t0)) := va_up_self _ _ _
      have e_4 : (va_up f ws (.inl (ct 6, 20, .inl (upd g1 (Int32.toNatClampNeg (nI n)) t0)))) wp = .inl (ct 6, 20, .inl g2) := (va_up_ne _ _ ne_wp_ws).trans e_wp
      have e_5 : (va_up f ws (.inl (ct 6, 20, .inl (upd g1 (Int32.toNatClampNeg (nI n)) t0)))) q = .inr (5, [.int pl, .long dz, .long be, .ref ws, .ref wp, .int (nI n), .int lt, .int wk]) := (va_up_ne _ _ ne_q_ws).trans e_q
      refine lv_aload_n hx hb d_Pe_tell_29 rfl (lv_at hl 0 rfl) ?_
      refine pg_get (C := "SmokeZones$Person") (T := T_Pe) (N := 8) hx hb hG in_Pe hown hK hP h_q e_5 rfl 4 (by decide) (hG _ k394) (fun _ h9 => h9) rfl d_Pe_tell_30 ?_
      refine lv_aload_n hx hb d_Pe_tell_33 rfl (lv_at hl 0 rfl) ?_
      refine pg_get (C := "SmokeZones$Person") (T := T_Pe) (N := 8) hx hb hG in_Pe hown hK hP h_q e_5 rfl 5 (by decide) (hG _ k395) (fun _ h9 => h9) rfl d_Pe_tell_34 ?_
      refine lv_iload_n hx hb d_Pe_tell_37 rfl (lv_at hl 2 rfl) ?_
      refine pg_iast hx hb hK hP hD hS 6 h_wp e_4 rfl (in20 hn c_1) d_Pe_tell_38 (fun H locs hP hD hS => ?_)
      have hP : va_P D vwCl (va_pl L (va_up (va_up f ws (.inl (ct 6, 20, .inl (upd g1 (Int32.toNatClampNeg (nI n)) t0)))) wp (.inl (ct 6, 20, .inl (upd g2 (Int32.toNatClampNeg (nI n)) go))))) H := hP
      have hD : va_D A (va_pl L (va_up (va_up f ws (.inl (ct 6, 20, .inl (upd g1 (Int32.toNatClampNeg (nI n)) t0)))) wp (.inl (ct 6, 20, .inl (upd g2 (Int32.toNatClampNeg (nI n)) go))))) := hD
      have e_6 : (va_up (va_up f ws (.inl (ct 6, 20, .inl (upd g1 (Int32.toNatClampNeg (nI n)) t0)))) wp (.inl (ct 6, 20, .inl (upd g2 (Int32.toNatClampNeg (nI n)) go)))) wp = .inl (ct 6, 20, .inl (upd g2 (Int32.toNatClampNeg (nI n)) go)) := va_up_self _ _ _
      have e_7 : (va_up (va_up f ws (.inl (ct 6, 20, .inl (upd g1 (Int32.toNatClampNeg (nI n)) t0)))) wp (.inl (ct 6, 20, .inl (upd g2 (Int32.toNatClampNeg (nI n)) go)))) ws = .inl (ct 6, 20, .inl (upd g1 (Int32.toNatClampNeg (nI n)) t0)) := (va_up_ne _ _ ne_ws_wp).trans e_3
      have e_8 : (va_up (va_up f ws (.inl (ct 6, 20, .inl (upd g1 (Int32.toNatClampNeg (nI n)) t0)))) wp (.inl (ct 6, 20, .inl (upd g2 (Int32.toNatClampNeg (nI n)) go)))) q = .inr (5, [.int pl, .long dz, .long be, .ref ws, .ref wp, .int (nI n), .int lt, .int wk]) := (va_up_ne _ _ ne_q_wp).trans e_5
      refine lv_aload_n hx hb d_Pe_tell_39 rfl (lv_at hl 0 rfl) ?_
      refine lv_dup hx hb d_Pe_tell_40 rfl ?_
      refine pg_get (C := "SmokeZones$Person") (T := T_Pe) (N := 8) hx hb hG in_Pe hown hK hP h_q e_8 rfl 5 (by decide) (hG _ k395) (fun _ h9 => h9) rfl d_Pe_tell_41 ?_
      refine lv_iconst (v := 1) hx hb d_Pe_tell_44 (by decide) ?_
      refine lv_iadd hx hb d_Pe_tell_45 ?_
      refine pg_put (C := "SmokeZones$Person") (T := T_Pe) (N := 8) (ty := .int) hx hb hG in_Pe ty_Pe ok_Pe nm_Pe hown hK hP hD hS h_q e_8 rfl 5 (by decide) (hG _ k395) (fun _ h9 => h9) rfl (by decide +kernel) rfl rfl (Nat.le_of_ble_eq_true rfl) d_Pe_tell_46 (fun H locs hP hD hS => ?_)
      have hP : va_P D vwCl (va_pl L (va_up (va_up (va_up f ws (.inl (ct 6, 20, .inl (upd g1 (Int32.toNatClampNeg (nI n)) t0)))) wp (.inl (ct 6, 20, .inl (upd g2 (Int32.toNatClampNeg (nI n)) go)))) q (.inr (5, [.int pl, .long dz, .long be, .ref ws, .ref wp, .int ((nI n) + 1), .int lt, .int wk])))) H := hP
      have hD : va_D A (va_pl L (va_up (va_up (va_up f ws (.inl (ct 6, 20, .inl (upd g1 (Int32.toNatClampNeg (nI n)) t0)))) wp (.inl (ct 6, 20, .inl (upd g2 (Int32.toNatClampNeg (nI n)) go)))) q (.inr (5, [.int pl, .long dz, .long be, .ref ws, .ref wp, .int ((nI n) + 1), .int lt, .int wk])))) := hD
      have e_9 : (va_up (va_up (va_up f ws (.inl (ct 6, 20, .inl (upd g1 (Int32.toNatClampNeg (nI n)) t0)))) wp (.inl (ct 6, 20, .inl (upd g2 (Int32.toNatClampNeg (nI n)) go)))) q (.inr (5, [.int pl, .long dz, .long be, .ref ws, .ref wp, .int ((nI n) + 1), .int lt, .int wk]))) q = .inr (5, [.int pl, .long dz, .long be, .ref ws, .ref wp, .int ((nI n) + 1), .int lt, .int wk]) := va_up_self _ _ _
      have e_10 : (va_up (va_up (va_up f ws (.inl (ct 6, 20, .inl (upd g1 (Int32.toNatClampNeg (nI n)) t0)))) wp (.inl (ct 6, 20, .inl (upd g2 (Int32.toNatClampNeg (nI n)) go)))) q (.inr (5, [.int pl, .long dz, .long be, .ref ws, .ref wp, .int ((nI n) + 1), .int lt, .int wk]))) ws = .inl (ct 6, 20, .inl (upd g1 (Int32.toNatClampNeg (nI n)) t0)) := (va_up_ne _ _ ne_ws_q).trans e_7
      have e_11 : (va_up (va_up (va_up f ws (.inl (ct 6, 20, .inl (upd g1 (Int32.toNatClampNeg (nI n)) t0)))) wp (.inl (ct 6, 20, .inl (upd g2 (Int32.toNatClampNeg (nI n)) go)))) q (.inr (5, [.int pl, .long dz, .long be, .ref ws, .ref wp, .int ((nI n) + 1), .int lt, .int wk]))) wp = .inl (ct 6, 20, .inl (upd g2 (Int32.toNatClampNeg (nI n)) go)) := (va_up_ne _ _ ne_wp_q).trans e_6
      refine lv_aload_n hx hb d_Pe_tell_49 rfl (lv_at hl 0 rfl) ?_
      refine lv_iload_n hx hb d_Pe_tell_50 rfl (lv_at hl 1 rfl) ?_
      refine pg_put (C := "SmokeZones$Person") (T := T_Pe) (N := 8) (ty := .int) hx hb hG in_Pe ty_Pe ok_Pe nm_Pe hown hK hP hD hS h_q e_9 rfl 6 (by decide) (hG _ k396) (fun _ h9 => h9) rfl (by decide +kernel) rfl rfl (Nat.le_of_ble_eq_true rfl) d_Pe_tell_51 (fun H locs hP hD hS => ?_)
      rw [bx_uu] at hP hD
      have hP : va_P D vwCl (va_pl L (va_up (va_up (va_up f ws (.inl (ct 6, 20, .inl (upd g1 (Int32.toNatClampNeg (nI n)) t0)))) wp (.inl (ct 6, 20, .inl (upd g2 (Int32.toNatClampNeg (nI n)) go)))) q (.inr (5, [.int pl, .long dz, .long be, .ref ws, .ref wp, .int ((nI n) + 1), .int t0, .int wk])))) H := hP
      have hD : va_D A (va_pl L (va_up (va_up (va_up f ws (.inl (ct 6, 20, .inl (upd g1 (Int32.toNatClampNeg (nI n)) t0)))) wp (.inl (ct 6, 20, .inl (upd g2 (Int32.toNatClampNeg (nI n)) go)))) q (.inr (5, [.int pl, .long dz, .long be, .ref ws, .ref wp, .int ((nI n) + 1), .int t0, .int wk])))) := hD
      have e_12 : (va_up (va_up (va_up f ws (.inl (ct 6, 20, .inl (upd g1 (Int32.toNatClampNeg (nI n)) t0)))) wp (.inl (ct 6, 20, .inl (upd g2 (Int32.toNatClampNeg (nI n)) go)))) q (.inr (5, [.int pl, .long dz, .long be, .ref ws, .ref wp, .int ((nI n) + 1), .int t0, .int wk]))) q = .inr (5, [.int pl, .long dz, .long be, .ref ws, .ref wp, .int ((nI n) + 1), .int t0, .int wk]) := va_up_self _ _ _
      have e_13 : (va_up (va_up (va_up f ws (.inl (ct 6, 20, .inl (upd g1 (Int32.toNatClampNeg (nI n)) t0)))) wp (.inl (ct 6, 20, .inl (upd g2 (Int32.toNatClampNeg (nI n)) go)))) q (.inr (5, [.int pl, .long dz, .long be, .ref ws, .ref wp, .int ((nI n) + 1), .int t0, .int wk]))) ws = .inl (ct 6, 20, .inl (upd g1 (Int32.toNatClampNeg (nI n)) t0)) := (va_up_ne _ _ ne_ws_q).trans e_7
      have e_14 : (va_up (va_up (va_up f ws (.inl (ct 6, 20, .inl (upd g1 (Int32.toNatClampNeg (nI n)) t0)))) wp (.inl (ct 6, 20, .inl (upd g2 (Int32.toNatClampNeg (nI n)) go)))) q (.inr (5, [.int pl, .long dz, .long be, .ref ws, .ref wp, .int ((nI n) + 1), .int t0, .int wk]))) wp = .inl (ct 6, 20, .inl (upd g2 (Int32.toNatClampNeg (nI n)) go)) := (va_up_ne _ _ ne_wp_q).trans e_6
      refine lv_iconst (v := 1) hx hb d_Pe_tell_54 (by decide) ?_
      have hF : (if 20 ≤ nI n then f else if lt < t0 then va_up (va_up (va_up f ws (.inl (ct 6, 20, .inl (upd g1 (Int32.toNatClampNeg (nI n)) t0)))) wp (.inl (ct 6, 20, .inl (upd g2 (Int32.toNatClampNeg (nI n)) go)))) q (personE pl dz be ws wp (nI n + 1) t0 wk) else f) = (va_up (va_up (va_up f ws (.inl (ct 6, 20, .inl (upd g1 (Int32.toNatClampNeg (nI n)) t0)))) wp (.inl (ct 6, 20, .inl (upd g2 (Int32.toNatClampNeg (nI n)) go)))) q (.inr (5, [.int pl, .long dz, .long be, .ref ws, .ref wp, .int ((nI n) + 1), .int t0, .int wk]))) := by
        (try simp only [m_tell, if_neg c_1, if_pos c_2])
        first | done | exact rfl
      rw [← hF] at hP hD
      exact W.zret hx hb hret rfl (fun t ht hW => ⟨⟨_, (), rfl, (by simp only [m_tell, if_neg c_1, if_pos c_2]), by rw [ht]; exact hP, va_K.moved hW.alike hK, hD⟩, hS.F ht⟩) hS.2.2 d_Pe_tell_55
    · refine lv_iconst (v := 0) hx hb d_Pe_tell_17 (by decide) ?_
      have hF : (if 20 ≤ nI n then f else if lt < t0 then va_up (va_up (va_up f ws (.inl (ct 6, 20, .inl (upd g1 (Int32.toNatClampNeg (nI n)) t0)))) wp (.inl (ct 6, 20, .inl (upd g2 (Int32.toNatClampNeg (nI n)) go)))) q (personE pl dz be ws wp (nI n + 1) t0 wk) else f) = (f) := by
        (try simp only [m_tell, if_neg c_1, if_neg c_2])
        first | done | exact rfl
      rw [← hF] at hP hD
      exact W.zret hx hb hret rfl (fun t ht hW => ⟨⟨_, (), rfl, (by simp only [m_tell, if_neg c_1, if_neg c_2]), by rw [ht]; exact hP, va_K.moved hW.alike hK, hD⟩, hS.F ht⟩) hS.2.2 d_Pe_tell_18

set_option maxHeartbeats 4000000 in
set_option maxRecDepth 100000 in
theorem c_Pe_walk {l : Launch} {D : va_G} {ct : Nat → ClassId} {L : List Nat} {f : Nat → va_E} {sz : Nat} {n k : Nat} {ws : Nat} {g1 : Nat → Int32} {wp : Nat} {g2 : Nat → Int32} {q : Nat} {pl : Int32} {dz : Int64} {be : Int64} {lt : Int32} {t0 : Int32} (h_ws : ws ∈ L) (e_ws : f ws = .inl (ct 6, 20, .inl g1)) (h_wp : wp ∈ L) (e_wp : f wp = .inl (ct 6, 20, .inl g2)) (h_q : q ∈ L) (e_q : f q = personE pl dz be ws wp (nI n) lt (nI k)) (hn : n ≤ 20) (hk : k ≤ 20) : Met l y_Pe_walk (WS y_Pe_walk b_Pe_walk 2 none) { frames := 0, cells := 0, slots := 0, locals := 0 } (va_Pc [.ref q, .int t0] (WP D (TYS ct) L f sz)) (Xv D (TYS ct) L (va_up f q (personE (m_wpl n k g1 g2 t0 pl) dz be ws wp (nI n) lt (m_wwk n k g1 t0))) (AA L f sz)) 0 0 (AA L f sz) := by
  refine Met.ofW (cc := b_Pe_walk) (maxL := 2) (ret := none) (by decide) rfl ?_
  intro p e s m args below meth c s₁ B hml hv
  obtain ⟨rfl, hsz, hP, hK, hD0⟩ := hv
  subst hsz
  have hx := B.exec
  have hb := B.bytes
  have hret := B.returns
  have hts := atoms_spec (ws := WS y_Pe_walk b_Pe_walk 2 none) B.pre
  have hG : ∀ w ∈ GW, w.before _ s = true := fun w h => hts w (List.mem_cons_of_mem _ h)
  have hown : s.vm.findClass "SmokeZones$Person" = some m.cls := findClass_of_methodNamed B.named
  have hlocks := B.notSynchronized
  have hD : va_D (AA L f s.heap.size) (va_pl L f) := hD0.self (sz := s.heap.size)
  generalize hAe : AA L f s.heap.size = A at hD ⊢
  have hA : ∀ q : Nat, s.heap.size ≤ q → A q := fun q h => by rw [← hAe]; exact Or.inr h
  have hS : va_S A s.heap s.heap [] := va_S.rf
  have hl := lv_entry ([.ref q, .int t0]) (n := 2) (Nat.le_of_ble_eq_true rfl)
  rw [lg_entry_eq]
  generalize (lg_sl ([.ref q, .int t0]) ++ List.replicate (2 - (lg_sl ([.ref q, .int t0])).length) Slot.unset).toArray = ls at hl ⊢
  have hl : lv_has ls 2 [(0, .ref q), (1, .int t0)] := hl
  have ne_ws_q : ws ≠ q := ne_ai e_ws e_q
  have ne_q_ws : q ≠ ws := fun q => ne_ws_q q.symm
  have ne_wp_q : wp ≠ q := ne_ai e_wp e_q
  have ne_q_wp : q ≠ wp := fun q => ne_wp_q q.symm
  refine lv_aload_n hx hb d_Pe_walk_0 rfl (lv_at hl 0 rfl) ?_
  refine pg_get (C := "SmokeZones$Person") (T := T_Pe) (N := 8) hx hb hG in_Pe hown hK hP h_q e_q rfl 7 (by decide) (hG _ k397) (fun _ h9 => h9) rfl d_Pe_walk_1 ?_
  refine lv_aload_n hx hb d_Pe_walk_4 rfl (lv_at hl 0 rfl) ?_
  refine pg_get (C := "SmokeZones$Person") (T := T_Pe) (N := 8) hx hb hG in_Pe hown hK hP h_q e_q rfl 5 (by decide) (hG _ k395) (fun _ h9 => h9) rfl d_Pe_walk_5 ?_
  refine lv_icmp_ge (tgt := 47) hx hb d_Pe_walk_8 (by decide) (fun c_1 => ?_) (fun c_1 => ?_)
  · have hF : (va_up f q (personE (m_wpl n k g1 g2 t0 pl) dz be ws wp (nI n) lt (m_wwk n k g1 t0))) = (f) := by
      (try simp only [m_wpl, m_wwk, if_pos c_1])
      first | done | exact rfl | exact up_same e_q
    rw [← hF] at hP hD
    exact W.vret hx hb hret (fun t ht hW => ⟨⟨(), rfl, trivial, by rw [ht]; exact hP, va_K.moved hW.alike hK, hD⟩, hS.F ht⟩) hS.2.2 d_Pe_walk_47
  · refine lv_aload_n hx hb d_Pe_walk_11 rfl (lv_at hl 0 rfl) ?_
    refine pg_get (C := "SmokeZones$Person") (T := T_Pe) (N := 8) hx hb hG in_Pe hown hK hP h_q e_q rfl 3 (by decide) (hG _ k393) (fun _ h9 => h9) rfl d_Pe_walk_12 ?_
    refine lv_aload_n hx hb d_Pe_walk_15 rfl (lv_at hl 0 rfl) ?_
    refine pg_get (C := "SmokeZones$Person") (T := T_Pe) (N := 8) hx hb hG in_Pe hown hK hP h_q e_q rfl 7 (by decide) (hG _ k397) (fun _ h9 => h9) rfl d_Pe_walk_16 ?_
    refine pg_iald hx hb hK hP 6 h_ws e_ws rfl (inw hn hk c_1) d_Pe_walk_19 ?_
    refine lv_iload_n hx hb d_Pe_walk_20 rfl (lv_at hl 1 rfl) ?_
    refine lv_icmp_ne (tgt := 47) hx hb d_Pe_walk_21 (by decide) (fun c_2 => ?_) (fun c_2 => ?_)
    · have hF : (va_up f q (personE (m_wpl n k g1 g2 t0 pl) dz be ws wp (nI n) lt (m_wwk n k g1 t0))) = (f) := by
        (try simp only [m_wpl, m_wwk, if_neg c_1, if_neg c_2])
        first | done | exact rfl | exact up_same e_q
      rw [← hF] at hP hD
      exact W.vret hx hb hret (fun t ht hW => ⟨⟨(), rfl, trivial, by rw [ht]; exact hP, va_K.moved hW.alike hK, hD⟩, hS.F ht⟩) hS.2.2 d_Pe_walk_47
    · refine lv_aload_n hx hb d_Pe_walk_24 rfl (lv_at hl 0 rfl) ?_
      refine lv_aload_n hx hb d_Pe_walk_25 rfl (lv_at hl 0 rfl) ?_
      refine pg_get (C := "SmokeZones$Person") (T := T_Pe) (N := 8) hx hb hG in_Pe hown hK hP h_q e_q rfl 4 (by decide) (hG _ k394) (fun _ h9 => h9) rfl d_Pe_walk_26 ?_
      refine lv_aload_n hx hb d_Pe_walk_29 rfl (lv_at hl 0 rfl) ?_
      refine pg_get (C := "SmokeZones$Person") (T := T_Pe) (N := 8) hx hb hG in_Pe hown hK hP h_q e_q rfl 7 (by decide) (hG _ k397) (fun _ h9 => h9) rfl d_Pe_walk_30 ?_
      refine pg_iald hx hb hK hP 6 h_wp e_wp rfl (inw hn hk c_1) d_Pe_walk_33 ?_
      refine pg_put (C := "SmokeZones$Person") (T := T_Pe) (N := 8) (ty := .int) hx hb hG in_Pe ty_Pe ok_Pe nm_Pe hown hK hP hD hS h_q e_q rfl 0 (by decide) (hG _ k387) (fun _ h9 => h9) rfl (by decide +kernel) rfl rfl (Nat.le_of_ble_eq_true rfl) d_Pe_walk_34 (fun H locs hP hD hS => ?_)
      have hP : va_P D vwCl (va_pl L (va_up f q (.inr (5, [.int (g2 (Int32.toNatClampNeg (nI k))), .long dz, .long be, .ref ws, .ref wp, .int (nI n), .int lt, .int (nI k)])))) H := hP
      have hD : va_D A (va_pl L (va_up f q (.inr (5, [.int (g2 (Int32.toNatClampNeg (nI k))), .long dz, .long be, .ref ws, .ref wp, .int (nI n), .int lt, .int (nI k)])))) := hD
      have e_3 : (va_up f q (.inr (5, [.int (g2 (Int32.toNatClampNeg (nI k))), .long dz, .long be, .ref ws, .ref wp, .int (nI n), .int lt, .int (nI k)]))) q = .inr (5, [.int (g2 (Int32.toNatClampNeg (nI k))), .long dz, .long be, .ref ws, .ref wp, .int (nI n), .int lt, .int (nI k)]) := va_up_self _ _ _
      have e_4 : (va_up f q (.inr (5, [.int (g2 (Int32.toNatClampNeg (nI k))), .long dz, .long be, .ref ws, .ref wp, .int (nI n), .int lt, .int (nI k)]))) ws = .inl (ct 6, 20, .inl g1) := (va_up_ne _ _ ne_ws_q).trans e_ws
      have e_5 : (va_up f q (.inr (5, [.int (g2 (Int32.toNatClampNeg (nI k))), .long dz, .long be, .ref ws, .ref wp, .int (nI n), .int lt, .int (nI k)]))) wp = .inl (ct 6, 20, .inl g2) := (va_up_ne _ _ ne_wp_q).trans e_wp
      refine lv_aload_n hx hb d_Pe_walk_37 rfl (lv_at hl 0 rfl) ?_
      refine lv_dup hx hb d_Pe_walk_38 rfl ?_
      refine pg_get (C := "SmokeZones$Person") (T := T_Pe) (N := 8) hx hb hG in_Pe hown hK hP h_q e_3 rfl 7 (by decide) (hG _ k397) (fun _ h9 => h9) rfl d_Pe_walk_39 ?_
      refine lv_iconst (v := 1) hx hb d_Pe_walk_42 (by decide) ?_
      refine lv_iadd hx hb d_Pe_walk_43 ?_
      refine pg_put (C := "SmokeZones$Person") (T := T_Pe) (N := 8) (ty := .int) hx hb hG in_Pe ty_Pe ok_Pe nm_Pe hown hK hP hD hS h_q e_3 rfl 7 (by decide) (hG _ k397) (fun _ h9 => h9) rfl (by decide +kernel) rfl rfl (Nat.le_of_ble_eq_true rfl) d_Pe_walk_44 (fun H locs hP hD hS => ?_)
      rw [bx_uu] at hP hD
      have hP : va_P D vwCl (va_pl L (va_up f q (.inr (5, [.int (g2 (Int32.toNatClampNeg (nI k))), .long dz, .long be, .ref ws, .ref wp, .int (nI n), .int lt, .int ((nI k) + 1)])))) H := hP
      have hD : va_D A (va_pl L (va_up f q (.inr (5, [.int (g2 (Int32.toNatClampNeg (nI k))), .long dz, .long be, .ref ws, .ref wp, .int (nI n), .int lt, .int ((nI k) + 1)])))) := hD
      have e_6 : (va_up f q (.inr (5, [.int (g2 (Int32.toNatClampNeg (nI k))), .long dz, .long be, .ref ws, .ref wp, .int (nI n), .int lt, .int ((nI k) + 1)]))) q = .inr (5, [.int (g2 (Int32.toNatClampNeg (nI k))), .long dz, .long be, .ref ws, .ref wp, .int (nI n), .int lt, .int ((nI k) + 1)]) := va_up_self _ _ _
      have e_7 : (va_up f q (.inr (5, [.int (g2 (Int32.toNatClampNeg (nI k))), .long dz, .long be, .ref ws, .ref wp, .int (nI n), .int lt, .int ((nI k) + 1)]))) ws = .inl (ct 6, 20, .inl g1) := (va_up_ne _ _ ne_ws_q).trans e_ws
      have e_8 : (va_up f q (.inr (5, [.int (g2 (Int32.toNatClampNeg (nI k))), .long dz, .long be, .ref ws, .ref wp, .int (nI n), .int lt, .int ((nI k) + 1)]))) wp = .inl (ct 6, 20, .inl g2) := (va_up_ne _ _ ne_wp_q).trans e_wp
      have hF : (va_up f q (personE (m_wpl n k g1 g2 t0 pl) dz be ws wp (nI n) lt (m_wwk n k g1 t0))) = (va_up f q (.inr (5, [.int (g2 (Int32.toNatClampNeg (nI k))), .long dz, .long be, .ref ws, .ref wp, .int (nI n), .int lt, .int ((nI k) + 1)]))) := by
        (try simp only [m_wpl, m_wwk, if_neg c_1, if_pos c_2])
        first | done | exact rfl | exact up_same e_q
      rw [← hF] at hP hD
      exact W.vret hx hb hret (fun t ht hW => ⟨⟨(), rfl, trivial, by rw [ht]; exact hP, va_K.moved hW.alike hK, hD⟩, hS.F ht⟩) hS.2.2 d_Pe_walk_47

set_option maxHeartbeats 4000000 in
set_option maxRecDepth 100000 in
theorem c_Pe_breathe {l : Launch} {D : va_G} {TY : List (ClassId × FieldType)} {L : List Nat} {f : Nat → va_E} {sz : Nat} {q : Nat} {pl : Int32} {dz : Int64} {be : Int64} {ws : Nat} {wp : Nat} {td : Int32} {lt : Int32} {wk : Int32} {r : Nat} {ar : Int32} {he : Int32} {ho : Int64} {sm : Int64} {ht : Int64} {sl : Int32} {sa : Int32} {fl : Int32} (h_q : q ∈ L) (e_q : f q = personE pl dz be ws wp td lt wk) (h_r : r ∈ L) (e_r : f r = roomE ar he ho sm ht sl sa fl) : Met l y_Pe_breathe (WS y_Pe_breathe b_Pe_breathe 2 none) { frames := 3, cells := 0, slots := 0, locals := 60 } (va_Pc [.ref q, .ref r] (WP D TY L f sz)) (Xv D TY L (va_up f q (personE pl (m_dz (m_low ar he sm) sm ht dz) (m_be (m_low ar he sm) be) ws wp td lt wk)) (AA L f sz)) 0 0 (AA L f sz) := by
  refine Met.ofW (cc := b_Pe_breathe) (maxL := 2) (ret := none) (by decide) rfl ?_
  intro p e s m args below meth c s₁ B hml hv
  obtain ⟨rfl, hsz, hP, hK, hD0⟩ := hv
  subst hsz
  have hx := B.exec
  have hb := B.bytes
  have hret := B.returns
  have hts := atoms_spec (ws := WS y_Pe_breathe b_Pe_breathe 2 none) B.pre
  have hG : ∀ w ∈ GW, w.before _ s = true := fun w h => hts w (List.mem_cons_of_mem _ h)
  have hown : s.vm.findClass "SmokeZones$Person" = some m.cls := findClass_of_methodNamed B.named
  have hlocks := B.notSynchronized
  have hD : va_D (AA L f s.heap.size) (va_pl L f) := hD0.self (sz := s.heap.size)
  generalize hAe : AA L f s.heap.size = A at hD ⊢
  have hA : ∀ q : Nat, s.heap.size ≤ q → A q := fun q h => by rw [← hAe]; exact Or.inr h
  have hS : va_S A s.heap s.heap [] := va_S.rf
  have hl := lv_entry ([.ref q, .ref r]) (n := 2) (Nat.le_of_ble_eq_true rfl)
  rw [lg_entry_eq]
  generalize (lg_sl ([.ref q, .ref r]) ++ List.replicate (2 - (lg_sl ([.ref q, .ref r])).length) Slot.unset).toArray = ls at hl ⊢
  have hl : lv_has ls 2 [(0, .ref q), (1, .ref r)] := hl
  have ne_q_r : q ≠ r := ne_ci e_q e_r (by decide)
  have ne_r_q : r ≠ q := fun q => ne_q_r q.symm
  refine lv_aload_n hx hb d_Pe_breathe_0 rfl (lv_at hl 1 rfl) ?_
  refine kV_ri ⟨hx, hb, hml, hown, hG⟩ (c_Ro_isLow h_r e_r) (cwV 0 hG (gV k557 k558 k559 k8 k560) rfl rfl rfl hd_Ro_isLow ⟨Nat.le_of_ble_eq_true rfl, Nat.le_of_ble_eq_true rfl⟩) hK hP hS h_r e_r rfl rfl hl.1 rfl (Nat.le_of_ble_eq_true rfl) ⟨Nat.le_of_ble_eq_true rfl, Nat.le_of_ble_eq_true rfl⟩ d_Pe_breathe_1 (fun locs hS => ?_)
  refine lv_if_eq (tgt := 32) hx hb d_Pe_breathe_4 (by decide) (fun c_1 => ?_) (fun c_1 => ?_)
  · have hF : (va_up f q (personE pl (m_dz (m_low ar he sm) sm ht dz) (m_be (m_low ar he sm) be) ws wp td lt wk)) = (f) := by
      (try simp only [m_dz, m_be, if_pos c_1])
      first | done | exact rfl | exact up_same e_q
    rw [← hF] at hP hD
    exact W.vret hx hb hret (fun t ht hW => ⟨⟨(), rfl, trivial, by rw [ht]; exact hP, va_K.moved hW.alike hK, hD⟩, hS.F ht⟩) hS.2.2 d_Pe_breathe_32
  · refine lv_aload_n hx hb d_Pe_breathe_7 rfl (lv_at hl 0 rfl) ?_
    refine lv_dup hx hb d_Pe_breathe_8 rfl ?_
    refine pg_get (C := "SmokeZones$Person") (T := T_Pe) (N := 8) hx hb hG in_Pe hown hK hP h_q e_q rfl 1 (by decide) (hG _ k389) (fun _ h9 => h9) rfl d_Pe_breathe_9 ?_
    refine lv_aload_n hx hb d_Pe_breathe_12 rfl (lv_at hl 1 rfl) ?_
    refine kV_rl ⟨hx, hb, hml, hown, hG⟩ (c_Ro_warmth h_r e_r) (cwV 0 hG (gV k562 k528 k529 k8 k530) rfl rfl rfl hd_Ro_warmth ⟨Nat.le_of_ble_eq_true rfl, Nat.le_of_ble_eq_true rfl⟩) hK hP hS h_r e_r rfl rfl hl.1 rfl (Nat.le_of_ble_eq_true rfl) ⟨Nat.le_of_ble_eq_true rfl, Nat.le_of_ble_eq_true rfl⟩ d_Pe_breathe_13 (fun locs hS => ?_)
    refine lv_lconst (v := 1) hx hb d_Pe_breathe_16 (by decide) ?_
    refine lv_ladd hx hb d_Pe_breathe_17 ?_
    refine lv_ladd hx hb d_Pe_breathe_18 ?_
    refine pg_put (C := "SmokeZones$Person") (T := T_Pe) (N := 8) (ty := .long) hx hb hG in_Pe ty_Pe ok_Pe nm_Pe hown hK hP hD hS h_q e_q rfl 1 (by decide) (hG _ k389) (fun _ h9 => h9) rfl (by decide +kernel) rfl rfl (Nat.le_of_ble_eq_true rfl) d_Pe_breathe_19 (fun H locs hP hD hS => ?_)
    have hP : va_P D vwCl (va_pl L (va_up f q (.inr (5, [.int pl, .long (dz + ((m_warmth sm ht) + 1)), .long be, .ref ws, .ref wp, .int td, .int lt, .int wk])))) H := hP
    have hD : va_D A (va_pl L (va_up f q (.inr (5, [.int pl, .long (dz + ((m_warmth sm ht) + 1)), .long be, .ref ws, .ref wp, .int td, .int lt, .int wk])))) := hD
    have e_2 : (va_up f q (.inr (5, [.int pl, .long (dz + ((m_warmth sm ht) + 1)), .long be, .ref ws, .ref wp, .int td, .int lt, .int wk]))) q = .inr (5, [.int pl, .long (dz + ((m_warmth sm ht) + 1)), .long be, .ref ws, .ref wp, .int td, .int lt, .int wk]) := va_up_self _ _ _
    have e_3 : (va_up f q (.inr (5, [.int pl, .long (dz + ((m_warmth sm ht) + 1)), .long be, .ref ws, .ref wp, .int td, .int lt, .int wk]))) r = .inr (0, [.int ar, .int he, .long ho, .long sm, .long ht, .int sl, .int sa, .int fl]) := (va_up_ne _ _ ne_r_q).trans e_r
    refine lv_aload_n hx hb d_Pe_breathe_22 rfl (lv_at hl 0 rfl) ?_
    refine lv_dup hx hb d_Pe_breathe_23 rfl ?_
    refine pg_get (C := "SmokeZones$Person") (T := T_Pe) (N := 8) hx hb hG in_Pe hown hK hP h_q e_2 rfl 2 (by decide) (hG _ k391) (fun _ h9 => h9) rfl d_Pe_breathe_24 ?_
    refine lv_lconst (v := 1) hx hb d_Pe_breathe_27 (by decide) ?_
    refine lv_ladd hx hb d_Pe_breathe_28 ?_
    refine pg_put (C := "SmokeZones$Person") (T := T_Pe) (N := 8) (ty := .long) hx hb hG in_Pe ty_Pe ok_Pe nm_Pe hown hK hP hD hS h_q e_2 rfl 2 (by decide) (hG _ k391) (fun _ h9 => h9) rfl (by decide +kernel) rfl rfl (Nat.le_of_ble_eq_true rfl) d_Pe_breathe_29 (fun H locs hP hD hS => ?_)
    rw [bx_uu] at hP hD
    have hP : va_P D vwCl (va_pl L (va_up f q (.inr (5, [.int pl, .long (dz + ((m_warmth sm ht) + 1)), .long (be + 1), .ref ws, .ref wp, .int td, .int lt, .int wk])))) H := hP
    have hD : va_D A (va_pl L (va_up f q (.inr (5, [.int pl, .long (dz + ((m_warmth sm ht) + 1)), .long (be + 1), .ref ws, .ref wp, .int td, .int lt, .int wk])))) := hD
    have e_4 : (va_up f q (.inr (5, [.int pl, .long (dz + ((m_warmth sm ht) + 1)), .long (be + 1), .ref ws, .ref wp, .int td, .int lt, .int wk]))) q = .inr (5, [.int pl, .long (dz + ((m_warmth sm ht) + 1)), .long (be + 1), .ref ws, .ref wp, .int td, .int lt, .int wk]) := va_up_self _ _ _
    have e_5 : (va_up f q (.inr (5, [.int pl, .long (dz + ((m_warmth sm ht) + 1)), .long (be + 1), .ref ws, .ref wp, .int td, .int lt, .int wk]))) r = .inr (0, [.int ar, .int he, .long ho, .long sm, .long ht, .int sl, .int sa, .int fl]) := (va_up_ne _ _ ne_r_q).trans e_r
    have hF : (va_up f q (personE pl (m_dz (m_low ar he sm) sm ht dz) (m_be (m_low ar he sm) be) ws wp td lt wk)) = (va_up f q (.inr (5, [.int pl, .long (dz + ((m_warmth sm ht) + 1)), .long (be + 1), .ref ws, .ref wp, .int td, .int lt, .int wk]))) := by
      (try simp only [m_dz, m_be, if_neg c_1])
      first | done | exact rfl | exact up_same e_q
    rw [← hF] at hP hD
    exact W.vret hx hb hret (fun t ht hW => ⟨⟨(), rfl, trivial, by rw [ht]; exact hP, va_K.moved hW.alike hK, hD⟩, hS.F ht⟩) hS.2.2 d_Pe_breathe_32

set_option maxHeartbeats 4000000 in
set_option maxRecDepth 100000 in
theorem c_Ro_init {l : Launch} {D : va_G} {TY : List (ClassId × FieldType)} {L : List Nat} {f : Nat → va_E} {sz : Nat} {r : Nat} {ar : Int32} {he : Int32} {ho : Int64} {sm : Int64} {ht : Int64} {sl : Int32} {sa : Int32} {fl : Int32} {p0 : Int32} {p1 : Int32} (h_r : r ∈ L) (e_r : f r = roomE ar he ho sm ht sl sa fl) : Met l y_Ro_init (WS y_Ro_init b_Ro_init 3 none) { frames := 1, cells := 0, slots := 0, locals := 12 } (va_Pc [.ref r, .int p0, .int p1] (WP D TY L f sz)) (Xv D TY L (va_up f r (roomE p0 p1 (Int32.toInt64 p0 * Int32.toInt64 p1) sm ht (-1) sa (-1))) (AA L f sz)) 0 0 (AA L f sz) := by
  refine Met.ofW (cc := b_Ro_init) (maxL := 3) (ret := none) (by decide) rfl ?_
  intro p e s m args below meth c s₁ B hml hv
  obtain ⟨rfl, hsz, hP, hK, hD0⟩ := hv
  subst hsz
  have hx := B.exec
  have hb := B.bytes
  have hret := B.returns
  have hts := atoms_spec (ws := WS y_Ro_init b_Ro_init 3 none) B.pre
  have hG : ∀ w ∈ GW, w.before _ s = true := fun w h => hts w (List.mem_cons_of_mem _ h)
  have hown : s.vm.findClass "SmokeZones$Room" = some m.cls := findClass_of_methodNamed B.named
  have hlocks := B.notSynchronized
  have hin : meth.name = "<init>" := (name_of_methodNamed B.named B.method).1
  have hD : va_D (AA L f s.heap.size) (va_pl L f) := hD0.self (sz := s.heap.size)
  generalize hAe : AA L f s.heap.size = A at hD ⊢
  have hA : ∀ q : Nat, s.heap.size ≤ q → A q := fun q h => by rw [← hAe]; exact Or.inr h
  have hS : va_S A s.heap s.heap [] := va_S.rf
  have hl := lv_entry ([.ref r, .int p0, .int p1]) (n := 3) (Nat.le_of_ble_eq_true rfl)
  rw [lg_entry_eq]
  generalize (lg_sl ([.ref r, .int p0, .int p1]) ++ List.replicate (3 - (lg_sl ([.ref r, .int p0, .int p1])).length) Slot.unset).toArray = ls at hl ⊢
  have hl : lv_has ls 3 [(0, .ref r), (1, .int p0), (2, .int p1)] := hl
  refine lv_aload_n hx hb d_Ro_init_0 rfl (lv_at hl 0 rfl) ?_
  refine pg_objInit hx hb hown (hml.trans hl.1.symm) (hG _ k195) (hG _ k21) (hG _ ko_c) (Nat.le_of_ble_eq_true rfl) (Nat.le_of_ble_eq_true rfl) d_Ro_init_1 ?_
  refine lv_aload_n hx hb d_Ro_init_4 rfl (lv_at hl 0 rfl) ?_
  refine lv_iload_n hx hb d_Ro_init_5 rfl (lv_at hl 1 rfl) ?_
  refine pg_putF (C := "SmokeZones$Room") (T := T_Ro) (N := 8) (ty := .int) hx hb hG in_Ro ty_Ro ok_Ro nm_Ro hown hK hP hD hS h_r e_r rfl 0 (by decide) (hG _ k196) (fun _ h9 => h9) rfl hin rfl (by decide +kernel) rfl rfl (Nat.le_of_ble_eq_true rfl) d_Ro_init_6 (fun H locs hP hD hS => ?_)
  have hP : va_P D vwCl (va_pl L (va_up f r (.inr (0, [.int p0, .int he, .long ho, .long sm, .long ht, .int sl, .int sa, .int fl])))) H := hP
  have hD : va_D A (va_pl L (va_up f r (.inr (0, [.int p0, .int he, .long ho, .long sm, .long ht, .int sl, .int sa, .int fl])))) := hD
  have e_1 : (va_up f r (.inr (0, [.int p0, .int he, .long ho, .long sm, .long ht, .int sl, .int sa, .int fl]))) r = .inr (0, [.int p0, .int he, .long ho, .long sm, .long ht, .int sl, .int sa, .int fl]) := va_up_self _ _ _
  refine lv_aload_n hx hb d_Ro_init_9 rfl (lv_at hl 0 rfl) ?_
  refine lv_iload_n hx hb d_Ro_init_10 rfl (lv_at hl 2 rfl) ?_
  refine pg_putF (C := "SmokeZones$Room") (T := T_Ro) (N := 8) (ty := .int) hx hb hG in_Ro ty_Ro ok_Ro nm_Ro hown hK hP hD hS h_r e_1 rfl 1 (by decide) (hG _ k197) (fun _ h9 => h9) rfl hin rfl (by decide +kernel) rfl rfl (Nat.le_of_ble_eq_true rfl) d_Ro_init_11 (fun H locs hP hD hS => ?_)
  rw [bx_uu] at hP hD
  have hP : va_P D vwCl (va_pl L (va_up f r (.inr (0, [.int p0, .int p1, .long ho, .long sm, .long ht, .int sl, .int sa, .int fl])))) H := hP
  have hD : va_D A (va_pl L (va_up f r (.inr (0, [.int p0, .int p1, .long ho, .long sm, .long ht, .int sl, .int sa, .int fl])))) := hD
  have e_2 : (va_up f r (.inr (0, [.int p0, .int p1, .long ho, .long sm, .long ht, .int sl, .int sa, .int fl]))) r = .inr (0, [.int p0, .int p1, .long ho, .long sm, .long ht, .int sl, .int sa, .int fl]) := va_up_self _ _ _
  refine lv_aload_n hx hb d_Ro_init_14 rfl (lv_at hl 0 rfl) ?_
  refine lv_iload_n hx hb d_Ro_init_15 rfl (lv_at hl 1 rfl) ?_
  refine lv_i2l hx hb d_Ro_init_16 rfl ?_
  refine lv_iload_n hx hb d_Ro_init_17 rfl (lv_at hl 2 rfl) ?_
  refine lv_i2l hx hb d_Ro_init_18 rfl ?_
  refine lv_lmul hx hb d_Ro_init_19 ?_
  refine pg_putF (C := "SmokeZones$Room") (T := T_Ro) (N := 8) (ty := .long) hx hb hG in_Ro ty_Ro ok_Ro nm_Ro hown hK hP hD hS h_r e_2 rfl 2 (by decide) (hG _ k199) (fun _ h9 => h9) rfl hin rfl (by decide +kernel) rfl rfl (Nat.le_of_ble_eq_true rfl) d_Ro_init_20 (fun H locs hP hD hS => ?_)
  rw [bx_uu] at hP hD
  have hP : va_P D vwCl (va_pl L (va_up f r (.inr (0, [.int p0, .int p1, .long ((Int32.toInt64 p0) * (Int32.toInt64 p1)), .long sm, .long ht, .int sl, .int sa, .int fl])))) H := hP
  have hD : va_D A (va_pl L (va_up f r (.inr (0, [.int p0, .int p1, .long ((Int32.toInt64 p0) * (Int32.toInt64 p1)), .long sm, .long ht, .int sl, .int sa, .int fl])))) := hD
  have e_3 : (va_up f r (.inr (0, [.int p0, .int p1, .long ((Int32.toInt64 p0) * (Int32.toInt64 p1)), .long sm, .long ht, .int sl, .int sa, .int fl]))) r = .inr (0, [.int p0, .int p1, .long ((Int32.toInt64 p0) * (Int32.toInt64 p1)), .long sm, .long ht, .int sl, .int sa, .int fl]) := va_up_self _ _ _
  refine lv_aload_n hx hb d_Ro_init_23 rfl (lv_at hl 0 rfl) ?_
  refine lv_iconst (v := (-1)) hx hb d_Ro_init_24 (by decide) ?_
  refine pg_put (C := "SmokeZones$Room") (T := T_Ro) (N := 8) (ty := .int) hx hb hG in_Ro ty_Ro ok_Ro nm_Ro hown hK hP hD hS h_r e_3 rfl 5 (by decide) (hG _ k206) (fun _ h9 => h9) rfl (by decide +kernel) rfl rfl (Nat.le_of_ble_eq_true rfl) d_Ro_init_25 (fun H locs hP hD hS => ?_)
  rw [bx_uu] at hP hD
  have hP : va_P D vwCl (va_pl L (va_up f r (.inr (0, [.int p0, .int p1, .long ((Int32.toInt64 p0) * (Int32.toInt64 p1)), .long sm, .long ht, .int (-1), .int sa, .int fl])))) H := hP
  have hD : va_D A (va_pl L (va_up f r (.inr (0, [.int p0, .int p1, .long ((Int32.toInt64 p0) * (Int32.toInt64 p1)), .long sm, .long ht, .int (-1), .int sa, .int fl])))) := hD
  have e_4 : (va_up f r (.inr (0, [.int p0, .int p1, .long ((Int32.toInt64 p0) * (Int32.toInt64 p1)), .long sm, .long ht, .int (-1), .int sa, .int fl]))) r = .inr (0, [.int p0, .int p1, .long ((Int32.toInt64 p0) * (Int32.toInt64 p1)), .long sm, .long ht, .int (-1), .int sa, .int fl]) := va_up_self _ _ _
  refine lv_aload_n hx hb d_Ro_init_28 rfl (lv_at hl 0 rfl) ?_
  refine lv_iconst (v := (-1)) hx hb d_Ro_init_29 (by decide) ?_
  refine pg_put (C := "SmokeZones$Room") (T := T_Ro) (N := 8) (ty := .int) hx hb hG in_Ro ty_Ro ok_Ro nm_Ro hown hK hP hD hS h_r e_4 rfl 7 (by decide) (hG _ k211) (fun _ h9 => h9) rfl (by decide +kernel) rfl rfl (Nat.le_of_ble_eq_true rfl) d_Ro_init_30 (fun H locs hP hD hS => ?_)
  rw [bx_uu] at hP hD
  have hP : va_P D vwCl (va_pl L (va_up f r (.inr (0, [.int p0, .int p1, .long ((Int32.toInt64 p0) * (Int32.toInt64 p1)), .long sm, .long ht, .int (-1), .int sa, .int (-1)])))) H := hP
  have hD : va_D A (va_pl L (va_up f r (.inr (0, [.int p0, .int p1, .long ((Int32.toInt64 p0) * (Int32.toInt64 p1)), .long sm, .long ht, .int (-1), .int sa, .int (-1)])))) := hD
  have e_5 : (va_up f r (.inr (0, [.int p0, .int p1, .long ((Int32.toInt64 p0) * (Int32.toInt64 p1)), .long sm, .long ht, .int (-1), .int sa, .int (-1)]))) r = .inr (0, [.int p0, .int p1, .long ((Int32.toInt64 p0) * (Int32.toInt64 p1)), .long sm, .long ht, .int (-1), .int sa, .int (-1)]) := va_up_self _ _ _
  have hF : (va_up f r (roomE p0 p1 (Int32.toInt64 p0 * Int32.toInt64 p1) sm ht (-1) sa (-1))) = (va_up f r (.inr (0, [.int p0, .int p1, .long ((Int32.toInt64 p0) * (Int32.toInt64 p1)), .long sm, .long ht, .int (-1), .int sa, .int (-1)]))) := by
    first | done | exact rfl
  rw [← hF] at hP hD
  exact W.vret hx hb hret (fun t ht hW => ⟨⟨(), rfl, trivial, by rw [ht]; exact hP, va_K.moved hW.alike hK, hD⟩, hS.F ht⟩) hS.2.2 d_Ro_init_33
