/-! the other classes inside: Fan, Fire, Steel, Person, Opening -/
abbrev openE (nr : Nat) (fv : Value) (wi si to gl br : Int32) (fw hf fa : Int64) : va_E := .inr (1, [.ref nr, fv, .int wi, .int si, .int to, .int gl, .int br, .long fw, .long hf, .long fa])
abbrev fireE (pl : Nat) (fs gr mo hz : Int32) : va_E := .inr (2, [.ref pl, .int fs, .int gr, .int mo, .int hz])
abbrev fanE (pl : Nat) (fs ra : Int32) : va_E := .inr (3, [.ref pl, .int fs, .int ra])
abbrev steelE (pl : Nat) (sc te : Int32) : va_E := .inr (4, [.ref pl, .int sc, .int te])
abbrev personE (pl : Int32) (do_ be : Int64) (ws wp : Nat) (td lt wk : Int32) : va_E := .inr (5, [.int pl, .long do_, .long be, .ref ws, .ref wp, .int td, .int lt, .int wk])
theorem ne_ci {f : Nat → va_E} {a b i j : Nat} {fs gs : List Value} (ha : f a = .inr (i, fs)) (hb : f b = .inr (j, gs)) (h : i ≠ j) : a ≠ b := fun q => by
  subst q
  rw [ha] at hb
  injection hb with h1
  injection h1 with h2
  exact h h2
theorem ne_ai {f : Nat → va_E} {a b j : Nat} {x : ClassId × vp_A} {gs : List Value} (ha : f a = .inl x) (hb : f b = .inr (j, gs)) : a ≠ b := fun q => by
  subst q
  rw [ha] at hb
  cases hb
theorem nz32' {x : Int32} (h : ¬ x ≤ 0) : ¬ Int32.toInt64 x = 0 := by
  intro q
  have h1 := congrArg Int64.toInt q
  rw [Int32.toInt_toInt64] at h1
  have h4 : (0 : Int64).toInt = 0 := by decide
  apply h
  rw [Int32.le_iff_toInt_le]
  have h3 : (0 : Int32).toInt = 0 := by decide
  omega
def m_bl (ra : Int32) (sm : Int64) : Int64 := m_min (Int32.toInt64 ra) sm
def m_bout (fs t ra : Int32) (sm : Int64) : Int64 := if fs ≤ t then m_bl ra sm else 0
def m_bsm (fs t ra : Int32) (sm : Int64) : Int64 := if fs ≤ t then sm + -(m_bl ra sm) else sm
def m_bht (fs t ra : Int32) (sm ht : Int64) : Int64 := if fs ≤ t then ht + -(m_hw sm ht (m_bl ra sm)) else ht
def m_f0 (fs t gr mo : Int32) : Int64 := m_min (Int32.toInt64 ((t - fs) + 1) * Int32.toInt64 gr) (Int32.toInt64 mo)
def m_f1 (fs t gr mo sa : Int32) : Int64 := if sa = 0 then m_f0 fs t gr mo else m_f0 fs t gr mo / 2
def m_fout (fs t gr mo sa : Int32) : Int64 := if fs ≤ t then m_f1 fs t gr mo sa else 0
def m_fsm (fs t gr mo sa : Int32) (sm : Int64) : Int64 := if fs ≤ t then sm + m_f1 fs t gr mo sa else sm
def m_fht (fs t gr mo hz sa : Int32) (ht : Int64) : Int64 := if fs ≤ t then ht + m_f1 fs t gr mo sa * Int32.toInt64 hz else ht
def m_te (sm ht : Int64) (sc te : Int32) : Int32 := if sc ≤ 0 then te else te + Int64.toInt32 ((m_warmth sm ht - Int32.toInt64 te) / Int32.toInt64 sc)

set_option maxHeartbeats 4000000 in
set_option maxRecDepth 100000 in
theorem c_Fa_blow {l : Launch} {D : va_G} {TY : List (ClassId × FieldType)} {L : List Nat} {f : Nat → va_E} {sz : Nat} {q : Nat} {fs : Int32} {ra : Int32} {r : Nat} {ar : Int32} {he : Int32} {ho : Int64} {sm : Int64} {ht : Int64} {sl : Int32} {sa : Int32} {fl : Int32} {t0 : Int32} (h_q : q ∈ L) (e_q : f q = fanE r fs ra) (h_r : r ∈ L) (e_r : f r = roomE ar he ho sm ht sl sa fl) : Met l y_Fa_blow (WS y_Fa_blow b_Fa_blow 4 (some .long)) { frames := 1, cells := 0, slots := 0, locals := 24 } (va_Pc [.ref q, .int t0] (WP D TY L f sz)) (Xl D TY L (va_up f r (roomE ar he ho (m_bsm fs t0 ra sm) (m_bht fs t0 ra sm ht) sl sa fl)) (AA L f sz) (m_bout fs t0 ra sm)) 0 0 (AA L f sz) := by
  refine Met.ofW (cc := b_Fa_blow) (maxL := 4) (ret := (some .long)) (by decide) rfl ?_
  intro p e s m args below meth c s₁ B hml hv
  obtain ⟨rfl, hsz, hP, hK, hD0⟩ := hv
  subst hsz
  have hx := B.exec
  have hb := B.bytes
  have hret := B.returns
  have hts := atoms_spec (ws := WS y_Fa_blow b_Fa_blow 4 (some .long)) B.pre
  have hG : ∀ w ∈ GW, w.before _ s = true := fun w h => hts w (List.mem_cons_of_mem _ h)
  have hown : s.vm.findClass "SmokeZones$Fan" = some m.cls := findClass_of_methodNamed B.named
  have hlocks := B.notSynchronized
  have hD : va_D (AA L f s.heap.size) (va_pl L f) := hD0.self (sz := s.heap.size)
  generalize hAe : AA L f s.heap.size = A at hD ⊢
  have hA : ∀ q : Nat, s.heap.size ≤ q → A q := fun q h => by rw [← hAe]; exact Or.inr h
  have hS : va_S A s.heap s.heap [] := va_S.rf
  have hl := lv_entry ([.ref q, .int t0]) (n := 4) (Nat.le_of_ble_eq_true rfl)
  rw [lg_entry_eq]
  generalize (lg_sl ([.ref q, .int t0]) ++ List.replicate (4 - (lg_sl ([.ref q, .int t0])).length) Slot.unset).toArray = ls at hl ⊢
  have hl : lv_has ls 4 [(0, .ref q), (1, .int t0)] := hl
  have ne_q_r : q ≠ r := ne_ci e_q e_r (by decide)
  have ne_r_q : r ≠ q := fun q => ne_q_r q.symm
  refine lv_iload_n hx hb d_Fa_blow_0 rfl (lv_at hl 1 rfl) ?_
  refine lv_aload_n hx hb d_Fa_blow_1 rfl (lv_at hl 0 rfl) ?_
  refine pg_get (C := "SmokeZones$Fan") (T := T_Fa) (N := 3) hx hb hG in_Fa hown hK hP h_q e_q rfl 1 (by decide) (hG _ k343) (fun _ h9 => h9) rfl d_Fa_blow_2 ?_
  refine lv_icmp_ge (tgt := 10) hx hb d_Fa_blow_5 (by decide) (fun c_1 => ?_) (fun c_1 => ?_)
  · refine lv_aload_n hx hb d_Fa_blow_10 rfl (lv_at hl 0 rfl) ?_
    refine pg_get (C := "SmokeZones$Fan") (T := T_Fa) (N := 3) hx hb hG in_Fa hown hK hP h_q e_q rfl 2 (by decide) (hG _ k344) (fun _ h9 => h9) rfl d_Fa_blow_11 ?_
    refine lv_i2l hx hb d_Fa_blow_14 rfl ?_
    refine lv_aload_n hx hb d_Fa_blow_15 rfl (lv_at hl 0 rfl) ?_
    refine pg_get (C := "SmokeZones$Fan") (T := T_Fa) (N := 3) hx hb hG in_Fa hown hK hP h_q e_q rfl 0 (by decide) (hG _ k342) (fun _ h9 => h9) rfl d_Fa_blow_16 ?_
    refine pg_get (C := "SmokeZones$Room") (T := T_Ro) (N := 8) hx hb hG in_Ro hown hK hP h_r e_r rfl 3 (by decide) (hG _ k201) (fun _ h9 => h9) rfl d_Fa_blow_19 ?_
    refine va_mmin_long hx hb (hml.trans hl.1.symm) hown (hG _ k507) (hG _ km_min_s) (hG _ k14) (hG _ km_min_c) (Nat.le_of_ble_eq_true rfl) (Nat.le_of_ble_eq_true rfl) (Nat.le_of_ble_eq_true rfl) (Nat.le_of_ble_eq_true rfl) d_Fa_blow_22 ?_
    refine lv_lstore_n (lv' := [(2, .long (m_min (Int32.toInt64 ra) sm)), (0, .ref q), (1, .int t0)]) hx hb d_Fa_blow_25 rfl hl (by decide) rfl (fun ls hl => ?_)
    refine lv_aload_n hx hb d_Fa_blow_26 rfl (lv_at hl 1 rfl) ?_
    refine pg_get (C := "SmokeZones$Fan") (T := T_Fa) (N := 3) hx hb hG in_Fa hown hK hP h_q e_q rfl 0 (by decide) (hG _ k342) (fun _ h9 => h9) rfl d_Fa_blow_27 ?_
    refine lv_lload_n hx hb d_Fa_blow_30 rfl (lv_at hl 0 rfl) ?_
    refine lv_lneg hx hb d_Fa_blow_31 ?_
    refine lv_aload_n hx hb d_Fa_blow_32 rfl (lv_at hl 1 rfl) ?_
    refine pg_get (C := "SmokeZones$Fan") (T := T_Fa) (N := 3) hx hb hG in_Fa hown hK hP h_q e_q rfl 0 (by decide) (hG _ k342) (fun _ h9 => h9) rfl d_Fa_blow_33 ?_
    refine lv_lload_n hx hb d_Fa_blow_36 rfl (lv_at hl 0 rfl) ?_
    refine kV_rl ⟨hx, hb, hml, hown, hG⟩ (c_Ro_heatWith h_r e_r) (cwV 1 hG (gV k508 k488 k489 k8 k490) rfl rfl rfl hd_Ro_heatWith ⟨Nat.le_of_ble_eq_true rfl, Nat.le_of_ble_eq_true rfl⟩) hK hP hS h_r e_r rfl rfl hl.1 rfl (Nat.le_of_ble_eq_true rfl) ⟨Nat.le_of_ble_eq_true rfl, Nat.le_of_ble_eq_true rfl⟩ d_Fa_blow_37 (fun locs hS => ?_)
    refine lv_lneg hx hb d_Fa_blow_40 ?_
    refine kV_wv (f' := va_up f r (.inr (0, [.int ar, .int he, .long ho, .long (sm + (-(m_min (Int32.toInt64 ra) sm))), .long (ht + (-(m_hw sm ht (m_min (Int32.toInt64 ra) sm)))), .int sl, .int sa, .int fl]))) ⟨hx, hb, hml, hown, hG⟩ (c_Ro_add h_r e_r) (cwV 2 hG (gV k509 k451 k452 k8 k453) rfl rfl rfl hd_Ro_add ⟨Nat.le_of_ble_eq_true rfl, Nat.le_of_ble_eq_true rfl⟩) hK hP hD hS hA h_r e_r rfl rfl hl.1 rfl (Nat.le_of_ble_eq_true rfl) ⟨Nat.le_of_ble_eq_true rfl, Nat.le_of_ble_eq_true rfl⟩ d_Fa_blow_41 (fun H locs hP hD hS => ?_)
    have e_2 : (va_up f r (.inr (0, [.int ar, .int he, .long ho, .long (sm + (-(m_min (Int32.toInt64 ra) sm))), .long (ht + (-(m_hw sm ht (m_min (Int32.toInt64 ra) sm)))), .int sl, .int sa, .int fl]))) r = .inr (0, [.int ar, .int he, .long ho, .long (sm + (-(m_min (Int32.toInt64 ra) sm))), .long (ht + (-(m_hw sm ht (m_min (Int32.toInt64 ra) sm)))), .int sl, .int sa, .int fl]) := va_up_self _ _ _
    have e_3 : (va_up f r (.inr (0, [.int ar, .int he, .long ho, .long (sm + (-(m_min (Int32.toInt64 ra) sm))), .long (ht + (-(m_hw sm ht (m_min (Int32.toInt64 ra) sm)))), .int sl, .int sa, .int fl]))) q = .inr (3, [.ref r, .int fs, .int ra]) := (va_up_ne _ _ ne_q_r).trans e_q
    refine lv_lload_n hx hb d_Fa_blow_44 rfl (lv_at hl 0 rfl) ?_
    have hF : (va_up f r (roomE ar he ho (m_bsm fs t0 ra sm) (m_bht fs t0 ra sm ht) sl sa fl)) = (va_up f r (.inr (0, [.int ar, .int he, .long ho, .long (sm + (-(m_min (Int32.toInt64 ra) sm))), .long (ht + (-(m_hw sm ht (m_min (Int32.toInt64 ra) sm)))), .int sl, .int sa, .int fl]))) := by
      (try simp only [m_bout, m_bsm, m_bht, m_bl, m_min, if_pos c_1])
      first | done | exact rfl | exact up_same e_r
    rw [← hF] at hP hD
    exact W.lret hx hb hret (fun t ht hW => ⟨⟨_, (), rfl, (by simp only [m_bout, m_bsm, m_bht, m_bl, m_min, if_pos c_1]), by rw [ht]; exact hP, va_K.moved hW.alike hK, hD⟩, hS.F ht⟩) hS.2.2 d_Fa_blow_45
  · refine lv_lconst (v := 0) hx hb d_Fa_blow_8 (by decide) ?_
    have hF : (va_up f r (roomE ar he ho (m_bsm fs t0 ra sm) (m_bht fs t0 ra sm ht) sl sa fl)) = (f) := by
      (try simp only [m_bout, m_bsm, m_bht, m_bl, m_min, if_neg c_1])
      first | done | exact rfl | exact up_same e_r
    rw [← hF] at hP hD
    exact W.lret hx hb hret (fun t ht hW => ⟨⟨_, (), rfl, (by simp only [m_bout, m_bsm, m_bht, m_bl, m_min, if_neg c_1]), by rw [ht]; exact hP, va_K.moved hW.alike hK, hD⟩, hS.F ht⟩) hS.2.2 d_Fa_blow_9

set_option maxHeartbeats 4000000 in
set_option maxRecDepth 100000 in
theorem c_Fi_burn {l : Launch} {D : va_G} {TY : List (ClassId × FieldType)} {L : List Nat} {f : Nat → va_E} {sz : Nat} {q : Nat} {fs : Int32} {gr : Int32} {mo : Int32} {hz : Int32} {r : Nat} {ar : Int32} {he : Int32} {ho : Int64} {sm : Int64} {ht : Int64} {sl : Int32} {sa : Int32} {fl : Int32} {t0 : Int32} (h_q : q ∈ L) (e_q : f q = fireE r fs gr mo hz) (h_r : r ∈ L) (e_r : f r = roomE ar he ho sm ht sl sa fl) : Met l y_Fi_burn (WS y_Fi_burn b_Fi_burn 6 (some .long)) { frames := 1, cells := 0, slots := 0, locals := 24 } (va_Pc [.ref q, .int t0] (WP D TY L f sz)) (Xl D TY L (va_up f r (roomE ar he ho (m_fsm fs t0 gr mo sa sm) (m_fht fs t0 gr mo hz sa ht) sl sa fl)) (AA L f sz) (m_fout fs t0 gr mo sa)) 0 0 (AA L f sz) := by
  refine Met.ofW (cc := b_Fi_burn) (maxL := 6) (ret := (some .long)) (by decide) rfl ?_
  intro p e s m args below meth c s₁ B hml hv
  obtain ⟨rfl, hsz, hP, hK, hD0⟩ := hv
  subst hsz
  have hx := B.exec
  have hb := B.bytes
  have hret := B.returns
  have hts := atoms_spec (ws := WS y_Fi_burn b_Fi_burn 6 (some .long)) B.pre
  have hG : ∀ w ∈ GW, w.before _ s = true := fun w h => hts w (List.mem_cons_of_mem _ h)
  have hown : s.vm.findClass "SmokeZones$Fire" = some m.cls := findClass_of_methodNamed B.named
  have hlocks := B.notSynchronized
  have hD : va_D (AA L f s.heap.size) (va_pl L f) := hD0.self (sz := s.heap.size)
  generalize hAe : AA L f s.heap.size = A at hD ⊢
  have hA : ∀ q : Nat, s.heap.size ≤ q → A q := fun q h => by rw [← hAe]; exact Or.inr h
  have hS : va_S A s.heap s.heap [] := va_S.rf
  have hl := lv_entry ([.ref q, .int t0]) (n := 6) (Nat.le_of_ble_eq_true rfl)
  rw [lg_entry_eq]
  generalize (lg_sl ([.ref q, .int t0]) ++ List.replicate (6 - (lg_sl ([.ref q, .int t0])).length) Slot.unset).toArray = ls at hl ⊢
  have hl : lv_has ls 6 [(0, .ref q), (1, .int t0)] := hl
  have ne_q_r : q ≠ r := ne_ci e_q e_r (by decide)
  have ne_r_q : r ≠ q := fun q => ne_q_r q.symm
  refine lv_iload_n hx hb d_Fi_burn_0 rfl (lv_at hl 1 rfl) ?_
  refine lv_aload_n hx hb d_Fi_burn_1 rfl (lv_at hl 0 rfl) ?_
  refine pg_get (C := "SmokeZones$Fire") (T := T_Fi) (N := 5) hx hb hG in_Fi hown hK hP h_q e_q rfl 1 (by decide) (hG _ k308) (fun _ h9 => h9) rfl d_Fi_burn_2 ?_
  refine lv_icmp_ge (tgt := 10) hx hb d_Fi_burn_5 (by decide) (fun c_1 => ?_) (fun c_1 => ?_)
  · refine lv_iload_n hx hb d_Fi_burn_10 rfl (lv_at hl 1 rfl) ?_
    refine lv_aload_n hx hb d_Fi_burn_11 rfl (lv_at hl 0 rfl) ?_
    refine pg_get (C := "SmokeZones$Fire") (T := T_Fi) (N := 5) hx hb hG in_Fi hown hK hP h_q e_q rfl 1 (by decide) (hG _ k308) (fun _ h9 => h9) rfl d_Fi_burn_12 ?_
    refine lv_isub hx hb d_Fi_burn_15 ?_
    refine lv_iconst (v := 1) hx hb d_Fi_burn_16 (by decide) ?_
    refine lv_iadd hx hb d_Fi_burn_17 ?_
    refine lv_i2l hx hb d_Fi_burn_18 rfl ?_
    refine lv_lstore_n (lv' := [(2, .long (Int32.toInt64 ((t0 - fs) + 1))), (0, .ref q), (1, .int t0)]) hx hb d_Fi_burn_19 rfl hl (by decide) rfl (fun ls hl => ?_)
    refine lv_lload_n hx hb d_Fi_burn_20 rfl (lv_at hl 0 rfl) ?_
    refine lv_aload_n hx hb d_Fi_burn_21 rfl (lv_at hl 1 rfl) ?_
    refine pg_get (C := "SmokeZones$Fire") (T := T_Fi) (N := 5) hx hb hG in_Fi hown hK hP h_q e_q rfl 2 (by decide) (hG _ k309) (fun _ h9 => h9) rfl d_Fi_burn_22 ?_
    refine lv_i2l hx hb d_Fi_burn_25 rfl ?_
    refine lv_lmul hx hb d_Fi_burn_26 ?_
    refine lv_aload_n hx hb d_Fi_burn_27 rfl (lv_at hl 1 rfl) ?_
    refine pg_get (C := "SmokeZones$Fire") (T := T_Fi) (N := 5) hx hb hG in_Fi hown hK hP h_q e_q rfl 3 (by decide) (hG _ k310) (fun _ h9 => h9) rfl d_Fi_burn_28 ?_
    refine lv_i2l hx hb d_Fi_burn_31 rfl ?_
    refine va_mmin_long hx hb (hml.trans hl.1.symm) hown (hG _ k446) (hG _ km_min_s) (hG _ k14) (hG _ km_min_c) (Nat.le_of_ble_eq_true rfl) (Nat.le_of_ble_eq_true rfl) (Nat.le_of_ble_eq_true rfl) (Nat.le_of_ble_eq_true rfl) d_Fi_burn_32 ?_
    refine lv_lstore (lv' := [(4, .long (m_min ((Int32.toInt64 ((t0 - fs) + 1)) * (Int32.toInt64 gr)) (Int32.toInt64 mo))), (2, .long (Int32.toInt64 ((t0 - fs) + 1))), (0, .ref q), (1, .int t0)]) hx hb d_Fi_burn_35 hl (by decide) rfl (fun ls hl => ?_)
    refine lv_aload_n hx hb d_Fi_burn_37 rfl (lv_at hl 2 rfl) ?_
    refine pg_get (C := "SmokeZones$Fire") (T := T_Fi) (N := 5) hx hb hG in_Fi hown hK hP h_q e_q rfl 0 (by decide) (hG _ k307) (fun _ h9 => h9) rfl d_Fi_burn_38 ?_
    refine pg_get (C := "SmokeZones$Room") (T := T_Ro) (N := 8) hx hb hG in_Ro hown hK hP h_r e_r rfl 6 (by decide) (hG _ k208) (fun _ h9 => h9) rfl d_Fi_burn_41 ?_
    refine lv_if_eq (tgt := 55) hx hb d_Fi_burn_44 (by decide) (fun c_2 => ?_) (fun c_2 => ?_)
    · refine lv_aload_n hx hb d_Fi_burn_55 rfl (lv_at hl 2 rfl) ?_
      refine pg_get (C := "SmokeZones$Fire") (T := T_Fi) (N := 5) hx hb hG in_Fi hown hK hP h_q e_q rfl 0 (by decide) (hG _ k307) (fun _ h9 => h9) rfl d_Fi_burn_56 ?_
      refine lv_lload hx hb d_Fi_burn_59 (lv_at hl 0 rfl) ?_
      refine lv_lload hx hb d_Fi_burn_61 (lv_at hl 0 rfl) ?_
      refine lv_aload_n hx hb d_Fi_burn_63 rfl (lv_at hl 2 rfl) ?_
      refine pg_get (C := "SmokeZones$Fire") (T := T_Fi) (N := 5) hx hb hG in_Fi hown hK hP h_q e_q rfl 4 (by decide) (hG _ k311) (fun _ h9 => h9) rfl d_Fi_burn_64 ?_
      refine lv_i2l hx hb d_Fi_burn_67 rfl ?_
      refine lv_lmul hx hb d_Fi_burn_68 ?_
      refine kV_wv (f' := va_up f r (.inr (0, [.int ar, .int he, .long ho, .long (sm + (m_min ((Int32.toInt64 ((t0 - fs) + 1)) * (Int32.toInt64 gr)) (Int32.toInt64 mo))), .long (ht + ((m_min ((Int32.toInt64 ((t0 - fs) + 1)) * (Int32.toInt64 gr)) (Int32.toInt64 mo)) * (Int32.toInt64 hz))), .int sl, .int sa, .int fl]))) ⟨hx, hb, hml, hown, hG⟩ (c_Ro_add h_r e_r) (cwV 2 hG (gV k450 k451 k452 k8 k453) rfl rfl rfl hd_Ro_add ⟨Nat.le_of_ble_eq_true rfl, Nat.le_of_ble_eq_true rfl⟩) hK hP hD hS hA h_r e_r rfl rfl hl.1 rfl (Nat.le_of_ble_eq_true rfl) ⟨Nat.le_of_ble_eq_true rfl, Nat.le_of_ble_eq_true rfl⟩ d_Fi_burn_69 (fun H locs hP hD hS => ?_)
      have e_3 : (va_up f r (.inr (0, [.int ar, .int he, .long ho, .long (sm + (m_min ((Int32.toInt64 ((t0 - fs) + 1)) * (Int32.toInt64 gr)) (Int32.toInt64 mo))), .long (ht + ((m_min ((Int32.toInt64 ((t0 - fs) + 1)) * (Int32.toInt64 gr)) (Int32.toInt64 mo)) * (Int32.toInt64 hz))), .int sl, .int sa, .int fl]))) r = .inr (0, [.int ar, .int he, .long ho, .long (sm + (m_min ((Int32.toInt64 ((t0 - fs) + 1)) * (Int32.toInt64 gr)) (Int32.toInt64 mo))), .long (ht + ((m_min ((Int32.toInt64 ((t0 - fs) + 1)) * (Int32.toInt64 gr)) (Int32.toInt64 mo)) * (Int32.toInt64 hz))), .int sl, .int sa, .int fl]) := va_up_self _ _ _
      have e_4 : (va_up f r (.inr (0, [.int ar, .int he, .long ho, .long (sm + (m_min ((Int32.toInt64 ((t0 - fs) + 1)) * (Int32.toInt64 gr)) (Int32.toInt64 mo))), .long (ht + ((m_min ((Int32.toInt64 ((t0 - fs) + 1)) * (Int32.toInt64 gr)) (Int32.toInt64 mo)) * (Int32.toInt64 hz))), .int sl, .int sa, .int fl]))) q = .inr (2, [.ref r, .int fs, .int gr, .int mo, .int hz]) := (va_up_ne _ _ ne_q_r).trans e_q
      refine lv_lload hx hb d_Fi_burn_72 (lv_at hl 0 rfl) ?_
      have hF : (va_up f r (roomE ar he ho (m_fsm fs t0 gr mo sa sm) (m_fht fs t0 gr mo hz sa ht) sl sa fl)) = (va_up f r (.inr (0, [.int ar, .int he, .long ho, .long (sm + (m_min ((Int32.toInt64 ((t0 - fs) + 1)) * (Int32.toInt64 gr)) (Int32.toInt64 mo))), .long (ht + ((m_min ((Int32.toInt64 ((t0 - fs) + 1)) * (Int32.toInt64 gr)) (Int32.toInt64 mo)) * (Int32.toInt64 hz))), .int sl, .int sa, .int fl]))) := by
        (try simp only [m_fout, m_fsm, m_fht, m_f1, m_f0, m_min, if_pos c_1, if_pos c_2])
        first | done | exact rfl | exact up_same e_r
      rw [← hF] at hP hD
      exact W.lret hx hb hret (fun t ht hW => ⟨⟨_, (), rfl, (by simp only [m_fout, m_fsm, m_fht, m_f1, m_f0, m_min, if_pos c_1, if_pos c_2]), by rw [ht]; exact hP, va_K.moved hW.alike hK, hD⟩, hS.F ht⟩) hS.2.2 d_Fi_burn_74
    · refine lv_lload hx hb d_Fi_burn_47 (lv_at hl 0 rfl) ?_
      refine lv_ldc2 hx hb hown (hG _ k449) d_Fi_burn_49 ?_
      refine lv_ldiv hx hb d_Fi_burn_52 (by decide) ?_
      refine lv_lstore (lv' := [(4, .long ((m_min ((Int32.toInt64 ((t0 - fs) + 1)) * (Int32.toInt64 gr)) (Int32.toInt64 mo)) / 2)), (2, .long (Int32.toInt64 ((t0 - fs) + 1))), (0, .ref q), (1, .int t0)]) hx hb d_Fi_burn_53 hl (by decide) rfl (fun ls hl => ?_)
      refine lv_aload_n hx hb d_Fi_burn_55 rfl (lv_at hl 2 rfl) ?_
      refine pg_get (C := "SmokeZones$Fire") (T := T_Fi) (N := 5) hx hb hG in_Fi hown hK hP h_q e_q rfl 0 (by decide) (hG _ k307) (fun _ h9 => h9) rfl d_Fi_burn_56 ?_
      refine lv_lload hx hb d_Fi_burn_59 (lv_at hl 0 rfl) ?_
      refine lv_lload hx hb d_Fi_burn_61 (lv_at hl 0 rfl) ?_
      refine lv_aload_n hx hb d_Fi_burn_63 rfl (lv_at hl 2 rfl) ?_
      refine pg_get (C := "SmokeZones$Fire") (T := T_Fi) (N := 5) hx hb hG in_Fi hown hK hP h_q e_q rfl 4 (by decide) (hG _ k311) (fun _ h9 => h9) rfl d_Fi_burn_64 ?_
      refine lv_i2l hx hb d_Fi_burn_67 rfl ?_
      refine lv_lmul hx hb d_Fi_burn_68 ?_
      refine kV_wv (f' := va_up f r (.inr (0, [.int ar, .int he, .long ho, .long (sm + ((m_min ((Int32.toInt64 ((t0 - fs) + 1)) * (Int32.toInt64 gr)) (Int32.toInt64 mo)) / 2)), .long (ht + (((m_min ((Int32.toInt64 ((t0 - fs) + 1)) * (Int32.toInt64 gr)) (Int32.toInt64 mo)) / 2) * (Int32.toInt64 hz))), .int sl, .int sa, .int fl]))) ⟨hx, hb, hml, hown, hG⟩ (c_Ro_add h_r e_r) (cwV 2 hG (gV k450 k451 k452 k8 k453) rfl rfl rfl hd_Ro_add ⟨Nat.le_of_ble_eq_true rfl, Nat.le_of_ble_eq_true rfl⟩) hK hP hD hS hA h_r e_r rfl rfl hl.1 rfl (Nat.le_of_ble_eq_true rfl) ⟨Nat.le_of_ble_eq_true rfl, Nat.le_of_ble_eq_true rfl⟩ d_Fi_burn_69 (fun H locs hP hD hS => ?_)
      have e_5 : (va_up f r (.inr (0, [.int ar, .int he, .long ho, .long (sm + ((m_min ((Int32.toInt64 ((t0 - fs) + 1)) * (Int32.toInt64 gr)) (Int32.toInt64 mo)) / 2)), .long (ht + (((m_min ((Int32.toInt64 ((t0 - fs) + 1)) * (Int32.toInt64 gr)) (Int32.toInt64 mo)) / 2) * (Int32.toInt64 hz))), .int sl, .int sa, .int fl]))) r = .inr (0, [.int ar, .int he, .long ho, .long (sm + ((m_min ((Int32.toInt64 ((t0 - fs) + 1)) * (Int32.toInt64 gr)) (Int32.toInt64 mo)) / 2)), .long (ht + (((m_min ((Int32.toInt64 ((t0 - fs) + 1)) * (Int32.toInt64 gr)) (Int32.toInt64 mo)) / 2) * (Int32.toInt64 hz))), .int sl, .int sa, .int fl]) := va_up_self _ _ _
      have e_6 : (va_up f r (.inr (0, [.int ar, .int he, .long ho, .long (sm + ((m_min ((Int32.toInt64 ((t0 - fs) + 1)) * (Int32.toInt64 gr)) (Int32.toInt64 mo)) / 2)), .long (ht + (((m_min ((Int32.toInt64 ((t0 - fs) + 1)) * (Int32.toInt64 gr)) (Int32.toInt64 mo)) / 2) * (Int32.toInt64 hz))), .int sl, .int sa, .int fl]))) q = .inr (2, [.ref r, .int fs, .int gr, .int mo, .int hz]) := (va_up_ne _ _ ne_q_r).trans e_q
      refine lv_lload hx hb d_Fi_burn_72 (lv_at hl 0 rfl) ?_
      have hF : (va_up f r (roomE ar he ho (m_fsm fs t0 gr mo sa sm) (m_fht fs t0 gr mo hz sa ht) sl sa fl)) = (va_up f r (.inr (0, [.int ar, .int he, .long ho, .long (sm + ((m_min ((Int32.toInt64 ((t0 - fs) + 1)) * (Int32.toInt64 gr)) (Int32.toInt64 mo)) / 2)), .long (ht + (((m_min ((Int32.toInt64 ((t0 - fs) + 1)) * (Int32.toInt64 gr)) (Int32.toInt64 mo)) / 2) * (Int32.toInt64 hz))), .int sl, .int sa, .int fl]))) := by
        (try simp only [m_fout, m_fsm, m_fht, m_f1, m_f0, m_min, if_pos c_1, if_neg c_2])
        first | done | exact rfl | exact up_same e_r
      rw [← hF] at hP hD
      exact W.lret hx hb hret (fun t ht hW => ⟨⟨_, (), rfl, (by simp only [m_fout, m_fsm, m_fht, m_f1, m_f0, m_min, if_pos c_1, if_neg c_2]), by rw [ht]; exact hP, va_K.moved hW.alike hK, hD⟩, hS.F ht⟩) hS.2.2 d_Fi_burn_74
  · refine lv_lconst (v := 0) hx hb d_Fi_burn_8 (by decide) ?_
    have hF : (va_up f r (roomE ar he ho (m_fsm fs t0 gr mo sa sm) (m_fht fs t0 gr mo hz sa ht) sl sa fl)) = (f) := by
      (try simp only [m_fout, m_fsm, m_fht, m_f1, m_f0, m_min, if_neg c_1])
      first | done | exact rfl | exact up_same e_r
    rw [← hF] at hP hD
    exact W.lret hx hb hret (fun t ht hW => ⟨⟨_, (), rfl, (by simp only [m_fout, m_fsm, m_fht, m_f1, m_f0, m_min, if_neg c_1]), by rw [ht]; exact hP, va_K.moved hW.alike hK, hD⟩, hS.F ht⟩) hS.2.2 d_Fi_burn_9

set_option maxHeartbeats 4000000 in
set_option maxRecDepth 100000 in
theorem c_St_getWarm {l : Launch} {D : va_G} {TY : List (ClassId × FieldType)} {L : List Nat} {f : Nat → va_E} {sz : Nat} {q : Nat} {sc : Int32} {te : Int32} {r : Nat} {ar : Int32} {he : Int32} {ho : Int64} {sm : Int64} {ht : Int64} {sl : Int32} {sa : Int32} {fl : Int32} (h_q : q ∈ L) (e_q : f q = steelE r sc te) (h_r : r ∈ L) (e_r : f r = roomE ar he ho sm ht sl sa fl) : Met l y_St_getWarm (WS y_St_getWarm b_St_getWarm 1 none) { frames := 1, cells := 0, slots := 0, locals := 20 } (va_Pc [.ref q] (WP D TY L f sz)) (Xv D TY L (va_up f q (steelE r sc (m_te sm ht sc te))) (AA L f sz)) 0 0 (AA L f sz) := by
  refine Met.ofW (cc := b_St_getWarm) (maxL := 1) (ret := none) (by decide) rfl ?_
  intro p e s m args below meth c s₁ B hml hv
  obtain ⟨rfl, hsz, hP, hK, hD0⟩ := hv
  subst hsz
  have hx := B.exec
  have hb := B.bytes
  have hret := B.returns
  have hts := atoms_spec (ws := WS y_St_getWarm b_St_getWarm 1 none) B.pre
  have hG : ∀ w ∈ GW, w.before _ s = true := fun w h => hts w (List.mem_cons_of_mem _ h)
  have hown : s.vm.findClass "SmokeZones$Steel" = some m.cls := findClass_of_methodNamed B.named
  have hlocks := B.notSynchronized
  have hD : va_D (AA L f s.heap.size) (va_pl L f) := hD0.self (sz := s.heap.size)
  generalize hAe : AA L f s.heap.size = A at hD ⊢
  have hA : ∀ q : Nat, s.heap.size ≤ q → A q := fun q h => by rw [← hAe]; exact Or.inr h
  have hS : va_S A s.heap s.heap [] := va_S.rf
  have hl := lv_entry ([.ref q]) (n := 1) (Nat.le_of_ble_eq_true rfl)
  rw [lg_entry_eq]
  generalize (lg_sl ([.ref q]) ++ List.replicate (1 - (lg_sl ([.ref q])).length) Slot.unset).toArray = ls at hl ⊢
  have hl : lv_has ls 1 [(0, .ref q)] := hl
  have ne_q_r : q ≠ r := ne_ci e_q e_r (by decide)
  have ne_r_q : r ≠ q := fun q => ne_q_r q.symm
  refine lv_aload_n hx hb d_St_getWarm_0 rfl (lv_at hl 0 rfl) ?_
  refine pg_get (C := "SmokeZones$Steel") (T := T_St) (N := 3) hx hb hG in_St hown hK hP h_q e_q rfl 1 (by decide) (hG _ k365) (fun _ h9 => h9) rfl d_St_getWarm_1 ?_
  refine lv_if_le (tgt := 36) hx hb d_St_getWarm_4 (by decide) (fun c_1 => ?_) (fun c_1 => ?_)
  · have hF : (va_up f q (steelE r sc (m_te sm ht sc te))) = (f) := by
      (try simp only [m_te, if_pos c_1])
      first | done | exact rfl | exact up_same e_q
    rw [← hF] at hP hD
    exact W.vret hx hb hret (fun t ht hW => ⟨⟨(), rfl, trivial, by rw [ht]; exact hP, va_K.moved hW.alike hK, hD⟩, hS.F ht⟩) hS.2.2 d_St_getWarm_36
  · refine lv_aload_n hx hb d_St_getWarm_7 rfl (lv_at hl 0 rfl) ?_
    refine lv_dup hx hb d_St_getWarm_8 rfl ?_
    refine pg_get (C := "SmokeZones$Steel") (T := T_St) (N := 3) hx hb hG in_St hown hK hP h_q e_q rfl 2 (by decide) (hG _ k366) (fun _ h9 => h9) rfl d_St_getWarm_9 ?_
    refine lv_aload_n hx hb d_St_getWarm_12 rfl (lv_at hl 0 rfl) ?_
    refine pg_get (C := "SmokeZones$Steel") (T := T_St) (N := 3) hx hb hG in_St hown hK hP h_q e_q rfl 0 (by decide) (hG _ k364) (fun _ h9 => h9) rfl d_St_getWarm_13 ?_
    refine kV_rl ⟨hx, hb, hml, hown, hG⟩ (c_Ro_warmth h_r e_r) (cwV 0 hG (gV k544 k528 k529 k8 k530) rfl rfl rfl hd_Ro_warmth ⟨Nat.le_of_ble_eq_true rfl, Nat.le_of_ble_eq_true rfl⟩) hK hP hS h_r e_r rfl rfl hl.1 rfl (Nat.le_of_ble_eq_true rfl) ⟨Nat.le_of_ble_eq_true rfl, Nat.le_of_ble_eq_true rfl⟩ d_St_getWarm_16 (fun locs hS => ?_)
    refine lv_aload_n hx hb d_St_getWarm_19 rfl (lv_at hl 0 rfl) ?_
    refine pg_get (C := "SmokeZones$Steel") (T := T_St) (N := 3) hx hb hG in_St hown hK hP h_q e_q rfl 2 (by decide) (hG _ k366) (fun _ h9 => h9) rfl d_St_getWarm_20 ?_
    refine lv_i2l hx hb d_St_getWarm_23 rfl ?_
    refine lv_lsub hx hb d_St_getWarm_24 ?_
    refine lv_aload_n hx hb d_St_getWarm_25 rfl (lv_at hl 0 rfl) ?_
    refine pg_get (C := "SmokeZones$Steel") (T := T_St) (N := 3) hx hb hG in_St hown hK hP h_q e_q rfl 1 (by decide) (hG _ k365) (fun _ h9 => h9) rfl d_St_getWarm_26 ?_
    refine lv_i2l hx hb d_St_getWarm_29 rfl ?_
    refine lv_ldiv hx hb d_St_getWarm_30 (nz32' c_1) ?_
    refine lv_l2i hx hb d_St_getWarm_31 rfl ?_
    refine lv_iadd hx hb d_St_getWarm_32 ?_
    refine pg_put (C := "SmokeZones$Steel") (T := T_St) (N := 3) (ty := .int) hx hb hG in_St ty_St ok_St nm_St hown hK hP hD hS h_q e_q rfl 2 (by decide) (hG _ k366) (fun _ h9 => h9) rfl (by decide +kernel) rfl rfl (Nat.le_of_ble_eq_true rfl) d_St_getWarm_33 (fun H locs hP hD hS => ?_)
    have hP : va_P D vwCl (va_pl L (va_up f q (.inr (4, [.ref r, .int sc, .int (te + (Int64.toInt32 (((m_warmth sm ht) - (Int32.toInt64 te)) / (Int32.toInt64 sc))))])))) H := hP
    have hD : va_D A (va_pl L (va_up f q (.inr (4, [.ref r, .int sc, .int (te + (Int64.toInt32 (((m_warmth sm ht) - (Int32.toInt64 te)) / (Int32.toInt64 sc))))])))) := hD
    have e_2 : (va_up f q (.inr (4, [.ref r, .int sc, .int (te + (Int64.toInt32 (((m_warmth sm ht) - (Int32.toInt64 te)) / (Int32.toInt64 sc))))]))) q = .inr (4, [.ref r, .int sc, .int (te + (Int64.toInt32 (((m_warmth sm ht) - (Int32.toInt64 te)) / (Int32.toInt64 sc))))]) := va_up_self _ _ _
    have e_3 : (va_up f q (.inr (4, [.ref r, .int sc, .int (te + (Int64.toInt32 (((m_warmth sm ht) - (Int32.toInt64 te)) / (Int32.toInt64 sc))))]))) r = .inr (0, [.int ar, .int he, .long ho, .long sm, .long ht, .int sl, .int sa, .int fl]) := (va_up_ne _ _ ne_r_q).trans e_r
    have hF : (va_up f q (steelE r sc (m_te sm ht sc te))) = (va_up f q (.inr (4, [.ref r, .int sc, .int (te + (Int64.toInt32 (((m_warmth sm ht) - (Int32.toInt64 te)) / (Int32.toInt64 sc))))]))) := by
      (try simp only [m_te, if_neg c_1])
      first | done | exact rfl | exact up_same e_q
    rw [← hF] at hP hD
    exact W.vret hx hb hret (fun t ht hW => ⟨⟨(), rfl, trivial, by rw [ht]; exact hP, va_K.moved hW.alike hK, hD⟩, hS.F ht⟩) hS.2.2 d_St_getWarm_36

def m_open (gl br : Int32) : Int32 := if gl = (-1) then 1 else if br = 0 then 0 else 1
def m_ff (wi : Int32) (sm df : Int64) : Int64 := m_min (Int32.toInt64 (5 * wi) * df) (sm / 16)
def m_hot (sm ht : Int64) (gl : Int32) : Int32 := if m_warmth sm ht < Int32.toInt64 gl then 0 else 1

set_option maxHeartbeats 4000000 in
set_option maxRecDepth 100000 in
theorem c_Op_isOpen {l : Launch} {D : va_G} {TY : List (ClassId × FieldType)} {L : List Nat} {f : Nat → va_E} {H : Heap} {q : Nat} {nr : Nat} {fv : Value} {wi : Int32} {si : Int32} {to : Int32} {gl : Int32} {br : Int32} {fw : Int64} {hf : Int64} {fa : Int64} (h_q : q ∈ L) (e_q : f q = openE nr fv wi si to gl br fw hf fa) : Met l y_Op_isOpen (WS y_Op_isOpen b_Op_isOpen 1 (some .boolean)) { frames := 0, cells := 0, slots := 0, locals := 0 } (va_Pc [.ref q] (RP D TY L f H)) (Qi (m_open gl br) H) 0 0 No := by
  refine Met.ofW (cc := b_Op_isOpen) (maxL := 1) (ret := (some .boolean)) (by decide) rfl ?_
  intro p e s m args below meth c s₁ B hml hv
  obtain ⟨rfl, hH, hP, hK⟩ := hv
  subst hH
  have hx := B.exec
  have hb := B.bytes
  have hret := B.returns
  have hts := atoms_spec (ws := WS y_Op_isOpen b_Op_isOpen 1 (some .boolean)) B.pre
  have hG : ∀ w ∈ GW, w.before _ s = true := fun w h => hts w (List.mem_cons_of_mem _ h)
  have hown : s.vm.findClass "SmokeZones$Opening" = some m.cls := findClass_of_methodNamed B.named
  have hlocks := B.notSynchronized
  have hS : va_S No s.heap s.heap [] := va_S.rf
  have hl := lv_entry ([.ref q]) (n := 1) (Nat.le_of_ble_eq_true rfl)
  rw [lg_entry_eq]
  generalize (lg_sl ([.ref q]) ++ List.replicate (1 - (lg_sl ([.ref q])).length) Slot.unset).toArray = ls at hl ⊢
  have hl : lv_has ls 1 [(0, .ref q)] := hl
  refine lv_aload_n hx hb d_Op_isOpen_0 rfl (lv_at hl 0 rfl) ?_
  refine pg_get (C := "SmokeZones$Opening") (T := T_Op) (N := 10) hx hb hG in_Op hown hK hP h_q e_q rfl 5 (by decide) (hG _ k258) (fun _ h9 => h9) rfl d_Op_isOpen_1 ?_
  refine lv_iconst (v := (-1)) hx hb d_Op_isOpen_4 (by decide) ?_
  refine lv_icmp_eq (tgt := 15) hx hb d_Op_isOpen_5 (by decide) (fun c_1 => ?_) (fun c_1 => ?_)
  · refine lv_iconst (v := 1) hx hb d_Op_isOpen_15 (by decide) ?_
    refine lv_goto (tgt := 20) hx hb d_Op_isOpen_16 (by decide) ?_
    exact W.zret hx hb hret rfl (fun t ht hW => ⟨⟨_, (), rfl, (by simp only [m_open, if_pos c_1]), ht⟩, hS.F ht⟩) hS.2.2 d_Op_isOpen_20
  · refine lv_aload_n hx hb d_Op_isOpen_8 rfl (lv_at hl 0 rfl) ?_
    refine pg_get (C := "SmokeZones$Opening") (T := T_Op) (N := 10) hx hb hG in_Op hown hK hP h_q e_q rfl 6 (by decide) (hG _ k260) (fun _ h9 => h9) rfl d_Op_isOpen_9 ?_
    refine lv_if_eq (tgt := 19) hx hb d_Op_isOpen_12 (by decide) (fun c_2 => ?_) (fun c_2 => ?_)
    · refine lv_iconst (v := 0) hx hb d_Op_isOpen_19 (by decide) ?_
      exact W.zret hx hb hret rfl (fun t ht hW => ⟨⟨_, (), rfl, (by simp only [m_open, if_neg c_1, if_pos c_2]), ht⟩, hS.F ht⟩) hS.2.2 d_Op_isOpen_20
    · refine lv_iconst (v := 1) hx hb d_Op_isOpen_15 (by decide) ?_
      refine lv_goto (tgt := 20) hx hb d_Op_isOpen_16 (by decide) ?_
      exact W.zret hx hb hret rfl (fun t ht hW => ⟨⟨_, (), rfl, (by simp only [m_open, if_neg c_1, if_neg c_2]), ht⟩, hS.F ht⟩) hS.2.2 d_Op_isOpen_20

set_option maxHeartbeats 4000000 in
set_option maxRecDepth 100000 in
theorem c_Op_flowFrom {l : Launch} {D : va_G} {TY : List (ClassId × FieldType)} {L : List Nat} {f : Nat → va_E} {H : Heap} {q : Nat} {nr : Nat} {fv : Value} {wi : Int32} {si : Int32} {to : Int32} {gl : Int32} {br : Int32} {fw : Int64} {hf : Int64} {fa : Int64} {r : Nat} {ar : Int32} {he : Int32} {ho : Int64} {sm : Int64} {ht : Int64} {sl : Int32} {sa : Int32} {fl : Int32} {df : Int64} (h_q : q ∈ L) (e_q : f q = openE nr fv wi si to gl br fw hf fa) (h_r : r ∈ L) (e_r : f r = roomE ar he ho sm ht sl sa fl) : Met l y_Op_flowFrom (WS y_Op_flowFrom b_Op_flowFrom 4 (some .long)) { frames := 1, cells := 0, slots := 0, locals := 15 } (va_Pc [.ref q, .ref r, .long df] (RP D TY L f H)) (Ql (m_ff wi sm df) H) 0 0 No := by
  refine Met.ofW (cc := b_Op_flowFrom) (maxL := 4) (ret := (some .long)) (by decide) rfl ?_
  intro p e s m args below meth c s₁ B hml hv
  obtain ⟨rfl, hH, hP, hK⟩ := hv
  subst hH
  have hx := B.exec
  have hb := B.bytes
  have hret := B.returns
  have hts := atoms_spec (ws := WS y_Op_flowFrom b_Op_flowFrom 4 (some .long)) B.pre
  have hG : ∀ w ∈ GW, w.before _ s = true := fun w h => hts w (List.mem_cons_of_mem _ h)
  have hown : s.vm.findClass "SmokeZones$Opening" = some m.cls := findClass_of_methodNamed B.named
  have hlocks := B.notSynchronized
  have hS : va_S No s.heap s.heap [] := va_S.rf
  have hl := lv_entry ([.ref q, .ref r, .long df]) (n := 4) (Nat.le_of_ble_eq_true rfl)
  rw [lg_entry_eq]
  generalize (lg_sl ([.ref q, .ref r, .long df]) ++ List.replicate (4 - (lg_sl ([.ref q, .ref r, .long df])).length) Slot.unset).toArray = ls at hl ⊢
  have hl : lv_has ls 4 [(0, .ref q), (1, .ref r), (2, .long df)] := hl
  refine lv_iconst (v := 5) hx hb d_Op_flowFrom_0 (by decide) ?_
  refine lv_aload_n hx hb d_Op_flowFrom_1 rfl (lv_at hl 0 rfl) ?_
  refine pg_get (C := "SmokeZones$Opening") (T := T_Op) (N := 10) hx hb hG in_Op hown hK hP h_q e_q rfl 2 (by decide) (hG _ k255) (fun _ h9 => h9) rfl d_Op_flowFrom_2 ?_
  refine lv_imul hx hb d_Op_flowFrom_5 ?_
  refine lv_i2l hx hb d_Op_flowFrom_6 rfl ?_
  refine lv_lload_n hx hb d_Op_flowFrom_7 rfl (lv_at hl 2 rfl) ?_
  refine lv_lmul hx hb d_Op_flowFrom_8 ?_
  refine lv_aload_n hx hb d_Op_flowFrom_9 rfl (lv_at hl 1 rfl) ?_
  refine pg_get (C := "SmokeZones$Room") (T := T_Ro) (N := 8) hx hb hG in_Ro hown hK hP h_r e_r rfl 3 (by decide) (hG _ k202) (fun _ h9 => h9) rfl d_Op_flowFrom_10 ?_
  refine lv_ldc2 hx hb hown (hG _ k485) d_Op_flowFrom_13 ?_
  refine lv_ldiv hx hb d_Op_flowFrom_16 (by decide) ?_
  refine va_mmin_long hx hb (hml.trans hl.1.symm) hown (hG _ k486) (hG _ km_min_s) (hG _ k14) (hG _ km_min_c) (Nat.le_of_ble_eq_true rfl) (Nat.le_of_ble_eq_true rfl) (Nat.le_of_ble_eq_true rfl) (Nat.le_of_ble_eq_true rfl) d_Op_flowFrom_17 ?_
  exact W.lret hx hb hret (fun t ht hW => ⟨⟨_, (), rfl, rfl, ht⟩, hS.F ht⟩) hS.2.2 d_Op_flowFrom_20

set_option maxHeartbeats 4000000 in
set_option maxRecDepth 100000 in
theorem c_Op_isHot_s {l : Launch} {D : va_G} {TY : List (ClassId × FieldType)} {L : List Nat} {f : Nat → va_E} {H : Heap} {q : Nat} {nr : Nat} {fv : Value} {wi : Int32} {si : Int32} {to : Int32} {gl : Int32} {br : Int32} {fw : Int64} {hf : Int64} {fa : Int64} {r : Nat} {ar : Int32} {he : Int32} {ho : Int64} {sm : Int64} {ht : Int64} {sl : Int32} {sa : Int32} {fl : Int32} (h_q : q ∈ L) (e_q : f q = openE nr fv wi si to gl br fw hf fa) (h_r : r ∈ L) (e_r : f r = roomE ar he ho sm ht sl sa fl) : Met l y_Op_isHot (WS y_Op_isHot b_Op_isHot 2 (some .boolean)) { frames := 1, cells := 0, slots := 0, locals := 20 } (va_Pc [.ref q, .ref r] (RP D TY L f H)) (Qi (m_hot sm ht gl) H) 0 0 No := by
  refine Met.ofW (cc := b_Op_isHot) (maxL := 2) (ret := (some .boolean)) (by decide) rfl ?_
  intro p e s m args below meth c s₁ B hml hv
  obtain ⟨rfl, hH, hP, hK⟩ := hv
  subst hH
  have hx := B.exec
  have hb := B.bytes
  have hret := B.returns
  have hts := atoms_spec (ws := WS y_Op_isHot b_Op_isHot 2 (some .boolean)) B.pre
  have hG : ∀ w ∈ GW, w.before _ s = true := fun w h => hts w (List.mem_cons_of_mem _ h)
  have hown : s.vm.findClass "SmokeZones$Opening" = some m.cls := findClass_of_methodNamed B.named
  have hlocks := B.notSynchronized
  have hS : va_S No s.heap s.heap [] := va_S.rf
  have hl := lv_entry ([.ref q, .ref r]) (n := 2) (Nat.le_of_ble_eq_true rfl)
  rw [lg_entry_eq]
  generalize (lg_sl ([.ref q, .ref r]) ++ List.replicate (2 - (lg_sl ([.ref q, .ref r])).length) Slot.unset).toArray = ls at hl ⊢
  have hl : lv_has ls 2 [(0, .ref q), (1, .ref r)] := hl
  refine lv_aload_n hx hb d_Op_isHot_0 rfl (lv_at hl 1 rfl) ?_
  refine lv_ifnull hx hb d_Op_isHot_1 ?_
  refine lv_aload_n hx hb d_Op_isHot_4 rfl (lv_at hl 1 rfl) ?_
  refine kV_rl ⟨hx, hb, hml, hown, hG⟩ (c_Ro_warmth h_r e_r) (cwV 0 hG (gV k539 k528 k529 k8 k530) rfl rfl rfl hd_Ro_warmth ⟨Nat.le_of_ble_eq_true rfl, Nat.le_of_ble_eq_true rfl⟩) hK hP hS h_r e_r rfl rfl hl.1 rfl (Nat.le_of_ble_eq_true rfl) ⟨Nat.le_of_ble_eq_true rfl, Nat.le_of_ble_eq_true rfl⟩ d_Op_isHot_5 (fun locs hS => ?_)
  refine lv_aload_n hx hb d_Op_isHot_8 rfl (lv_at hl 0 rfl) ?_
  refine pg_get (C := "SmokeZones$Opening") (T := T_Op) (N := 10) hx hb hG in_Op hown hK hP h_q e_q rfl 5 (by decide) (hG _ k258) (fun _ h9 => h9) rfl d_Op_isHot_9 ?_
  refine lv_i2l hx hb d_Op_isHot_12 rfl ?_
  refine lc_lt (tgt := 21) hx hb d_Op_isHot_13 d_Op_isHot_14 (by decide) (fun c_1 => ?_) (fun c_1 => ?_)
  · refine lv_iconst (v := 0) hx hb d_Op_isHot_21 (by decide) ?_
    exact W.zret hx hb hret rfl (fun t ht hW => ⟨⟨_, (), rfl, (by simp only [m_hot, if_pos c_1]), ht⟩, hS.F ht⟩) hS.2.2 d_Op_isHot_22
  · refine lv_iconst (v := 1) hx hb d_Op_isHot_17 (by decide) ?_
    refine lv_goto (tgt := 22) hx hb d_Op_isHot_18 (by decide) ?_
    exact W.zret hx hb hret rfl (fun t ht hW => ⟨⟨_, (), rfl, (by simp only [m_hot, if_neg c_1]), ht⟩, hS.F ht⟩) hS.2.2 d_Op_isHot_22

set_option maxHeartbeats 4000000 in
set_option maxRecDepth 100000 in
theorem c_Op_isHot_n {l : Launch} {D : va_G} {TY : List (ClassId × FieldType)} {L : List Nat} {f : Nat → va_E} {H : Heap} {q : Nat} {nr : Nat} {fv : Value} {wi : Int32} {si : Int32} {to : Int32} {gl : Int32} {br : Int32} {fw : Int64} {hf : Int64} {fa : Int64} (h_q : q ∈ L) (e_q : f q = openE nr fv wi si to gl br fw hf fa) : Met l y_Op_isHot (WS y_Op_isHot b_Op_isHot 2 (some .boolean)) { frames := 0, cells := 0, slots := 0, locals := 0 } (va_Pc [.ref q, .null] (RP D TY L f H)) (Qi (0) H) 0 0 No := by
  refine Met.ofW (cc := b_Op_isHot) (maxL := 2) (ret := (some .boolean)) (by decide) rfl ?_
  intro p e s m args below meth c s₁ B hml hv
  obtain ⟨rfl, hH, hP, hK⟩ := hv
  subst hH
  have hx := B.exec
  have hb := B.bytes
  have hret := B.returns
  have hts := atoms_spec (ws := WS y_Op_isHot b_Op_isHot 2 (some .boolean)) B.pre
  have hG : ∀ w ∈ GW, w.before _ s = true := fun w h => hts w (List.mem_cons_of_mem _ h)
  have hown : s.vm.findClass "SmokeZones$Opening" = some m.cls := findClass_of_methodNamed B.named
  have hlocks := B.notSynchronized
  have hS : va_S No s.heap s.heap [] := va_S.rf
  have hl := lv_entry ([.ref q, .null]) (n := 2) (Nat.le_of_ble_eq_true rfl)
  rw [lg_entry_eq]
  generalize (lg_sl ([.ref q, .null]) ++ List.replicate (2 - (lg_sl ([.ref q, .null])).length) Slot.unset).toArray = ls at hl ⊢
  have hl : lv_has ls 2 [(0, .ref q), (1, .null)] := hl
  refine lv_aload_nN hx hb d_Op_isHot_0 rfl (lv_at hl 1 rfl) ?_
  refine lv_ifnullN (tgt := 21) hx hb d_Op_isHot_1 (by decide) ?_
  refine lv_iconst (v := 0) hx hb d_Op_isHot_21 (by decide) ?_
  exact W.zret hx hb hret rfl (fun t ht hW => ⟨⟨_, (), rfl, rfl, ht⟩, hS.F ht⟩) hS.2.2 d_Op_isHot_22
