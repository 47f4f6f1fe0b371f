theorem secL_succ {n : Nat → Nat} : ∀ (k : Nat) (x : St3), secL n (k + 1) x = secL n k (secS n x) := fun _ _ => rfl
theorem run_of {p : Int32} (h : 1 ≤ p ∧ p ≤ 500) : ∃ N, N ≤ 500 ∧ p = nI N := by
  have h0 : ¬ p < 0 := fun h1 => by
    have a := Int32.lt_iff_toInt_lt.mp h1
    have b := Int32.le_iff_toInt_le.mp h.1
    have c : (0 : Int32).toInt = 0 := by decide
    have d : (1 : Int32).toInt = 1 := by decide
    omega
  obtain ⟨N, hN, e⟩ := nI_of2 (n := 500) (M := 500) (by decide) h0 h.2
  exact ⟨N, hN, e⟩

set_option maxHeartbeats 4000000 in
set_option maxRecDepth 100000 in
theorem c_Sz_run {l : Launch} (hl0 : l.stackTraces = false) {D : va_G} {ct : Nat → ClassId} {AD : Nat → Nat → Nat} {L : List Nat} {f : Nat → va_E} {sz : Nat} {n : Nat → Nat} {I : Nat → Nat → Int32} {J : Nat → Nat → Int64} {P : Nat → Nat → Nat} {sa sb : Nat} {p1 : Int32} (hCW : CW ct AD L n I J P f) : vx_Met l y_Sz_run (WS y_Sz_run b_Sz_run 3 (some .int)) { frames := 8, cells := 12, slots := 100, locals := 132 } (va_Pc [.ref (AD 9 0), .int p1] (MP D ct L f sa sb sz)) (va_Qi (fun (r : Int32) (u : CSt) => kdRun I p1 = 0 ∧ r = (secL n p1.toNatClampNeg (I, J, P)).1 99 0 ∧ CW ct u.1 u.2.1 n (secL n p1.toNatClampNeg (I, J, P)).1 (secL n p1.toNatClampNeg (I, J, P)).2.1 (secL n p1.toNatClampNeg (I, J, P)).2.2 u.2.2 ∧ u.1 9 0 = AD 9 0) (fun u t => WQ D (TYS ct) u.2.1 u.2.2 (AA L f sz) t) (AA L f sz)) (XE D ct L f (AA L f sz) (kdRun I p1)) 12 100 (AA L f sz) := by
  refine vx_ofW (cc := b_Sz_run) (maxL := 3) (ret := (some .int)) (by decide) rfl ?_
  intro p e s m args below meth c s₁ B hml htab hv
  obtain ⟨rfl, hsz, hP, hK, hD0, hE⟩ := hv
  subst hsz
  have hx := B.exec
  have hb := B.bytes
  have hret := B.returns
  have hts := atoms_spec (ws := WS y_Sz_run b_Sz_run 3 (some .int)) B.pre
  have hG : ∀ w ∈ GW, w.before _ s = true := fun w h => hts w (List.mem_cons_of_mem _ h)
  have hown : s.vm.findClass "SmokeZones" = some m.cls := findClass_of_methodNamed B.named
  have hlocks := B.notSynchronized
  have hD : va_D (AA L f s.heap.size) (va_pl L f) := hD0.self (sz := s.heap.size)
  generalize hAe : AA L f s.heap.size = A at hD hE ⊢
  have hA : ∀ q : Nat, s.heap.size ≤ q → A q := fun q h => by rw [← hAe]; exact Or.inr h
  have hS : va_S A s.heap s.heap [] := va_S.rf
  have hl := lv_entry ([.ref (AD 9 0), .int p1]) (n := 3) (Nat.le_of_ble_eq_true rfl)
  rw [lg_entry_eq]
  generalize (lg_sl ([.ref (AD 9 0), .int p1]) ++ List.replicate (3 - (lg_sl ([.ref (AD 9 0), .int p1])).length) Slot.unset).toArray = ls at hl ⊢
  have hl : lv_has ls 3 [(0, .ref (AD 9 0)), (1, .int p1)] := hl
  obtain ⟨g0L, g0E⟩ := hCW.ma
  refine lv_iload_n hx hb d_Sz_run_0 rfl (lv_at hl 1 rfl) ?_
  refine lv_iconst (v := 1) hx hb d_Sz_run_1 (by decide) ?_
  refine lv_sipush (v := 500) hx hb d_Sz_run_2 (by decide) ?_
  refine kS_ck ⟨hx, hb, hml, hown, hG⟩ (c_Sz_needBetween hl0 ) (cwS 3 hG (gS k96 k97 k1 k98) rfl rfl rfl hd_Sz_needBetween ⟨Nat.le_of_ble_eq_true rfl, Nat.le_of_ble_eq_true rfl⟩) hK hP hS hA hE rfl hl.1 rfl (Nat.le_of_ble_eq_true rfl) ⟨Nat.le_of_ble_eq_true rfl, Nat.le_of_ble_eq_true rfl⟩ d_Sz_run_5 (fun k_1 ce q9 H1 locs hz hk hS h1 h2 h3 => ?_) (fun k_1 locs hS => ?_)
  · exact vx_out (fun x hx9 => (htab x hx9).elim) hlocks h1 h2 h3 (fun t ht hvm => ⟨(), trivial, ⟨Or.inl ⟨(by simp only [kdRun, if_neg k_1]), rfl⟩, by rw [ht]; exact P_keep hP hk, va_K.moved hvm hK, hD⟩, hS.F ht⟩) hS.2.2 (by decide) (by decide)
  · refine lv_aload_n hx hb d_Sz_run_8 rfl (lv_at hl 0 rfl) ?_
    refine pg_get (C := "SmokeZones") (T := T_Sz) (N := 17) hx hb hG in_Sz hown hK hP g0L g0E rfl 12 (by decide) (hG _ k47) (fun _ h9 => h9) rfl d_Sz_run_9 ?_
    refine lv_iload_n hx hb d_Sz_run_12 rfl (lv_at hl 1 rfl) ?_
    refine lv_iadd hx hb d_Sz_run_13 ?_
    refine lv_ldc hx hb hown (hG _ k301) d_Sz_run_14 ?_
    refine lv_icmp_gt (tgt := 23) hx hb d_Sz_run_16 (by decide) (fun c_2 => ?_) (fun c_2 => ?_)
    · refine lv_iconst (v := 0) hx hb d_Sz_run_23 (by decide) ?_
      refine kS_ck ⟨hx, hb, hml, hown, hG⟩ (c_Sz_needState hl0 ) (cwS 1 hG (gS k172 k173 k1 k174) rfl rfl rfl hd_Sz_needState ⟨Nat.le_of_ble_eq_true rfl, Nat.le_of_ble_eq_true rfl⟩) hK hP hS hA hE rfl hl.1 rfl (Nat.le_of_ble_eq_true rfl) ⟨Nat.le_of_ble_eq_true rfl, Nat.le_of_ble_eq_true rfl⟩ d_Sz_run_24 (fun k_3 ce q9 H1 locs hz hk hS h1 h2 h3 => ?_) (fun k_3 locs hS => ?_)
      · exact vx_out (fun x hx9 => (htab x hx9).elim) hlocks h1 h2 h3 (fun t ht hvm => ⟨(), trivial, ⟨Or.inr ⟨(by simp only [kdRun, if_pos k_1, if_pos c_2]), rfl⟩, by rw [ht]; exact P_keep hP hk, va_K.moved hvm hK, hD⟩, hS.F ht⟩) hS.2.2 (by decide) (by decide)
      · exact absurd rfl k_3
    · refine lv_iconst (v := 1) hx hb d_Sz_run_19 (by decide) ?_
      refine lv_goto (tgt := 24) hx hb d_Sz_run_20 (by decide) ?_
      refine kS_ck ⟨hx, hb, hml, hown, hG⟩ (c_Sz_needState hl0 ) (cwS 1 hG (gS k172 k173 k1 k174) rfl rfl rfl hd_Sz_needState ⟨Nat.le_of_ble_eq_true rfl, Nat.le_of_ble_eq_true rfl⟩) hK hP hS hA hE rfl hl.1 rfl (Nat.le_of_ble_eq_true rfl) ⟨Nat.le_of_ble_eq_true rfl, Nat.le_of_ble_eq_true rfl⟩ d_Sz_run_24 (fun k_4 ce q9 H1 locs hz hk hS h1 h2 h3 => ?_) (fun k_4 locs hS => ?_)
      · exact absurd (by decide) k_4
      · refine lv_iconst (v := 0) hx hb d_Sz_run_27 (by decide) ?_
        refine lv_istore_n (lv' := [(2, .int 0), (0, .ref (AD 9 0)), (1, .int p1)]) hx hb d_Sz_run_28 rfl hl (by decide) rfl (fun ls hl => ?_)
        have hkd : kdRun I p1 = 0 := by simp only [kdRun, if_pos k_1, if_neg c_2, if_pos k_4]
        obtain ⟨N, hN5, eN⟩ := run_of k_1
        have hcl : p1.toNatClampNeg = N := by rw [eN]; exact nI_clamp (by omega)
        have lp : ∀ (k i : Nat) (x1 : St3) (f1 : Nat → va_E) (H : Heap) (locs : List Loc) (ls : Array Slot), i + k = N → CW ct AD L n x1.1 x1.2.1 x1.2.2 f1 → va_P D vwCl (va_pl L f1) H → va_D A (va_pl L f1) → va_S A s.heap H locs → lv_has ls 3 [(2, .int (nI i)), (0, .ref (AD 9 0)), (1, .int p1)] → secL n k x1 = secL n N (I, J, P) → W p l e (headSpec (WS y_Sz_run b_Sz_run 3 (some .int)) { frames := 8, cells := 12, slots := 100, locals := 132 }).room s m [.ref (AD 9 0), .int p1].toArray below meth c H locs (0 + 1 + 1) (0 + 6 + 6) (vx_MQ below (va_Qi (fun (r : Int32) (u : CSt) => kdRun I p1 = 0 ∧ r = (secL n p1.toNatClampNeg (I, J, P)).1 99 0 ∧ CW ct u.1 u.2.1 n (secL n p1.toNatClampNeg (I, J, P)).1 (secL n p1.toNatClampNeg (I, J, P)).2.1 (secL n p1.toNatClampNeg (I, J, P)).2.2 u.2.2 ∧ u.1 9 0 = AD 9 0) (fun u t => WQ D (TYS ct) u.2.1 u.2.2 A t) A) (XE D ct L f A (kdRun I p1)) [.ref (AD 9 0), .int p1].toArray s 12 100 A) (F0 m 29 ls []) := by
          intro k
          induction k with
          | zero =>
            intro i x1 f1 H locs ls hik hC hP hD hS hl hfin
            obtain ⟨g_5L, g_5E⟩ := hC.ma
            refine lv_iload_n hx hb d_Sz_run_29 rfl (lv_at hl 0 rfl) ?_
            refine lv_iload_n hx hb d_Sz_run_30 rfl (lv_at hl 2 rfl) ?_
            refine lv_icmp_ge (tgt := 44) hx hb d_Sz_run_31 (by decide) (fun c_6 => ?_) (fun c_6 => ?_)
            · refine lv_aload_n hx hb d_Sz_run_44 rfl (lv_at hl 1 rfl) ?_
              refine pg_get (C := "SmokeZones") (T := T_Sz) (N := 17) hx hb hG in_Sz hown hK hP g_5L g_5E rfl 12 (by decide) (hG _ k47) (fun _ h9 => h9) rfl d_Sz_run_45 ?_
              have q : x1 = secL n N (I, J, P) := hfin
              rw [← hcl] at q
              rw [q] at hC
              refine W.widen (k := 12) (n := 100) (by decide) (by decide) ?_
              exact vx_ret (W.iret hx hb hret (fun t ht hW => ⟨⟨_, (AD, L, f1), rfl, ⟨hkd, by rw [← q], hC, rfl⟩, by rw [ht]; exact hP, va_K.moved hW.alike hK, hD⟩, hS.F ht⟩) hS.2.2 d_Sz_run_48)
            · exact (ge_yes5 (n := N) (i := i) (by omega) (by omega) (eN ▸ c_6)).elim
          | succ k ih =>
            intro i x1 f1 H locs ls hik hC hP hD hS hl hfin
            obtain ⟨g_7L, g_7E⟩ := hC.ma
            have hi : i < N := by omega
            refine lv_iload_n hx hb d_Sz_run_29 rfl (lv_at hl 0 rfl) ?_
            refine lv_iload_n hx hb d_Sz_run_30 rfl (lv_at hl 2 rfl) ?_
            refine lv_icmp_ge (tgt := 44) hx hb d_Sz_run_31 (by decide) (fun c_8 => ?_) (fun c_8 => ?_)
            · exact (ge_no5 hi (by omega) (eN ▸ c_8)).elim
            · refine lv_aload_n hx hb d_Sz_run_34 rfl (lv_at hl 1 rfl) ?_
              refine kV_ws ⟨hx, hb, hml, hown, hG⟩ (c_Sz_passSecond hC) (cwV 0 hG (gV k434 k436 ks_Sz_passSecond k1 k437) rfl rfl rfl hd_Sz_passSecond ⟨Nat.le_of_ble_eq_true rfl, Nat.le_of_ble_eq_true rfl⟩) hK hP hD hS hA g_7L g_7E rfl rfl hl.1 rfl (Nat.le_of_ble_eq_true rfl) ⟨Nat.le_of_ble_eq_true rfl, Nat.le_of_ble_eq_true rfl⟩ d_Sz_run_35 (fun f2 H locs hC2 hP hD hS => ?_)
              have hC2 : CW ct AD L n (secS n x1).1 (secS n x1).2.1 (secS n x1).2.2 f2 := hC2
              refine lv_iinc (v := nI (i + 1)) (lv' := [(2, .int (nI (i + 1))), (0, .ref (AD 9 0)), (1, .int p1)]) hx hb d_Sz_run_38 hl (k := 0) rfl (nI_1 i) (by decide) rfl (fun ls hl => ?_)
              refine lv_goto (tgt := 29) hx hb d_Sz_run_41 (by decide) ?_
              exact ih (i + 1) (secS n x1) _ _ _ _ (by omega) hC2 hP hD hS (lv_sub hl [0, 1, 2] rfl) hfin
        exact lp N 0 (I, J, P) f _ _ _ (by omega) hCW hP hD hS (lv_sub hl [0, 1, 2] rfl) rfl
