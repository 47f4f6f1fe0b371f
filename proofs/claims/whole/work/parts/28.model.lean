def MI (n : Nat → Nat) (X : I2) : Prop :=
  (X 2 0 = nI (n 0) ∧ X 10 0 = nI (n 1) ∧ X 21 0 = nI (n 2) ∧ X 27 0 = nI (n 3) ∧ X 31 0 = nI (n 4) ∧ X 35 0 = nI (n 5)) ∧ (∀ k, k ≤ 5 → n k ≤ cap k) ∧
  (∀ r, r < n 0 → ¬ Int32.toInt64 (X 3 r) = 0) ∧
  (∀ j, j < n 1 → (∃ r, r < n 0 ∧ X 11 j = nI r) ∧ (X 12 j = (-1) ∨ ∃ r, r < n 0 ∧ X 12 j = nI r) ∧ ¬ X 11 j = X 12 j) ∧
  (∀ j, j < n 2 → ∃ r, r < n 0 ∧ X 22 j = nI r) ∧ (∀ j, j < n 3 → ∃ r, r < n 0 ∧ X 28 j = nI r) ∧ (∀ j, j < n 4 → (∃ r, r < n 0 ∧ X 32 j = nI r) ∧ ¬ Int32.toInt64 (X 33 j) = 0) ∧
  (∀ j, j < n 5 → (X 36 j = (-1) ∨ ∃ r, r < n 0 ∧ X 36 j = nI r) ∧ ∃ c d, c ≤ 20 ∧ d ≤ c ∧ X 39 j = nI c ∧ X 40 j = nI d ∧ ∀ q, q < c → X 42 (20 * j + q) = (-1) ∨ ∃ r, r < n 0 ∧ X 42 (20 * j + q) = nI r)
theorem nz_gt {x : Int64} (h : ¬ x ≤ 0) : ¬ x = 0 := fun e => h (by rw [e]; exact Int64.le_refl 0)
theorem nz_gt2 {x y : Int64} (h : ¬ x ≤ y) (h0 : 0 ≤ y) : ¬ x = 0 := fun e => h (by rw [e]; exact h0)

def sxBurn (n : Nat → Nat) (i : Nat) (X : I2) (Y : J2) : I2 := X
def syBurn (n : Nat → Nat) (i : Nat) (X : I2) (Y : J2) : J2 := (if (X 1 0) < (X 23 i) then Y else (if (((Int32.toInt64 ((X 1 0) - (X 23 i))) + 1) * (Int32.toInt64 (X 24 i))) ≤ (Int32.toInt64 (X 25 i)) then (if (X 8 (Int32.toNatClampNeg (X 22 i))) = 0 then up2 (up2 (up2 Y 5 (Int32.toNatClampNeg (X 22 i)) ((Y 5 (Int32.toNatClampNeg (X 22 i))) + (((Int32.toInt64 ((X 1 0) - (X 23 i))) + 1) * (Int32.toInt64 (X 24 i))))) 6 (Int32.toNatClampNeg (X 22 i)) ((Y 6 (Int32.toNatClampNeg (X 22 i))) + ((((Int32.toInt64 ((X 1 0) - (X 23 i))) + 1) * (Int32.toInt64 (X 24 i))) * (Int32.toInt64 (X 26 i))))) 43 0 ((Y 43 0) + (((Int32.toInt64 ((X 1 0) - (X 23 i))) + 1) * (Int32.toInt64 (X 24 i)))) else up2 (up2 (up2 Y 5 (Int32.toNatClampNeg (X 22 i)) ((Y 5 (Int32.toNatClampNeg (X 22 i))) + ((((Int32.toInt64 ((X 1 0) - (X 23 i))) + 1) * (Int32.toInt64 (X 24 i))) / 2))) 6 (Int32.toNatClampNeg (X 22 i)) ((Y 6 (Int32.toNatClampNeg (X 22 i))) + (((((Int32.toInt64 ((X 1 0) - (X 23 i))) + 1) * (Int32.toInt64 (X 24 i))) / 2) * (Int32.toInt64 (X 26 i))))) 43 0 ((Y 43 0) + ((((Int32.toInt64 ((X 1 0) - (X 23 i))) + 1) * (Int32.toInt64 (X 24 i))) / 2))) else (if (X 8 (Int32.toNatClampNeg (X 22 i))) = 0 then up2 (up2 (up2 Y 5 (Int32.toNatClampNeg (X 22 i)) ((Y 5 (Int32.toNatClampNeg (X 22 i))) + (Int32.toInt64 (X 25 i)))) 6 (Int32.toNatClampNeg (X 22 i)) ((Y 6 (Int32.toNatClampNeg (X 22 i))) + ((Int32.toInt64 (X 25 i)) * (Int32.toInt64 (X 26 i))))) 43 0 ((Y 43 0) + (Int32.toInt64 (X 25 i))) else up2 (up2 (up2 Y 5 (Int32.toNatClampNeg (X 22 i)) ((Y 5 (Int32.toNatClampNeg (X 22 i))) + ((Int32.toInt64 (X 25 i)) / 2))) 6 (Int32.toNatClampNeg (X 22 i)) ((Y 6 (Int32.toNatClampNeg (X 22 i))) + (((Int32.toInt64 (X 25 i)) / 2) * (Int32.toInt64 (X 26 i))))) 43 0 ((Y 43 0) + ((Int32.toInt64 (X 25 i)) / 2)))))
def lBurn : Nat → Nat → I2 × J2 → I2 × J2
  | 0, _, q => q
  | k + 1, i, q => lBurn k (i + 1) (sxBurn (fun _ => 0) i q.1 q.2, syBurn (fun _ => 0) i q.1 q.2)
set_option maxHeartbeats 4000000 in
set_option maxRecDepth 100000 in
theorem c_Mo_burn {l : Launch} {D : va_G} {ct : Nat → ClassId} {AM : Nat → Nat} {L : List Nat} {f : Nat → va_E} {X : I2} {Y : J2} {sz : Nat} {n : Nat → Nat} (hM : MW ct AM L X Y f) (hI : MI n X)  : Met l y_Mo_burn (WS y_Mo_burn b_Mo_burn 4 none) { frames := 0, cells := 0, slots := 0, locals := 0 } (va_Pc [.ref (AM 100)] (WP D (TYS ct) L f sz)) (Xs D (TYS ct) L (AA L f sz) (fun f' => MW ct AM L (lBurn (n 2) 0 (X, Y)).1 (lBurn (n 2) 0 (X, Y)).2 f')) 0 0 (AA L f sz) := by
  refine Met.ofW (cc := b_Mo_burn) (maxL := 4) (ret := none) (by decide) rfl ?_
  intro p e s m args below meth c s₁ B hml hv
  obtain ⟨rfl, hsz, hP, hK, hD0⟩ := hv
  subst hsz
  have hx := B.exec
  have hb := B.bytes
  have hret := B.returns
  have hts := atoms_spec (ws := WS y_Mo_burn b_Mo_burn 4 none) B.pre
  have hG : ∀ w ∈ GW, w.before _ s = true := fun w h => hts w (List.mem_cons_of_mem _ h)
  have hown : s.vm.findClass "SmokeZonesModel" = some m.cls := findClass_of_methodNamed B.named
  have hlocks := B.notSynchronized
  have hD : va_D (AA L f s.heap.size) (va_pl L f) := hD0.self (sz := s.heap.size)
  generalize hAe : AA L f s.heap.size = A at hD ⊢
  have hA : ∀ q : Nat, s.heap.size ≤ q → A q := fun q h => by rw [← hAe]; exact Or.inr h
  have hS : va_S A s.heap s.heap [] := va_S.rf
  have hl := lv_entry ([.ref (AM 100)]) (n := 4) (Nat.le_of_ble_eq_true rfl)
  rw [lg_entry_eq]
  generalize (lg_sl ([.ref (AM 100)]) ++ List.replicate (4 - (lg_sl ([.ref (AM 100)])).length) Slot.unset).toArray = ls at hl ⊢
  have hl : lv_has ls 4 [(0, .ref (AM 100))] := hl
  obtain ⟨⟨h2, h10, h21, h27, h31, h35⟩, hcap, ha, hop, hfi, hfa, hst, hpe⟩ := hI
  have hc0 : n 0 ≤ 10 := hcap 0 (by decide)
  have hc1 : n 1 ≤ 15 := hcap 1 (by decide)
  have hc2 : n 2 ≤ 5 := hcap 2 (by decide)
  have hc3 : n 3 ≤ 9 := hcap 3 (by decide)
  have hc4 : n 4 ≤ 9 := hcap 4 (by decide)
  have hc5 : n 5 ≤ 9 := hcap 5 (by decide)
  refine lv_iconst (v := 0) hx hb d_Mo_burn_0 (by decide) ?_
  refine lv_istore_n (lv' := [(1, .int 0), (0, .ref (AM 100))]) hx hb d_Mo_burn_1 rfl hl (by decide) rfl (fun ls hl => ?_)
  have lp0 : ∀ (k i : Nat) (Y1 : J2) (g1 : Nat → va_E) (H : Heap) (locs : List Loc) (ls : Array Slot), i + k = n 2 → MW ct AM L X Y1 g1 → va_P D vwCl (va_pl L g1) H → va_D A (va_pl L g1) → va_S A s.heap H locs → lv_has ls 4 [(1, .int (nI i)), (0, .ref (AM 100))] → lBurn k i (X, Y1) = lBurn (n 2) 0 (X, Y) → W p l e (headSpec (WS y_Mo_burn b_Mo_burn 4 none) { frames := 0, cells := 0, slots := 0, locals := 0 }).room s m [.ref (AM 100)].toArray below meth c H locs 0 0 (MQ below (Xs D (TYS ct) L A (fun f' => MW ct AM L (lBurn (n 2) 0 (X, Y)).1 (lBurn (n 2) 0 (X, Y)).2 f')) [.ref (AM 100)].toArray s 0 0 A) (F0 m 2 ls []) := by
    intro k
    induction k with
    | zero =>
      intro i Y1 f H locs ls hik0 hM hP hD hS hl hfin0
      have hle_i : i ≤ n 2 := by omega
      have hcl_i : (nI i).toNatClampNeg = i := nI_clamp (by omega)
      refine lv_iload_n hx hb d_Mo_burn_2 rfl (lv_at hl 0 rfl) ?_
      refine lv_aload_n hx hb d_Mo_burn_3 rfl (lv_at hl 1 rfl) ?_
      refine pg_get (C := "SmokeZonesModel") (T := T_Mo) (N := 47) hx hb hG in_Mo hown hK hP hM.1.1 hM.1.2 rfl 21 (by decide) (hG _ k642) (fun _ h9 => h9) rfl d_Mo_burn_4 ?_
      refine lv_topi (fun y_1 ey_1 => ?_)
      obtain rfl : y_1 = nI (n 2) := ey_1.trans (by simp [up2, hcl_i, h2, h10, h21, h27, h31, h35])
      refine lv_icmp_ge (tgt := 148) hx hb d_Mo_burn_7 (by decide) (fun c_2 => ?_) (fun c_2 => ?_)
      · have q0 : (X, Y1) = lBurn (n 2) 0 (X, Y) := hfin0
        have hN : MW ct AM L (lBurn (n 2) 0 (X, Y)).1 (lBurn (n 2) 0 (X, Y)).2 f := by
          rw [← q0]
          exact hM
        exact W.vret hx hb hret (fun t ht hW => ⟨⟨f, rfl, hN, by rw [ht]; exact hP, va_K.moved hW.alike hK, hD⟩, hS.F ht⟩) hS.2.2 d_Mo_burn_148
      · exact (ge_yes (by omega) (by omega) c_2).elim
    | succ k ih0 =>
      intro i Y1 f H locs ls hik0 hM hP hD hS hl hfin0
      have hle_i : i ≤ n 2 := by omega
      have hcl_i : (nI i).toNatClampNeg = i := nI_clamp (by omega)
      have hi : i < n 2 := by omega
      refine lv_iload_n hx hb d_Mo_burn_2 rfl (lv_at hl 0 rfl) ?_
      refine lv_aload_n hx hb d_Mo_burn_3 rfl (lv_at hl 1 rfl) ?_
      refine pg_get (C := "SmokeZonesModel") (T := T_Mo) (N := 47) hx hb hG in_Mo hown hK hP hM.1.1 hM.1.2 rfl 21 (by decide) (hG _ k642) (fun _ h9 => h9) rfl d_Mo_burn_4 ?_
      refine lv_topi (fun y_3 ey_3 => ?_)
      obtain rfl : y_3 = nI (n 2) := ey_3.trans (by simp [up2, hcl_i, h2, h10, h21, h27, h31, h35])
      refine lv_icmp_ge (tgt := 148) hx hb d_Mo_burn_7 (by decide) (fun c_4 => ?_) (fun c_4 => ?_)
      · exact (ge_no hi (by omega) c_4).elim
      · obtain ⟨r, hr, er⟩ := hfi i hi
        refine lv_aload_n hx hb d_Mo_burn_10 rfl (lv_at hl 1 rfl) ?_
        refine pg_get (C := "SmokeZonesModel") (T := T_Mo) (N := 47) hx hb hG in_Mo hown hK hP hM.1.1 hM.1.2 rfl 23 (by decide) (hG _ k644) (fun _ h9 => h9) rfl d_Mo_burn_11 ?_
        refine lv_iload_n hx hb d_Mo_burn_14 rfl (lv_at hl 0 rfl) ?_
        refine mw_iald hx hb hK hP hM (j := 23) rfl (vp_in_nI (show i < 5 by omega) (by decide)) d_Mo_burn_15 ?_
        refine lv_topi (fun y_5 ey_5 => ?_)
        obtain rfl : y_5 = X 23 i := ey_5.trans (by simp [up2, hcl_i, h2, h10, h21, h27, h31, h35])
        refine lv_aload_n hx hb d_Mo_burn_16 rfl (lv_at hl 1 rfl) ?_
        refine pg_get (C := "SmokeZonesModel") (T := T_Mo) (N := 47) hx hb hG in_Mo hown hK hP hM.1.1 hM.1.2 rfl 1 (by decide) (hG _ k622) (fun _ h9 => h9) rfl d_Mo_burn_17 ?_
        refine lv_icmp_gt (tgt := 142) hx hb d_Mo_burn_20 (by decide) (fun c_6 => ?_) (fun c_6 => ?_)
        · refine lv_iinc (v := nI (i + 1)) (lv' := [(1, .int (nI (i + 1))), (0, .ref (AM 100))]) hx hb d_Mo_burn_142 hl (k := 0) rfl (nI_1 i) (by decide) rfl (fun ls hl => ?_)
          refine lv_goto (tgt := 2) hx hb d_Mo_burn_145 (by decide) ?_
          have hN : MW ct AM L (sxBurn (fun _ => 0) i X Y1) (syBurn (fun _ => 0) i X Y1) f := by
            (try simp only [sxBurn, syBurn, if_pos c_6])
            exact hM
          exact ih0 (i + 1) _ _ _ _ _ (by omega) hN  hP hD hS (lv_sub hl [0, 1] rfl) hfin0
        · refine lv_aload_n hx hb d_Mo_burn_23 rfl (lv_at hl 1 rfl) ?_
          refine pg_get (C := "SmokeZonesModel") (T := T_Mo) (N := 47) hx hb hG in_Mo hown hK hP hM.1.1 hM.1.2 rfl 1 (by decide) (hG _ k622) (fun _ h9 => h9) rfl d_Mo_burn_24 ?_
          refine lv_aload_n hx hb d_Mo_burn_27 rfl (lv_at hl 1 rfl) ?_
          refine pg_get (C := "SmokeZonesModel") (T := T_Mo) (N := 47) hx hb hG in_Mo hown hK hP hM.1.1 hM.1.2 rfl 23 (by decide) (hG _ k644) (fun _ h9 => h9) rfl d_Mo_burn_28 ?_
          refine lv_iload_n hx hb d_Mo_burn_31 rfl (lv_at hl 0 rfl) ?_
          refine mw_iald hx hb hK hP hM (j := 23) rfl (vp_in_nI (show i < 5 by omega) (by decide)) d_Mo_burn_32 ?_
          refine lv_topi (fun y_7 ey_7 => ?_)
          obtain rfl : y_7 = X 23 i := ey_7.trans (by simp [up2, hcl_i, h2, h10, h21, h27, h31, h35])
          refine lv_isub hx hb d_Mo_burn_33 ?_
          refine lv_i2l hx hb d_Mo_burn_34 rfl ?_
          refine lv_lconst (v := 1) hx hb d_Mo_burn_35 (by decide) ?_
          refine lv_ladd hx hb d_Mo_burn_36 ?_
          refine lv_aload_n hx hb d_Mo_burn_37 rfl (lv_at hl 1 rfl) ?_
          refine pg_get (C := "SmokeZonesModel") (T := T_Mo) (N := 47) hx hb hG in_Mo hown hK hP hM.1.1 hM.1.2 rfl 24 (by decide) (hG _ k645) (fun _ h9 => h9) rfl d_Mo_burn_38 ?_
          refine lv_iload_n hx hb d_Mo_burn_41 rfl (lv_at hl 0 rfl) ?_
          refine mw_iald hx hb hK hP hM (j := 24) rfl (vp_in_nI (show i < 5 by omega) (by decide)) d_Mo_burn_42 ?_
          refine lv_topi (fun y_8 ey_8 => ?_)
          obtain rfl : y_8 = X 24 i := ey_8.trans (by simp [up2, hcl_i, h2, h10, h21, h27, h31, h35])
          refine lv_i2l hx hb d_Mo_burn_43 rfl ?_
          refine lv_lmul hx hb d_Mo_burn_44 ?_
          refine lv_lstore_n (lv' := [(2, .long (((Int32.toInt64 ((X 1 0) - (X 23 i))) + 1) * (Int32.toInt64 (X 24 i)))), (1, .int (nI i)), (0, .ref (AM 100))]) hx hb d_Mo_burn_45 rfl hl (by decide) rfl (fun ls hl => ?_)
          refine lv_lload_n hx hb d_Mo_burn_46 rfl (lv_at hl 0 rfl) ?_
          refine lv_aload_n hx hb d_Mo_burn_47 rfl (lv_at hl 2 rfl) ?_
          refine pg_get (C := "SmokeZonesModel") (T := T_Mo) (N := 47) hx hb hG in_Mo hown hK hP hM.1.1 hM.1.2 rfl 25 (by decide) (hG _ k646) (fun _ h9 => h9) rfl d_Mo_burn_48 ?_
          refine lv_iload_n hx hb d_Mo_burn_51 rfl (lv_at hl 1 rfl) ?_
          refine mw_iald hx hb hK hP hM (j := 25) rfl (vp_in_nI (show i < 5 by omega) (by decide)) d_Mo_burn_52 ?_
          refine lv_topi (fun y_9 ey_9 => ?_)
          obtain rfl : y_9 = X 25 i := ey_9.trans (by simp [up2, hcl_i, h2, h10, h21, h27, h31, h35])
          refine lv_i2l hx hb d_Mo_burn_53 rfl ?_
          refine lc_le (tgt := 68) hx hb d_Mo_burn_54 d_Mo_burn_55 (by decide) (fun c_10 => ?_) (fun c_10 => ?_)
          · refine lv_lload_n hx hb d_Mo_burn_68 rfl (lv_at hl 0 rfl) ?_
            refine lv_lstore_n (lv' := [(2, .long (((Int32.toInt64 ((X 1 0) - (X 23 i))) + 1) * (Int32.toInt64 (X 24 i)))), (1, .int (nI i)), (0, .ref (AM 100))]) hx hb d_Mo_burn_69 rfl hl (by decide) rfl (fun ls hl => ?_)
            refine lv_aload_n hx hb d_Mo_burn_70 rfl (lv_at hl 2 rfl) ?_
            refine pg_get (C := "SmokeZonesModel") (T := T_Mo) (N := 47) hx hb hG in_Mo hown hK hP hM.1.1 hM.1.2 rfl 8 (by decide) (hG _ k629) (fun _ h9 => h9) rfl d_Mo_burn_71 ?_
            refine lv_aload_n hx hb d_Mo_burn_74 rfl (lv_at hl 2 rfl) ?_
            refine pg_get (C := "SmokeZonesModel") (T := T_Mo) (N := 47) hx hb hG in_Mo hown hK hP hM.1.1 hM.1.2 rfl 22 (by decide) (hG _ k643) (fun _ h9 => h9) rfl d_Mo_burn_75 ?_
            refine lv_iload_n hx hb d_Mo_burn_78 rfl (lv_at hl 1 rfl) ?_
            refine mw_iald hx hb hK hP hM (j := 22) rfl (vp_in_nI (show i < 5 by omega) (by decide)) d_Mo_burn_79 ?_
            refine lv_topi (fun y_11 ey_11 => ?_)
            obtain rfl : y_11 = X 22 i := ey_11.trans (by simp [up2, hcl_i, h2, h10, h21, h27, h31, h35])
            refine mw_zald hx hb hK hP hM (j := 8) rfl (by rw [er]; exact vp_in_nI (show r < 10 by omega) (by decide)) d_Mo_burn_80 ?_
            refine lv_if_eq (tgt := 92) hx hb d_Mo_burn_81 (by decide) (fun c_12 => ?_) (fun c_12 => ?_)
            · refine lv_lload_n hx hb d_Mo_burn_92 rfl (lv_at hl 0 rfl) ?_
              refine lv_lstore_n (lv' := [(2, .long (((Int32.toInt64 ((X 1 0) - (X 23 i))) + 1) * (Int32.toInt64 (X 24 i)))), (1, .int (nI i)), (0, .ref (AM 100))]) hx hb d_Mo_burn_93 rfl hl (by decide) rfl (fun ls hl => ?_)
              refine lv_aload_n hx hb d_Mo_burn_94 rfl (lv_at hl 2 rfl) ?_
              refine pg_get (C := "SmokeZonesModel") (T := T_Mo) (N := 47) hx hb hG in_Mo hown hK hP hM.1.1 hM.1.2 rfl 5 (by decide) (hG _ k626) (fun _ h9 => h9) rfl d_Mo_burn_95 ?_
              refine lv_aload_n hx hb d_Mo_burn_98 rfl (lv_at hl 2 rfl) ?_
              refine pg_get (C := "SmokeZonesModel") (T := T_Mo) (N := 47) hx hb hG in_Mo hown hK hP hM.1.1 hM.1.2 rfl 22 (by decide) (hG _ k643) (fun _ h9 => h9) rfl d_Mo_burn_99 ?_
              refine lv_iload_n hx hb d_Mo_burn_102 rfl (lv_at hl 1 rfl) ?_
              refine mw_iald hx hb hK hP hM (j := 22) rfl (vp_in_nI (show i < 5 by omega) (by decide)) d_Mo_burn_103 ?_
              refine lv_topi (fun y_13 ey_13 => ?_)
              obtain rfl : y_13 = X 22 i := ey_13.trans (by simp [up2, hcl_i, h2, h10, h21, h27, h31, h35])
              refine lv_dup2_11 hx hb d_Mo_burn_104 rfl rfl ?_
              refine mw_lald hx hb hK hP hM (j := 5) rfl (by rw [er]; exact vp_in_nI (show r < 10 by omega) (by decide)) d_Mo_burn_105 ?_
              refine lv_lload_n hx hb d_Mo_burn_106 rfl (lv_at hl 0 rfl) ?_
              refine lv_ladd hx hb d_Mo_burn_107 ?_
              refine mw_last hx hb hK hP hD hS hM (j := 5) rfl (by rw [er]; exact vp_in_nI (show r < 10 by omega) (by decide)) d_Mo_burn_108 (fun f H locs hM hP hD hS => ?_)
              refine lv_aload_n hx hb d_Mo_burn_109 rfl (lv_at hl 2 rfl) ?_
              refine pg_get (C := "SmokeZonesModel") (T := T_Mo) (N := 47) hx hb hG in_Mo hown hK hP hM.1.1 hM.1.2 rfl 6 (by decide) (hG _ k627) (fun _ h9 => h9) rfl d_Mo_burn_110 ?_
              refine lv_aload_n hx hb d_Mo_burn_113 rfl (lv_at hl 2 rfl) ?_
              refine pg_get (C := "SmokeZonesModel") (T := T_Mo) (N := 47) hx hb hG in_Mo hown hK hP hM.1.1 hM.1.2 rfl 22 (by decide) (hG _ k643) (fun _ h9 => h9) rfl d_Mo_burn_114 ?_
              refine lv_iload_n hx hb d_Mo_burn_117 rfl (lv_at hl 1 rfl) ?_
              refine mw_iald hx hb hK hP hM (j := 22) rfl (vp_in_nI (show i < 5 by omega) (by decide)) d_Mo_burn_118 ?_
              refine lv_topi (fun y_14 ey_14 => ?_)
              obtain rfl : y_14 = X 22 i := ey_14.trans (by simp [up2, hcl_i, h2, h10, h21, h27, h31, h35])
              refine lv_dup2_11 hx hb d_Mo_burn_119 rfl rfl ?_
              refine mw_lald hx hb hK hP hM (j := 6) rfl (by rw [er]; exact vp_in_nI (show r < 10 by omega) (by decide)) d_Mo_burn_120 ?_
              refine lv_topl (fun y_15 ey_15 => ?_)
              obtain rfl : y_15 = Y1 6 (Int32.toNatClampNeg (X 22 i)) := ey_15.trans (by simp [up2, hcl_i, h2, h10, h21, h27, h31, h35])
              refine lv_lload_n hx hb d_Mo_burn_121 rfl (lv_at hl 0 rfl) ?_
              refine lv_aload_n hx hb d_Mo_burn_122 rfl (lv_at hl 2 rfl) ?_
              refine pg_get (C := "SmokeZonesModel") (T := T_Mo) (N := 47) hx hb hG in_Mo hown hK hP hM.1.1 hM.1.2 rfl 26 (by decide) (hG _ k647) (fun _ h9 => h9) rfl d_Mo_burn_123 ?_
              refine lv_iload_n hx hb d_Mo_burn_126 rfl (lv_at hl 1 rfl) ?_
              refine mw_iald hx hb hK hP hM (j := 26) rfl (vp_in_nI (show i < 5 by omega) (by decide)) d_Mo_burn_127 ?_
              refine lv_topi (fun y_16 ey_16 => ?_)
              obtain rfl : y_16 = X 26 i := ey_16.trans (by simp [up2, hcl_i, h2, h10, h21, h27, h31, h35])
              refine lv_i2l hx hb d_Mo_burn_128 rfl ?_
              refine lv_lmul hx hb d_Mo_burn_129 ?_
              refine lv_ladd hx hb d_Mo_burn_130 ?_
              refine mw_last hx hb hK hP hD hS hM (j := 6) rfl (by rw [er]; exact vp_in_nI (show r < 10 by omega) (by decide)) d_Mo_burn_131 (fun f H locs hM hP hD hS => ?_)
              refine lv_aload_n hx hb d_Mo_burn_132 rfl (lv_at hl 2 rfl) ?_
              refine lv_dup hx hb d_Mo_burn_133 rfl ?_
              refine pg_get (C := "SmokeZonesModel") (T := T_Mo) (N := 47) hx hb hG in_Mo hown hK hP hM.1.1 hM.1.2 rfl 43 (by decide) (hG _ k664) (fun _ h9 => h9) rfl d_Mo_burn_134 ?_
              refine lv_topl (fun y_17 ey_17 => ?_)
              obtain rfl : y_17 = Y1 43 0 := ey_17.trans (by simp [up2, hcl_i, h2, h10, h21, h27, h31, h35])
              refine lv_lload_n hx hb d_Mo_burn_137 rfl (lv_at hl 0 rfl) ?_
              refine lv_ladd hx hb d_Mo_burn_138 ?_
              refine pg_put (C := "SmokeZonesModel") (T := T_Mo) (N := 47) (ty := .long) hx hb hG in_Mo ty_Mo ok_Mo nm_Mo hown hK hP hD hS hM.1.1 hM.1.2 rfl 43 (by decide) (hG _ k664) (fun _ h9 => h9) rfl (by decide +kernel) rfl rfl (Nat.le_of_ble_eq_true rfl) d_Mo_burn_139 (fun H locs hP hD hS => ?_)
              have hM := hM.putY (j := 43) (v := (Y1 43 0) + (((Int32.toInt64 ((X 1 0) - (X 23 i))) + 1) * (Int32.toInt64 (X 24 i)))) rfl moF_43
              generalize va_up _ (AM 100) _ = f at hM hP hD
              refine lv_iinc (v := nI (i + 1)) (lv' := [(1, .int (nI (i + 1))), (2, .long (((Int32.toInt64 ((X 1 0) - (X 23 i))) + 1) * (Int32.toInt64 (X 24 i)))), (0, .ref (AM 100))]) hx hb d_Mo_burn_142 hl (k := 1) rfl (nI_1 i) (by decide) rfl (fun ls hl => ?_)
              refine lv_goto (tgt := 2) hx hb d_Mo_burn_145 (by decide) ?_
              have hN : MW ct AM L (sxBurn (fun _ => 0) i X Y1) (syBurn (fun _ => 0) i X Y1) f := by
                (try simp only [sxBurn, syBurn, if_neg c_6, if_pos c_10, if_pos c_12])
                exact hM
              exact ih0 (i + 1) _ _ _ _ _ (by omega) hN  hP hD hS (lv_sub hl [0, 2] rfl) hfin0
            · refine lv_lload_n hx hb d_Mo_burn_84 rfl (lv_at hl 0 rfl) ?_
              refine lv_ldc2 hx hb hown (hG _ k825) d_Mo_burn_85 ?_
              refine lv_ldiv hx hb d_Mo_burn_88 (by decide) ?_
              refine lv_goto (tgt := 93) hx hb d_Mo_burn_89 (by decide) ?_
              refine lv_lstore_n (lv' := [(2, .long ((((Int32.toInt64 ((X 1 0) - (X 23 i))) + 1) * (Int32.toInt64 (X 24 i))) / 2)), (1, .int (nI i)), (0, .ref (AM 100))]) hx hb d_Mo_burn_93 rfl hl (by decide) rfl (fun ls hl => ?_)
              refine lv_aload_n hx hb d_Mo_burn_94 rfl (lv_at hl 2 rfl) ?_
              refine pg_get (C := "SmokeZonesModel") (T := T_Mo) (N := 47) hx hb hG in_Mo hown hK hP hM.1.1 hM.1.2 rfl 5 (by decide) (hG _ k626) (fun _ h9 => h9) rfl d_Mo_burn_95 ?_
              refine lv_aload_n hx hb d_Mo_burn_98 rfl (lv_at hl 2 rfl) ?_
              refine pg_get (C := "SmokeZonesModel") (T := T_Mo) (N := 47) hx hb hG in_Mo hown hK hP hM.1.1 hM.1.2 rfl 22 (by decide) (hG _ k643) (fun _ h9 => h9) rfl d_Mo_burn_99 ?_
              refine lv_iload_n hx hb d_Mo_burn_102 rfl (lv_at hl 1 rfl) ?_
              refine mw_iald hx hb hK hP hM (j := 22) rfl (vp_in_nI (show i < 5 by omega) (by decide)) d_Mo_burn_103 ?_
              refine lv_topi (fun y_18 ey_18 => ?_)
              obtain rfl : y_18 = X 22 i := ey_18.trans (by simp [up2, hcl_i, h2, h10, h21, h27, h31, h35])
              refine lv_dup2_11 hx hb d_Mo_burn_104 rfl rfl ?_
              refine mw_lald hx hb hK hP hM (j := 5) rfl (by rw [er]; exact vp_in_nI (show r < 10 by omega) (by decide)) d_Mo_burn_105 ?_
              refine lv_lload_n hx hb d_Mo_burn_106 rfl (lv_at hl 0 rfl) ?_
              refine lv_ladd hx hb d_Mo_burn_107 ?_
              refine mw_last hx hb hK hP hD hS hM (j := 5) rfl (by rw [er]; exact vp_in_nI (show r < 10 by omega) (by decide)) d_Mo_burn_108 (fun f H locs hM hP hD hS => ?_)
              refine lv_aload_n hx hb d_Mo_burn_109 rfl (lv_at hl 2 rfl) ?_
              refine pg_get (C := "SmokeZonesModel") (T := T_Mo) (N := 47) hx hb hG in_Mo hown hK hP hM.1.1 hM.1.2 rfl 6 (by decide) (hG _ k627) (fun _ h9 => h9) rfl d_Mo_burn_110 ?_
              refine lv_aload_n hx hb d_Mo_burn_113 rfl (lv_at hl 2 rfl) ?_
              refine pg_get (C := "SmokeZonesModel") (T := T_Mo) (N := 47) hx hb hG in_Mo hown hK hP hM.1.1 hM.1.2 rfl 22 (by decide) (hG _ k643) (fun _ h9 => h9) rfl d_Mo_burn_114 ?_
              refine lv_iload_n hx hb d_Mo_burn_117 rfl (lv_at hl 1 rfl) ?_
              refine mw_iald hx hb hK hP hM (j := 22) rfl (vp_in_nI (show i < 5 by omega) (by decide)) d_Mo_burn_118 ?_
              refine lv_topi (fun y_19 ey_19 => ?_)
              obtain rfl : y_19 = X 22 i := ey_19.trans (by simp [up2, hcl_i, h2, h10, h21, h27, h31, h35])
              refine lv_dup2_11 hx hb d_Mo_burn_119 rfl rfl ?_
              refine mw_lald hx hb hK hP hM (j := 6) rfl (by rw [er]; exact vp_in_nI (show r < 10 by omega) (by decide)) d_Mo_burn_120 ?_
              refine lv_topl (fun y_20 ey_20 => ?_)
              obtain rfl : y_20 = Y1 6 (Int32.toNatClampNeg (X 22 i)) := ey_20.trans (by simp [up2, hcl_i, h2, h10, h21, h27, h31, h35])
              refine lv_lload_n hx hb d_Mo_burn_121 rfl (lv_at hl 0 rfl) ?_
              refine lv_aload_n hx hb d_Mo_burn_122 rfl (lv_at hl 2 rfl) ?_
              refine pg_get (C := "SmokeZonesModel") (T := T_Mo) (N := 47) hx hb hG in_Mo hown hK hP hM.1.1 hM.1.2 rfl 26 (by decide) (hG _ k647) (fun _ h9 => h9) rfl d_Mo_burn_123 ?_
              refine lv_iload_n hx hb d_Mo_burn_126 rfl (lv_at hl 1 rfl) ?_
              refine mw_iald hx hb hK hP hM (j := 26) rfl (vp_in_nI (show i < 5 by omega) (by decide)) d_Mo_burn_127 ?_
              refine lv_topi (fun y_21 ey_21 => ?_)
              obtain rfl : y_21 = X 26 i := ey_21.trans (by simp [up2, hcl_i, h2, h10, h21, h27, h31, h35])
              refine lv_i2l hx hb d_Mo_burn_128 rfl ?_
              refine lv_lmul hx hb d_Mo_burn_129 ?_
              refine lv_ladd hx hb d_Mo_burn_130 ?_
              refine mw_last hx hb hK hP hD hS hM (j := 6) rfl (by rw [er]; exact vp_in_nI (show r < 10 by omega) (by decide)) d_Mo_burn_131 (fun f H locs hM hP hD hS => ?_)
              refine lv_aload_n hx hb d_Mo_burn_132 rfl (lv_at hl 2 rfl) ?_
              refine lv_dup hx hb d_Mo_burn_133 rfl ?_
              refine pg_get (C := "SmokeZonesModel") (T := T_Mo) (N := 47) hx hb hG in_Mo hown hK hP hM.1.1 hM.1.2 rfl 43 (by decide) (hG _ k664) (fun _ h9 => h9) rfl d_Mo_burn_134 ?_
              refine lv_topl (fun y_22 ey_22 => ?_)
              obtain rfl : y_22 = Y1 43 0 := ey_22.trans (by simp [up2, hcl_i, h2, h10, h21, h27, h31, h35])
              refine lv_lload_n hx hb d_Mo_burn_137 rfl (lv_at hl 0 rfl) ?_
              refine lv_ladd hx hb d_Mo_burn_138 ?_
              refine pg_put (C := "SmokeZonesModel") (T := T_Mo) (N := 47) (ty := .long) hx hb hG in_Mo ty_Mo ok_Mo nm_Mo hown hK hP hD hS hM.1.1 hM.1.2 rfl 43 (by decide) (hG _ k664) (fun _ h9 => h9) rfl (by decide +kernel) rfl rfl (Nat.le_of_ble_eq_true rfl) d_Mo_burn_139 (fun H locs hP hD hS => ?_)
              have hM := hM.putY (j := 43) (v := (Y1 43 0) + ((((Int32.toInt64 ((X 1 0) - (X 23 i))) + 1) * (Int32.toInt64 (X 24 i))) / 2)) rfl moF_43
              generalize va_up _ (AM 100) _ = f at hM hP hD
              refine lv_iinc (v := nI (i + 1)) (lv' := [(1, .int (nI (i + 1))), (2, .long ((((Int32.toInt64 ((X 1 0) - (X 23 i))) + 1) * (Int32.toInt64 (X 24 i))) / 2)), (0, .ref (AM 100))]) hx hb d_Mo_burn_142 hl (k := 1) rfl (nI_1 i) (by decide) rfl (fun ls hl => ?_)
              refine lv_goto (tgt := 2) hx hb d_Mo_burn_145 (by decide) ?_
              have hN : MW ct AM L (sxBurn (fun _ => 0) i X Y1) (syBurn (fun _ => 0) i X Y1) f := by
                (try simp only [sxBurn, syBurn, if_neg c_6, if_pos c_10, if_neg c_12])
                exact hM
              exact ih0 (i + 1) _ _ _ _ _ (by omega) hN  hP hD hS (lv_sub hl [0, 2] rfl) hfin0
          · refine lv_aload_n hx hb d_Mo_burn_58 rfl (lv_at hl 2 rfl) ?_
            refine pg_get (C := "SmokeZonesModel") (T := T_Mo) (N := 47) hx hb hG in_Mo hown hK hP hM.1.1 hM.1.2 rfl 25 (by decide) (hG _ k646) (fun _ h9 => h9) rfl d_Mo_burn_59 ?_
            refine lv_iload_n hx hb d_Mo_burn_62 rfl (lv_at hl 1 rfl) ?_
            refine mw_iald hx hb hK hP hM (j := 25) rfl (vp_in_nI (show i < 5 by omega) (by decide)) d_Mo_burn_63 ?_
            refine lv_topi (fun y_23 ey_23 => ?_)
            obtain rfl : y_23 = X 25 i := ey_23.trans (by simp [up2, hcl_i, h2, h10, h21, h27, h31, h35])
            refine lv_i2l hx hb d_Mo_burn_64 rfl ?_
            refine lv_goto (tgt := 69) hx hb d_Mo_burn_65 (by decide) ?_
            refine lv_lstore_n (lv' := [(2, .long (Int32.toInt64 (X 25 i))), (1, .int (nI i)), (0, .ref (AM 100))]) hx hb d_Mo_burn_69 rfl hl (by decide) rfl (fun ls hl => ?_)
            refine lv_aload_n hx hb d_Mo_burn_70 rfl (lv_at hl 2 rfl) ?_
            refine pg_get (C := "SmokeZonesModel") (T := T_Mo) (N := 47) hx hb hG in_Mo hown hK hP hM.1.1 hM.1.2 rfl 8 (by decide) (hG _ k629) (fun _ h9 => h9) rfl d_Mo_burn_71 ?_
            refine lv_aload_n hx hb d_Mo_burn_74 rfl (lv_at hl 2 rfl) ?_
            refine pg_get (C := "SmokeZonesModel") (T := T_Mo) (N := 47) hx hb hG in_Mo hown hK hP hM.1.1 hM.1.2 rfl 22 (by decide) (hG _ k643) (fun _ h9 => h9) rfl d_Mo_burn_75 ?_
            refine lv_iload_n hx hb d_Mo_burn_78 rfl (lv_at hl 1 rfl) ?_
            refine mw_iald hx hb hK hP hM (j := 22) rfl (vp_in_nI (show i < 5 by omega) (by decide)) d_Mo_burn_79 ?_
            refine lv_topi (fun y_24 ey_24 => ?_)
            obtain rfl : y_24 = X 22 i := ey_24.trans (by simp [up2, hcl_i, h2, h10, h21, h27, h31, h35])
            refine mw_zald hx hb hK hP hM (j := 8) rfl (by rw [er]; exact vp_in_nI (show r < 10 by omega) (by decide)) d_Mo_burn_80 ?_
            refine lv_if_eq (tgt := 92) hx hb d_Mo_burn_81 (by decide) (fun c_25 => ?_) (fun c_25 => ?_)
            · refine lv_lload_n hx hb d_Mo_burn_92 rfl (lv_at hl 0 rfl) ?_
              refine lv_lstore_n (lv' := [(2, .long (Int32.toInt64 (X 25 i))), (1, .int (nI i)), (0, .ref (AM 100))]) hx hb d_Mo_burn_93 rfl hl (by decide) rfl (fun ls hl => ?_)
              refine lv_aload_n hx hb d_Mo_burn_94 rfl (lv_at hl 2 rfl) ?_
              refine pg_get (C := "SmokeZonesModel") (T := T_Mo) (N := 47) hx hb hG in_Mo hown hK hP hM.1.1 hM.1.2 rfl 5 (by decide) (hG _ k626) (fun _ h9 => h9) rfl d_Mo_burn_95 ?_
              refine lv_aload_n hx hb d_Mo_burn_98 rfl (lv_at hl 2 rfl) ?_
              refine pg_get (C := "SmokeZonesModel") (T := T_Mo) (N := 47) hx hb hG in_Mo hown hK hP hM.1.1 hM.1.2 rfl 22 (by decide) (hG _ k643) (fun _ h9 => h9) rfl d_Mo_burn_99 ?_
              refine lv_iload_n hx hb d_Mo_burn_102 rfl (lv_at hl 1 rfl) ?_
              refine mw_iald hx hb hK hP hM (j := 22) rfl (vp_in_nI (show i < 5 by omega) (by decide)) d_Mo_burn_103 ?_
              refine lv_topi (fun y_26 ey_26 => ?_)
              obtain rfl : y_26 = X 22 i := ey_26.trans (by simp [up2, hcl_i, h2, h10, h21, h27, h31, h35])
              refine lv_dup2_11 hx hb d_Mo_burn_104 rfl rfl ?_
              refine mw_lald hx hb hK hP hM (j := 5) rfl (by rw [er]; exact vp_in_nI (show r < 10 by omega) (by decide)) d_Mo_burn_105 ?_
              refine lv_lload_n hx hb d_Mo_burn_106 rfl (lv_at hl 0 rfl) ?_
              refine lv_ladd hx hb d_Mo_burn_107 ?_
              refine mw_last hx hb hK hP hD hS hM (j := 5) rfl (by rw [er]; exact vp_in_nI (show r < 10 by omega) (by decide)) d_Mo_burn_108 (fun f H locs hM hP hD hS => ?_)
              refine lv_aload_n hx hb d_Mo_burn_109 rfl (lv_at hl 2 rfl) ?_
              refine pg_get (C := "SmokeZonesModel") (T := T_Mo) (N := 47) hx hb hG in_Mo hown hK hP hM.1.1 hM.1.2 rfl 6 (by decide) (hG _ k627) (fun _ h9 => h9) rfl d_Mo_burn_110 ?_
              refine lv_aload_n hx hb d_Mo_burn_113 rfl (lv_at hl 2 rfl) ?_
              refine pg_get (C := "SmokeZonesModel") (T := T_Mo) (N := 47) hx hb hG in_Mo hown hK hP hM.1.1 hM.1.2 rfl 22 (by decide) (hG _ k643) (fun _ h9 => h9) rfl d_Mo_burn_114 ?_
              refine lv_iload_n hx hb d_Mo_burn_117 rfl (lv_at hl 1 rfl) ?_
              refine mw_iald hx hb hK hP hM (j := 22) rfl (vp_in_nI (show i < 5 by omega) (by decide)) d_Mo_burn_118 ?_
              refine lv_topi (fun y_27 ey_27 => ?_)
              obtain rfl : y_27 = X 22 i := ey_27.trans (by simp [up2, hcl_i, h2, h10, h21, h27, h31, h35])
              refine lv_dup2_11 hx hb d_Mo_burn_119 rfl rfl ?_
              refine mw_lald hx hb hK hP hM (j := 6) rfl (by rw [er]; exact vp_in_nI (show r < 10 by omega) (by decide)) d_Mo_burn_120 ?_
              refine lv_topl (fun y_28 ey_28 => ?_)
              obtain rfl : y_28 = Y1 6 (Int32.toNatClampNeg (X 22 i)) := ey_28.trans (by simp [up2, hcl_i, h2, h10, h21, h27, h31, h35])
              refine lv_lload_n hx hb d_Mo_burn_121 rfl (lv_at hl 0 rfl) ?_
              refine lv_aload_n hx hb d_Mo_burn_122 rfl (lv_at hl 2 rfl) ?_
              refine pg_get (C := "SmokeZonesModel") (T := T_Mo) (N := 47) hx hb hG in_Mo hown hK hP hM.1.1 hM.1.2 rfl 26 (by decide) (hG _ k647) (fun _ h9 => h9) rfl d_Mo_burn_123 ?_
              refine lv_iload_n hx hb d_Mo_burn_126 rfl (lv_at hl 1 rfl) ?_
              refine mw_iald hx hb hK hP hM (j := 26) rfl (vp_in_nI (show i < 5 by omega) (by decide)) d_Mo_burn_127 ?_
              refine lv_topi (fun y_29 ey_29 => ?_)
              obtain rfl : y_29 = X 26 i := ey_29.trans (by simp [up2, hcl_i, h2, h10, h21, h27, h31, h35])
              refine lv_i2l hx hb d_Mo_burn_128 rfl ?_
              refine lv_lmul hx hb d_Mo_burn_129 ?_
              refine lv_ladd hx hb d_Mo_burn_130 ?_
              refine mw_last hx hb hK hP hD hS hM (j := 6) rfl (by rw [er]; exact vp_in_nI (show r < 10 by omega) (by decide)) d_Mo_burn_131 (fun f H locs hM hP hD hS => ?_)
              refine lv_aload_n hx hb d_Mo_burn_132 rfl (lv_at hl 2 rfl) ?_
              refine lv_dup hx hb d_Mo_burn_133 rfl ?_
              refine pg_get (C := "SmokeZonesModel") (T := T_Mo) (N := 47) hx hb hG in_Mo hown hK hP hM.1.1 hM.1.2 rfl 43 (by decide) (hG _ k664) (fun _ h9 => h9) rfl d_Mo_burn_134 ?_
              refine lv_topl (fun y_30 ey_30 => ?_)
              obtain rfl : y_30 = Y1 43 0 := ey_30.trans (by simp [up2, hcl_i, h2, h10, h21, h27, h31, h35])
              refine lv_lload_n hx hb d_Mo_burn_137 rfl (lv_at hl 0 rfl) ?_
              refine lv_ladd hx hb d_Mo_burn_138 ?_
              refine pg_put (C := "SmokeZonesModel") (T := T_Mo) (N := 47) (ty := .long) hx hb hG in_Mo ty_Mo ok_Mo nm_Mo hown hK hP hD hS hM.1.1 hM.1.2 rfl 43 (by decide) (hG _ k664) (fun _ h9 => h9) rfl (by decide +kernel) rfl rfl (Nat.le_of_ble_eq_true rfl) d_Mo_burn_139 (fun H locs hP hD hS => ?_)
              have hM := hM.putY (j := 43) (v := (Y1 43 0) + (Int32.toInt64 (X 25 i))) rfl moF_43
              generalize va_up _ (AM 100) _ = f at hM hP hD
              refine lv_iinc (v := nI (i + 1)) (lv' := [(1, .int (nI (i + 1))), (2, .long (Int32.toInt64 (X 25 i))), (0, .ref (AM 100))]) hx hb d_Mo_burn_142 hl (k := 1) rfl (nI_1 i) (by decide) rfl (fun ls hl => ?_)
              refine lv_goto (tgt := 2) hx hb d_Mo_burn_145 (by decide) ?_
              have hN : MW ct AM L (sxBurn (fun _ => 0) i X Y1) (syBurn (fun _ => 0) i X Y1) f := by
                (try simp only [sxBurn, syBurn, if_neg c_6, if_neg c_10, if_pos c_25])
                exact hM
              exact ih0 (i + 1) _ _ _ _ _ (by omega) hN  hP hD hS (lv_sub hl [0, 2] rfl) hfin0
            · refine lv_lload_n hx hb d_Mo_burn_84 rfl (lv_at hl 0 rfl) ?_
              refine lv_ldc2 hx hb hown (hG _ k825) d_Mo_burn_85 ?_
              refine lv_ldiv hx hb d_Mo_burn_88 (by decide) ?_
              refine lv_goto (tgt := 93) hx hb d_Mo_burn_89 (by decide) ?_
              refine lv_lstore_n (lv' := [(2, .long ((Int32.toInt64 (X 25 i)) / 2)), (1, .int (nI i)), (0, .ref (AM 100))]) hx hb d_Mo_burn_93 rfl hl (by decide) rfl (fun ls hl => ?_)
              refine lv_aload_n hx hb d_Mo_burn_94 rfl (lv_at hl 2 rfl) ?_
              refine pg_get (C := "SmokeZonesModel") (T := T_Mo) (N := 47) hx hb hG in_Mo hown hK hP hM.1.1 hM.1.2 rfl 5 (by decide) (hG _ k626) (fun _ h9 => h9) rfl d_Mo_burn_95 ?_
              refine lv_aload_n hx hb d_Mo_burn_98 rfl (lv_at hl 2 rfl) ?_
              refine pg_get (C := "SmokeZonesModel") (T := T_Mo) (N := 47) hx hb hG in_Mo hown hK hP hM.1.1 hM.1.2 rfl 22 (by decide) (hG _ k643) (fun _ h9 => h9) rfl d_Mo_burn_99 ?_
              refine lv_iload_n hx hb d_Mo_burn_102 rfl (lv_at hl 1 rfl) ?_
              refine mw_iald hx hb hK hP hM (j := 22) rfl (vp_in_nI (show i < 5 by omega) (by decide)) d_Mo_burn_103 ?_
              refine lv_topi (fun y_31 ey_31 => ?_)
              obtain rfl : y_31 = X 22 i := ey_31.trans (by simp [up2, hcl_i, h2, h10, h21, h27, h31, h35])
              refine lv_dup2_11 hx hb d_Mo_burn_104 rfl rfl ?_
              refine mw_lald hx hb hK hP hM (j := 5) rfl (by rw [er]; exact vp_in_nI (show r < 10 by omega) (by decide)) d_Mo_burn_105 ?_
              refine lv_lload_n hx hb d_Mo_burn_106 rfl (lv_at hl 0 rfl) ?_
              refine lv_ladd hx hb d_Mo_burn_107 ?_
              refine mw_last hx hb hK hP hD hS hM (j := 5) rfl (by rw [er]; exact vp_in_nI (show r < 10 by omega) (by decide)) d_Mo_burn_108 (fun f H locs hM hP hD hS => ?_)
              refine lv_aload_n hx hb d_Mo_burn_109 rfl (lv_at hl 2 rfl) ?_
              refine pg_get (C := "SmokeZonesModel") (T := T_Mo) (N := 47) hx hb hG in_Mo hown hK hP hM.1.1 hM.1.2 rfl 6 (by decide) (hG _ k627) (fun _ h9 => h9) rfl d_Mo_burn_110 ?_
              refine lv_aload_n hx hb d_Mo_burn_113 rfl (lv_at hl 2 rfl) ?_
              refine pg_get (C := "SmokeZonesModel") (T := T_Mo) (N := 47) hx hb hG in_Mo hown hK hP hM.1.1 hM.1.2 rfl 22 (by decide) (hG _ k643) (fun _ h9 => h9) rfl d_Mo_burn_114 ?_
              refine lv_iload_n hx hb d_Mo_burn_117 rfl (lv_at hl 1 rfl) ?_
              refine mw_iald hx hb hK hP hM (j := 22) rfl (vp_in_nI (show i < 5 by omega) (by decide)) d_Mo_burn_118 ?_
              refine lv_topi (fun y_32 ey_32 => ?_)
              obtain rfl : y_32 = X 22 i := ey_32.trans (by simp [up2, hcl_i, h2, h10, h21, h27, h31, h35])
              refine lv_dup2_11 hx hb d_Mo_burn_119 rfl rfl ?_
              refine mw_lald hx hb hK hP hM (j := 6) rfl (by rw [er]; exact vp_in_nI (show r < 10 by omega) (by decide)) d_Mo_burn_120 ?_
              refine lv_topl (fun y_33 ey_33 => ?_)
              obtain rfl : y_33 = Y1 6 (Int32.toNatClampNeg (X 22 i)) := ey_33.trans (by simp [up2, hcl_i, h2, h10, h21, h27, h31, h35])
              refine lv_lload_n hx hb d_Mo_burn_121 rfl (lv_at hl 0 rfl) ?_
              refine lv_aload_n hx hb d_Mo_burn_122 rfl (lv_at hl 2 rfl) ?_
              refine pg_get (C := "SmokeZonesModel") (T := T_Mo) (N := 47) hx hb hG in_Mo hown hK hP hM.1.1 hM.1.2 rfl 26 (by decide) (hG _ k647) (fun _ h9 => h9) rfl d_Mo_burn_123 ?_
              refine lv_iload_n hx hb d_Mo_burn_126 rfl (lv_at hl 1 rfl) ?_
              refine mw_iald hx hb hK hP hM (j := 26) rfl (vp_in_nI (show i < 5 by omega) (by decide)) d_Mo_burn_127 ?_
              refine lv_topi (fun y_34 ey_34 => ?_)
              obtain rfl : y_34 = X 26 i := ey_34.trans (by simp [up2, hcl_i, h2, h10, h21, h27, h31, h35])
              refine lv_i2l hx hb d_Mo_burn_128 rfl ?_
              refine lv_lmul hx hb d_Mo_burn_129 ?_
              refine lv_ladd hx hb d_Mo_burn_130 ?_
              refine mw_last hx hb hK hP hD hS hM (j := 6) rfl (by rw [er]; exact vp_in_nI (show r < 10 by omega) (by decide)) d_Mo_burn_131 (fun f H locs hM hP hD hS => ?_)
              refine lv_aload_n hx hb d_Mo_burn_132 rfl (lv_at hl 2 rfl) ?_
              refine lv_dup hx hb d_Mo_burn_133 rfl ?_
              refine pg_get (C := "SmokeZonesModel") (T := T_Mo) (N := 47) hx hb hG in_Mo hown hK hP hM.1.1 hM.1.2 rfl 43 (by decide) (hG _ k664) (fun _ h9 => h9) rfl d_Mo_burn_134 ?_
              refine lv_topl (fun y_35 ey_35 => ?_)
              obtain rfl : y_35 = Y1 43 0 := ey_35.trans (by simp [up2, hcl_i, h2, h10, h21, h27, h31, h35])
              refine lv_lload_n hx hb d_Mo_burn_137 rfl (lv_at hl 0 rfl) ?_
              refine lv_ladd hx hb d_Mo_burn_138 ?_
              refine pg_put (C := "SmokeZonesModel") (T := T_Mo) (N := 47) (ty := .long) hx hb hG in_Mo ty_Mo ok_Mo nm_Mo hown hK hP hD hS hM.1.1 hM.1.2 rfl 43 (by decide) (hG _ k664) (fun _ h9 => h9) rfl (by decide +kernel) rfl rfl (Nat.le_of_ble_eq_true rfl) d_Mo_burn_139 (fun H locs hP hD hS => ?_)
              have hM := hM.putY (j := 43) (v := (Y1 43 0) + ((Int32.toInt64 (X 25 i)) / 2)) rfl moF_43
              generalize va_up _ (AM 100) _ = f at hM hP hD
              refine lv_iinc (v := nI (i + 1)) (lv' := [(1, .int (nI (i + 1))), (2, .long ((Int32.toInt64 (X 25 i)) / 2)), (0, .ref (AM 100))]) hx hb d_Mo_burn_142 hl (k := 1) rfl (nI_1 i) (by decide) rfl (fun ls hl => ?_)
              refine lv_goto (tgt := 2) hx hb d_Mo_burn_145 (by decide) ?_
              have hN : MW ct AM L (sxBurn (fun _ => 0) i X Y1) (syBurn (fun _ => 0) i X Y1) f := by
                (try simp only [sxBurn, syBurn, if_neg c_6, if_neg c_10, if_neg c_25])
                exact hM
              exact ih0 (i + 1) _ _ _ _ _ (by omega) hN  hP hD hS (lv_sub hl [0, 2] rfl) hfin0
  exact lp0 (n 2) 0 Y f _ _ _ (by omega) hM hP hD hS (lv_sub hl [0, 1] rfl) rfl

def sxBlow (n : Nat → Nat) (i : Nat) (X : I2) (Y : J2) : I2 := X
def syBlow (n : Nat → Nat) (i : Nat) (X : I2) (Y : J2) : J2 := (if (X 1 0) < (X 29 i) then Y else (if (Y 5 (Int32.toNatClampNeg (X 28 i))) ≤ 0 then Y else (if (Int32.toInt64 (X 30 i)) ≤ (Y 5 (Int32.toNatClampNeg (X 28 i))) then up2 (up2 (up2 Y 6 (Int32.toNatClampNeg (X 28 i)) ((Y 6 (Int32.toNatClampNeg (X 28 i))) - (((Y 6 (Int32.toNatClampNeg (X 28 i))) * (Int32.toInt64 (X 30 i))) / (Y 5 (Int32.toNatClampNeg (X 28 i)))))) 5 (Int32.toNatClampNeg (X 28 i)) ((Y 5 (Int32.toNatClampNeg (X 28 i))) - (Int32.toInt64 (X 30 i)))) 45 0 ((Y 45 0) + (Int32.toInt64 (X 30 i))) else up2 (up2 (up2 Y 6 (Int32.toNatClampNeg (X 28 i)) ((Y 6 (Int32.toNatClampNeg (X 28 i))) - (((Y 6 (Int32.toNatClampNeg (X 28 i))) * (Y 5 (Int32.toNatClampNeg (X 28 i)))) / (Y 5 (Int32.toNatClampNeg (X 28 i)))))) 5 (Int32.toNatClampNeg (X 28 i)) ((Y 5 (Int32.toNatClampNeg (X 28 i))) - (Y 5 (Int32.toNatClampNeg (X 28 i))))) 45 0 ((Y 45 0) + (Y 5 (Int32.toNatClampNeg (X 28 i)))))))
def lBlow : Nat → Nat → I2 × J2 → I2 × J2
  | 0, _, q => q
  | k + 1, i, q => lBlow k (i + 1) (sxBlow (fun _ => 0) i q.1 q.2, syBlow (fun _ => 0) i q.1 q.2)
set_option maxHeartbeats 4000000 in
set_option maxRecDepth 100000 in
theorem c_Mo_blow {l : Launch} {D : va_G} {ct : Nat → ClassId} {AM : Nat → Nat} {L : List Nat} {f : Nat → va_E} {X : I2} {Y : J2} {sz : Nat} {n : Nat → Nat} (hM : MW ct AM L X Y f) (hI : MI n X)  : Met l y_Mo_blow (WS y_Mo_blow b_Mo_blow 5 none) { frames := 0, cells := 0, slots := 0, locals := 0 } (va_Pc [.ref (AM 100)] (WP D (TYS ct) L f sz)) (Xs D (TYS ct) L (AA L f sz) (fun f' => MW ct AM L (lBlow (n 3) 0 (X, Y)).1 (lBlow (n 3) 0 (X, Y)).2 f')) 0 0 (AA L f sz) := by
  refine Met.ofW (cc := b_Mo_blow) (maxL := 5) (ret := none) (by decide) rfl ?_
  intro p e s m args below meth c s₁ B hml hv
  obtain ⟨rfl, hsz, hP, hK, hD0⟩ := hv
  subst hsz
  have hx := B.exec
  have hb := B.bytes
  have hret := B.returns
  have hts := atoms_spec (ws := WS y_Mo_blow b_Mo_blow 5 none) B.pre
  have hG : ∀ w ∈ GW, w.before _ s = true := fun w h => hts w (List.mem_cons_of_mem _ h)
  have hown : s.vm.findClass "SmokeZonesModel" = some m.cls := findClass_of_methodNamed B.named
  have hlocks := B.notSynchronized
  have hD : va_D (AA L f s.heap.size) (va_pl L f) := hD0.self (sz := s.heap.size)
  generalize hAe : AA L f s.heap.size = A at hD ⊢
  have hA : ∀ q : Nat, s.heap.size ≤ q → A q := fun q h => by rw [← hAe]; exact Or.inr h
  have hS : va_S A s.heap s.heap [] := va_S.rf
  have hl := lv_entry ([.ref (AM 100)]) (n := 5) (Nat.le_of_ble_eq_true rfl)
  rw [lg_entry_eq]
  generalize (lg_sl ([.ref (AM 100)]) ++ List.replicate (5 - (lg_sl ([.ref (AM 100)])).length) Slot.unset).toArray = ls at hl ⊢
  have hl : lv_has ls 5 [(0, .ref (AM 100))] := hl
  obtain ⟨⟨h2, h10, h21, h27, h31, h35⟩, hcap, ha, hop, hfi, hfa, hst, hpe⟩ := hI
  have hc0 : n 0 ≤ 10 := hcap 0 (by decide)
  have hc1 : n 1 ≤ 15 := hcap 1 (by decide)
  have hc2 : n 2 ≤ 5 := hcap 2 (by decide)
  have hc3 : n 3 ≤ 9 := hcap 3 (by decide)
  have hc4 : n 4 ≤ 9 := hcap 4 (by decide)
  have hc5 : n 5 ≤ 9 := hcap 5 (by decide)
  refine lv_iconst (v := 0) hx hb d_Mo_blow_0 (by decide) ?_
  refine lv_istore_n (lv' := [(1, .int 0), (0, .ref (AM 100))]) hx hb d_Mo_blow_1 rfl hl (by decide) rfl (fun ls hl => ?_)
  have lp0 : ∀ (k i : Nat) (Y1 : J2) (g1 : Nat → va_E) (H : Heap) (locs : List Loc) (ls : Array Slot), i + k = n 3 → MW ct AM L X Y1 g1 → va_P D vwCl (va_pl L g1) H → va_D A (va_pl L g1) → va_S A s.heap H locs → lv_has ls 5 [(1, .int (nI i)), (0, .ref (AM 100))] → lBlow k i (X, Y1) = lBlow (n 3) 0 (X, Y) → W p l e (headSpec (WS y_Mo_blow b_Mo_blow 5 none) { frames := 0, cells := 0, slots := 0, locals := 0 }).room s m [.ref (AM 100)].toArray below meth c H locs 0 0 (MQ below (Xs D (TYS ct) L A (fun f' => MW ct AM L (lBlow (n 3) 0 (X, Y)).1 (lBlow (n 3) 0 (X, Y)).2 f')) [.ref (AM 100)].toArray s 0 0 A) (F0 m 2 ls []) := by
    intro k
    induction k with
    | zero =>
      intro i Y1 f H locs ls hik0 hM hP hD hS hl hfin0
      have hle_i : i ≤ n 3 := by omega
      have hcl_i : (nI i).toNatClampNeg = i := nI_clamp (by omega)
      refine lv_iload_n hx hb d_Mo_blow_2 rfl (lv_at hl 0 rfl) ?_
      refine lv_aload_n hx hb d_Mo_blow_3 rfl (lv_at hl 1 rfl) ?_
      refine pg_get (C := "SmokeZonesModel") (T := T_Mo) (N := 47) hx hb hG in_Mo hown hK hP hM.1.1 hM.1.2 rfl 27 (by decide) (hG _ k648) (fun _ h9 => h9) rfl d_Mo_blow_4 ?_
      refine lv_topi (fun y_1 ey_1 => ?_)
      obtain rfl : y_1 = nI (n 3) := ey_1.trans (by simp [up2, hcl_i, h2, h10, h21, h27, h31, h35])
      refine lv_icmp_ge (tgt := 125) hx hb d_Mo_blow_7 (by decide) (fun c_2 => ?_) (fun c_2 => ?_)
      · have q0 : (X, Y1) = lBlow (n 3) 0 (X, Y) := hfin0
        have hN : MW ct AM L (lBlow (n 3) 0 (X, Y)).1 (lBlow (n 3) 0 (X, Y)).2 f := by
          rw [← q0]
          exact hM
        exact W.vret hx hb hret (fun t ht hW => ⟨⟨f, rfl, hN, by rw [ht]; exact hP, va_K.moved hW.alike hK, hD⟩, hS.F ht⟩) hS.2.2 d_Mo_blow_125
      · exact (ge_yes (by omega) (by omega) c_2).elim
    | succ k ih0 =>
      intro i Y1 f H locs ls hik0 hM hP hD hS hl hfin0
      have hle_i : i ≤ n 3 := by omega
      have hcl_i : (nI i).toNatClampNeg = i := nI_clamp (by omega)
      have hi : i < n 3 := by omega
      refine lv_iload_n hx hb d_Mo_blow_2 rfl (lv_at hl 0 rfl) ?_
      refine lv_aload_n hx hb d_Mo_blow_3 rfl (lv_at hl 1 rfl) ?_
      refine pg_get (C := "SmokeZonesModel") (T := T_Mo) (N := 47) hx hb hG in_Mo hown hK hP hM.1.1 hM.1.2 rfl 27 (by decide) (hG _ k648) (fun _ h9 => h9) rfl d_Mo_blow_4 ?_
      refine lv_topi (fun y_3 ey_3 => ?_)
      obtain rfl : y_3 = nI (n 3) := ey_3.trans (by simp [up2, hcl_i, h2, h10, h21, h27, h31, h35])
      refine lv_icmp_ge (tgt := 125) hx hb d_Mo_blow_7 (by decide) (fun c_4 => ?_) (fun c_4 => ?_)
      · exact (ge_no hi (by omega) c_4).elim
      · obtain ⟨r, hr, er⟩ := hfa i hi
        refine lv_aload_n hx hb d_Mo_blow_10 rfl (lv_at hl 1 rfl) ?_
        refine pg_get (C := "SmokeZonesModel") (T := T_Mo) (N := 47) hx hb hG in_Mo hown hK hP hM.1.1 hM.1.2 rfl 28 (by decide) (hG _ k649) (fun _ h9 => h9) rfl d_Mo_blow_11 ?_
        refine lv_iload_n hx hb d_Mo_blow_14 rfl (lv_at hl 0 rfl) ?_
        refine mw_iald hx hb hK hP hM (j := 28) rfl (vp_in_nI (show i < 9 by omega) (by decide)) d_Mo_blow_15 ?_
        refine lv_topi (fun y_5 ey_5 => ?_)
        obtain rfl : y_5 = X 28 i := ey_5.trans (by simp [up2, hcl_i, h2, h10, h21, h27, h31, h35])
        refine lv_istore_n (lv' := [(2, .int (X 28 i)), (1, .int (nI i)), (0, .ref (AM 100))]) hx hb d_Mo_blow_16 rfl hl (by decide) rfl (fun ls hl => ?_)
        refine lv_aload_n hx hb d_Mo_blow_17 rfl (lv_at hl 2 rfl) ?_
        refine pg_get (C := "SmokeZonesModel") (T := T_Mo) (N := 47) hx hb hG in_Mo hown hK hP hM.1.1 hM.1.2 rfl 29 (by decide) (hG _ k650) (fun _ h9 => h9) rfl d_Mo_blow_18 ?_
        refine lv_iload_n hx hb d_Mo_blow_21 rfl (lv_at hl 1 rfl) ?_
        refine mw_iald hx hb hK hP hM (j := 29) rfl (vp_in_nI (show i < 9 by omega) (by decide)) d_Mo_blow_22 ?_
        refine lv_topi (fun y_6 ey_6 => ?_)
        obtain rfl : y_6 = X 29 i := ey_6.trans (by simp [up2, hcl_i, h2, h10, h21, h27, h31, h35])
        refine lv_aload_n hx hb d_Mo_blow_23 rfl (lv_at hl 2 rfl) ?_
        refine pg_get (C := "SmokeZonesModel") (T := T_Mo) (N := 47) hx hb hG in_Mo hown hK hP hM.1.1 hM.1.2 rfl 1 (by decide) (hG _ k622) (fun _ h9 => h9) rfl d_Mo_blow_24 ?_
        refine lv_icmp_gt (tgt := 119) hx hb d_Mo_blow_27 (by decide) (fun c_7 => ?_) (fun c_7 => ?_)
        · refine lv_iinc (v := nI (i + 1)) (lv' := [(1, .int (nI (i + 1))), (2, .int (X 28 i)), (0, .ref (AM 100))]) hx hb d_Mo_blow_119 hl (k := 1) rfl (nI_1 i) (by decide) rfl (fun ls hl => ?_)
          refine lv_goto (tgt := 2) hx hb d_Mo_blow_122 (by decide) ?_
          have hN : MW ct AM L (sxBlow (fun _ => 0) i X Y1) (syBlow (fun _ => 0) i X Y1) f := by
            (try simp only [sxBlow, syBlow, if_pos c_7])
            exact hM
          exact ih0 (i + 1) _ _ _ _ _ (by omega) hN  hP hD hS (lv_sub hl [0, 2] rfl) hfin0
        · refine lv_aload_n hx hb d_Mo_blow_30 rfl (lv_at hl 2 rfl) ?_
          refine pg_get (C := "SmokeZonesModel") (T := T_Mo) (N := 47) hx hb hG in_Mo hown hK hP hM.1.1 hM.1.2 rfl 5 (by decide) (hG _ k626) (fun _ h9 => h9) rfl d_Mo_blow_31 ?_
          refine lv_iload_n hx hb d_Mo_blow_34 rfl (lv_at hl 0 rfl) ?_
          refine mw_lald hx hb hK hP hM (j := 5) rfl (by rw [er]; exact vp_in_nI (show r < 10 by omega) (by decide)) d_Mo_blow_35 ?_
          refine lv_lconst (v := 0) hx hb d_Mo_blow_36 (by decide) ?_
          refine lc_le (tgt := 119) hx hb d_Mo_blow_37 d_Mo_blow_38 (by decide) (fun c_8 => ?_) (fun c_8 => ?_)
          · refine lv_iinc (v := nI (i + 1)) (lv' := [(1, .int (nI (i + 1))), (2, .int (X 28 i)), (0, .ref (AM 100))]) hx hb d_Mo_blow_119 hl (k := 1) rfl (nI_1 i) (by decide) rfl (fun ls hl => ?_)
            refine lv_goto (tgt := 2) hx hb d_Mo_blow_122 (by decide) ?_
            have hN : MW ct AM L (sxBlow (fun _ => 0) i X Y1) (syBlow (fun _ => 0) i X Y1) f := by
              (try simp only [sxBlow, syBlow, if_neg c_7, if_pos c_8])
              exact hM
            exact ih0 (i + 1) _ _ _ _ _ (by omega) hN  hP hD hS (lv_sub hl [0, 2] rfl) hfin0
          · refine lv_aload_n hx hb d_Mo_blow_41 rfl (lv_at hl 2 rfl) ?_
            refine pg_get (C := "SmokeZonesModel") (T := T_Mo) (N := 47) hx hb hG in_Mo hown hK hP hM.1.1 hM.1.2 rfl 30 (by decide) (hG _ k651) (fun _ h9 => h9) rfl d_Mo_blow_42 ?_
            refine lv_iload_n hx hb d_Mo_blow_45 rfl (lv_at hl 1 rfl) ?_
            refine mw_iald hx hb hK hP hM (j := 30) rfl (vp_in_nI (show i < 9 by omega) (by decide)) d_Mo_blow_46 ?_
            refine lv_topi (fun y_9 ey_9 => ?_)
            obtain rfl : y_9 = X 30 i := ey_9.trans (by simp [up2, hcl_i, h2, h10, h21, h27, h31, h35])
            refine lv_i2l hx hb d_Mo_blow_47 rfl ?_
            refine lv_aload_n hx hb d_Mo_blow_48 rfl (lv_at hl 2 rfl) ?_
            refine pg_get (C := "SmokeZonesModel") (T := T_Mo) (N := 47) hx hb hG in_Mo hown hK hP hM.1.1 hM.1.2 rfl 5 (by decide) (hG _ k626) (fun _ h9 => h9) rfl d_Mo_blow_49 ?_
            refine lv_iload_n hx hb d_Mo_blow_52 rfl (lv_at hl 0 rfl) ?_
            refine mw_lald hx hb hK hP hM (j := 5) rfl (by rw [er]; exact vp_in_nI (show r < 10 by omega) (by decide)) d_Mo_blow_53 ?_
            refine lc_le (tgt := 67) hx hb d_Mo_blow_54 d_Mo_blow_55 (by decide) (fun c_10 => ?_) (fun c_10 => ?_)
            · refine lv_aload_n hx hb d_Mo_blow_67 rfl (lv_at hl 2 rfl) ?_
              refine pg_get (C := "SmokeZonesModel") (T := T_Mo) (N := 47) hx hb hG in_Mo hown hK hP hM.1.1 hM.1.2 rfl 30 (by decide) (hG _ k651) (fun _ h9 => h9) rfl d_Mo_blow_68 ?_
              refine lv_iload_n hx hb d_Mo_blow_71 rfl (lv_at hl 1 rfl) ?_
              refine mw_iald hx hb hK hP hM (j := 30) rfl (vp_in_nI (show i < 9 by omega) (by decide)) d_Mo_blow_72 ?_
              refine lv_topi (fun y_11 ey_11 => ?_)
              obtain rfl : y_11 = X 30 i := ey_11.trans (by simp [up2, hcl_i, h2, h10, h21, h27, h31, h35])
              refine lv_i2l hx hb d_Mo_blow_73 rfl ?_
              refine lv_lstore_n (lv' := [(3, .long (Int32.toInt64 (X 30 i))), (2, .int (X 28 i)), (1, .int (nI i)), (0, .ref (AM 100))]) hx hb d_Mo_blow_74 rfl hl (by decide) rfl (fun ls hl => ?_)
              refine lv_aload_n hx hb d_Mo_blow_75 rfl (lv_at hl 3 rfl) ?_
              refine pg_get (C := "SmokeZonesModel") (T := T_Mo) (N := 47) hx hb hG in_Mo hown hK hP hM.1.1 hM.1.2 rfl 6 (by decide) (hG _ k627) (fun _ h9 => h9) rfl d_Mo_blow_76 ?_
              refine lv_iload_n hx hb d_Mo_blow_79 rfl (lv_at hl 1 rfl) ?_
              refine lv_dup2_11 hx hb d_Mo_blow_80 rfl rfl ?_
              refine mw_lald hx hb hK hP hM (j := 6) rfl (by rw [er]; exact vp_in_nI (show r < 10 by omega) (by decide)) d_Mo_blow_81 ?_
              refine lv_aload_n hx hb d_Mo_blow_82 rfl (lv_at hl 3 rfl) ?_
              refine pg_get (C := "SmokeZonesModel") (T := T_Mo) (N := 47) hx hb hG in_Mo hown hK hP hM.1.1 hM.1.2 rfl 6 (by decide) (hG _ k627) (fun _ h9 => h9) rfl d_Mo_blow_83 ?_
              refine lv_iload_n hx hb d_Mo_blow_86 rfl (lv_at hl 1 rfl) ?_
              refine mw_lald hx hb hK hP hM (j := 6) rfl (by rw [er]; exact vp_in_nI (show r < 10 by omega) (by decide)) d_Mo_blow_87 ?_
              refine lv_lload_n hx hb d_Mo_blow_88 rfl (lv_at hl 0 rfl) ?_
              refine lv_lmul hx hb d_Mo_blow_89 ?_
              refine lv_aload_n hx hb d_Mo_blow_90 rfl (lv_at hl 3 rfl) ?_
              refine pg_get (C := "SmokeZonesModel") (T := T_Mo) (N := 47) hx hb hG in_Mo hown hK hP hM.1.1 hM.1.2 rfl 5 (by decide) (hG _ k626) (fun _ h9 => h9) rfl d_Mo_blow_91 ?_
              refine lv_iload_n hx hb d_Mo_blow_94 rfl (lv_at hl 1 rfl) ?_
              refine mw_lald hx hb hK hP hM (j := 5) rfl (by rw [er]; exact vp_in_nI (show r < 10 by omega) (by decide)) d_Mo_blow_95 ?_
              refine lv_ldiv hx hb d_Mo_blow_96 (nz_gt c_8) ?_
              refine lv_lsub hx hb d_Mo_blow_97 ?_
              refine mw_last hx hb hK hP hD hS hM (j := 6) rfl (by rw [er]; exact vp_in_nI (show r < 10 by omega) (by decide)) d_Mo_blow_98 (fun f H locs hM hP hD hS => ?_)
              refine lv_aload_n hx hb d_Mo_blow_99 rfl (lv_at hl 3 rfl) ?_
              refine pg_get (C := "SmokeZonesModel") (T := T_Mo) (N := 47) hx hb hG in_Mo hown hK hP hM.1.1 hM.1.2 rfl 5 (by decide) (hG _ k626) (fun _ h9 => h9) rfl d_Mo_blow_100 ?_
              refine lv_iload_n hx hb d_Mo_blow_103 rfl (lv_at hl 1 rfl) ?_
              refine lv_dup2_11 hx hb d_Mo_blow_104 rfl rfl ?_
              refine mw_lald hx hb hK hP hM (j := 5) rfl (by rw [er]; exact vp_in_nI (show r < 10 by omega) (by decide)) d_Mo_blow_105 ?_
              refine lv_topl (fun y_12 ey_12 => ?_)
              obtain rfl : y_12 = Y1 5 (Int32.toNatClampNeg (X 28 i)) := ey_12.trans (by simp [up2, hcl_i, h2, h10, h21, h27, h31, h35])
              refine lv_lload_n hx hb d_Mo_blow_106 rfl (lv_at hl 0 rfl) ?_
              refine lv_lsub hx hb d_Mo_blow_107 ?_
              refine mw_last hx hb hK hP hD hS hM (j := 5) rfl (by rw [er]; exact vp_in_nI (show r < 10 by omega) (by decide)) d_Mo_blow_108 (fun f H locs hM hP hD hS => ?_)
              refine lv_aload_n hx hb d_Mo_blow_109 rfl (lv_at hl 3 rfl) ?_
              refine lv_dup hx hb d_Mo_blow_110 rfl ?_
              refine pg_get (C := "SmokeZonesModel") (T := T_Mo) (N := 47) hx hb hG in_Mo hown hK hP hM.1.1 hM.1.2 rfl 45 (by decide) (hG _ k666) (fun _ h9 => h9) rfl d_Mo_blow_111 ?_
              refine lv_topl (fun y_13 ey_13 => ?_)
              obtain rfl : y_13 = Y1 45 0 := ey_13.trans (by simp [up2, hcl_i, h2, h10, h21, h27, h31, h35])
              refine lv_lload_n hx hb d_Mo_blow_114 rfl (lv_at hl 0 rfl) ?_
              refine lv_ladd hx hb d_Mo_blow_115 ?_
              refine pg_put (C := "SmokeZonesModel") (T := T_Mo) (N := 47) (ty := .long) hx hb hG in_Mo ty_Mo ok_Mo nm_Mo hown hK hP hD hS hM.1.1 hM.1.2 rfl 45 (by decide) (hG _ k666) (fun _ h9 => h9) rfl (by decide +kernel) rfl rfl (Nat.le_of_ble_eq_true rfl) d_Mo_blow_116 (fun H locs hP hD hS => ?_)
              have hM := hM.putY (j := 45) (v := (Y1 45 0) + (Int32.toInt64 (X 30 i))) rfl moF_45
              generalize va_up _ (AM 100) _ = f at hM hP hD
              refine lv_iinc (v := nI (i + 1)) (lv' := [(1, .int (nI (i + 1))), (3, .long (Int32.toInt64 (X 30 i))), (2, .int (X 28 i)), (0, .ref (AM 100))]) hx hb d_Mo_blow_119 hl (k := 2) rfl (nI_1 i) (by decide) rfl (fun ls hl => ?_)
              refine lv_goto (tgt := 2) hx hb d_Mo_blow_122 (by decide) ?_
              have hN : MW ct AM L (sxBlow (fun _ => 0) i X Y1) (syBlow (fun _ => 0) i X Y1) f := by
                (try simp only [sxBlow, syBlow, if_neg c_7, if_neg c_8, if_pos c_10])
                exact hM
              exact ih0 (i + 1) _ _ _ _ _ (by omega) hN  hP hD hS (lv_sub hl [0, 3] rfl) hfin0
            · refine lv_aload_n hx hb d_Mo_blow_58 rfl (lv_at hl 2 rfl) ?_
              refine pg_get (C := "SmokeZonesModel") (T := T_Mo) (N := 47) hx hb hG in_Mo hown hK hP hM.1.1 hM.1.2 rfl 5 (by decide) (hG _ k626) (fun _ h9 => h9) rfl d_Mo_blow_59 ?_
              refine lv_iload_n hx hb d_Mo_blow_62 rfl (lv_at hl 0 rfl) ?_
              refine mw_lald hx hb hK hP hM (j := 5) rfl (by rw [er]; exact vp_in_nI (show r < 10 by omega) (by decide)) d_Mo_blow_63 ?_
              refine lv_goto (tgt := 74) hx hb d_Mo_blow_64 (by decide) ?_
              refine lv_lstore_n (lv' := [(3, .long (Y1 5 (Int32.toNatClampNeg (X 28 i)))), (2, .int (X 28 i)), (1, .int (nI i)), (0, .ref (AM 100))]) hx hb d_Mo_blow_74 rfl hl (by decide) rfl (fun ls hl => ?_)
              refine lv_aload_n hx hb d_Mo_blow_75 rfl (lv_at hl 3 rfl) ?_
              refine pg_get (C := "SmokeZonesModel") (T := T_Mo) (N := 47) hx hb hG in_Mo hown hK hP hM.1.1 hM.1.2 rfl 6 (by decide) (hG _ k627) (fun _ h9 => h9) rfl d_Mo_blow_76 ?_
              refine lv_iload_n hx hb d_Mo_blow_79 rfl (lv_at hl 1 rfl) ?_
              refine lv_dup2_11 hx hb d_Mo_blow_80 rfl rfl ?_
              refine mw_lald hx hb hK hP hM (j := 6) rfl (by rw [er]; exact vp_in_nI (show r < 10 by omega) (by decide)) d_Mo_blow_81 ?_
              refine lv_aload_n hx hb d_Mo_blow_82 rfl (lv_at hl 3 rfl) ?_
              refine pg_get (C := "SmokeZonesModel") (T := T_Mo) (N := 47) hx hb hG in_Mo hown hK hP hM.1.1 hM.1.2 rfl 6 (by decide) (hG _ k627) (fun _ h9 => h9) rfl d_Mo_blow_83 ?_
              refine lv_iload_n hx hb d_Mo_blow_86 rfl (lv_at hl 1 rfl) ?_
              refine mw_lald hx hb hK hP hM (j := 6) rfl (by rw [er]; exact vp_in_nI (show r < 10 by omega) (by decide)) d_Mo_blow_87 ?_
              refine lv_lload_n hx hb d_Mo_blow_88 rfl (lv_at hl 0 rfl) ?_
              refine lv_lmul hx hb d_Mo_blow_89 ?_
              refine lv_aload_n hx hb d_Mo_blow_90 rfl (lv_at hl 3 rfl) ?_
              refine pg_get (C := "SmokeZonesModel") (T := T_Mo) (N := 47) hx hb hG in_Mo hown hK hP hM.1.1 hM.1.2 rfl 5 (by decide) (hG _ k626) (fun _ h9 => h9) rfl d_Mo_blow_91 ?_
              refine lv_iload_n hx hb d_Mo_blow_94 rfl (lv_at hl 1 rfl) ?_
              refine mw_lald hx hb hK hP hM (j := 5) rfl (by rw [er]; exact vp_in_nI (show r < 10 by omega) (by decide)) d_Mo_blow_95 ?_
              refine lv_ldiv hx hb d_Mo_blow_96 (nz_gt c_8) ?_
              refine lv_lsub hx hb d_Mo_blow_97 ?_
              refine mw_last hx hb hK hP hD hS hM (j := 6) rfl (by rw [er]; exact vp_in_nI (show r < 10 by omega) (by decide)) d_Mo_blow_98 (fun f H locs hM hP hD hS => ?_)
              refine lv_aload_n hx hb d_Mo_blow_99 rfl (lv_at hl 3 rfl) ?_
              refine pg_get (C := "SmokeZonesModel") (T := T_Mo) (N := 47) hx hb hG in_Mo hown hK hP hM.1.1 hM.1.2 rfl 5 (by decide) (hG _ k626) (fun _ h9 => h9) rfl d_Mo_blow_100 ?_
              refine lv_iload_n hx hb d_Mo_blow_103 rfl (lv_at hl 1 rfl) ?_
              refine lv_dup2_11 hx hb d_Mo_blow_104 rfl rfl ?_
              refine mw_lald hx hb hK hP hM (j := 5) rfl (by rw [er]; exact vp_in_nI (show r < 10 by omega) (by decide)) d_Mo_blow_105 ?_
              refine lv_topl (fun y_14 ey_14 => ?_)
              obtain rfl : y_14 = Y1 5 (Int32.toNatClampNeg (X 28 i)) := ey_14.trans (by simp [up2, hcl_i, h2, h10, h21, h27, h31, h35])
              refine lv_lload_n hx hb d_Mo_blow_106 rfl (lv_at hl 0 rfl) ?_
              refine lv_lsub hx hb d_Mo_blow_107 ?_
              refine mw_last hx hb hK hP hD hS hM (j := 5) rfl (by rw [er]; exact vp_in_nI (show r < 10 by omega) (by decide)) d_Mo_blow_108 (fun f H locs hM hP hD hS => ?_)
              refine lv_aload_n hx hb d_Mo_blow_109 rfl (lv_at hl 3 rfl) ?_
              refine lv_dup hx hb d_Mo_blow_110 rfl ?_
              refine pg_get (C := "SmokeZonesModel") (T := T_Mo) (N := 47) hx hb hG in_Mo hown hK hP hM.1.1 hM.1.2 rfl 45 (by decide) (hG _ k666) (fun _ h9 => h9) rfl d_Mo_blow_111 ?_
              refine lv_topl (fun y_15 ey_15 => ?_)
              obtain rfl : y_15 = Y1 45 0 := ey_15.trans (by simp [up2, hcl_i, h2, h10, h21, h27, h31, h35])
              refine lv_lload_n hx hb d_Mo_blow_114 rfl (lv_at hl 0 rfl) ?_
              refine lv_ladd hx hb d_Mo_blow_115 ?_
              refine pg_put (C := "SmokeZonesModel") (T := T_Mo) (N := 47) (ty := .long) hx hb hG in_Mo ty_Mo ok_Mo nm_Mo hown hK hP hD hS hM.1.1 hM.1.2 rfl 45 (by decide) (hG _ k666) (fun _ h9 => h9) rfl (by decide +kernel) rfl rfl (Nat.le_of_ble_eq_true rfl) d_Mo_blow_116 (fun H locs hP hD hS => ?_)
              have hM := hM.putY (j := 45) (v := (Y1 45 0) + (Y1 5 (Int32.toNatClampNeg (X 28 i)))) rfl moF_45
              generalize va_up _ (AM 100) _ = f at hM hP hD
              refine lv_iinc (v := nI (i + 1)) (lv' := [(1, .int (nI (i + 1))), (3, .long (Y1 5 (Int32.toNatClampNeg (X 28 i)))), (2, .int (X 28 i)), (0, .ref (AM 100))]) hx hb d_Mo_blow_119 hl (k := 2) rfl (nI_1 i) (by decide) rfl (fun ls hl => ?_)
              refine lv_goto (tgt := 2) hx hb d_Mo_blow_122 (by decide) ?_
              have hN : MW ct AM L (sxBlow (fun _ => 0) i X Y1) (syBlow (fun _ => 0) i X Y1) f := by
                (try simp only [sxBlow, syBlow, if_neg c_7, if_neg c_8, if_neg c_10])
                exact hM
              exact ih0 (i + 1) _ _ _ _ _ (by omega) hN  hP hD hS (lv_sub hl [0, 3] rfl) hfin0
  exact lp0 (n 3) 0 Y f _ _ _ (by omega) hM hP hD hS (lv_sub hl [0, 1] rfl) rfl

def sxPress (n : Nat → Nat) (i : Nat) (X : I2) (Y : J2) : I2 := X
def syPress (n : Nat → Nat) (i : Nat) (X : I2) (Y : J2) : J2 := (if (Y 5 i) ≤ ((Int32.toInt64 (X 3 i)) * (Int32.toInt64 (X 4 i))) then Y else up2 (up2 (up2 Y 6 i (((Y 6 i) * ((Int32.toInt64 (X 3 i)) * (Int32.toInt64 (X 4 i)))) / (Y 5 i))) 46 0 ((Y 46 0) + ((Y 5 i) - ((Int32.toInt64 (X 3 i)) * (Int32.toInt64 (X 4 i)))))) 5 i ((Int32.toInt64 (X 3 i)) * (Int32.toInt64 (X 4 i))))
def lPress : Nat → Nat → I2 × J2 → I2 × J2
  | 0, _, q => q
  | k + 1, i, q => lPress k (i + 1) (sxPress (fun _ => 0) i q.1 q.2, syPress (fun _ => 0) i q.1 q.2)
set_option maxHeartbeats 4000000 in
set_option maxRecDepth 100000 in
theorem c_Mo_press {l : Launch} {D : va_G} {ct : Nat → ClassId} {AM : Nat → Nat} {L : List Nat} {f : Nat → va_E} {X : I2} {Y : J2} {sz : Nat} {n : Nat → Nat} (hM : MW ct AM L X Y f) (hI : MI n X) (hh : ∀ r, r < n 0 → 0 ≤ Int32.toInt64 (X 3 r) * Int32.toInt64 (X 4 r)) : Met l y_Mo_press (WS y_Mo_press b_Mo_press 4 none) { frames := 0, cells := 0, slots := 0, locals := 0 } (va_Pc [.ref (AM 100)] (WP D (TYS ct) L f sz)) (Xs D (TYS ct) L (AA L f sz) (fun f' => MW ct AM L (lPress (n 0) 0 (X, Y)).1 (lPress (n 0) 0 (X, Y)).2 f')) 0 0 (AA L f sz) := by
  refine Met.ofW (cc := b_Mo_press) (maxL := 4) (ret := none) (by decide) rfl ?_
  intro p e s m args below meth c s₁ B hml hv
  obtain ⟨rfl, hsz, hP, hK, hD0⟩ := hv
  subst hsz
  have hx := B.exec
  have hb := B.bytes
  have hret := B.returns
  have hts := atoms_spec (ws := WS y_Mo_press b_Mo_press 4 none) B.pre
  have hG : ∀ w ∈ GW, w.before _ s = true := fun w h => hts w (List.mem_cons_of_mem _ h)
  have hown : s.vm.findClass "SmokeZonesModel" = some m.cls := findClass_of_methodNamed B.named
  have hlocks := B.notSynchronized
  have hD : va_D (AA L f s.heap.size) (va_pl L f) := hD0.self (sz := s.heap.size)
  generalize hAe : AA L f s.heap.size = A at hD ⊢
  have hA : ∀ q : Nat, s.heap.size ≤ q → A q := fun q h => by rw [← hAe]; exact Or.inr h
  have hS : va_S A s.heap s.heap [] := va_S.rf
  have hl := lv_entry ([.ref (AM 100)]) (n := 4) (Nat.le_of_ble_eq_true rfl)
  rw [lg_entry_eq]
  generalize (lg_sl ([.ref (AM 100)]) ++ List.replicate (4 - (lg_sl ([.ref (AM 100)])).length) Slot.unset).toArray = ls at hl ⊢
  have hl : lv_has ls 4 [(0, .ref (AM 100))] := hl
  obtain ⟨⟨h2, h10, h21, h27, h31, h35⟩, hcap, ha, hop, hfi, hfa, hst, hpe⟩ := hI
  have hc0 : n 0 ≤ 10 := hcap 0 (by decide)
  have hc1 : n 1 ≤ 15 := hcap 1 (by decide)
  have hc2 : n 2 ≤ 5 := hcap 2 (by decide)
  have hc3 : n 3 ≤ 9 := hcap 3 (by decide)
  have hc4 : n 4 ≤ 9 := hcap 4 (by decide)
  have hc5 : n 5 ≤ 9 := hcap 5 (by decide)
  refine lv_iconst (v := 0) hx hb d_Mo_press_0 (by decide) ?_
  refine lv_istore_n (lv' := [(1, .int 0), (0, .ref (AM 100))]) hx hb d_Mo_press_1 rfl hl (by decide) rfl (fun ls hl => ?_)
  have lp0 : ∀ (k i : Nat) (Y1 : J2) (g1 : Nat → va_E) (H : Heap) (locs : List Loc) (ls : Array Slot), i + k = n 0 → MW ct AM L X Y1 g1 → va_P D vwCl (va_pl L g1) H → va_D A (va_pl L g1) → va_S A s.heap H locs → lv_has ls 4 [(1, .int (nI i)), (0, .ref (AM 100))] → lPress k i (X, Y1) = lPress (n 0) 0 (X, Y) → W p l e (headSpec (WS y_Mo_press b_Mo_press 4 none) { frames := 0, cells := 0, slots := 0, locals := 0 }).room s m [.ref (AM 100)].toArray below meth c H locs 0 0 (MQ below (Xs D (TYS ct) L A (fun f' => MW ct AM L (lPress (n 0) 0 (X, Y)).1 (lPress (n 0) 0 (X, Y)).2 f')) [.ref (AM 100)].toArray s 0 0 A) (F0 m 2 ls []) := by
    intro k
    induction k with
    | zero =>
      intro i Y1 f H locs ls hik0 hM hP hD hS hl hfin0
      have hle_i : i ≤ n 0 := by omega
      have hcl_i : (nI i).toNatClampNeg = i := nI_clamp (by omega)
      refine lv_iload_n hx hb d_Mo_press_2 rfl (lv_at hl 0 rfl) ?_
      refine lv_aload_n hx hb d_Mo_press_3 rfl (lv_at hl 1 rfl) ?_
      refine pg_get (C := "SmokeZonesModel") (T := T_Mo) (N := 47) hx hb hG in_Mo hown hK hP hM.1.1 hM.1.2 rfl 2 (by decide) (hG _ k623) (fun _ h9 => h9) rfl d_Mo_press_4 ?_
      refine lv_topi (fun y_1 ey_1 => ?_)
      obtain rfl : y_1 = nI (n 0) := ey_1.trans (by simp [up2, hcl_i, h2, h10, h21, h27, h31, h35])
      refine lv_icmp_ge (tgt := 88) hx hb d_Mo_press_7 (by decide) (fun c_2 => ?_) (fun c_2 => ?_)
      · have q0 : (X, Y1) = lPress (n 0) 0 (X, Y) := hfin0
        have hN : MW ct AM L (lPress (n 0) 0 (X, Y)).1 (lPress (n 0) 0 (X, Y)).2 f := by
          rw [← q0]
          exact hM
        exact W.vret hx hb hret (fun t ht hW => ⟨⟨f, rfl, hN, by rw [ht]; exact hP, va_K.moved hW.alike hK, hD⟩, hS.F ht⟩) hS.2.2 d_Mo_press_88
      · exact (ge_yes (by omega) (by omega) c_2).elim
    | succ k ih0 =>
      intro i Y1 f H locs ls hik0 hM hP hD hS hl hfin0
      have hle_i : i ≤ n 0 := by omega
      have hcl_i : (nI i).toNatClampNeg = i := nI_clamp (by omega)
      have hi : i < n 0 := by omega
      refine lv_iload_n hx hb d_Mo_press_2 rfl (lv_at hl 0 rfl) ?_
      refine lv_aload_n hx hb d_Mo_press_3 rfl (lv_at hl 1 rfl) ?_
      refine pg_get (C := "SmokeZonesModel") (T := T_Mo) (N := 47) hx hb hG in_Mo hown hK hP hM.1.1 hM.1.2 rfl 2 (by decide) (hG _ k623) (fun _ h9 => h9) rfl d_Mo_press_4 ?_
      refine lv_topi (fun y_3 ey_3 => ?_)
      obtain rfl : y_3 = nI (n 0) := ey_3.trans (by simp [up2, hcl_i, h2, h10, h21, h27, h31, h35])
      refine lv_icmp_ge (tgt := 88) hx hb d_Mo_press_7 (by decide) (fun c_4 => ?_) (fun c_4 => ?_)
      · exact (ge_no hi (by omega) c_4).elim
      · refine lv_aload_n hx hb d_Mo_press_10 rfl (lv_at hl 1 rfl) ?_
        refine pg_get (C := "SmokeZonesModel") (T := T_Mo) (N := 47) hx hb hG in_Mo hown hK hP hM.1.1 hM.1.2 rfl 3 (by decide) (hG _ k624) (fun _ h9 => h9) rfl d_Mo_press_11 ?_
        refine lv_iload_n hx hb d_Mo_press_14 rfl (lv_at hl 0 rfl) ?_
        refine mw_iald hx hb hK hP hM (j := 3) rfl (vp_in_nI (show i < 10 by omega) (by decide)) d_Mo_press_15 ?_
        refine lv_topi (fun y_5 ey_5 => ?_)
        obtain rfl : y_5 = X 3 i := ey_5.trans (by simp [up2, hcl_i, h2, h10, h21, h27, h31, h35])
        refine lv_i2l hx hb d_Mo_press_16 rfl ?_
        refine lv_aload_n hx hb d_Mo_press_17 rfl (lv_at hl 1 rfl) ?_
        refine pg_get (C := "SmokeZonesModel") (T := T_Mo) (N := 47) hx hb hG in_Mo hown hK hP hM.1.1 hM.1.2 rfl 4 (by decide) (hG _ k625) (fun _ h9 => h9) rfl d_Mo_press_18 ?_
        refine lv_iload_n hx hb d_Mo_press_21 rfl (lv_at hl 0 rfl) ?_
        refine mw_iald hx hb hK hP hM (j := 4) rfl (vp_in_nI (show i < 10 by omega) (by decide)) d_Mo_press_22 ?_
        refine lv_topi (fun y_6 ey_6 => ?_)
        obtain rfl : y_6 = X 4 i := ey_6.trans (by simp [up2, hcl_i, h2, h10, h21, h27, h31, h35])
        refine lv_i2l hx hb d_Mo_press_23 rfl ?_
        refine lv_lmul hx hb d_Mo_press_24 ?_
        refine lv_lstore_n (lv' := [(2, .long ((Int32.toInt64 (X 3 i)) * (Int32.toInt64 (X 4 i)))), (1, .int (nI i)), (0, .ref (AM 100))]) hx hb d_Mo_press_25 rfl hl (by decide) rfl (fun ls hl => ?_)
        refine lv_aload_n hx hb d_Mo_press_26 rfl (lv_at hl 2 rfl) ?_
        refine pg_get (C := "SmokeZonesModel") (T := T_Mo) (N := 47) hx hb hG in_Mo hown hK hP hM.1.1 hM.1.2 rfl 5 (by decide) (hG _ k626) (fun _ h9 => h9) rfl d_Mo_press_27 ?_
        refine lv_iload_n hx hb d_Mo_press_30 rfl (lv_at hl 1 rfl) ?_
        refine mw_lald hx hb hK hP hM (j := 5) rfl (vp_in_nI (show i < 10 by omega) (by decide)) d_Mo_press_31 ?_
        refine lv_topl (fun y_7 ey_7 => ?_)
        obtain rfl : y_7 = Y1 5 i := ey_7.trans (by simp [up2, hcl_i, h2, h10, h21, h27, h31, h35])
        refine lv_lload_n hx hb d_Mo_press_32 rfl (lv_at hl 0 rfl) ?_
        refine lc_le (tgt := 82) hx hb d_Mo_press_33 d_Mo_press_34 (by decide) (fun c_8 => ?_) (fun c_8 => ?_)
        · refine lv_iinc (v := nI (i + 1)) (lv' := [(1, .int (nI (i + 1))), (2, .long ((Int32.toInt64 (X 3 i)) * (Int32.toInt64 (X 4 i)))), (0, .ref (AM 100))]) hx hb d_Mo_press_82 hl (k := 1) rfl (nI_1 i) (by decide) rfl (fun ls hl => ?_)
          refine lv_goto (tgt := 2) hx hb d_Mo_press_85 (by decide) ?_
          have hN : MW ct AM L (sxPress (fun _ => 0) i X Y1) (syPress (fun _ => 0) i X Y1) f := by
            (try simp only [sxPress, syPress, if_pos c_8])
            exact hM
          exact ih0 (i + 1) _ _ _ _ _ (by omega) hN  hP hD hS (lv_sub hl [0, 2] rfl) hfin0
        · refine lv_aload_n hx hb d_Mo_press_37 rfl (lv_at hl 2 rfl) ?_
          refine pg_get (C := "SmokeZonesModel") (T := T_Mo) (N := 47) hx hb hG in_Mo hown hK hP hM.1.1 hM.1.2 rfl 6 (by decide) (hG _ k627) (fun _ h9 => h9) rfl d_Mo_press_38 ?_
          refine lv_iload_n hx hb d_Mo_press_41 rfl (lv_at hl 1 rfl) ?_
          refine lv_aload_n hx hb d_Mo_press_42 rfl (lv_at hl 2 rfl) ?_
          refine pg_get (C := "SmokeZonesModel") (T := T_Mo) (N := 47) hx hb hG in_Mo hown hK hP hM.1.1 hM.1.2 rfl 6 (by decide) (hG _ k627) (fun _ h9 => h9) rfl d_Mo_press_43 ?_
          refine lv_iload_n hx hb d_Mo_press_46 rfl (lv_at hl 1 rfl) ?_
          refine mw_lald hx hb hK hP hM (j := 6) rfl (vp_in_nI (show i < 10 by omega) (by decide)) d_Mo_press_47 ?_
          refine lv_topl (fun y_9 ey_9 => ?_)
          obtain rfl : y_9 = Y1 6 i := ey_9.trans (by simp [up2, hcl_i, h2, h10, h21, h27, h31, h35])
          refine lv_lload_n hx hb d_Mo_press_48 rfl (lv_at hl 0 rfl) ?_
          refine lv_lmul hx hb d_Mo_press_49 ?_
          refine lv_aload_n hx hb d_Mo_press_50 rfl (lv_at hl 2 rfl) ?_
          refine pg_get (C := "SmokeZonesModel") (T := T_Mo) (N := 47) hx hb hG in_Mo hown hK hP hM.1.1 hM.1.2 rfl 5 (by decide) (hG _ k626) (fun _ h9 => h9) rfl d_Mo_press_51 ?_
          refine lv_iload_n hx hb d_Mo_press_54 rfl (lv_at hl 1 rfl) ?_
          refine mw_lald hx hb hK hP hM (j := 5) rfl (vp_in_nI (show i < 10 by omega) (by decide)) d_Mo_press_55 ?_
          refine lv_topl (fun y_10 ey_10 => ?_)
          obtain rfl : y_10 = Y1 5 i := ey_10.trans (by simp [up2, hcl_i, h2, h10, h21, h27, h31, h35])
          refine lv_ldiv hx hb d_Mo_press_56 (nz_gt2 c_8 (hh i hi)) ?_
          refine mw_last hx hb hK hP hD hS hM (j := 6) rfl (vp_in_nI (show i < 10 by omega) (by decide)) d_Mo_press_57 (fun f H locs hM hP hD hS => ?_)
          rw [show (nI i).toNatClampNeg = i from nI_clamp (by omega)] at hM
          refine lv_aload_n hx hb d_Mo_press_58 rfl (lv_at hl 2 rfl) ?_
          refine lv_dup hx hb d_Mo_press_59 rfl ?_
          refine pg_get (C := "SmokeZonesModel") (T := T_Mo) (N := 47) hx hb hG in_Mo hown hK hP hM.1.1 hM.1.2 rfl 46 (by decide) (hG _ k667) (fun _ h9 => h9) rfl d_Mo_press_60 ?_
          refine lv_topl (fun y_11 ey_11 => ?_)
          obtain rfl : y_11 = Y1 46 0 := ey_11.trans (by simp [up2, hcl_i, h2, h10, h21, h27, h31, h35])
          refine lv_aload_n hx hb d_Mo_press_63 rfl (lv_at hl 2 rfl) ?_
          refine pg_get (C := "SmokeZonesModel") (T := T_Mo) (N := 47) hx hb hG in_Mo hown hK hP hM.1.1 hM.1.2 rfl 5 (by decide) (hG _ k626) (fun _ h9 => h9) rfl d_Mo_press_64 ?_
          refine lv_iload_n hx hb d_Mo_press_67 rfl (lv_at hl 1 rfl) ?_
          refine mw_lald hx hb hK hP hM (j := 5) rfl (vp_in_nI (show i < 10 by omega) (by decide)) d_Mo_press_68 ?_
          refine lv_topl (fun y_12 ey_12 => ?_)
          obtain rfl : y_12 = Y1 5 i := ey_12.trans (by simp [up2, hcl_i, h2, h10, h21, h27, h31, h35])
          refine lv_lload_n hx hb d_Mo_press_69 rfl (lv_at hl 0 rfl) ?_
          refine lv_lsub hx hb d_Mo_press_70 ?_
          refine lv_ladd hx hb d_Mo_press_71 ?_
          refine pg_put (C := "SmokeZonesModel") (T := T_Mo) (N := 47) (ty := .long) hx hb hG in_Mo ty_Mo ok_Mo nm_Mo hown hK hP hD hS hM.1.1 hM.1.2 rfl 46 (by decide) (hG _ k667) (fun _ h9 => h9) rfl (by decide +kernel) rfl rfl (Nat.le_of_ble_eq_true rfl) d_Mo_press_72 (fun H locs hP hD hS => ?_)
          have hM := hM.putY (j := 46) (v := (Y1 46 0) + ((Y1 5 i) - ((Int32.toInt64 (X 3 i)) * (Int32.toInt64 (X 4 i))))) rfl moF_46
          generalize va_up _ (AM 100) _ = f at hM hP hD
          refine lv_aload_n hx hb d_Mo_press_75 rfl (lv_at hl 2 rfl) ?_
          refine pg_get (C := "SmokeZonesModel") (T := T_Mo) (N := 47) hx hb hG in_Mo hown hK hP hM.1.1 hM.1.2 rfl 5 (by decide) (hG _ k626) (fun _ h9 => h9) rfl d_Mo_press_76 ?_
          refine lv_iload_n hx hb d_Mo_press_79 rfl (lv_at hl 1 rfl) ?_
          refine lv_lload_n hx hb d_Mo_press_80 rfl (lv_at hl 0 rfl) ?_
          refine mw_last hx hb hK hP hD hS hM (j := 5) rfl (vp_in_nI (show i < 10 by omega) (by decide)) d_Mo_press_81 (fun f H locs hM hP hD hS => ?_)
          rw [show (nI i).toNatClampNeg = i from nI_clamp (by omega)] at hM
          refine lv_iinc (v := nI (i + 1)) (lv' := [(1, .int (nI (i + 1))), (2, .long ((Int32.toInt64 (X 3 i)) * (Int32.toInt64 (X 4 i)))), (0, .ref (AM 100))]) hx hb d_Mo_press_82 hl (k := 1) rfl (nI_1 i) (by decide) rfl (fun ls hl => ?_)
          refine lv_goto (tgt := 2) hx hb d_Mo_press_85 (by decide) ?_
          have hN : MW ct AM L (sxPress (fun _ => 0) i X Y1) (syPress (fun _ => 0) i X Y1) f := by
            (try simp only [sxPress, syPress, if_neg c_8])
            exact hM
          exact ih0 (i + 1) _ _ _ _ _ (by omega) hN  hP hD hS (lv_sub hl [0, 2] rfl) hfin0
  exact lp0 (n 0) 0 Y f _ _ _ (by omega) hM hP hD hS (lv_sub hl [0, 1] rfl) rfl
