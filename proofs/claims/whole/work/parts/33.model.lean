def FQ (n : Nat → Nat) (q : I2 × J2) : Prop :=
  (∀ o, o < n 1 → q.1 12 o = (-1) → ¬ mo_cv q.1 q.2 o (q.1 11 o).toNatClampNeg - 0 ≤ 0 → ¬ q.2 5 (q.1 11 o).toNatClampNeg = 0) ∧
  (∀ o, o < n 1 → ¬ q.1 12 o = (-1) → ¬ mo_cv q.1 q.2 o (q.1 11 o).toNatClampNeg - mo_cv q.1 q.2 o (q.1 12 o).toNatClampNeg ≤ 0 → ¬ q.2 5 (q.1 11 o).toNatClampNeg = 0) ∧
  (∀ o, o < n 1 → ¬ q.1 12 o = (-1) → mo_cv q.1 q.2 o (q.1 11 o).toNatClampNeg - mo_cv q.1 q.2 o (q.1 12 o).toNatClampNeg ≤ 0 → ¬ mo_cv q.1 q.2 o (q.1 11 o).toNatClampNeg - mo_cv q.1 q.2 o (q.1 12 o).toNatClampNeg = 0 → ¬ q.2 5 (q.1 12 o).toNatClampNeg = 0) ∧
  (∀ o, o < n 1 → q.1 12 o = (-1) → mo_cv q.1 q.2 o (q.1 11 o).toNatClampNeg - 0 ≤ 0 → mo_cv q.1 q.2 o (q.1 11 o).toNatClampNeg - 0 = 0) ∧
  (∀ o, o < n 1 → q.1 12 o = (-1) → 0 ≤ (lFlow1 (n 1) 0 q).2 18 o)
def mq1 (n : Nat → Nat) (q : I2 × J2) : I2 × J2 := lBurn (n 2) 0 q
def mq2 (n : Nat → Nat) (q : I2 × J2) : I2 × J2 := lFlow2 (n 1) 0 (lFlow1 (n 1) 0 (mq1 n q))
def mq3 (n : Nat → Nat) (q : I2 × J2) : I2 × J2 := lBlow (n 3) 0 (mq2 n q)
def mq4 (n : Nat → Nat) (q : I2 × J2) : I2 × J2 := lPress (n 0) 0 (mq3 n q)
def mq5 (n : Nat → Nat) (q : I2 × J2) : I2 × J2 := lAct3 (n 4) 0 (lAct2 (n 1) 0 (lAct1 (n 0) 0 (mq4 n q)))
def mq6 (n : Nat → Nat) (q : I2 × J2) : I2 × J2 := lBrea (n 5) 0 (mq5 n q)
def msec (n : Nat → Nat) (q : I2 × J2) : I2 × J2 := (up2 (mq6 n q).1 1 0 ((mq6 n q).1 1 0 + 1), (mq6 n q).2)
def msecL (n : Nat → Nat) : Nat → I2 × J2 → I2 × J2
  | 0, q => q
  | k + 1, q => msecL n k (msec n q)
def MOK (n : Nat → Nat) (q : I2 × J2) : Prop :=
  MI n q.1 ∧ MI n (mq1 n q).1 ∧ FQ n (mq1 n q) ∧ MI n (mq2 n q).1 ∧ MI n (mq3 n q).1 ∧ (∀ r, r < n 0 → 0 ≤ Int32.toInt64 ((mq3 n q).1 3 r) * Int32.toInt64 ((mq3 n q).1 4 r)) ∧ MI n (mq4 n q).1 ∧ MI n (mq5 n q).1 ∧ (mq6 n q).1 0 0 = q.1 0 0
theorem mrun_of {p : Int32} (c : ¬ m_in p 1 500 = 0) : ∃ N, N ≤ 500 ∧ p = nI N := by
  unfold m_in at c
  split at c
  · exact absurd rfl c
  · rename_i h1
    split at c
    · exact absurd rfl c
    · rename_i h2
      exact run_of ⟨Int32.not_lt.mp h1, Int32.not_lt.mp h2⟩
def kdMrun (X : I2) (p1 : Int32) : Int32 := if m_in p1 1 500 = 0 then 1 else if X 1 0 + p1 ≤ 100000 then 0 else 2
def qMrun (n : Nat → Nat) (X : I2) (Y : J2) (p1 : Int32) : I2 × J2 := if kdMrun X p1 = 0 then msecL n p1.toNatClampNeg (up2 X 0 0 0, Y) else (up2 X 0 0 (kdMrun X p1), Y)
def vMrun (n : Nat → Nat) (X : I2) (Y : J2) (p1 : Int32) : Int32 := if kdMrun X p1 = 0 then (qMrun n X Y p1).1 1 0 else 0

set_option maxHeartbeats 4000000 in
set_option maxRecDepth 100000 in
theorem c_Mo_run {l : Launch} {D : va_G} {ct : Nat → ClassId} {AM : Nat → Nat} {L : List Nat} {f : Nat → va_E} {X : I2} {Y : J2} {sz : Nat} {n : Nat → Nat} {p1 : Int32} (hM : MW ct AM L X Y f) (hrun : kdMrun X p1 = 0 → ∀ j, j < p1.toNatClampNeg → MOK n (msecL n j (up2 X 0 0 0, Y))) : Met l y_Mo_run (WS y_Mo_run b_Mo_run 3 (some .int)) { frames := 3, cells := 0, slots := 0, locals := 73 } (va_Pc [.ref (AM 100), .int p1] (WP D (TYS ct) L f sz)) (va_Qi (fun (r : Int32) f' => r = vMrun n X Y p1 ∧ MW ct AM L (qMrun n X Y p1).1 (qMrun n X Y p1).2 f') (fun f' t => WQ D (TYS ct) L f' (AA L f sz) t) (AA L f sz)) 0 0 (AA L f sz) := by
  refine Met.ofW (cc := b_Mo_run) (maxL := 3) (ret := (some .int)) (by decide) rfl ?_
  intro p e s m args below meth c s₁ B hml hv
  obtain ⟨rfl, hsz, hP, hK, hD0⟩ := hv
  subst hsz
  have hx := B.exec
  have hb := B.bytes
  have hret := B.returns
  have hts := atoms_spec (ws := WS y_Mo_run b_Mo_run 3 (some .int)) B.pre
  have hG : ∀ w ∈ GW, w.before _ s = true := fun w h => hts w (List.mem_cons_of_mem _ h)
  have hown : s.vm.findClass "SmokeZonesModel" = some m.cls := findClass_of_methodNamed B.named
  have hlocks := B.notSynchronized
  have hD : va_D (AA L f s.heap.size) (va_pl L f) := hD0.self (sz := s.heap.size)
  generalize hAe : AA L f s.heap.size = A at hD ⊢
  have hA : ∀ q : Nat, s.heap.size ≤ q → A q := fun q h => by rw [← hAe]; exact Or.inr h
  have hS : va_S A s.heap s.heap [] := va_S.rf
  have hl := lv_entry ([.ref (AM 100), .int p1]) (n := 3) (Nat.le_of_ble_eq_true rfl)
  rw [lg_entry_eq]
  generalize (lg_sl ([.ref (AM 100), .int p1]) ++ List.replicate (3 - (lg_sl ([.ref (AM 100), .int p1])).length) Slot.unset).toArray = ls at hl ⊢
  have hl : lv_has ls 3 [(0, .ref (AM 100)), (1, .int p1)] := hl
  generalize hQe : MQ below (va_Qi (fun (r : Int32) f' => r = vMrun n X Y p1 ∧ MW ct AM L (qMrun n X Y p1).1 (qMrun n X Y p1).2 f') (fun f' t => WQ D (TYS ct) L f' A t) A) [.ref (AM 100), .int p1].toArray s 0 0 A = QQ
  refine lv_aload_n hx hb d_Mo_run_0 rfl (lv_at hl 0 rfl) ?_
  refine lv_iload_n hx hb d_Mo_run_1 rfl (lv_at hl 1 rfl) ?_
  refine lv_iconst (v := 1) hx hb d_Mo_run_2 (by decide) ?_
  refine lv_sipush (v := 500) hx hb d_Mo_run_3 (by decide) ?_
  refine kS_ri ⟨hx, hb, hml, hown, hG⟩ (c_Mo_in ) (cwS 3 hG (gS k773 k774 k2 k775) rfl rfl rfl hd_Mo_in ⟨Nat.le_of_ble_eq_true rfl, Nat.le_of_ble_eq_true rfl⟩) hK hP hS rfl hl.1 rfl (Nat.le_of_ble_eq_true rfl) ⟨Nat.le_of_ble_eq_true rfl, Nat.le_of_ble_eq_true rfl⟩ d_Mo_run_6 (fun locs hS => ?_)
  refine lv_if_ne (tgt := 16) hx hb d_Mo_run_9 (by decide) (fun c_1 => ?_) (fun c_1 => ?_)
  · refine lv_aload_n hx hb d_Mo_run_16 rfl (lv_at hl 0 rfl) ?_
    refine pg_get (C := "SmokeZonesModel") (T := T_Mo) (N := 47) hx hb hG in_Mo hown hK hP hM.1.1 hM.1.2 rfl 1 (by decide) (hG _ k622) (fun _ h9 => h9) rfl d_Mo_run_17 ?_
    refine lv_iload_n hx hb d_Mo_run_20 rfl (lv_at hl 1 rfl) ?_
    refine lv_iadd hx hb d_Mo_run_21 ?_
    refine lv_ldc hx hb hown (hG _ k796) d_Mo_run_22 ?_
    refine lv_icmp_le (tgt := 31) hx hb d_Mo_run_24 (by decide) (fun c_2 => ?_) (fun c_2 => ?_)
    · refine lv_iconst (v := 0) hx hb d_Mo_run_31 (by decide) ?_
      refine pg_put (C := "SmokeZonesModel") (T := T_Mo) (N := 47) (ty := .int) hx hb hG in_Mo ty_Mo ok_Mo nm_Mo hown hK hP hD hS hM.1.1 hM.1.2 rfl 0 (by decide) (hG _ k621) (fun _ h9 => h9) rfl (by decide +kernel) rfl rfl (Nat.le_of_ble_eq_true rfl) d_Mo_run_32 (fun H locs hP hD hS => ?_)
      have hM := hM.putX (j := 0) (v := 0) rfl moF_0
      generalize va_up _ (AM 100) _ = f at hM hP hD
      refine lv_iconst (v := 0) hx hb d_Mo_run_35 (by decide) ?_
      refine lv_istore_n (lv' := [(2, .int 0), (0, .ref (AM 100)), (1, .int p1)]) hx hb d_Mo_run_36 rfl hl (by decide) rfl (fun ls hl => ?_)
      have hkd : kdMrun X p1 = 0 := by simp only [kdMrun, if_neg c_1, if_pos c_2]
      obtain ⟨N, hN5, eN⟩ := mrun_of c_1
      have hcl : p1.toNatClampNeg = N := by rw [eN]; exact nI_clamp (by omega)
      have hrun := hrun hkd
      rw [hcl] at hrun
      have lp : ∀ (k i : Nat) (q : I2 × J2) (f : Nat → va_E) (H : Heap) (locs : List Loc) (ls : Array Slot), i + k = N → MW ct AM L q.1 q.2 f → q.1 0 0 = 0 → va_P D vwCl (va_pl L f) H → va_D A (va_pl L f) → va_S A s.heap H locs → lv_has ls 3 [(2, .int (nI i)), (0, .ref (AM 100)), (1, .int p1)] → msecL n k q = msecL n N (up2 X 0 0 0, Y) → (∀ j, j < k → MOK n (msecL n j q)) → W p l e (headSpec (WS y_Mo_run b_Mo_run 3 (some .int)) { frames := 3, cells := 0, slots := 0, locals := 73 }).room s m [.ref (AM 100), .int p1].toArray below meth c H locs 0 0 QQ (F0 m 37 ls []) := by
        intro k
        induction k with
        | zero =>
          intro i q f H locs ls hik hM hz hP hD hS hl hfin hok
          have hfin : q = msecL n N (up2 X 0 0 0, Y) := hfin
          refine lv_iload_n hx hb d_Mo_run_37 rfl (lv_at hl 0 rfl) ?_
          refine lv_iload_n hx hb d_Mo_run_38 rfl (lv_at hl 2 rfl) ?_
          refine lv_icmp_ge (tgt := 89) hx hb d_Mo_run_39 (by decide) (fun c_3 => ?_) (fun c_3 => ?_)
          · refine lv_aload_n hx hb d_Mo_run_89 rfl (lv_at hl 1 rfl) ?_
            refine pg_get (C := "SmokeZonesModel") (T := T_Mo) (N := 47) hx hb hG in_Mo hown hK hP hM.1.1 hM.1.2 rfl 0 (by decide) (hG _ k621) (fun _ h9 => h9) rfl d_Mo_run_90 ?_
            refine lv_topi (fun y_4 ey_4 => ?_)
            obtain rfl : y_4 = 0 := ey_4.trans (by simp [up2, hz])
            refine lv_if_le (tgt := 100) hx hb d_Mo_run_93 (by decide) (fun c_5 => ?_) (fun c_5 => ?_)
            · refine lv_aload_n hx hb d_Mo_run_100 rfl (lv_at hl 1 rfl) ?_
              refine pg_get (C := "SmokeZonesModel") (T := T_Mo) (N := 47) hx hb hG in_Mo hown hK hP hM.1.1 hM.1.2 rfl 1 (by decide) (hG _ k622) (fun _ h9 => h9) rfl d_Mo_run_101 ?_
              subst hQe
              have hq9 : qMrun n X Y p1 = q := by rw [qMrun, if_pos hkd, hcl]; exact hfin.symm
              exact W.iret hx hb hret (fun t ht hW => ⟨⟨_, f, rfl, ⟨by rw [vMrun, if_pos hkd, hq9], by rw [hq9]; exact hM⟩, by rw [ht]; exact hP, va_K.moved hW.alike hK, hD⟩, hS.F ht⟩) hS.2.2 d_Mo_run_104
            · exact absurd (by decide) c_5
          · exact (ge_yes5 (n := N) (i := i) (by omega) (by omega) (eN ▸ c_3)).elim
        | succ k ih =>
          intro i q f H locs ls hik hM hz hP hD hS hl hfin hok
          have hi : i < N := by omega
          obtain ⟨hI1, hI2, hF, hI3, hI4, hPh, hI5, hI6, h00⟩ : MOK n q := hok 0 (by omega)
          refine lv_iload_n hx hb d_Mo_run_37 rfl (lv_at hl 0 rfl) ?_
          refine lv_iload_n hx hb d_Mo_run_38 rfl (lv_at hl 2 rfl) ?_
          refine lv_icmp_ge (tgt := 89) hx hb d_Mo_run_39 (by decide) (fun c_6 => ?_) (fun c_6 => ?_)
          · exact (ge_no5 hi (by omega) (eN ▸ c_6)).elim
          · refine lv_aload_n hx hb d_Mo_run_42 rfl (lv_at hl 1 rfl) ?_
            refine pg_get (C := "SmokeZonesModel") (T := T_Mo) (N := 47) hx hb hG in_Mo hown hK hP hM.1.1 hM.1.2 rfl 0 (by decide) (hG _ k621) (fun _ h9 => h9) rfl d_Mo_run_43 ?_
            refine lv_topi (fun y_7 ey_7 => ?_)
            obtain rfl : y_7 = 0 := ey_7.trans (by simp [up2, hz])
            refine lv_if_ne (tgt := 89) hx hb d_Mo_run_46 (by decide) (fun c_8 => ?_) (fun c_8 => ?_)
            · exact absurd (by decide) c_8
            · refine lv_aload_n hx hb d_Mo_run_49 rfl (lv_at hl 1 rfl) ?_
              refine kV_ws ⟨hx, hb, hml, hown, hG⟩ (c_Mo_burn hM hI1) (cwV 0 hG (gV k821 k823 ks_Mo_burn k2 k824) rfl rfl rfl hd_Mo_burn ⟨Nat.le_of_ble_eq_true rfl, Nat.le_of_ble_eq_true rfl⟩) hK hP hD hS hA hM.1.1 hM.1.2 rfl rfl hl.1 rfl (Nat.le_of_ble_eq_true rfl) ⟨Nat.le_of_ble_eq_true rfl, Nat.le_of_ble_eq_true rfl⟩ d_Mo_run_50 (fun f H locs hM hP hD hS => ?_)
              have hM : MW ct AM L (mq1 n q).1 (mq1 n q).2 f := hM
              refine lv_aload_n hx hb d_Mo_run_53 rfl (lv_at hl 1 rfl) ?_
              refine kV_ws ⟨hx, hb, hml, hown, hG⟩ (c_Mo_flow hM hI2 hF.1 hF.2.1 hF.2.2.1 hF.2.2.2.1 hF.2.2.2.2) (cwV 0 hG (gV k826 k828 ks_Mo_flow k2 k829) rfl rfl rfl hd_Mo_flow ⟨Nat.le_of_ble_eq_true rfl, Nat.le_of_ble_eq_true rfl⟩) hK hP hD hS hA hM.1.1 hM.1.2 rfl rfl hl.1 rfl (Nat.le_of_ble_eq_true rfl) ⟨Nat.le_of_ble_eq_true rfl, Nat.le_of_ble_eq_true rfl⟩ d_Mo_run_54 (fun f H locs hM hP hD hS => ?_)
              have hM : MW ct AM L (mq2 n q).1 (mq2 n q).2 f := hM
              refine lv_aload_n hx hb d_Mo_run_57 rfl (lv_at hl 1 rfl) ?_
              refine kV_ws ⟨hx, hb, hml, hown, hG⟩ (c_Mo_blow hM hI3) (cwV 0 hG (gV k840 k842 ks_Mo_blow k2 k843) rfl rfl rfl hd_Mo_blow ⟨Nat.le_of_ble_eq_true rfl, Nat.le_of_ble_eq_true rfl⟩) hK hP hD hS hA hM.1.1 hM.1.2 rfl rfl hl.1 rfl (Nat.le_of_ble_eq_true rfl) ⟨Nat.le_of_ble_eq_true rfl, Nat.le_of_ble_eq_true rfl⟩ d_Mo_run_58 (fun f H locs hM hP hD hS => ?_)
              have hM : MW ct AM L (mq3 n q).1 (mq3 n q).2 f := hM
              refine lv_aload_n hx hb d_Mo_run_61 rfl (lv_at hl 1 rfl) ?_
              refine kV_ws ⟨hx, hb, hml, hown, hG⟩ (c_Mo_press hM hI4 hPh) (cwV 0 hG (gV k844 k846 ks_Mo_press k2 k847) rfl rfl rfl hd_Mo_press ⟨Nat.le_of_ble_eq_true rfl, Nat.le_of_ble_eq_true rfl⟩) hK hP hD hS hA hM.1.1 hM.1.2 rfl rfl hl.1 rfl (Nat.le_of_ble_eq_true rfl) ⟨Nat.le_of_ble_eq_true rfl, Nat.le_of_ble_eq_true rfl⟩ d_Mo_run_62 (fun f H locs hM hP hD hS => ?_)
              have hM : MW ct AM L (mq4 n q).1 (mq4 n q).2 f := hM
              refine lv_aload_n hx hb d_Mo_run_65 rfl (lv_at hl 1 rfl) ?_
              refine kV_ws ⟨hx, hb, hml, hown, hG⟩ (c_Mo_act hM hI5) (cwV 0 hG (gV k848 k850 ks_Mo_act k2 k851) rfl rfl rfl hd_Mo_act ⟨Nat.le_of_ble_eq_true rfl, Nat.le_of_ble_eq_true rfl⟩) hK hP hD hS hA hM.1.1 hM.1.2 rfl rfl hl.1 rfl (Nat.le_of_ble_eq_true rfl) ⟨Nat.le_of_ble_eq_true rfl, Nat.le_of_ble_eq_true rfl⟩ d_Mo_run_66 (fun f H locs hM hP hD hS => ?_)
              have hM : MW ct AM L (mq5 n q).1 (mq5 n q).2 f := hM
              refine lv_aload_n hx hb d_Mo_run_69 rfl (lv_at hl 1 rfl) ?_
              refine kV_ws ⟨hx, hb, hml, hown, hG⟩ (c_Mo_breathe hM hI6) (cwV 0 hG (gV k861 k863 ks_Mo_breathe k2 k864) rfl rfl rfl hd_Mo_breathe ⟨Nat.le_of_ble_eq_true rfl, Nat.le_of_ble_eq_true rfl⟩) hK hP hD hS hA hM.1.1 hM.1.2 rfl rfl hl.1 rfl (Nat.le_of_ble_eq_true rfl) ⟨Nat.le_of_ble_eq_true rfl, Nat.le_of_ble_eq_true rfl⟩ d_Mo_run_70 (fun f H locs hM hP hD hS => ?_)
              have hM : MW ct AM L (mq6 n q).1 (mq6 n q).2 f := hM
              refine lv_aload_n hx hb d_Mo_run_73 rfl (lv_at hl 1 rfl) ?_
              refine lv_dup hx hb d_Mo_run_74 rfl ?_
              refine pg_get (C := "SmokeZonesModel") (T := T_Mo) (N := 47) hx hb hG in_Mo hown hK hP hM.1.1 hM.1.2 rfl 1 (by decide) (hG _ k622) (fun _ h9 => h9) rfl d_Mo_run_75 ?_
              refine lv_iconst (v := 1) hx hb d_Mo_run_78 (by decide) ?_
              refine lv_iadd hx hb d_Mo_run_79 ?_
              refine pg_put (C := "SmokeZonesModel") (T := T_Mo) (N := 47) (ty := .int) hx hb hG in_Mo ty_Mo ok_Mo nm_Mo hown hK hP hD hS hM.1.1 hM.1.2 rfl 1 (by decide) (hG _ k622) (fun _ h9 => h9) rfl (by decide +kernel) rfl rfl (Nat.le_of_ble_eq_true rfl) d_Mo_run_80 (fun H locs hP hD hS => ?_)
              have hM := hM.putX (j := 1) (v := (((mq6 n q).1) 1 0) + 1) rfl moF_1
              generalize va_up _ (AM 100) _ = f at hM hP hD
              refine lv_iinc (v := nI (i + 1)) (lv' := [(2, .int (nI (i + 1))), (0, .ref (AM 100)), (1, .int p1)]) hx hb d_Mo_run_83 hl (k := 0) rfl (nI_1 i) (by decide) rfl (fun ls hl => ?_)
              refine lv_goto (tgt := 37) hx hb d_Mo_run_86 (by decide) ?_
              exact ih (i + 1) (msec n q) _ _ _ _ (by omega) hM (by rw [← hz, ← h00]; simp [msec, up2]) hP hD hS (lv_sub hl [0, 1, 2] rfl) hfin (fun j hj => hok (j + 1) (by omega))
      exact lp N 0 (up2 X 0 0 0, Y) f _ _ _ (by omega) hM (by simp [up2]) hP hD hS (lv_sub hl [0, 1, 2] rfl) rfl hrun
    · refine lv_iconst (v := 2) hx hb d_Mo_run_27 (by decide) ?_
      refine lv_goto (tgt := 32) hx hb d_Mo_run_28 (by decide) ?_
      refine pg_put (C := "SmokeZonesModel") (T := T_Mo) (N := 47) (ty := .int) hx hb hG in_Mo ty_Mo ok_Mo nm_Mo hown hK hP hD hS hM.1.1 hM.1.2 rfl 0 (by decide) (hG _ k621) (fun _ h9 => h9) rfl (by decide +kernel) rfl rfl (Nat.le_of_ble_eq_true rfl) d_Mo_run_32 (fun H locs hP hD hS => ?_)
      have hM := hM.putX (j := 0) (v := 2) rfl moF_0
      generalize va_up _ (AM 100) _ = f at hM hP hD
      refine lv_iconst (v := 0) hx hb d_Mo_run_35 (by decide) ?_
      refine lv_istore_n (lv' := [(2, .int 0), (0, .ref (AM 100)), (1, .int p1)]) hx hb d_Mo_run_36 rfl hl (by decide) rfl (fun ls hl => ?_)
      refine lv_iload_n hx hb d_Mo_run_37 rfl (lv_at hl 0 rfl) ?_
      refine lv_iload_n hx hb d_Mo_run_38 rfl (lv_at hl 2 rfl) ?_
      refine lv_icmp_ge (tgt := 89) hx hb d_Mo_run_39 (by decide) (fun c_9 => ?_) (fun c_9 => ?_)
      · refine lv_aload_n hx hb d_Mo_run_89 rfl (lv_at hl 1 rfl) ?_
        refine pg_get (C := "SmokeZonesModel") (T := T_Mo) (N := 47) hx hb hG in_Mo hown hK hP hM.1.1 hM.1.2 rfl 0 (by decide) (hG _ k621) (fun _ h9 => h9) rfl d_Mo_run_90 ?_
        refine lv_topi (fun y_10 ey_10 => ?_)
        obtain rfl : y_10 = 2 := ey_10.trans (by simp [up2])
        refine lv_if_le (tgt := 100) hx hb d_Mo_run_93 (by decide) (fun c_11 => ?_) (fun c_11 => ?_)
        · exact absurd c_11 (by decide)
        · refine lv_iconst (v := 0) hx hb d_Mo_run_96 (by decide) ?_
          refine lv_goto (tgt := 104) hx hb d_Mo_run_97 (by decide) ?_
          subst hQe
          have hkd : kdMrun X p1 = 2 := by simp only [kdMrun, if_neg c_1, if_neg c_2]
          have hne : ¬ kdMrun X p1 = 0 := by rw [hkd]; decide
          have hq9 : qMrun n X Y p1 = (up2 X 0 0 2, Y) := by rw [qMrun, if_neg hne, hkd]
          exact W.iret hx hb hret (fun t ht hW => ⟨⟨_, f, rfl, ⟨by rw [vMrun, if_neg hne], by rw [hq9]; exact hM⟩, by rw [ht]; exact hP, va_K.moved hW.alike hK, hD⟩, hS.F ht⟩) hS.2.2 d_Mo_run_104
      · refine lv_aload_n hx hb d_Mo_run_42 rfl (lv_at hl 1 rfl) ?_
        refine pg_get (C := "SmokeZonesModel") (T := T_Mo) (N := 47) hx hb hG in_Mo hown hK hP hM.1.1 hM.1.2 rfl 0 (by decide) (hG _ k621) (fun _ h9 => h9) rfl d_Mo_run_43 ?_
        refine lv_topi (fun y_12 ey_12 => ?_)
        obtain rfl : y_12 = 2 := ey_12.trans (by simp [up2])
        refine lv_if_ne (tgt := 89) hx hb d_Mo_run_46 (by decide) (fun c_13 => ?_) (fun c_13 => ?_)
        · refine lv_aload_n hx hb d_Mo_run_89 rfl (lv_at hl 1 rfl) ?_
          refine pg_get (C := "SmokeZonesModel") (T := T_Mo) (N := 47) hx hb hG in_Mo hown hK hP hM.1.1 hM.1.2 rfl 0 (by decide) (hG _ k621) (fun _ h9 => h9) rfl d_Mo_run_90 ?_
          refine lv_topi (fun y_14 ey_14 => ?_)
          obtain rfl : y_14 = 2 := ey_14.trans (by simp [up2])
          refine lv_if_le (tgt := 100) hx hb d_Mo_run_93 (by decide) (fun c_15 => ?_) (fun c_15 => ?_)
          · exact absurd c_15 (by decide)
          · refine lv_iconst (v := 0) hx hb d_Mo_run_96 (by decide) ?_
            refine lv_goto (tgt := 104) hx hb d_Mo_run_97 (by decide) ?_
            subst hQe
            have hkd : kdMrun X p1 = 2 := by simp only [kdMrun, if_neg c_1, if_neg c_2]
            have hne : ¬ kdMrun X p1 = 0 := by rw [hkd]; decide
            have hq9 : qMrun n X Y p1 = (up2 X 0 0 2, Y) := by rw [qMrun, if_neg hne, hkd]
            exact W.iret hx hb hret (fun t ht hW => ⟨⟨_, f, rfl, ⟨by rw [vMrun, if_neg hne], by rw [hq9]; exact hM⟩, by rw [ht]; exact hP, va_K.moved hW.alike hK, hD⟩, hS.F ht⟩) hS.2.2 d_Mo_run_104
        · exact absurd c_13 (by decide)
  · refine lv_iconst (v := 1) hx hb d_Mo_run_12 (by decide) ?_
    refine lv_goto (tgt := 32) hx hb d_Mo_run_13 (by decide) ?_
    refine pg_put (C := "SmokeZonesModel") (T := T_Mo) (N := 47) (ty := .int) hx hb hG in_Mo ty_Mo ok_Mo nm_Mo hown hK hP hD hS hM.1.1 hM.1.2 rfl 0 (by decide) (hG _ k621) (fun _ h9 => h9) rfl (by decide +kernel) rfl rfl (Nat.le_of_ble_eq_true rfl) d_Mo_run_32 (fun H locs hP hD hS => ?_)
    have hM := hM.putX (j := 0) (v := 1) rfl moF_0
    generalize va_up _ (AM 100) _ = f at hM hP hD
    refine lv_iconst (v := 0) hx hb d_Mo_run_35 (by decide) ?_
    refine lv_istore_n (lv' := [(2, .int 0), (0, .ref (AM 100)), (1, .int p1)]) hx hb d_Mo_run_36 rfl hl (by decide) rfl (fun ls hl => ?_)
    refine lv_iload_n hx hb d_Mo_run_37 rfl (lv_at hl 0 rfl) ?_
    refine lv_iload_n hx hb d_Mo_run_38 rfl (lv_at hl 2 rfl) ?_
    refine lv_icmp_ge (tgt := 89) hx hb d_Mo_run_39 (by decide) (fun c_16 => ?_) (fun c_16 => ?_)
    · refine lv_aload_n hx hb d_Mo_run_89 rfl (lv_at hl 1 rfl) ?_
      refine pg_get (C := "SmokeZonesModel") (T := T_Mo) (N := 47) hx hb hG in_Mo hown hK hP hM.1.1 hM.1.2 rfl 0 (by decide) (hG _ k621) (fun _ h9 => h9) rfl d_Mo_run_90 ?_
      refine lv_topi (fun y_17 ey_17 => ?_)
      obtain rfl : y_17 = 1 := ey_17.trans (by simp [up2])
      refine lv_if_le (tgt := 100) hx hb d_Mo_run_93 (by decide) (fun c_18 => ?_) (fun c_18 => ?_)
      · exact absurd c_18 (by decide)
      · refine lv_iconst (v := 0) hx hb d_Mo_run_96 (by decide) ?_
        refine lv_goto (tgt := 104) hx hb d_Mo_run_97 (by decide) ?_
        subst hQe
        have hkd : kdMrun X p1 = 1 := by simp only [kdMrun, if_pos c_1]
        have hne : ¬ kdMrun X p1 = 0 := by rw [hkd]; decide
        have hq9 : qMrun n X Y p1 = (up2 X 0 0 1, Y) := by rw [qMrun, if_neg hne, hkd]
        exact W.iret hx hb hret (fun t ht hW => ⟨⟨_, f, rfl, ⟨by rw [vMrun, if_neg hne], by rw [hq9]; exact hM⟩, by rw [ht]; exact hP, va_K.moved hW.alike hK, hD⟩, hS.F ht⟩) hS.2.2 d_Mo_run_104
    · refine lv_aload_n hx hb d_Mo_run_42 rfl (lv_at hl 1 rfl) ?_
      refine pg_get (C := "SmokeZonesModel") (T := T_Mo) (N := 47) hx hb hG in_Mo hown hK hP hM.1.1 hM.1.2 rfl 0 (by decide) (hG _ k621) (fun _ h9 => h9) rfl d_Mo_run_43 ?_
      refine lv_topi (fun y_19 ey_19 => ?_)
      obtain rfl : y_19 = 1 := ey_19.trans (by simp [up2])
      refine lv_if_ne (tgt := 89) hx hb d_Mo_run_46 (by decide) (fun c_20 => ?_) (fun c_20 => ?_)
      · refine lv_aload_n hx hb d_Mo_run_89 rfl (lv_at hl 1 rfl) ?_
        refine pg_get (C := "SmokeZonesModel") (T := T_Mo) (N := 47) hx hb hG in_Mo hown hK hP hM.1.1 hM.1.2 rfl 0 (by decide) (hG _ k621) (fun _ h9 => h9) rfl d_Mo_run_90 ?_
        refine lv_topi (fun y_21 ey_21 => ?_)
        obtain rfl : y_21 = 1 := ey_21.trans (by simp [up2])
        refine lv_if_le (tgt := 100) hx hb d_Mo_run_93 (by decide) (fun c_22 => ?_) (fun c_22 => ?_)
        · exact absurd c_22 (by decide)
        · refine lv_iconst (v := 0) hx hb d_Mo_run_96 (by decide) ?_
          refine lv_goto (tgt := 104) hx hb d_Mo_run_97 (by decide) ?_
          subst hQe
          have hkd : kdMrun X p1 = 1 := by simp only [kdMrun, if_pos c_1]
          have hne : ¬ kdMrun X p1 = 0 := by rw [hkd]; decide
          have hq9 : qMrun n X Y p1 = (up2 X 0 0 1, Y) := by rw [qMrun, if_neg hne, hkd]
          exact W.iret hx hb hret (fun t ht hW => ⟨⟨_, f, rfl, ⟨by rw [vMrun, if_neg hne], by rw [hq9]; exact hM⟩, by rw [ht]; exact hP, va_K.moved hW.alike hK, hD⟩, hS.F ht⟩) hS.2.2 d_Mo_run_104
      · exact absurd c_20 (by decide)

def mhere (Y : J2) : Nat → Nat → Int64 → Int64
  | 0, _, a => a
  | k + 1, i, a => mhere Y k (i + 1) (a + Y 5 i)

def vMbal (n : Nat → Nat) (X : I2) (Y : J2) (p1 : Int32) : Int64 := (if (m_in p1 0 4) = 0 then 0 else (if p1 = 0 then Y 43 0 else (if p1 = 1 then (mhere Y (n 0) 0 0) else (if p1 = 2 then Y 44 0 else (if p1 = 3 then Y 45 0 else Y 46 0)))))
set_option maxHeartbeats 4000000 in
set_option maxRecDepth 100000 in
theorem c_Mo_balance {l : Launch} {D : va_G} {ct : Nat → ClassId} {AM : Nat → Nat} {L : List Nat} {f : Nat → va_E} {X : I2} {Y : J2} {sz : Nat} {n : Nat → Nat} {p1 : Int32} (hM : MW ct AM L X Y f) (h2 : X 2 0 = nI (n 0)) (hc : n 0 ≤ 10) : Met l y_Mo_balance (WS y_Mo_balance b_Mo_balance 5 (some .long)) { frames := 1, cells := 0, slots := 0, locals := 22 } (va_Pc [.ref (AM 100), .int p1] (WP D (TYS ct) L f sz)) (va_Ql (fun (r : Int64) f' => r = vMbal n X Y p1 ∧ MW ct AM L (up2 X 0 0 (if m_in p1 0 4 = 0 then 1 else 0)) Y f') (fun f' t => WQ D (TYS ct) L f' (AA L f sz) t) (AA L f sz)) 0 0 (AA L f sz) := by
  refine Met.ofW (cc := b_Mo_balance) (maxL := 5) (ret := (some .long)) (by decide) rfl ?_
  intro p e s m args below meth c s₁ B hml hv
  obtain ⟨rfl, hsz, hP, hK, hD0⟩ := hv
  subst hsz
  have hx := B.exec
  have hb := B.bytes
  have hret := B.returns
  have hts := atoms_spec (ws := WS y_Mo_balance b_Mo_balance 5 (some .long)) B.pre
  have hG : ∀ w ∈ GW, w.before _ s = true := fun w h => hts w (List.mem_cons_of_mem _ h)
  have hown : s.vm.findClass "SmokeZonesModel" = some m.cls := findClass_of_methodNamed B.named
  have hlocks := B.notSynchronized
  have hD : va_D (AA L f s.heap.size) (va_pl L f) := hD0.self (sz := s.heap.size)
  generalize hAe : AA L f s.heap.size = A at hD ⊢
  have hA : ∀ q : Nat, s.heap.size ≤ q → A q := fun q h => by rw [← hAe]; exact Or.inr h
  have hS : va_S A s.heap s.heap [] := va_S.rf
  have hl := lv_entry ([.ref (AM 100), .int p1]) (n := 5) (Nat.le_of_ble_eq_true rfl)
  rw [lg_entry_eq]
  generalize (lg_sl ([.ref (AM 100), .int p1]) ++ List.replicate (5 - (lg_sl ([.ref (AM 100), .int p1])).length) Slot.unset).toArray = ls at hl ⊢
  have hl : lv_has ls 5 [(0, .ref (AM 100)), (1, .int p1)] := hl
  generalize hQe : MQ below (va_Ql (fun (r : Int64) f' => r = vMbal n X Y p1 ∧ MW ct AM L (up2 X 0 0 (if m_in p1 0 4 = 0 then 1 else 0)) Y f') (fun f' t => WQ D (TYS ct) L f' A t) A) [.ref (AM 100), .int p1].toArray s 0 0 A = QQ
  refine lv_aload_n hx hb d_Mo_balance_0 rfl (lv_at hl 0 rfl) ?_
  refine lv_iload_n hx hb d_Mo_balance_1 rfl (lv_at hl 1 rfl) ?_
  refine lv_iconst (v := 0) hx hb d_Mo_balance_2 (by decide) ?_
  refine lv_iconst (v := 4) hx hb d_Mo_balance_3 (by decide) ?_
  refine kS_ri ⟨hx, hb, hml, hown, hG⟩ (c_Mo_in ) (cwS 3 hG (gS k773 k774 k2 k775) rfl rfl rfl hd_Mo_in ⟨Nat.le_of_ble_eq_true rfl, Nat.le_of_ble_eq_true rfl⟩) hK hP hS rfl hl.1 rfl (Nat.le_of_ble_eq_true rfl) ⟨Nat.le_of_ble_eq_true rfl, Nat.le_of_ble_eq_true rfl⟩ d_Mo_balance_4 (fun locs hS => ?_)
  refine lv_if_eq (tgt := 14) hx hb d_Mo_balance_7 (by decide) (fun c_1 => ?_) (fun c_1 => ?_)
  · refine lv_iconst (v := 1) hx hb d_Mo_balance_14 (by decide) ?_
    refine pg_put (C := "SmokeZonesModel") (T := T_Mo) (N := 47) (ty := .int) hx hb hG in_Mo ty_Mo ok_Mo nm_Mo hown hK hP hD hS hM.1.1 hM.1.2 rfl 0 (by decide) (hG _ k621) (fun _ h9 => h9) rfl (by decide +kernel) rfl rfl (Nat.le_of_ble_eq_true rfl) d_Mo_balance_15 (fun H locs hP hD hS => ?_)
    have hM := hM.putX (j := 0) (v := 1) rfl moF_0
    generalize va_up _ (AM 100) _ = f at hM hP hD
    refine lv_aload_n hx hb d_Mo_balance_18 rfl (lv_at hl 0 rfl) ?_
    refine pg_get (C := "SmokeZonesModel") (T := T_Mo) (N := 47) hx hb hG in_Mo hown hK hP hM.1.1 hM.1.2 rfl 0 (by decide) (hG _ k621) (fun _ h9 => h9) rfl d_Mo_balance_19 ?_
    refine lv_topi (fun y_2 ey_2 => ?_)
    obtain rfl : y_2 = 1 := ey_2.trans (by simp [up2])
    refine lv_if_le (tgt := 27) hx hb d_Mo_balance_22 (by decide) (fun c_3 => ?_) (fun c_3 => ?_)
    · exact absurd c_3 (by decide)
    · refine lv_lconst (v := 0) hx hb d_Mo_balance_25 (by decide) ?_
      subst hQe
      exact W.lret hx hb hret (fun t ht hW => ⟨⟨_, f, rfl, ⟨by simp only [vMbal, if_pos c_1, if_neg c_3], by simp only [if_pos c_1]; exact hM⟩, by rw [ht]; exact hP, va_K.moved hW.alike hK, hD⟩, hS.F ht⟩) hS.2.2 d_Mo_balance_26
  · refine lv_iconst (v := 0) hx hb d_Mo_balance_10 (by decide) ?_
    refine lv_goto (tgt := 15) hx hb d_Mo_balance_11 (by decide) ?_
    refine pg_put (C := "SmokeZonesModel") (T := T_Mo) (N := 47) (ty := .int) hx hb hG in_Mo ty_Mo ok_Mo nm_Mo hown hK hP hD hS hM.1.1 hM.1.2 rfl 0 (by decide) (hG _ k621) (fun _ h9 => h9) rfl (by decide +kernel) rfl rfl (Nat.le_of_ble_eq_true rfl) d_Mo_balance_15 (fun H locs hP hD hS => ?_)
    have hM := hM.putX (j := 0) (v := 0) rfl moF_0
    generalize va_up _ (AM 100) _ = f at hM hP hD
    refine lv_aload_n hx hb d_Mo_balance_18 rfl (lv_at hl 0 rfl) ?_
    refine pg_get (C := "SmokeZonesModel") (T := T_Mo) (N := 47) hx hb hG in_Mo hown hK hP hM.1.1 hM.1.2 rfl 0 (by decide) (hG _ k621) (fun _ h9 => h9) rfl d_Mo_balance_19 ?_
    refine lv_topi (fun y_4 ey_4 => ?_)
    obtain rfl : y_4 = 0 := ey_4.trans (by simp [up2])
    refine lv_if_le (tgt := 27) hx hb d_Mo_balance_22 (by decide) (fun c_5 => ?_) (fun c_5 => ?_)
    · refine lv_lconst (v := 0) hx hb d_Mo_balance_27 (by decide) ?_
      refine lv_lstore_n (lv' := [(2, .long 0), (0, .ref (AM 100)), (1, .int p1)]) hx hb d_Mo_balance_28 rfl hl (by decide) rfl (fun ls hl => ?_)
      refine lv_iconst (v := 0) hx hb d_Mo_balance_29 (by decide) ?_
      refine lv_istore (lv' := [(4, .int 0), (2, .long 0), (0, .ref (AM 100)), (1, .int p1)]) hx hb d_Mo_balance_30 hl (by decide) rfl (fun ls hl => ?_)
      have lp : ∀ (k i : Nat) (a : Int64) (locs : List Loc) (ls : Array Slot), i + k = n 0 → va_S A s.heap H locs → lv_has ls 5 [(4, .int (nI i)), (2, .long a), (0, .ref (AM 100)), (1, .int p1)] → mhere Y k i a = mhere Y (n 0) 0 0 → W p l e (headSpec (WS y_Mo_balance b_Mo_balance 5 (some .long)) { frames := 1, cells := 0, slots := 0, locals := 22 }).room s m [.ref (AM 100), .int p1].toArray below meth c H locs 0 0 QQ (F0 m 32 ls []) := by
        intro k
        induction k with
        | zero =>
          intro i a locs ls hik hS hl hfin
          have hfin : a = mhere Y (n 0) 0 0 := hfin
          refine lv_iload hx hb d_Mo_balance_32 (lv_at hl 0 rfl) ?_
          refine lv_aload_n hx hb d_Mo_balance_34 rfl (lv_at hl 2 rfl) ?_
          refine pg_get (C := "SmokeZonesModel") (T := T_Mo) (N := 47) hx hb hG in_Mo hown hK hP hM.1.1 hM.1.2 rfl 2 (by decide) (hG _ k623) (fun _ h9 => h9) rfl d_Mo_balance_35 ?_
          refine lv_topi (fun y_6 ey_6 => ?_)
          obtain rfl : y_6 = nI (n 0) := ey_6.trans (by simp [up2, h2])
          refine lv_icmp_ge (tgt := 57) hx hb d_Mo_balance_38 (by decide) (fun c_7 => ?_) (fun c_7 => ?_)
          · refine lv_iload_n hx hb d_Mo_balance_57 rfl (lv_at hl 3 rfl) ?_
            refine lv_if_ne (tgt := 68) hx hb d_Mo_balance_58 (by decide) (fun c_8 => ?_) (fun c_8 => ?_)
            · refine lv_iload_n hx hb d_Mo_balance_68 rfl (lv_at hl 3 rfl) ?_
              refine lv_iconst (v := 1) hx hb d_Mo_balance_69 (by decide) ?_
              refine lv_icmp_ne (tgt := 77) hx hb d_Mo_balance_70 (by decide) (fun c_9 => ?_) (fun c_9 => ?_)
              · refine lv_iload_n hx hb d_Mo_balance_77 rfl (lv_at hl 3 rfl) ?_
                refine lv_iconst (v := 2) hx hb d_Mo_balance_78 (by decide) ?_
                refine lv_icmp_ne (tgt := 89) hx hb d_Mo_balance_79 (by decide) (fun c_10 => ?_) (fun c_10 => ?_)
                · refine lv_iload_n hx hb d_Mo_balance_89 rfl (lv_at hl 3 rfl) ?_
                  refine lv_iconst (v := 3) hx hb d_Mo_balance_90 (by decide) ?_
                  refine lv_icmp_ne (tgt := 101) hx hb d_Mo_balance_91 (by decide) (fun c_11 => ?_) (fun c_11 => ?_)
                  · refine lv_aload_n hx hb d_Mo_balance_101 rfl (lv_at hl 2 rfl) ?_
                    refine pg_get (C := "SmokeZonesModel") (T := T_Mo) (N := 47) hx hb hG in_Mo hown hK hP hM.1.1 hM.1.2 rfl 46 (by decide) (hG _ k667) (fun _ h9 => h9) rfl d_Mo_balance_102 ?_
                    subst hQe
                    exact W.lret hx hb hret (fun t ht hW => ⟨⟨_, f, rfl, ⟨by simp only [vMbal, if_neg c_1, if_neg c_8, if_neg c_9, if_neg c_10, if_neg c_11], by simp only [if_neg c_1]; exact hM⟩, by rw [ht]; exact hP, va_K.moved hW.alike hK, hD⟩, hS.F ht⟩) hS.2.2 d_Mo_balance_105
                  · refine lv_aload_n hx hb d_Mo_balance_94 rfl (lv_at hl 2 rfl) ?_
                    refine pg_get (C := "SmokeZonesModel") (T := T_Mo) (N := 47) hx hb hG in_Mo hown hK hP hM.1.1 hM.1.2 rfl 45 (by decide) (hG _ k666) (fun _ h9 => h9) rfl d_Mo_balance_95 ?_
                    refine lv_goto (tgt := 105) hx hb d_Mo_balance_98 (by decide) ?_
                    subst hQe
                    exact W.lret hx hb hret (fun t ht hW => ⟨⟨_, f, rfl, ⟨by simp only [vMbal, if_neg c_1, if_neg c_8, if_neg c_9, if_neg c_10, if_pos c_11], by simp only [if_neg c_1]; exact hM⟩, by rw [ht]; exact hP, va_K.moved hW.alike hK, hD⟩, hS.F ht⟩) hS.2.2 d_Mo_balance_105
                · refine lv_aload_n hx hb d_Mo_balance_82 rfl (lv_at hl 2 rfl) ?_
                  refine pg_get (C := "SmokeZonesModel") (T := T_Mo) (N := 47) hx hb hG in_Mo hown hK hP hM.1.1 hM.1.2 rfl 44 (by decide) (hG _ k665) (fun _ h9 => h9) rfl d_Mo_balance_83 ?_
                  refine lv_goto (tgt := 105) hx hb d_Mo_balance_86 (by decide) ?_
                  subst hQe
                  exact W.lret hx hb hret (fun t ht hW => ⟨⟨_, f, rfl, ⟨by simp only [vMbal, if_neg c_1, if_neg c_8, if_neg c_9, if_pos c_10], by simp only [if_neg c_1]; exact hM⟩, by rw [ht]; exact hP, va_K.moved hW.alike hK, hD⟩, hS.F ht⟩) hS.2.2 d_Mo_balance_105
              · refine lv_lload_n hx hb d_Mo_balance_73 rfl (lv_at hl 1 rfl) ?_
                refine lv_goto (tgt := 105) hx hb d_Mo_balance_74 (by decide) ?_
                subst hQe
                exact W.lret hx hb hret (fun t ht hW => ⟨⟨_, f, rfl, ⟨by simp only [vMbal, if_neg c_1, if_neg c_8, if_pos c_9]; exact hfin, by simp only [if_neg c_1]; exact hM⟩, by rw [ht]; exact hP, va_K.moved hW.alike hK, hD⟩, hS.F ht⟩) hS.2.2 d_Mo_balance_105
            · refine lv_aload_n hx hb d_Mo_balance_61 rfl (lv_at hl 2 rfl) ?_
              refine pg_get (C := "SmokeZonesModel") (T := T_Mo) (N := 47) hx hb hG in_Mo hown hK hP hM.1.1 hM.1.2 rfl 43 (by decide) (hG _ k664) (fun _ h9 => h9) rfl d_Mo_balance_62 ?_
              refine lv_goto (tgt := 105) hx hb d_Mo_balance_65 (by decide) ?_
              subst hQe
              exact W.lret hx hb hret (fun t ht hW => ⟨⟨_, f, rfl, ⟨by simp only [vMbal, if_neg c_1, if_pos c_8], by simp only [if_neg c_1]; exact hM⟩, by rw [ht]; exact hP, va_K.moved hW.alike hK, hD⟩, hS.F ht⟩) hS.2.2 d_Mo_balance_105
          · exact (ge_yes (by omega) (by omega) c_7).elim
        | succ k ih =>
          intro i a locs ls hik hS hl hfin
          have hi : i < n 0 := by omega
          have hcl_i : (nI i).toNatClampNeg = i := nI_clamp (by omega)
          refine lv_iload hx hb d_Mo_balance_32 (lv_at hl 0 rfl) ?_
          refine lv_aload_n hx hb d_Mo_balance_34 rfl (lv_at hl 2 rfl) ?_
          refine pg_get (C := "SmokeZonesModel") (T := T_Mo) (N := 47) hx hb hG in_Mo hown hK hP hM.1.1 hM.1.2 rfl 2 (by decide) (hG _ k623) (fun _ h9 => h9) rfl d_Mo_balance_35 ?_
          refine lv_topi (fun y_12 ey_12 => ?_)
          obtain rfl : y_12 = nI (n 0) := ey_12.trans (by simp [up2, h2, hcl_i])
          refine lv_icmp_ge (tgt := 57) hx hb d_Mo_balance_38 (by decide) (fun c_13 => ?_) (fun c_13 => ?_)
          · exact (ge_no hi (by omega) c_13).elim
          · refine lv_lload_n hx hb d_Mo_balance_41 rfl (lv_at hl 1 rfl) ?_
            refine lv_aload_n hx hb d_Mo_balance_42 rfl (lv_at hl 2 rfl) ?_
            refine pg_get (C := "SmokeZonesModel") (T := T_Mo) (N := 47) hx hb hG in_Mo hown hK hP hM.1.1 hM.1.2 rfl 5 (by decide) (hG _ k626) (fun _ h9 => h9) rfl d_Mo_balance_43 ?_
            refine lv_iload hx hb d_Mo_balance_46 (lv_at hl 0 rfl) ?_
            refine mw_lald hx hb hK hP hM (j := 5) rfl (vp_in_nI (show i < 10 by omega) (by decide)) d_Mo_balance_48 ?_
            refine lv_topl (fun y_14 ey_14 => ?_)
            obtain rfl : y_14 = Y 5 i := ey_14.trans (by simp [up2, h2, hcl_i])
            refine lv_ladd hx hb d_Mo_balance_49 ?_
            refine lv_lstore_n (lv' := [(2, .long (a + (Y 5 i))), (4, .int (nI i)), (0, .ref (AM 100)), (1, .int p1)]) hx hb d_Mo_balance_50 rfl hl (by decide) rfl (fun ls hl => ?_)
            refine lv_iinc (v := nI (i + 1)) (lv' := [(4, .int (nI (i + 1))), (2, .long (a + (Y 5 i))), (0, .ref (AM 100)), (1, .int p1)]) hx hb d_Mo_balance_51 hl (k := 1) rfl (nI_1 i) (by decide) rfl (fun ls hl => ?_)
            refine lv_goto (tgt := 32) hx hb d_Mo_balance_54 (by decide) ?_
            exact ih (i + 1) _ _ _ (by omega) hS (lv_sub hl [0, 1, 2, 3] rfl) hfin
      exact lp (n 0) 0 0 _ _ (by omega) hS (lv_sub hl [0, 1, 2, 3] rfl) rfl
    · exact absurd (by decide) c_5
