theorem cvY {X : I2} {Y Y1 : J2} {o r : Nat} (h : ∀ b, Y1 5 b = Y 5 b) : mo_cv X Y1 o r = mo_cv X Y o r := by
  have h1 : mo_cl X Y1 r = mo_cl X Y r := by unfold mo_cl; rw [h]
  unfold mo_cv mo_fr
  rw [h1]

def sxFlow2 (n : Nat → Nat) (i : Nat) (X : I2) (Y : J2) : I2 := X
def syFlow2 (n : Nat → Nat) (i : Nat) (X : I2) (Y : J2) : J2 := (if X 12 i = (-1) then (if (Y 18 i) ≤ 0 then up2 Y 20 i ((Y 20 i) + (Y 18 i)) else up2 (up2 (up2 (up2 Y 20 i ((Y 20 i) + (Y 18 i))) 5 (Int32.toNatClampNeg (X 11 i)) ((Y 5 (Int32.toNatClampNeg (X 11 i))) - (Y 18 i))) 6 (Int32.toNatClampNeg (X 11 i)) ((Y 6 (Int32.toNatClampNeg (X 11 i))) - (Y 19 i))) 44 0 ((Y 44 0) + (Y 18 i))) else (if 0 ≤ (Y 18 i) then (if (Y 18 i) ≤ 0 then up2 Y 20 i ((Y 20 i) + (Y 18 i)) else up2 (up2 (up2 (up2 (up2 (up2 Y 20 i ((Y 20 i) + (Y 18 i))) 5 (Int32.toNatClampNeg (X 11 i)) ((Y 5 (Int32.toNatClampNeg (X 11 i))) - (Y 18 i))) 6 (Int32.toNatClampNeg (X 11 i)) ((Y 6 (Int32.toNatClampNeg (X 11 i))) - (Y 19 i))) 44 0 ((Y 44 0) + 0)) 5 (Int32.toNatClampNeg (X 12 i)) ((Y 5 (Int32.toNatClampNeg (X 12 i))) + (Y 18 i))) 6 (Int32.toNatClampNeg (X 12 i)) ((Y 6 (Int32.toNatClampNeg (X 12 i))) + (Y 19 i))) else (if (-(Y 18 i)) ≤ 0 then up2 Y 20 i ((Y 20 i) + (-(Y 18 i))) else up2 (up2 (up2 (up2 (up2 (up2 Y 20 i ((Y 20 i) + (-(Y 18 i)))) 5 (Int32.toNatClampNeg (X 12 i)) ((Y 5 (Int32.toNatClampNeg (X 12 i))) - (-(Y 18 i)))) 6 (Int32.toNatClampNeg (X 12 i)) ((Y 6 (Int32.toNatClampNeg (X 12 i))) - (Y 19 i))) 44 0 ((Y 44 0) + 0)) 5 (Int32.toNatClampNeg (X 11 i)) ((Y 5 (Int32.toNatClampNeg (X 11 i))) + (-(Y 18 i)))) 6 (Int32.toNatClampNeg (X 11 i)) ((Y 6 (Int32.toNatClampNeg (X 11 i))) + (Y 19 i)))))
def lFlow2 : Nat → Nat → I2 × J2 → I2 × J2
  | 0, _, q => q
  | k + 1, i, q => lFlow2 k (i + 1) (sxFlow2 (fun _ => 0) i q.1 q.2, syFlow2 (fun _ => 0) i q.1 q.2)
def sxFlow1 (n : Nat → Nat) (i : Nat) (X : I2) (Y : J2) : I2 := X
def syFlow1 (n : Nat → Nat) (i : Nat) (X : I2) (Y : J2) : J2 := (if X 12 i = (-1) then (if (X 17 i) = 0 then up2 (up2 Y 18 i 0) 19 i 0 else (if ((mo_cv X Y i (Int32.toNatClampNeg (X 11 i))) - 0) = 0 then up2 (up2 Y 18 i 0) 19 i 0 else (if ((5 * (Int32.toInt64 (X 13 i))) * ((mo_cv X Y i (Int32.toNatClampNeg (X 11 i))) - 0)) ≤ ((Y 5 (Int32.toNatClampNeg (X 11 i))) / 16) then up2 (up2 (up2 (up2 Y 18 i 0) 19 i 0) 18 i ((5 * (Int32.toInt64 (X 13 i))) * ((mo_cv X Y i (Int32.toNatClampNeg (X 11 i))) - 0))) 19 i (((Y 6 (Int32.toNatClampNeg (X 11 i))) * ((5 * (Int32.toInt64 (X 13 i))) * ((mo_cv X Y i (Int32.toNatClampNeg (X 11 i))) - 0))) / (Y 5 (Int32.toNatClampNeg (X 11 i)))) else up2 (up2 (up2 (up2 Y 18 i 0) 19 i 0) 18 i ((Y 5 (Int32.toNatClampNeg (X 11 i))) / 16)) 19 i (((Y 6 (Int32.toNatClampNeg (X 11 i))) * ((Y 5 (Int32.toNatClampNeg (X 11 i))) / 16)) / (Y 5 (Int32.toNatClampNeg (X 11 i))))))) else (if (X 17 i) = 0 then up2 (up2 Y 18 i 0) 19 i 0 else (if ((mo_cv X Y i (Int32.toNatClampNeg (X 11 i))) - (mo_cv X Y i (Int32.toNatClampNeg (X 12 i)))) = 0 then up2 (up2 Y 18 i 0) 19 i 0 else (if ((mo_cv X Y i (Int32.toNatClampNeg (X 11 i))) - (mo_cv X Y i (Int32.toNatClampNeg (X 12 i)))) ≤ 0 then (if ((5 * (Int32.toInt64 (X 13 i))) * (-((mo_cv X Y i (Int32.toNatClampNeg (X 11 i))) - (mo_cv X Y i (Int32.toNatClampNeg (X 12 i)))))) ≤ ((Y 5 (Int32.toNatClampNeg (X 12 i))) / 16) then up2 (up2 (up2 (up2 Y 18 i 0) 19 i 0) 18 i (-((5 * (Int32.toInt64 (X 13 i))) * (-((mo_cv X Y i (Int32.toNatClampNeg (X 11 i))) - (mo_cv X Y i (Int32.toNatClampNeg (X 12 i)))))))) 19 i (((Y 6 (Int32.toNatClampNeg (X 12 i))) * ((5 * (Int32.toInt64 (X 13 i))) * (-((mo_cv X Y i (Int32.toNatClampNeg (X 11 i))) - (mo_cv X Y i (Int32.toNatClampNeg (X 12 i))))))) / (Y 5 (Int32.toNatClampNeg (X 12 i)))) else up2 (up2 (up2 (up2 Y 18 i 0) 19 i 0) 18 i (-((Y 5 (Int32.toNatClampNeg (X 12 i))) / 16))) 19 i (((Y 6 (Int32.toNatClampNeg (X 12 i))) * ((Y 5 (Int32.toNatClampNeg (X 12 i))) / 16)) / (Y 5 (Int32.toNatClampNeg (X 12 i))))) else (if ((5 * (Int32.toInt64 (X 13 i))) * ((mo_cv X Y i (Int32.toNatClampNeg (X 11 i))) - (mo_cv X Y i (Int32.toNatClampNeg (X 12 i))))) ≤ ((Y 5 (Int32.toNatClampNeg (X 11 i))) / 16) then up2 (up2 (up2 (up2 Y 18 i 0) 19 i 0) 18 i ((5 * (Int32.toInt64 (X 13 i))) * ((mo_cv X Y i (Int32.toNatClampNeg (X 11 i))) - (mo_cv X Y i (Int32.toNatClampNeg (X 12 i)))))) 19 i (((Y 6 (Int32.toNatClampNeg (X 11 i))) * ((5 * (Int32.toInt64 (X 13 i))) * ((mo_cv X Y i (Int32.toNatClampNeg (X 11 i))) - (mo_cv X Y i (Int32.toNatClampNeg (X 12 i)))))) / (Y 5 (Int32.toNatClampNeg (X 11 i)))) else up2 (up2 (up2 (up2 Y 18 i 0) 19 i 0) 18 i ((Y 5 (Int32.toNatClampNeg (X 11 i))) / 16)) 19 i (((Y 6 (Int32.toNatClampNeg (X 11 i))) * ((Y 5 (Int32.toNatClampNeg (X 11 i))) / 16)) / (Y 5 (Int32.toNatClampNeg (X 11 i)))))))))
def lFlow1 : Nat → Nat → I2 × J2 → I2 × J2
  | 0, _, q => q
  | k + 1, i, q => lFlow1 k (i + 1) (sxFlow1 (fun _ => 0) i q.1 q.2, syFlow1 (fun _ => 0) i q.1 q.2)
set_option maxHeartbeats 4000000 in
set_option maxRecDepth 100000 in
theorem c_Mo_flow {l : Launch} {D : va_G} {ct : Nat → ClassId} {AM : Nat → Nat} {L : List Nat} {f : Nat → va_E} {X : I2} {Y : J2} {sz : Nat} {n : Nat → Nat} (hM : MW ct AM L X Y f) (hI : MI n X) (hq1 : ∀ o, o < n 1 → X 12 o = (-1) → ¬ mo_cv X Y o (X 11 o).toNatClampNeg - 0 ≤ 0 → ¬ Y 5 (X 11 o).toNatClampNeg = 0) (hq2 : ∀ o, o < n 1 → ¬ X 12 o = (-1) → ¬ mo_cv X Y o (X 11 o).toNatClampNeg - mo_cv X Y o (X 12 o).toNatClampNeg ≤ 0 → ¬ Y 5 (X 11 o).toNatClampNeg = 0) (hq3 : ∀ o, o < n 1 → ¬ X 12 o = (-1) → mo_cv X Y o (X 11 o).toNatClampNeg - mo_cv X Y o (X 12 o).toNatClampNeg ≤ 0 → ¬ mo_cv X Y o (X 11 o).toNatClampNeg - mo_cv X Y o (X 12 o).toNatClampNeg = 0 → ¬ Y 5 (X 12 o).toNatClampNeg = 0) (hq4 : ∀ o, o < n 1 → X 12 o = (-1) → mo_cv X Y o (X 11 o).toNatClampNeg - 0 ≤ 0 → mo_cv X Y o (X 11 o).toNatClampNeg - 0 = 0) (hq5 : ∀ o, o < n 1 → X 12 o = (-1) → 0 ≤ (lFlow1 (n 1) 0 (X, Y)).2 18 o) : Met l y_Mo_flow (WS y_Mo_flow b_Mo_flow 9 none) { frames := 2, cells := 0, slots := 0, locals := 45 } (va_Pc [.ref (AM 100)] (WP D (TYS ct) L f sz)) (Xs D (TYS ct) L (AA L f sz) (fun f' => MW ct AM L (lFlow2 (n 1) 0 (lFlow1 (n 1) 0 (X, Y))).1 (lFlow2 (n 1) 0 (lFlow1 (n 1) 0 (X, Y))).2 f')) 0 0 (AA L f sz) := by
  refine Met.ofW (cc := b_Mo_flow) (maxL := 9) (ret := none) (by decide) rfl ?_
  intro p e s m args below meth c s₁ B hml hv
  obtain ⟨rfl, hsz, hP, hK, hD0⟩ := hv
  subst hsz
  have hx := B.exec
  have hb := B.bytes
  have hret := B.returns
  have hts := atoms_spec (ws := WS y_Mo_flow b_Mo_flow 9 none) B.pre
  have hG : ∀ w ∈ GW, w.before _ s = true := fun w h => hts w (List.mem_cons_of_mem _ h)
  have hown : s.vm.findClass "SmokeZonesModel" = some m.cls := findClass_of_methodNamed B.named
  have hlocks := B.notSynchronized
  have hD : va_D (AA L f s.heap.size) (va_pl L f) := hD0.self (sz := s.heap.size)
  generalize hAe : AA L f s.heap.size = A at hD ⊢
  have hA : ∀ q : Nat, s.heap.size ≤ q → A q := fun q h => by rw [← hAe]; exact Or.inr h
  have hS : va_S A s.heap s.heap [] := va_S.rf
  have hl := lv_entry ([.ref (AM 100)]) (n := 9) (Nat.le_of_ble_eq_true rfl)
  rw [lg_entry_eq]
  generalize (lg_sl ([.ref (AM 100)]) ++ List.replicate (9 - (lg_sl ([.ref (AM 100)])).length) Slot.unset).toArray = ls at hl ⊢
  have hl : lv_has ls 9 [(0, .ref (AM 100))] := hl
  obtain ⟨⟨h2, h10, h21, h27, h31, h35⟩, hcap, ha, hop, hfi, hfa, hst, hpe⟩ := hI
  have hc0 : n 0 ≤ 10 := hcap 0 (by decide)
  have hc1 : n 1 ≤ 15 := hcap 1 (by decide)
  have hc2 : n 2 ≤ 5 := hcap 2 (by decide)
  have hc3 : n 3 ≤ 9 := hcap 3 (by decide)
  have hc4 : n 4 ≤ 9 := hcap 4 (by decide)
  have hc5 : n 5 ≤ 9 := hcap 5 (by decide)
  refine lv_iconst (v := 0) hx hb d_Mo_flow_0 (by decide) ?_
  refine lv_istore_n (lv' := [(1, .int 0), (0, .ref (AM 100))]) hx hb d_Mo_flow_1 rfl hl (by decide) rfl (fun ls hl => ?_)
  have lp0 : ∀ (k i : Nat) (Y1 : J2) (g1 : Nat → va_E) (H : Heap) (locs : List Loc) (ls : Array Slot), i + k = n 1 → MW ct AM L X Y1 g1 → (∀ a b, a ≠ 18 → a ≠ 19 → Y1 a b = Y a b) → va_P D vwCl (va_pl L g1) H → va_D A (va_pl L g1) → va_S A s.heap H locs → lv_has ls 9 [(1, .int (nI i)), (0, .ref (AM 100))] → lFlow1 k i (X, Y1) = lFlow1 (n 1) 0 (X, Y) → W p l e (headSpec (WS y_Mo_flow b_Mo_flow 9 none) { frames := 2, cells := 0, slots := 0, locals := 45 }).room s m [.ref (AM 100)].toArray below meth c H locs 0 0 (MQ below (Xs D (TYS ct) L A (fun f' => MW ct AM L (lFlow2 (n 1) 0 (lFlow1 (n 1) 0 (X, Y))).1 (lFlow2 (n 1) 0 (lFlow1 (n 1) 0 (X, Y))).2 f')) [.ref (AM 100)].toArray s 0 0 A) (F0 m 2 ls []) := by
    intro k
    induction k with
    | zero =>
      intro i Y1 f H locs ls hik0 hM hY0 hP hD hS hl hfin0
      have hle_i : i ≤ n 1 := by omega
      have hcl_i : (nI i).toNatClampNeg = i := nI_clamp (by omega)
      refine lv_iload_n hx hb d_Mo_flow_2 rfl (lv_at hl 0 rfl) ?_
      refine lv_aload_n hx hb d_Mo_flow_3 rfl (lv_at hl 1 rfl) ?_
      refine pg_get (C := "SmokeZonesModel") (T := T_Mo) (N := 47) hx hb hG in_Mo hown hK hP hM.1.1 hM.1.2 rfl 10 (by decide) (hG _ k631) (fun _ h9 => h9) rfl d_Mo_flow_4 ?_
      refine lv_topi (fun y_1 ey_1 => ?_)
      obtain rfl : y_1 = nI (n 1) := ey_1.trans (by simp [up2, hcl_i, h2, h10, h21, h27, h31, h35])
      refine lv_icmp_ge (tgt := 196) hx hb d_Mo_flow_7 (by decide) (fun c_2 => ?_) (fun c_2 => ?_)
      · refine lv_iconst (v := 0) hx hb d_Mo_flow_196 (by decide) ?_
        refine lv_istore_n (lv' := [(1, .int 0), (0, .ref (AM 100))]) hx hb d_Mo_flow_197 rfl hl (by decide) rfl (fun ls hl => ?_)
        have lp1 : ∀ (k i : Nat) (Y2 : J2) (g2 : Nat → va_E) (H : Heap) (locs : List Loc) (ls : Array Slot), i + k = n 1 → MW ct AM L X Y2 g2 → (∀ a b, a ≠ 20 → a ≠ 5 → a ≠ 6 → a ≠ 44 → Y2 a b = Y1 a b) → va_P D vwCl (va_pl L g2) H → va_D A (va_pl L g2) → va_S A s.heap H locs → lv_has ls 9 [(1, .int (nI i)), (0, .ref (AM 100))] → lFlow2 k i (X, Y2) = lFlow2 (n 1) 0 (X, Y1) → W p l e (headSpec (WS y_Mo_flow b_Mo_flow 9 none) { frames := 2, cells := 0, slots := 0, locals := 45 }).room s m [.ref (AM 100)].toArray below meth c H locs 0 0 (MQ below (Xs D (TYS ct) L A (fun f' => MW ct AM L (lFlow2 (n 1) 0 (lFlow1 (n 1) 0 (X, Y))).1 (lFlow2 (n 1) 0 (lFlow1 (n 1) 0 (X, Y))).2 f')) [.ref (AM 100)].toArray s 0 0 A) (F0 m 198 ls []) := by
          intro k
          induction k with
          | zero =>
            intro i Y2 f H locs ls hik1 hM hY1 hP hD hS hl hfin1
            have hle_i : i ≤ n 1 := by omega
            have hcl_i : (nI i).toNatClampNeg = i := nI_clamp (by omega)
            refine lv_iload_n hx hb d_Mo_flow_198 rfl (lv_at hl 0 rfl) ?_
            refine lv_aload_n hx hb d_Mo_flow_199 rfl (lv_at hl 1 rfl) ?_
            refine pg_get (C := "SmokeZonesModel") (T := T_Mo) (N := 47) hx hb hG in_Mo hown hK hP hM.1.1 hM.1.2 rfl 10 (by decide) (hG _ k631) (fun _ h9 => h9) rfl d_Mo_flow_200 ?_
            refine lv_topi (fun y_3 ey_3 => ?_)
            obtain rfl : y_3 = nI (n 1) := ey_3.trans (by simp [up2, hcl_i, h2, h10, h21, h27, h31, h35])
            refine lv_icmp_ge (tgt := 392) hx hb d_Mo_flow_203 (by decide) (fun c_4 => ?_) (fun c_4 => ?_)
            · have q0 : (X, Y1) = lFlow1 (n 1) 0 (X, Y) := hfin0
              have q1 : (X, Y2) = lFlow2 (n 1) 0 (X, Y1) := hfin1
              have hN : MW ct AM L (lFlow2 (n 1) 0 (lFlow1 (n 1) 0 (X, Y))).1 (lFlow2 (n 1) 0 (lFlow1 (n 1) 0 (X, Y))).2 f := by
                rw [← q0, ← q1]
                exact hM
              exact W.vret hx hb hret (fun t ht hW => ⟨⟨f, rfl, hN, by rw [ht]; exact hP, va_K.moved hW.alike hK, hD⟩, hS.F ht⟩) hS.2.2 d_Mo_flow_392
            · exact (ge_yes (by omega) (by omega) c_4).elim
          | succ k ih1 =>
            intro i Y2 f H locs ls hik1 hM hY1 hP hD hS hl hfin1
            have hle_i : i ≤ n 1 := by omega
            have hcl_i : (nI i).toNatClampNeg = i := nI_clamp (by omega)
            have hi : i < n 1 := by omega
            refine lv_iload_n hx hb d_Mo_flow_198 rfl (lv_at hl 0 rfl) ?_
            refine lv_aload_n hx hb d_Mo_flow_199 rfl (lv_at hl 1 rfl) ?_
            refine pg_get (C := "SmokeZonesModel") (T := T_Mo) (N := 47) hx hb hG in_Mo hown hK hP hM.1.1 hM.1.2 rfl 10 (by decide) (hG _ k631) (fun _ h9 => h9) rfl d_Mo_flow_200 ?_
            refine lv_topi (fun y_5 ey_5 => ?_)
            obtain rfl : y_5 = nI (n 1) := ey_5.trans (by simp [up2, hcl_i, h2, h10, h21, h27, h31, h35])
            refine lv_icmp_ge (tgt := 392) hx hb d_Mo_flow_203 (by decide) (fun c_6 => ?_) (fun c_6 => ?_)
            · exact (ge_no hi (by omega) c_6).elim
            · have hq6 := hq5 i hi
              have q0 : (X, Y1) = lFlow1 (n 1) 0 (X, Y) := hfin0
              rw [← q0] at hq6
              have hq6 : X 12 i = (-1) → 0 ≤ Y2 18 i := fun h => by rw [hY1 18 i (by decide) (by decide) (by decide) (by decide)]; exact hq6 h
              obtain ⟨⟨r, hr, er0⟩, ho, hd0⟩ := hop i hi
              have er : X 11 i = nI r := by exact er0
              rcases ho with e0 | ⟨g, hg, e0⟩
              · have eg : X 12 i = (-1) := by exact e0
                have er1 : ¬ X 11 i = (-1) := by rw [er]; exact nI_m1 (by omega)
                refine lv_aload_n hx hb d_Mo_flow_206 rfl (lv_at hl 1 rfl) ?_
                refine pg_get (C := "SmokeZonesModel") (T := T_Mo) (N := 47) hx hb hG in_Mo hown hK hP hM.1.1 hM.1.2 rfl 18 (by decide) (hG _ k639) (fun _ h9 => h9) rfl d_Mo_flow_207 ?_
                refine lv_iload_n hx hb d_Mo_flow_210 rfl (lv_at hl 0 rfl) ?_
                refine mw_lald hx hb hK hP hM (j := 18) rfl (vp_in_nI (show i < 15 by omega) (by decide)) d_Mo_flow_211 ?_
                refine lv_topl (fun y_7 ey_7 => ?_)
                obtain rfl : y_7 = Y2 18 i := ey_7.trans (by simp [up2, hcl_i, h2, h10, h21, h27, h31, h35])
                refine lv_lconst (v := 0) hx hb d_Mo_flow_212 (by decide) ?_
                refine lc_ge (tgt := 227) hx hb d_Mo_flow_213 d_Mo_flow_214 (by decide) (fun c_8 => ?_) (fun c_8 => ?_)
                · refine lv_aload_n hx hb d_Mo_flow_227 rfl (lv_at hl 1 rfl) ?_
                  refine pg_get (C := "SmokeZonesModel") (T := T_Mo) (N := 47) hx hb hG in_Mo hown hK hP hM.1.1 hM.1.2 rfl 18 (by decide) (hG _ k639) (fun _ h9 => h9) rfl d_Mo_flow_228 ?_
                  refine lv_iload_n hx hb d_Mo_flow_231 rfl (lv_at hl 0 rfl) ?_
                  refine mw_lald hx hb hK hP hM (j := 18) rfl (vp_in_nI (show i < 15 by omega) (by decide)) d_Mo_flow_232 ?_
                  refine lv_topl (fun y_9 ey_9 => ?_)
                  obtain rfl : y_9 = Y2 18 i := ey_9.trans (by simp [up2, hcl_i, h2, h10, h21, h27, h31, h35])
                  refine lv_lstore_n (lv' := [(2, .long (Y2 18 i)), (1, .int (nI i)), (0, .ref (AM 100))]) hx hb d_Mo_flow_233 rfl hl (by decide) rfl (fun ls hl => ?_)
                  refine lv_aload_n hx hb d_Mo_flow_234 rfl (lv_at hl 2 rfl) ?_
                  refine pg_get (C := "SmokeZonesModel") (T := T_Mo) (N := 47) hx hb hG in_Mo hown hK hP hM.1.1 hM.1.2 rfl 18 (by decide) (hG _ k639) (fun _ h9 => h9) rfl d_Mo_flow_235 ?_
                  refine lv_iload_n hx hb d_Mo_flow_238 rfl (lv_at hl 1 rfl) ?_
                  refine mw_lald hx hb hK hP hM (j := 18) rfl (vp_in_nI (show i < 15 by omega) (by decide)) d_Mo_flow_239 ?_
                  refine lv_topl (fun y_10 ey_10 => ?_)
                  obtain rfl : y_10 = Y2 18 i := ey_10.trans (by simp [up2, hcl_i, h2, h10, h21, h27, h31, h35])
                  refine lv_lconst (v := 0) hx hb d_Mo_flow_240 (by decide) ?_
                  refine lc_ge (tgt := 254) hx hb d_Mo_flow_241 d_Mo_flow_242 (by decide) (fun c_11 => ?_) (fun c_11 => ?_)
                  · refine lv_aload_n hx hb d_Mo_flow_254 rfl (lv_at hl 2 rfl) ?_
                    refine pg_get (C := "SmokeZonesModel") (T := T_Mo) (N := 47) hx hb hG in_Mo hown hK hP hM.1.1 hM.1.2 rfl 11 (by decide) (hG _ k632) (fun _ h9 => h9) rfl d_Mo_flow_255 ?_
                    refine lv_iload_n hx hb d_Mo_flow_258 rfl (lv_at hl 1 rfl) ?_
                    refine mw_iald hx hb hK hP hM (j := 11) rfl (vp_in_nI (show i < 15 by omega) (by decide)) d_Mo_flow_259 ?_
                    refine lv_topi (fun y_12 ey_12 => ?_)
                    obtain rfl : y_12 = X 11 i := ey_12.trans (by simp [up2, hcl_i, h2, h10, h21, h27, h31, h35])
                    refine lv_istore (lv' := [(4, .int (X 11 i)), (2, .long (Y2 18 i)), (1, .int (nI i)), (0, .ref (AM 100))]) hx hb d_Mo_flow_260 hl (by decide) rfl (fun ls hl => ?_)
                    refine lv_aload_n hx hb d_Mo_flow_262 rfl (lv_at hl 3 rfl) ?_
                    refine pg_get (C := "SmokeZonesModel") (T := T_Mo) (N := 47) hx hb hG in_Mo hown hK hP hM.1.1 hM.1.2 rfl 18 (by decide) (hG _ k639) (fun _ h9 => h9) rfl d_Mo_flow_263 ?_
                    refine lv_iload_n hx hb d_Mo_flow_266 rfl (lv_at hl 2 rfl) ?_
                    refine mw_lald hx hb hK hP hM (j := 18) rfl (vp_in_nI (show i < 15 by omega) (by decide)) d_Mo_flow_267 ?_
                    refine lv_topl (fun y_13 ey_13 => ?_)
                    obtain rfl : y_13 = Y2 18 i := ey_13.trans (by simp [up2, hcl_i, h2, h10, h21, h27, h31, h35])
                    refine lv_lconst (v := 0) hx hb d_Mo_flow_268 (by decide) ?_
                    refine lc_ge (tgt := 282) hx hb d_Mo_flow_269 d_Mo_flow_270 (by decide) (fun c_14 => ?_) (fun c_14 => ?_)
                    · refine lv_aload_n hx hb d_Mo_flow_282 rfl (lv_at hl 3 rfl) ?_
                      refine pg_get (C := "SmokeZonesModel") (T := T_Mo) (N := 47) hx hb hG in_Mo hown hK hP hM.1.1 hM.1.2 rfl 12 (by decide) (hG _ k633) (fun _ h9 => h9) rfl d_Mo_flow_283 ?_
                      refine lv_iload_n hx hb d_Mo_flow_286 rfl (lv_at hl 2 rfl) ?_
                      refine mw_iald hx hb hK hP hM (j := 12) rfl (vp_in_nI (show i < 15 by omega) (by decide)) d_Mo_flow_287 ?_
                      refine lv_topi (fun y_15 ey_15 => ?_)
                      obtain rfl : y_15 = X 12 i := ey_15.trans (by simp [up2, hcl_i, h2, h10, h21, h27, h31, h35])
                      refine lv_istore (lv' := [(5, .int (X 12 i)), (4, .int (X 11 i)), (2, .long (Y2 18 i)), (1, .int (nI i)), (0, .ref (AM 100))]) hx hb d_Mo_flow_288 hl (by decide) rfl (fun ls hl => ?_)
                      refine lv_aload_n hx hb d_Mo_flow_290 rfl (lv_at hl 4 rfl) ?_
                      refine pg_get (C := "SmokeZonesModel") (T := T_Mo) (N := 47) hx hb hG in_Mo hown hK hP hM.1.1 hM.1.2 rfl 20 (by decide) (hG _ k641) (fun _ h9 => h9) rfl d_Mo_flow_291 ?_
                      refine lv_iload_n hx hb d_Mo_flow_294 rfl (lv_at hl 3 rfl) ?_
                      refine lv_dup2_11 hx hb d_Mo_flow_295 rfl rfl ?_
                      refine mw_lald hx hb hK hP hM (j := 20) rfl (vp_in_nI (show i < 15 by omega) (by decide)) d_Mo_flow_296 ?_
                      refine lv_topl (fun y_16 ey_16 => ?_)
                      obtain rfl : y_16 = Y2 20 i := ey_16.trans (by simp [up2, hcl_i, h2, h10, h21, h27, h31, h35])
                      refine lv_lload_n hx hb d_Mo_flow_297 rfl (lv_at hl 2 rfl) ?_
                      refine lv_ladd hx hb d_Mo_flow_298 ?_
                      refine mw_last hx hb hK hP hD hS hM (j := 20) rfl (vp_in_nI (show i < 15 by omega) (by decide)) d_Mo_flow_299 (fun f H locs hM hP hD hS => ?_)
                      rw [show (nI i).toNatClampNeg = i from nI_clamp (by omega)] at hM
                      refine lv_lload_n hx hb d_Mo_flow_300 rfl (lv_at hl 2 rfl) ?_
                      refine lv_lconst (v := 0) hx hb d_Mo_flow_301 (by decide) ?_
                      refine lc_le (tgt := 386) hx hb d_Mo_flow_302 d_Mo_flow_303 (by decide) (fun c_17 => ?_) (fun c_17 => ?_)
                      · refine lv_iinc (v := nI (i + 1)) (lv' := [(1, .int (nI (i + 1))), (5, .int (X 12 i)), (4, .int (X 11 i)), (2, .long (Y2 18 i)), (0, .ref (AM 100))]) hx hb d_Mo_flow_386 hl (k := 3) rfl (nI_1 i) (by decide) rfl (fun ls hl => ?_)
                        refine lv_goto (tgt := 198) hx hb d_Mo_flow_389 (by decide) ?_
                        have hN : MW ct AM L (sxFlow2 (fun _ => 0) i X Y2) (syFlow2 (fun _ => 0) i X Y2) f := by
                          (try simp only [sxFlow2, syFlow2, if_pos eg, if_pos c_8, if_pos c_11, if_pos c_14, if_pos c_17])
                          exact hM
                        exact ih1 (i + 1) _ _ _ _ _ (by omega) hN  (by intro a b e20 e5 e6 e44; rw [← hY1 a b e20 e5 e6 e44]; simp only [sxFlow2, syFlow2, if_pos eg, if_pos c_8, if_pos c_11, if_pos c_14, if_pos c_17]; simp [up2, e20, e5, e6, e44]) hP hD hS (lv_sub hl [0, 4] rfl) hfin1
                      · refine lv_aload_n hx hb d_Mo_flow_306 rfl (lv_at hl 4 rfl) ?_
                        refine pg_get (C := "SmokeZonesModel") (T := T_Mo) (N := 47) hx hb hG in_Mo hown hK hP hM.1.1 hM.1.2 rfl 5 (by decide) (hG _ k626) (fun _ h9 => h9) rfl d_Mo_flow_307 ?_
                        refine lv_iload hx hb d_Mo_flow_310 (lv_at hl 1 rfl) ?_
                        refine lv_dup2_11 hx hb d_Mo_flow_312 rfl rfl ?_
                        refine mw_lald hx hb hK hP hM (j := 5) rfl (by rw [er]; exact vp_in_nI (show r < 10 by omega) (by decide)) d_Mo_flow_313 ?_
                        refine lv_topl (fun y_18 ey_18 => ?_)
                        obtain rfl : y_18 = Y2 5 (Int32.toNatClampNeg (X 11 i)) := ey_18.trans (by simp [up2, hcl_i, h2, h10, h21, h27, h31, h35])
                        refine lv_lload_n hx hb d_Mo_flow_314 rfl (lv_at hl 2 rfl) ?_
                        refine lv_lsub hx hb d_Mo_flow_315 ?_
                        refine mw_last hx hb hK hP hD hS hM (j := 5) rfl (by rw [er]; exact vp_in_nI (show r < 10 by omega) (by decide)) d_Mo_flow_316 (fun f H locs hM hP hD hS => ?_)
                        refine lv_aload_n hx hb d_Mo_flow_317 rfl (lv_at hl 4 rfl) ?_
                        refine pg_get (C := "SmokeZonesModel") (T := T_Mo) (N := 47) hx hb hG in_Mo hown hK hP hM.1.1 hM.1.2 rfl 6 (by decide) (hG _ k627) (fun _ h9 => h9) rfl d_Mo_flow_318 ?_
                        refine lv_iload hx hb d_Mo_flow_321 (lv_at hl 1 rfl) ?_
                        refine lv_dup2_11 hx hb d_Mo_flow_323 rfl rfl ?_
                        refine mw_lald hx hb hK hP hM (j := 6) rfl (by rw [er]; exact vp_in_nI (show r < 10 by omega) (by decide)) d_Mo_flow_324 ?_
                        refine lv_topl (fun y_19 ey_19 => ?_)
                        obtain rfl : y_19 = Y2 6 (Int32.toNatClampNeg (X 11 i)) := ey_19.trans (by simp [up2, hcl_i, h2, h10, h21, h27, h31, h35])
                        refine lv_aload_n hx hb d_Mo_flow_325 rfl (lv_at hl 4 rfl) ?_
                        refine pg_get (C := "SmokeZonesModel") (T := T_Mo) (N := 47) hx hb hG in_Mo hown hK hP hM.1.1 hM.1.2 rfl 19 (by decide) (hG _ k640) (fun _ h9 => h9) rfl d_Mo_flow_326 ?_
                        refine lv_iload_n hx hb d_Mo_flow_329 rfl (lv_at hl 3 rfl) ?_
                        refine mw_lald hx hb hK hP hM (j := 19) rfl (vp_in_nI (show i < 15 by omega) (by decide)) d_Mo_flow_330 ?_
                        refine lv_topl (fun y_20 ey_20 => ?_)
                        obtain rfl : y_20 = Y2 19 i := ey_20.trans (by simp [up2, hcl_i, h2, h10, h21, h27, h31, h35])
                        refine lv_lsub hx hb d_Mo_flow_331 ?_
                        refine mw_last hx hb hK hP hD hS hM (j := 6) rfl (by rw [er]; exact vp_in_nI (show r < 10 by omega) (by decide)) d_Mo_flow_332 (fun f H locs hM hP hD hS => ?_)
                        refine lv_aload_n hx hb d_Mo_flow_333 rfl (lv_at hl 4 rfl) ?_
                        refine lv_dup hx hb d_Mo_flow_334 rfl ?_
                        refine pg_get (C := "SmokeZonesModel") (T := T_Mo) (N := 47) hx hb hG in_Mo hown hK hP hM.1.1 hM.1.2 rfl 44 (by decide) (hG _ k665) (fun _ h9 => h9) rfl d_Mo_flow_335 ?_
                        refine lv_topl (fun y_21 ey_21 => ?_)
                        obtain rfl : y_21 = Y2 44 0 := ey_21.trans (by simp [up2, hcl_i, h2, h10, h21, h27, h31, h35])
                        refine lv_iload hx hb d_Mo_flow_338 (lv_at hl 0 rfl) ?_
                        refine lv_iconst (v := (-1)) hx hb d_Mo_flow_340 (by decide) ?_
                        refine lv_icmp_ne (tgt := 348) hx hb d_Mo_flow_341 (by decide) (fun c_22 => ?_) (fun c_22 => ?_)
                        · exact absurd eg c_22
                        · refine lv_lload_n hx hb d_Mo_flow_344 rfl (lv_at hl 2 rfl) ?_
                          refine lv_goto (tgt := 349) hx hb d_Mo_flow_345 (by decide) ?_
                          refine lv_ladd hx hb d_Mo_flow_349 ?_
                          refine pg_put (C := "SmokeZonesModel") (T := T_Mo) (N := 47) (ty := .long) hx hb hG in_Mo ty_Mo ok_Mo nm_Mo hown hK hP hD hS hM.1.1 hM.1.2 rfl 44 (by decide) (hG _ k665) (fun _ h9 => h9) rfl (by decide +kernel) rfl rfl (Nat.le_of_ble_eq_true rfl) d_Mo_flow_350 (fun H locs hP hD hS => ?_)
                          have hM := hM.putY (j := 44) (v := (Y2 44 0) + (Y2 18 i)) rfl moF_44
                          generalize va_up _ (AM 100) _ = f at hM hP hD
                          refine lv_iload hx hb d_Mo_flow_353 (lv_at hl 0 rfl) ?_
                          refine lv_iconst (v := (-1)) hx hb d_Mo_flow_355 (by decide) ?_
                          refine lv_icmp_eq (tgt := 386) hx hb d_Mo_flow_356 (by decide) (fun c_23 => ?_) (fun c_23 => ?_)
                          · refine lv_iinc (v := nI (i + 1)) (lv' := [(1, .int (nI (i + 1))), (5, .int (X 12 i)), (4, .int (X 11 i)), (2, .long (Y2 18 i)), (0, .ref (AM 100))]) hx hb d_Mo_flow_386 hl (k := 3) rfl (nI_1 i) (by decide) rfl (fun ls hl => ?_)
                            refine lv_goto (tgt := 198) hx hb d_Mo_flow_389 (by decide) ?_
                            have hN : MW ct AM L (sxFlow2 (fun _ => 0) i X Y2) (syFlow2 (fun _ => 0) i X Y2) f := by
                              (try simp only [sxFlow2, syFlow2, if_pos eg, if_pos c_8, if_pos c_11, if_pos c_14, if_neg c_17])
                              exact hM
                            exact ih1 (i + 1) _ _ _ _ _ (by omega) hN  (by intro a b e20 e5 e6 e44; rw [← hY1 a b e20 e5 e6 e44]; simp only [sxFlow2, syFlow2, if_pos eg, if_pos c_8, if_pos c_11, if_pos c_14, if_neg c_17]; simp [up2, e20, e5, e6, e44]) hP hD hS (lv_sub hl [0, 4] rfl) hfin1
                          · exact absurd eg c_23
                    · exact absurd c_8 c_14
                  · exact absurd c_8 c_11
                · exact absurd (hq6 eg) c_8
              · have eg : X 12 i = nI g := by exact e0
                have cg : ¬ X 12 i = (-1) := by rw [eg]; exact nI_m1 (by omega)
                have er1 : ¬ X 11 i = (-1) := by rw [er]; exact nI_m1 (by omega)
                have hne1 : ¬ Int32.toNatClampNeg (X 12 i) = Int32.toNatClampNeg (X 11 i) := fun h => hd0 (by rw [er, eg]; rw [er, eg, nI_clamp (by omega), nI_clamp (by omega)] at h; rw [h])
                have hne2 : ¬ Int32.toNatClampNeg (X 11 i) = Int32.toNatClampNeg (X 12 i) := fun h => hne1 h.symm
                refine lv_aload_n hx hb d_Mo_flow_206 rfl (lv_at hl 1 rfl) ?_
                refine pg_get (C := "SmokeZonesModel") (T := T_Mo) (N := 47) hx hb hG in_Mo hown hK hP hM.1.1 hM.1.2 rfl 18 (by decide) (hG _ k639) (fun _ h9 => h9) rfl d_Mo_flow_207 ?_
                refine lv_iload_n hx hb d_Mo_flow_210 rfl (lv_at hl 0 rfl) ?_
                refine mw_lald hx hb hK hP hM (j := 18) rfl (vp_in_nI (show i < 15 by omega) (by decide)) d_Mo_flow_211 ?_
                refine lv_topl (fun y_24 ey_24 => ?_)
                obtain rfl : y_24 = Y2 18 i := ey_24.trans (by simp [up2, hcl_i, h2, h10, h21, h27, h31, h35, hne1, hne2])
                refine lv_lconst (v := 0) hx hb d_Mo_flow_212 (by decide) ?_
                refine lc_ge (tgt := 227) hx hb d_Mo_flow_213 d_Mo_flow_214 (by decide) (fun c_25 => ?_) (fun c_25 => ?_)
                · refine lv_aload_n hx hb d_Mo_flow_227 rfl (lv_at hl 1 rfl) ?_
                  refine pg_get (C := "SmokeZonesModel") (T := T_Mo) (N := 47) hx hb hG in_Mo hown hK hP hM.1.1 hM.1.2 rfl 18 (by decide) (hG _ k639) (fun _ h9 => h9) rfl d_Mo_flow_228 ?_
                  refine lv_iload_n hx hb d_Mo_flow_231 rfl (lv_at hl 0 rfl) ?_
                  refine mw_lald hx hb hK hP hM (j := 18) rfl (vp_in_nI (show i < 15 by omega) (by decide)) d_Mo_flow_232 ?_
                  refine lv_topl (fun y_26 ey_26 => ?_)
                  obtain rfl : y_26 = Y2 18 i := ey_26.trans (by simp [up2, hcl_i, h2, h10, h21, h27, h31, h35, hne1, hne2])
                  refine lv_lstore_n (lv' := [(2, .long (Y2 18 i)), (1, .int (nI i)), (0, .ref (AM 100))]) hx hb d_Mo_flow_233 rfl hl (by decide) rfl (fun ls hl => ?_)
                  refine lv_aload_n hx hb d_Mo_flow_234 rfl (lv_at hl 2 rfl) ?_
                  refine pg_get (C := "SmokeZonesModel") (T := T_Mo) (N := 47) hx hb hG in_Mo hown hK hP hM.1.1 hM.1.2 rfl 18 (by decide) (hG _ k639) (fun _ h9 => h9) rfl d_Mo_flow_235 ?_
                  refine lv_iload_n hx hb d_Mo_flow_238 rfl (lv_at hl 1 rfl) ?_
                  refine mw_lald hx hb hK hP hM (j := 18) rfl (vp_in_nI (show i < 15 by omega) (by decide)) d_Mo_flow_239 ?_
                  refine lv_topl (fun y_27 ey_27 => ?_)
                  obtain rfl : y_27 = Y2 18 i := ey_27.trans (by simp [up2, hcl_i, h2, h10, h21, h27, h31, h35, hne1, hne2])
                  refine lv_lconst (v := 0) hx hb d_Mo_flow_240 (by decide) ?_
                  refine lc_ge (tgt := 254) hx hb d_Mo_flow_241 d_Mo_flow_242 (by decide) (fun c_28 => ?_) (fun c_28 => ?_)
                  · refine lv_aload_n hx hb d_Mo_flow_254 rfl (lv_at hl 2 rfl) ?_
                    refine pg_get (C := "SmokeZonesModel") (T := T_Mo) (N := 47) hx hb hG in_Mo hown hK hP hM.1.1 hM.1.2 rfl 11 (by decide) (hG _ k632) (fun _ h9 => h9) rfl d_Mo_flow_255 ?_
                    refine lv_iload_n hx hb d_Mo_flow_258 rfl (lv_at hl 1 rfl) ?_
                    refine mw_iald hx hb hK hP hM (j := 11) rfl (vp_in_nI (show i < 15 by omega) (by decide)) d_Mo_flow_259 ?_
                    refine lv_topi (fun y_29 ey_29 => ?_)
                    obtain rfl : y_29 = X 11 i := ey_29.trans (by simp [up2, hcl_i, h2, h10, h21, h27, h31, h35, hne1, hne2])
                    refine lv_istore (lv' := [(4, .int (X 11 i)), (2, .long (Y2 18 i)), (1, .int (nI i)), (0, .ref (AM 100))]) hx hb d_Mo_flow_260 hl (by decide) rfl (fun ls hl => ?_)
                    refine lv_aload_n hx hb d_Mo_flow_262 rfl (lv_at hl 3 rfl) ?_
                    refine pg_get (C := "SmokeZonesModel") (T := T_Mo) (N := 47) hx hb hG in_Mo hown hK hP hM.1.1 hM.1.2 rfl 18 (by decide) (hG _ k639) (fun _ h9 => h9) rfl d_Mo_flow_263 ?_
                    refine lv_iload_n hx hb d_Mo_flow_266 rfl (lv_at hl 2 rfl) ?_
                    refine mw_lald hx hb hK hP hM (j := 18) rfl (vp_in_nI (show i < 15 by omega) (by decide)) d_Mo_flow_267 ?_
                    refine lv_topl (fun y_30 ey_30 => ?_)
                    obtain rfl : y_30 = Y2 18 i := ey_30.trans (by simp [up2, hcl_i, h2, h10, h21, h27, h31, h35, hne1, hne2])
                    refine lv_lconst (v := 0) hx hb d_Mo_flow_268 (by decide) ?_
                    refine lc_ge (tgt := 282) hx hb d_Mo_flow_269 d_Mo_flow_270 (by decide) (fun c_31 => ?_) (fun c_31 => ?_)
                    · refine lv_aload_n hx hb d_Mo_flow_282 rfl (lv_at hl 3 rfl) ?_
                      refine pg_get (C := "SmokeZonesModel") (T := T_Mo) (N := 47) hx hb hG in_Mo hown hK hP hM.1.1 hM.1.2 rfl 12 (by decide) (hG _ k633) (fun _ h9 => h9) rfl d_Mo_flow_283 ?_
                      refine lv_iload_n hx hb d_Mo_flow_286 rfl (lv_at hl 2 rfl) ?_
                      refine mw_iald hx hb hK hP hM (j := 12) rfl (vp_in_nI (show i < 15 by omega) (by decide)) d_Mo_flow_287 ?_
                      refine lv_topi (fun y_32 ey_32 => ?_)
                      obtain rfl : y_32 = X 12 i := ey_32.trans (by simp [up2, hcl_i, h2, h10, h21, h27, h31, h35, hne1, hne2])
                      refine lv_istore (lv' := [(5, .int (X 12 i)), (4, .int (X 11 i)), (2, .long (Y2 18 i)), (1, .int (nI i)), (0, .ref (AM 100))]) hx hb d_Mo_flow_288 hl (by decide) rfl (fun ls hl => ?_)
                      refine lv_aload_n hx hb d_Mo_flow_290 rfl (lv_at hl 4 rfl) ?_
                      refine pg_get (C := "SmokeZonesModel") (T := T_Mo) (N := 47) hx hb hG in_Mo hown hK hP hM.1.1 hM.1.2 rfl 20 (by decide) (hG _ k641) (fun _ h9 => h9) rfl d_Mo_flow_291 ?_
                      refine lv_iload_n hx hb d_Mo_flow_294 rfl (lv_at hl 3 rfl) ?_
                      refine lv_dup2_11 hx hb d_Mo_flow_295 rfl rfl ?_
                      refine mw_lald hx hb hK hP hM (j := 20) rfl (vp_in_nI (show i < 15 by omega) (by decide)) d_Mo_flow_296 ?_
                      refine lv_topl (fun y_33 ey_33 => ?_)
                      obtain rfl : y_33 = Y2 20 i := ey_33.trans (by simp [up2, hcl_i, h2, h10, h21, h27, h31, h35, hne1, hne2])
                      refine lv_lload_n hx hb d_Mo_flow_297 rfl (lv_at hl 2 rfl) ?_
                      refine lv_ladd hx hb d_Mo_flow_298 ?_
                      refine mw_last hx hb hK hP hD hS hM (j := 20) rfl (vp_in_nI (show i < 15 by omega) (by decide)) d_Mo_flow_299 (fun f H locs hM hP hD hS => ?_)
                      rw [show (nI i).toNatClampNeg = i from nI_clamp (by omega)] at hM
                      refine lv_lload_n hx hb d_Mo_flow_300 rfl (lv_at hl 2 rfl) ?_
                      refine lv_lconst (v := 0) hx hb d_Mo_flow_301 (by decide) ?_
                      refine lc_le (tgt := 386) hx hb d_Mo_flow_302 d_Mo_flow_303 (by decide) (fun c_34 => ?_) (fun c_34 => ?_)
                      · refine lv_iinc (v := nI (i + 1)) (lv' := [(1, .int (nI (i + 1))), (5, .int (X 12 i)), (4, .int (X 11 i)), (2, .long (Y2 18 i)), (0, .ref (AM 100))]) hx hb d_Mo_flow_386 hl (k := 3) rfl (nI_1 i) (by decide) rfl (fun ls hl => ?_)
                        refine lv_goto (tgt := 198) hx hb d_Mo_flow_389 (by decide) ?_
                        have hN : MW ct AM L (sxFlow2 (fun _ => 0) i X Y2) (syFlow2 (fun _ => 0) i X Y2) f := by
                          (try simp only [sxFlow2, syFlow2, if_neg cg, if_pos c_25, if_pos c_28, if_pos c_31, if_pos c_34])
                          exact hM
                        exact ih1 (i + 1) _ _ _ _ _ (by omega) hN  (by intro a b e20 e5 e6 e44; rw [← hY1 a b e20 e5 e6 e44]; simp only [sxFlow2, syFlow2, if_neg cg, if_pos c_25, if_pos c_28, if_pos c_31, if_pos c_34]; simp [up2, e20, e5, e6, e44]) hP hD hS (lv_sub hl [0, 4] rfl) hfin1
                      · refine lv_aload_n hx hb d_Mo_flow_306 rfl (lv_at hl 4 rfl) ?_
                        refine pg_get (C := "SmokeZonesModel") (T := T_Mo) (N := 47) hx hb hG in_Mo hown hK hP hM.1.1 hM.1.2 rfl 5 (by decide) (hG _ k626) (fun _ h9 => h9) rfl d_Mo_flow_307 ?_
                        refine lv_iload hx hb d_Mo_flow_310 (lv_at hl 1 rfl) ?_
                        refine lv_dup2_11 hx hb d_Mo_flow_312 rfl rfl ?_
                        refine mw_lald hx hb hK hP hM (j := 5) rfl (by rw [er]; exact vp_in_nI (show r < 10 by omega) (by decide)) d_Mo_flow_313 ?_
                        refine lv_topl (fun y_35 ey_35 => ?_)
                        obtain rfl : y_35 = Y2 5 (Int32.toNatClampNeg (X 11 i)) := ey_35.trans (by simp [up2, hcl_i, h2, h10, h21, h27, h31, h35, hne1, hne2])
                        refine lv_lload_n hx hb d_Mo_flow_314 rfl (lv_at hl 2 rfl) ?_
                        refine lv_lsub hx hb d_Mo_flow_315 ?_
                        refine mw_last hx hb hK hP hD hS hM (j := 5) rfl (by rw [er]; exact vp_in_nI (show r < 10 by omega) (by decide)) d_Mo_flow_316 (fun f H locs hM hP hD hS => ?_)
                        refine lv_aload_n hx hb d_Mo_flow_317 rfl (lv_at hl 4 rfl) ?_
                        refine pg_get (C := "SmokeZonesModel") (T := T_Mo) (N := 47) hx hb hG in_Mo hown hK hP hM.1.1 hM.1.2 rfl 6 (by decide) (hG _ k627) (fun _ h9 => h9) rfl d_Mo_flow_318 ?_
                        refine lv_iload hx hb d_Mo_flow_321 (lv_at hl 1 rfl) ?_
                        refine lv_dup2_11 hx hb d_Mo_flow_323 rfl rfl ?_
                        refine mw_lald hx hb hK hP hM (j := 6) rfl (by rw [er]; exact vp_in_nI (show r < 10 by omega) (by decide)) d_Mo_flow_324 ?_
                        refine lv_topl (fun y_36 ey_36 => ?_)
                        obtain rfl : y_36 = Y2 6 (Int32.toNatClampNeg (X 11 i)) := ey_36.trans (by simp [up2, hcl_i, h2, h10, h21, h27, h31, h35, hne1, hne2])
                        refine lv_aload_n hx hb d_Mo_flow_325 rfl (lv_at hl 4 rfl) ?_
                        refine pg_get (C := "SmokeZonesModel") (T := T_Mo) (N := 47) hx hb hG in_Mo hown hK hP hM.1.1 hM.1.2 rfl 19 (by decide) (hG _ k640) (fun _ h9 => h9) rfl d_Mo_flow_326 ?_
                        refine lv_iload_n hx hb d_Mo_flow_329 rfl (lv_at hl 3 rfl) ?_
                        refine mw_lald hx hb hK hP hM (j := 19) rfl (vp_in_nI (show i < 15 by omega) (by decide)) d_Mo_flow_330 ?_
                        refine lv_topl (fun y_37 ey_37 => ?_)
                        obtain rfl : y_37 = Y2 19 i := ey_37.trans (by simp [up2, hcl_i, h2, h10, h21, h27, h31, h35, hne1, hne2])
                        refine lv_lsub hx hb d_Mo_flow_331 ?_
                        refine mw_last hx hb hK hP hD hS hM (j := 6) rfl (by rw [er]; exact vp_in_nI (show r < 10 by omega) (by decide)) d_Mo_flow_332 (fun f H locs hM hP hD hS => ?_)
                        refine lv_aload_n hx hb d_Mo_flow_333 rfl (lv_at hl 4 rfl) ?_
                        refine lv_dup hx hb d_Mo_flow_334 rfl ?_
                        refine pg_get (C := "SmokeZonesModel") (T := T_Mo) (N := 47) hx hb hG in_Mo hown hK hP hM.1.1 hM.1.2 rfl 44 (by decide) (hG _ k665) (fun _ h9 => h9) rfl d_Mo_flow_335 ?_
                        refine lv_topl (fun y_38 ey_38 => ?_)
                        obtain rfl : y_38 = Y2 44 0 := ey_38.trans (by simp [up2, hcl_i, h2, h10, h21, h27, h31, h35, hne1, hne2])
                        refine lv_iload hx hb d_Mo_flow_338 (lv_at hl 0 rfl) ?_
                        refine lv_iconst (v := (-1)) hx hb d_Mo_flow_340 (by decide) ?_
                        refine lv_icmp_ne (tgt := 348) hx hb d_Mo_flow_341 (by decide) (fun c_39 => ?_) (fun c_39 => ?_)
                        · refine lv_lconst (v := 0) hx hb d_Mo_flow_348 (by decide) ?_
                          refine lv_ladd hx hb d_Mo_flow_349 ?_
                          refine pg_put (C := "SmokeZonesModel") (T := T_Mo) (N := 47) (ty := .long) hx hb hG in_Mo ty_Mo ok_Mo nm_Mo hown hK hP hD hS hM.1.1 hM.1.2 rfl 44 (by decide) (hG _ k665) (fun _ h9 => h9) rfl (by decide +kernel) rfl rfl (Nat.le_of_ble_eq_true rfl) d_Mo_flow_350 (fun H locs hP hD hS => ?_)
                          have hM := hM.putY (j := 44) (v := (Y2 44 0) + 0) rfl moF_44
                          generalize va_up _ (AM 100) _ = f at hM hP hD
                          refine lv_iload hx hb d_Mo_flow_353 (lv_at hl 0 rfl) ?_
                          refine lv_iconst (v := (-1)) hx hb d_Mo_flow_355 (by decide) ?_
                          refine lv_icmp_eq (tgt := 386) hx hb d_Mo_flow_356 (by decide) (fun c_40 => ?_) (fun c_40 => ?_)
                          · exact absurd c_40 cg
                          · refine lv_aload_n hx hb d_Mo_flow_359 rfl (lv_at hl 4 rfl) ?_
                            refine pg_get (C := "SmokeZonesModel") (T := T_Mo) (N := 47) hx hb hG in_Mo hown hK hP hM.1.1 hM.1.2 rfl 5 (by decide) (hG _ k626) (fun _ h9 => h9) rfl d_Mo_flow_360 ?_
                            refine lv_iload hx hb d_Mo_flow_363 (lv_at hl 0 rfl) ?_
                            refine lv_dup2_11 hx hb d_Mo_flow_365 rfl rfl ?_
                            refine mw_lald hx hb hK hP hM (j := 5) rfl (by rw [eg]; exact vp_in_nI (show g < 10 by omega) (by decide)) d_Mo_flow_366 ?_
                            refine lv_topl (fun y_41 ey_41 => ?_)
                            obtain rfl : y_41 = Y2 5 (Int32.toNatClampNeg (X 12 i)) := ey_41.trans (by simp [up2, hcl_i, h2, h10, h21, h27, h31, h35, hne1, hne2])
                            refine lv_lload_n hx hb d_Mo_flow_367 rfl (lv_at hl 2 rfl) ?_
                            refine lv_ladd hx hb d_Mo_flow_368 ?_
                            refine mw_last hx hb hK hP hD hS hM (j := 5) rfl (by rw [eg]; exact vp_in_nI (show g < 10 by omega) (by decide)) d_Mo_flow_369 (fun f H locs hM hP hD hS => ?_)
                            refine lv_aload_n hx hb d_Mo_flow_370 rfl (lv_at hl 4 rfl) ?_
                            refine pg_get (C := "SmokeZonesModel") (T := T_Mo) (N := 47) hx hb hG in_Mo hown hK hP hM.1.1 hM.1.2 rfl 6 (by decide) (hG _ k627) (fun _ h9 => h9) rfl d_Mo_flow_371 ?_
                            refine lv_iload hx hb d_Mo_flow_374 (lv_at hl 0 rfl) ?_
                            refine lv_dup2_11 hx hb d_Mo_flow_376 rfl rfl ?_
                            refine mw_lald hx hb hK hP hM (j := 6) rfl (by rw [eg]; exact vp_in_nI (show g < 10 by omega) (by decide)) d_Mo_flow_377 ?_
                            refine lv_topl (fun y_42 ey_42 => ?_)
                            obtain rfl : y_42 = Y2 6 (Int32.toNatClampNeg (X 12 i)) := ey_42.trans (by simp [up2, hcl_i, h2, h10, h21, h27, h31, h35, hne1, hne2])
                            refine lv_aload_n hx hb d_Mo_flow_378 rfl (lv_at hl 4 rfl) ?_
                            refine pg_get (C := "SmokeZonesModel") (T := T_Mo) (N := 47) hx hb hG in_Mo hown hK hP hM.1.1 hM.1.2 rfl 19 (by decide) (hG _ k640) (fun _ h9 => h9) rfl d_Mo_flow_379 ?_
                            refine lv_iload_n hx hb d_Mo_flow_382 rfl (lv_at hl 3 rfl) ?_
                            refine mw_lald hx hb hK hP hM (j := 19) rfl (vp_in_nI (show i < 15 by omega) (by decide)) d_Mo_flow_383 ?_
                            refine lv_topl (fun y_43 ey_43 => ?_)
                            obtain rfl : y_43 = Y2 19 i := ey_43.trans (by simp [up2, hcl_i, h2, h10, h21, h27, h31, h35, hne1, hne2])
                            refine lv_ladd hx hb d_Mo_flow_384 ?_
                            refine mw_last hx hb hK hP hD hS hM (j := 6) rfl (by rw [eg]; exact vp_in_nI (show g < 10 by omega) (by decide)) d_Mo_flow_385 (fun f H locs hM hP hD hS => ?_)
                            refine lv_iinc (v := nI (i + 1)) (lv' := [(1, .int (nI (i + 1))), (5, .int (X 12 i)), (4, .int (X 11 i)), (2, .long (Y2 18 i)), (0, .ref (AM 100))]) hx hb d_Mo_flow_386 hl (k := 3) rfl (nI_1 i) (by decide) rfl (fun ls hl => ?_)
                            refine lv_goto (tgt := 198) hx hb d_Mo_flow_389 (by decide) ?_
                            have hN : MW ct AM L (sxFlow2 (fun _ => 0) i X Y2) (syFlow2 (fun _ => 0) i X Y2) f := by
                              (try simp only [sxFlow2, syFlow2, if_neg cg, if_pos c_25, if_pos c_28, if_pos c_31, if_neg c_34])
                              exact hM
                            exact ih1 (i + 1) _ _ _ _ _ (by omega) hN  (by intro a b e20 e5 e6 e44; rw [← hY1 a b e20 e5 e6 e44]; simp only [sxFlow2, syFlow2, if_neg cg, if_pos c_25, if_pos c_28, if_pos c_31, if_neg c_34]; simp [up2, e20, e5, e6, e44]) hP hD hS (lv_sub hl [0, 4] rfl) hfin1
                        · exact absurd c_39 cg
                    · exact absurd c_25 c_31
                  · exact absurd c_25 c_28
                · refine lv_aload_n hx hb d_Mo_flow_217 rfl (lv_at hl 1 rfl) ?_
                  refine pg_get (C := "SmokeZonesModel") (T := T_Mo) (N := 47) hx hb hG in_Mo hown hK hP hM.1.1 hM.1.2 rfl 18 (by decide) (hG _ k639) (fun _ h9 => h9) rfl d_Mo_flow_218 ?_
                  refine lv_iload_n hx hb d_Mo_flow_221 rfl (lv_at hl 0 rfl) ?_
                  refine mw_lald hx hb hK hP hM (j := 18) rfl (vp_in_nI (show i < 15 by omega) (by decide)) d_Mo_flow_222 ?_
                  refine lv_topl (fun y_44 ey_44 => ?_)
                  obtain rfl : y_44 = Y2 18 i := ey_44.trans (by simp [up2, hcl_i, h2, h10, h21, h27, h31, h35, hne1, hne2])
                  refine lv_lneg hx hb d_Mo_flow_223 ?_
                  refine lv_goto (tgt := 233) hx hb d_Mo_flow_224 (by decide) ?_
                  refine lv_lstore_n (lv' := [(2, .long (-(Y2 18 i))), (1, .int (nI i)), (0, .ref (AM 100))]) hx hb d_Mo_flow_233 rfl hl (by decide) rfl (fun ls hl => ?_)
                  refine lv_aload_n hx hb d_Mo_flow_234 rfl (lv_at hl 2 rfl) ?_
                  refine pg_get (C := "SmokeZonesModel") (T := T_Mo) (N := 47) hx hb hG in_Mo hown hK hP hM.1.1 hM.1.2 rfl 18 (by decide) (hG _ k639) (fun _ h9 => h9) rfl d_Mo_flow_235 ?_
                  refine lv_iload_n hx hb d_Mo_flow_238 rfl (lv_at hl 1 rfl) ?_
                  refine mw_lald hx hb hK hP hM (j := 18) rfl (vp_in_nI (show i < 15 by omega) (by decide)) d_Mo_flow_239 ?_
                  refine lv_topl (fun y_45 ey_45 => ?_)
                  obtain rfl : y_45 = Y2 18 i := ey_45.trans (by simp [up2, hcl_i, h2, h10, h21, h27, h31, h35, hne1, hne2])
                  refine lv_lconst (v := 0) hx hb d_Mo_flow_240 (by decide) ?_
                  refine lc_ge (tgt := 254) hx hb d_Mo_flow_241 d_Mo_flow_242 (by decide) (fun c_46 => ?_) (fun c_46 => ?_)
                  · exact absurd c_46 c_25
                  · refine lv_aload_n hx hb d_Mo_flow_245 rfl (lv_at hl 2 rfl) ?_
                    refine pg_get (C := "SmokeZonesModel") (T := T_Mo) (N := 47) hx hb hG in_Mo hown hK hP hM.1.1 hM.1.2 rfl 12 (by decide) (hG _ k633) (fun _ h9 => h9) rfl d_Mo_flow_246 ?_
                    refine lv_iload_n hx hb d_Mo_flow_249 rfl (lv_at hl 1 rfl) ?_
                    refine mw_iald hx hb hK hP hM (j := 12) rfl (vp_in_nI (show i < 15 by omega) (by decide)) d_Mo_flow_250 ?_
                    refine lv_topi (fun y_47 ey_47 => ?_)
                    obtain rfl : y_47 = X 12 i := ey_47.trans (by simp [up2, hcl_i, h2, h10, h21, h27, h31, h35, hne1, hne2])
                    refine lv_goto (tgt := 260) hx hb d_Mo_flow_251 (by decide) ?_
                    refine lv_istore (lv' := [(4, .int (X 12 i)), (2, .long (-(Y2 18 i))), (1, .int (nI i)), (0, .ref (AM 100))]) hx hb d_Mo_flow_260 hl (by decide) rfl (fun ls hl => ?_)
                    refine lv_aload_n hx hb d_Mo_flow_262 rfl (lv_at hl 3 rfl) ?_
                    refine pg_get (C := "SmokeZonesModel") (T := T_Mo) (N := 47) hx hb hG in_Mo hown hK hP hM.1.1 hM.1.2 rfl 18 (by decide) (hG _ k639) (fun _ h9 => h9) rfl d_Mo_flow_263 ?_
                    refine lv_iload_n hx hb d_Mo_flow_266 rfl (lv_at hl 2 rfl) ?_
                    refine mw_lald hx hb hK hP hM (j := 18) rfl (vp_in_nI (show i < 15 by omega) (by decide)) d_Mo_flow_267 ?_
                    refine lv_topl (fun y_48 ey_48 => ?_)
                    obtain rfl : y_48 = Y2 18 i := ey_48.trans (by simp [up2, hcl_i, h2, h10, h21, h27, h31, h35, hne1, hne2])
                    refine lv_lconst (v := 0) hx hb d_Mo_flow_268 (by decide) ?_
                    refine lc_ge (tgt := 282) hx hb d_Mo_flow_269 d_Mo_flow_270 (by decide) (fun c_49 => ?_) (fun c_49 => ?_)
                    · exact absurd c_49 c_25
                    · refine lv_aload_n hx hb d_Mo_flow_273 rfl (lv_at hl 3 rfl) ?_
                      refine pg_get (C := "SmokeZonesModel") (T := T_Mo) (N := 47) hx hb hG in_Mo hown hK hP hM.1.1 hM.1.2 rfl 11 (by decide) (hG _ k632) (fun _ h9 => h9) rfl d_Mo_flow_274 ?_
                      refine lv_iload_n hx hb d_Mo_flow_277 rfl (lv_at hl 2 rfl) ?_
                      refine mw_iald hx hb hK hP hM (j := 11) rfl (vp_in_nI (show i < 15 by omega) (by decide)) d_Mo_flow_278 ?_
                      refine lv_topi (fun y_50 ey_50 => ?_)
                      obtain rfl : y_50 = X 11 i := ey_50.trans (by simp [up2, hcl_i, h2, h10, h21, h27, h31, h35, hne1, hne2])
                      refine lv_goto (tgt := 288) hx hb d_Mo_flow_279 (by decide) ?_
                      refine lv_istore (lv' := [(5, .int (X 11 i)), (4, .int (X 12 i)), (2, .long (-(Y2 18 i))), (1, .int (nI i)), (0, .ref (AM 100))]) hx hb d_Mo_flow_288 hl (by decide) rfl (fun ls hl => ?_)
                      refine lv_aload_n hx hb d_Mo_flow_290 rfl (lv_at hl 4 rfl) ?_
                      refine pg_get (C := "SmokeZonesModel") (T := T_Mo) (N := 47) hx hb hG in_Mo hown hK hP hM.1.1 hM.1.2 rfl 20 (by decide) (hG _ k641) (fun _ h9 => h9) rfl d_Mo_flow_291 ?_
                      refine lv_iload_n hx hb d_Mo_flow_294 rfl (lv_at hl 3 rfl) ?_
                      refine lv_dup2_11 hx hb d_Mo_flow_295 rfl rfl ?_
                      refine mw_lald hx hb hK hP hM (j := 20) rfl (vp_in_nI (show i < 15 by omega) (by decide)) d_Mo_flow_296 ?_
                      refine lv_topl (fun y_51 ey_51 => ?_)
                      obtain rfl : y_51 = Y2 20 i := ey_51.trans (by simp [up2, hcl_i, h2, h10, h21, h27, h31, h35, hne1, hne2])
                      refine lv_lload_n hx hb d_Mo_flow_297 rfl (lv_at hl 2 rfl) ?_
                      refine lv_ladd hx hb d_Mo_flow_298 ?_
                      refine mw_last hx hb hK hP hD hS hM (j := 20) rfl (vp_in_nI (show i < 15 by omega) (by decide)) d_Mo_flow_299 (fun f H locs hM hP hD hS => ?_)
                      rw [show (nI i).toNatClampNeg = i from nI_clamp (by omega)] at hM
                      refine lv_lload_n hx hb d_Mo_flow_300 rfl (lv_at hl 2 rfl) ?_
                      refine lv_lconst (v := 0) hx hb d_Mo_flow_301 (by decide) ?_
                      refine lc_le (tgt := 386) hx hb d_Mo_flow_302 d_Mo_flow_303 (by decide) (fun c_52 => ?_) (fun c_52 => ?_)
                      · refine lv_iinc (v := nI (i + 1)) (lv' := [(1, .int (nI (i + 1))), (5, .int (X 11 i)), (4, .int (X 12 i)), (2, .long (-(Y2 18 i))), (0, .ref (AM 100))]) hx hb d_Mo_flow_386 hl (k := 3) rfl (nI_1 i) (by decide) rfl (fun ls hl => ?_)
                        refine lv_goto (tgt := 198) hx hb d_Mo_flow_389 (by decide) ?_
                        have hN : MW ct AM L (sxFlow2 (fun _ => 0) i X Y2) (syFlow2 (fun _ => 0) i X Y2) f := by
                          (try simp only [sxFlow2, syFlow2, if_neg cg, if_neg c_25, if_neg c_46, if_neg c_49, if_pos c_52])
                          exact hM
                        exact ih1 (i + 1) _ _ _ _ _ (by omega) hN  (by intro a b e20 e5 e6 e44; rw [← hY1 a b e20 e5 e6 e44]; simp only [sxFlow2, syFlow2, if_neg cg, if_neg c_25, if_neg c_46, if_neg c_49, if_pos c_52]; simp [up2, e20, e5, e6, e44]) hP hD hS (lv_sub hl [0, 4] rfl) hfin1
                      · refine lv_aload_n hx hb d_Mo_flow_306 rfl (lv_at hl 4 rfl) ?_
                        refine pg_get (C := "SmokeZonesModel") (T := T_Mo) (N := 47) hx hb hG in_Mo hown hK hP hM.1.1 hM.1.2 rfl 5 (by decide) (hG _ k626) (fun _ h9 => h9) rfl d_Mo_flow_307 ?_
                        refine lv_iload hx hb d_Mo_flow_310 (lv_at hl 1 rfl) ?_
                        refine lv_dup2_11 hx hb d_Mo_flow_312 rfl rfl ?_
                        refine mw_lald hx hb hK hP hM (j := 5) rfl (by rw [eg]; exact vp_in_nI (show g < 10 by omega) (by decide)) d_Mo_flow_313 ?_
                        refine lv_topl (fun y_53 ey_53 => ?_)
                        obtain rfl : y_53 = Y2 5 (Int32.toNatClampNeg (X 12 i)) := ey_53.trans (by simp [up2, hcl_i, h2, h10, h21, h27, h31, h35, hne1, hne2])
                        refine lv_lload_n hx hb d_Mo_flow_314 rfl (lv_at hl 2 rfl) ?_
                        refine lv_lsub hx hb d_Mo_flow_315 ?_
                        refine mw_last hx hb hK hP hD hS hM (j := 5) rfl (by rw [eg]; exact vp_in_nI (show g < 10 by omega) (by decide)) d_Mo_flow_316 (fun f H locs hM hP hD hS => ?_)
                        refine lv_aload_n hx hb d_Mo_flow_317 rfl (lv_at hl 4 rfl) ?_
                        refine pg_get (C := "SmokeZonesModel") (T := T_Mo) (N := 47) hx hb hG in_Mo hown hK hP hM.1.1 hM.1.2 rfl 6 (by decide) (hG _ k627) (fun _ h9 => h9) rfl d_Mo_flow_318 ?_
                        refine lv_iload hx hb d_Mo_flow_321 (lv_at hl 1 rfl) ?_
                        refine lv_dup2_11 hx hb d_Mo_flow_323 rfl rfl ?_
                        refine mw_lald hx hb hK hP hM (j := 6) rfl (by rw [eg]; exact vp_in_nI (show g < 10 by omega) (by decide)) d_Mo_flow_324 ?_
                        refine lv_topl (fun y_54 ey_54 => ?_)
                        obtain rfl : y_54 = Y2 6 (Int32.toNatClampNeg (X 12 i)) := ey_54.trans (by simp [up2, hcl_i, h2, h10, h21, h27, h31, h35, hne1, hne2])
                        refine lv_aload_n hx hb d_Mo_flow_325 rfl (lv_at hl 4 rfl) ?_
                        refine pg_get (C := "SmokeZonesModel") (T := T_Mo) (N := 47) hx hb hG in_Mo hown hK hP hM.1.1 hM.1.2 rfl 19 (by decide) (hG _ k640) (fun _ h9 => h9) rfl d_Mo_flow_326 ?_
                        refine lv_iload_n hx hb d_Mo_flow_329 rfl (lv_at hl 3 rfl) ?_
                        refine mw_lald hx hb hK hP hM (j := 19) rfl (vp_in_nI (show i < 15 by omega) (by decide)) d_Mo_flow_330 ?_
                        refine lv_topl (fun y_55 ey_55 => ?_)
                        obtain rfl : y_55 = Y2 19 i := ey_55.trans (by simp [up2, hcl_i, h2, h10, h21, h27, h31, h35, hne1, hne2])
                        refine lv_lsub hx hb d_Mo_flow_331 ?_
                        refine mw_last hx hb hK hP hD hS hM (j := 6) rfl (by rw [eg]; exact vp_in_nI (show g < 10 by omega) (by decide)) d_Mo_flow_332 (fun f H locs hM hP hD hS => ?_)
                        refine lv_aload_n hx hb d_Mo_flow_333 rfl (lv_at hl 4 rfl) ?_
                        refine lv_dup hx hb d_Mo_flow_334 rfl ?_
                        refine pg_get (C := "SmokeZonesModel") (T := T_Mo) (N := 47) hx hb hG in_Mo hown hK hP hM.1.1 hM.1.2 rfl 44 (by decide) (hG _ k665) (fun _ h9 => h9) rfl d_Mo_flow_335 ?_
                        refine lv_topl (fun y_56 ey_56 => ?_)
                        obtain rfl : y_56 = Y2 44 0 := ey_56.trans (by simp [up2, hcl_i, h2, h10, h21, h27, h31, h35, hne1, hne2])
                        refine lv_iload hx hb d_Mo_flow_338 (lv_at hl 0 rfl) ?_
                        refine lv_iconst (v := (-1)) hx hb d_Mo_flow_340 (by decide) ?_
                        refine lv_icmp_ne (tgt := 348) hx hb d_Mo_flow_341 (by decide) (fun c_57 => ?_) (fun c_57 => ?_)
                        · refine lv_lconst (v := 0) hx hb d_Mo_flow_348 (by decide) ?_
                          refine lv_ladd hx hb d_Mo_flow_349 ?_
                          refine pg_put (C := "SmokeZonesModel") (T := T_Mo) (N := 47) (ty := .long) hx hb hG in_Mo ty_Mo ok_Mo nm_Mo hown hK hP hD hS hM.1.1 hM.1.2 rfl 44 (by decide) (hG _ k665) (fun _ h9 => h9) rfl (by decide +kernel) rfl rfl (Nat.le_of_ble_eq_true rfl) d_Mo_flow_350 (fun H locs hP hD hS => ?_)
                          have hM := hM.putY (j := 44) (v := (Y2 44 0) + 0) rfl moF_44
                          generalize va_up _ (AM 100) _ = f at hM hP hD
                          refine lv_iload hx hb d_Mo_flow_353 (lv_at hl 0 rfl) ?_
                          refine lv_iconst (v := (-1)) hx hb d_Mo_flow_355 (by decide) ?_
                          refine lv_icmp_eq (tgt := 386) hx hb d_Mo_flow_356 (by decide) (fun c_58 => ?_) (fun c_58 => ?_)
                          · exact absurd c_58 er1
                          · refine lv_aload_n hx hb d_Mo_flow_359 rfl (lv_at hl 4 rfl) ?_
                            refine pg_get (C := "SmokeZonesModel") (T := T_Mo) (N := 47) hx hb hG in_Mo hown hK hP hM.1.1 hM.1.2 rfl 5 (by decide) (hG _ k626) (fun _ h9 => h9) rfl d_Mo_flow_360 ?_
                            refine lv_iload hx hb d_Mo_flow_363 (lv_at hl 0 rfl) ?_
                            refine lv_dup2_11 hx hb d_Mo_flow_365 rfl rfl ?_
                            refine mw_lald hx hb hK hP hM (j := 5) rfl (by rw [er]; exact vp_in_nI (show r < 10 by omega) (by decide)) d_Mo_flow_366 ?_
                            refine lv_topl (fun y_59 ey_59 => ?_)
                            obtain rfl : y_59 = Y2 5 (Int32.toNatClampNeg (X 11 i)) := ey_59.trans (by simp [up2, hcl_i, h2, h10, h21, h27, h31, h35, hne1, hne2])
                            refine lv_lload_n hx hb d_Mo_flow_367 rfl (lv_at hl 2 rfl) ?_
                            refine lv_ladd hx hb d_Mo_flow_368 ?_
                            refine mw_last hx hb hK hP hD hS hM (j := 5) rfl (by rw [er]; exact vp_in_nI (show r < 10 by omega) (by decide)) d_Mo_flow_369 (fun f H locs hM hP hD hS => ?_)
                            refine lv_aload_n hx hb d_Mo_flow_370 rfl (lv_at hl 4 rfl) ?_
                            refine pg_get (C := "SmokeZonesModel") (T := T_Mo) (N := 47) hx hb hG in_Mo hown hK hP hM.1.1 hM.1.2 rfl 6 (by decide) (hG _ k627) (fun _ h9 => h9) rfl d_Mo_flow_371 ?_
                            refine lv_iload hx hb d_Mo_flow_374 (lv_at hl 0 rfl) ?_
                            refine lv_dup2_11 hx hb d_Mo_flow_376 rfl rfl ?_
                            refine mw_lald hx hb hK hP hM (j := 6) rfl (by rw [er]; exact vp_in_nI (show r < 10 by omega) (by decide)) d_Mo_flow_377 ?_
                            refine lv_topl (fun y_60 ey_60 => ?_)
                            obtain rfl : y_60 = Y2 6 (Int32.toNatClampNeg (X 11 i)) := ey_60.trans (by simp [up2, hcl_i, h2, h10, h21, h27, h31, h35, hne1, hne2])
                            refine lv_aload_n hx hb d_Mo_flow_378 rfl (lv_at hl 4 rfl) ?_
                            refine pg_get (C := "SmokeZonesModel") (T := T_Mo) (N := 47) hx hb hG in_Mo hown hK hP hM.1.1 hM.1.2 rfl 19 (by decide) (hG _ k640) (fun _ h9 => h9) rfl d_Mo_flow_379 ?_
                            refine lv_iload_n hx hb d_Mo_flow_382 rfl (lv_at hl 3 rfl) ?_
                            refine mw_lald hx hb hK hP hM (j := 19) rfl (vp_in_nI (show i < 15 by omega) (by decide)) d_Mo_flow_383 ?_
                            refine lv_topl (fun y_61 ey_61 => ?_)
                            obtain rfl : y_61 = Y2 19 i := ey_61.trans (by simp [up2, hcl_i, h2, h10, h21, h27, h31, h35, hne1, hne2])
                            refine lv_ladd hx hb d_Mo_flow_384 ?_
                            refine mw_last hx hb hK hP hD hS hM (j := 6) rfl (by rw [er]; exact vp_in_nI (show r < 10 by omega) (by decide)) d_Mo_flow_385 (fun f H locs hM hP hD hS => ?_)
                            refine lv_iinc (v := nI (i + 1)) (lv' := [(1, .int (nI (i + 1))), (5, .int (X 11 i)), (4, .int (X 12 i)), (2, .long (-(Y2 18 i))), (0, .ref (AM 100))]) hx hb d_Mo_flow_386 hl (k := 3) rfl (nI_1 i) (by decide) rfl (fun ls hl => ?_)
                            refine lv_goto (tgt := 198) hx hb d_Mo_flow_389 (by decide) ?_
                            have hN : MW ct AM L (sxFlow2 (fun _ => 0) i X Y2) (syFlow2 (fun _ => 0) i X Y2) f := by
                              (try simp only [sxFlow2, syFlow2, if_neg cg, if_neg c_25, if_neg c_46, if_neg c_49, if_neg c_52])
                              exact hM
                            exact ih1 (i + 1) _ _ _ _ _ (by omega) hN  (by intro a b e20 e5 e6 e44; rw [← hY1 a b e20 e5 e6 e44]; simp only [sxFlow2, syFlow2, if_neg cg, if_neg c_25, if_neg c_46, if_neg c_49, if_neg c_52]; simp [up2, e20, e5, e6, e44]) hP hD hS (lv_sub hl [0, 4] rfl) hfin1
                        · exact absurd c_57 er1
        exact lp1 (n 1) 0 Y1 f _ _ _ (by omega) hM (fun _ _ _ _ _ _ => rfl) hP hD hS (lv_sub hl [0, 1] rfl) rfl
      · exact (ge_yes (by omega) (by omega) c_2).elim
    | succ k ih0 =>
      intro i Y1 f H locs ls hik0 hM hY0 hP hD hS hl hfin0
      have hle_i : i ≤ n 1 := by omega
      have hcl_i : (nI i).toNatClampNeg = i := nI_clamp (by omega)
      have hi : i < n 1 := by omega
      refine lv_iload_n hx hb d_Mo_flow_2 rfl (lv_at hl 0 rfl) ?_
      refine lv_aload_n hx hb d_Mo_flow_3 rfl (lv_at hl 1 rfl) ?_
      refine pg_get (C := "SmokeZonesModel") (T := T_Mo) (N := 47) hx hb hG in_Mo hown hK hP hM.1.1 hM.1.2 rfl 10 (by decide) (hG _ k631) (fun _ h9 => h9) rfl d_Mo_flow_4 ?_
      refine lv_topi (fun y_62 ey_62 => ?_)
      obtain rfl : y_62 = nI (n 1) := ey_62.trans (by simp [up2, hcl_i, h2, h10, h21, h27, h31, h35])
      refine lv_icmp_ge (tgt := 196) hx hb d_Mo_flow_7 (by decide) (fun c_63 => ?_) (fun c_63 => ?_)
      · exact (ge_no hi (by omega) c_63).elim
      · have hY5 : ∀ b, Y1 5 b = Y 5 b := fun b => hY0 5 b (by decide) (by decide)
        have hcv : ∀ r, mo_cv X Y1 i r = mo_cv X Y i r := fun r => cvY hY5
        have hq1 := hq1 i hi
        simp only [← hcv, ← hY5] at hq1
        have hq2 := hq2 i hi
        simp only [← hcv, ← hY5] at hq2
        have hq3 := hq3 i hi
        simp only [← hcv, ← hY5] at hq3
        have hq4 := hq4 i hi
        simp only [← hcv] at hq4
        obtain ⟨⟨r, hr, er0⟩, ho, hd0⟩ := hop i hi
        have er : X 11 i = nI r := by exact er0
        rcases ho with e0 | ⟨g, hg, e0⟩
        · have eg : X 12 i = (-1) := by exact e0
          have ha_r : ¬ Int32.toInt64 (X 3 r) = 0 := ha r hr
          refine lv_aload_n hx hb d_Mo_flow_10 rfl (lv_at hl 1 rfl) ?_
          refine pg_get (C := "SmokeZonesModel") (T := T_Mo) (N := 47) hx hb hG in_Mo hown hK hP hM.1.1 hM.1.2 rfl 18 (by decide) (hG _ k639) (fun _ h9 => h9) rfl d_Mo_flow_11 ?_
          refine lv_iload_n hx hb d_Mo_flow_14 rfl (lv_at hl 0 rfl) ?_
          refine lv_lconst (v := 0) hx hb d_Mo_flow_15 (by decide) ?_
          refine mw_last hx hb hK hP hD hS hM (j := 18) rfl (vp_in_nI (show i < 15 by omega) (by decide)) d_Mo_flow_16 (fun f H locs hM hP hD hS => ?_)
          rw [show (nI i).toNatClampNeg = i from nI_clamp (by omega)] at hM
          refine lv_aload_n hx hb d_Mo_flow_17 rfl (lv_at hl 1 rfl) ?_
          refine pg_get (C := "SmokeZonesModel") (T := T_Mo) (N := 47) hx hb hG in_Mo hown hK hP hM.1.1 hM.1.2 rfl 19 (by decide) (hG _ k640) (fun _ h9 => h9) rfl d_Mo_flow_18 ?_
          refine lv_iload_n hx hb d_Mo_flow_21 rfl (lv_at hl 0 rfl) ?_
          refine lv_lconst (v := 0) hx hb d_Mo_flow_22 (by decide) ?_
          refine mw_last hx hb hK hP hD hS hM (j := 19) rfl (vp_in_nI (show i < 15 by omega) (by decide)) d_Mo_flow_23 (fun f H locs hM hP hD hS => ?_)
          rw [show (nI i).toNatClampNeg = i from nI_clamp (by omega)] at hM
          refine lv_aload_n hx hb d_Mo_flow_24 rfl (lv_at hl 1 rfl) ?_
          refine pg_get (C := "SmokeZonesModel") (T := T_Mo) (N := 47) hx hb hG in_Mo hown hK hP hM.1.1 hM.1.2 rfl 17 (by decide) (hG _ k638) (fun _ h9 => h9) rfl d_Mo_flow_25 ?_
          refine lv_iload_n hx hb d_Mo_flow_28 rfl (lv_at hl 0 rfl) ?_
          refine mw_zald hx hb hK hP hM (j := 17) rfl (vp_in_nI (show i < 15 by omega) (by decide)) d_Mo_flow_29 ?_
          refine lv_topi (fun y_64 ey_64 => ?_)
          obtain rfl : y_64 = X 17 i := ey_64.trans (by simp [up2, hcl_i, h2, h10, h21, h27, h31, h35])
          refine lv_if_eq (tgt := 59) hx hb d_Mo_flow_30 (by decide) (fun c_65 => ?_) (fun c_65 => ?_)
          · refine lv_lconst (v := 0) hx hb d_Mo_flow_59 (by decide) ?_
            refine lv_lstore_n (lv' := [(2, .long 0), (1, .int (nI i)), (0, .ref (AM 100))]) hx hb d_Mo_flow_60 rfl hl (by decide) rfl (fun ls hl => ?_)
            refine lv_lload_n hx hb d_Mo_flow_61 rfl (lv_at hl 0 rfl) ?_
            refine lv_lconst (v := 0) hx hb d_Mo_flow_62 (by decide) ?_
            refine lc_eq (tgt := 190) hx hb d_Mo_flow_63 d_Mo_flow_64 (by decide) (fun c_66 => ?_) (fun c_66 => ?_)
            · refine lv_iinc (v := nI (i + 1)) (lv' := [(1, .int (nI (i + 1))), (2, .long 0), (0, .ref (AM 100))]) hx hb d_Mo_flow_190 hl (k := 1) rfl (nI_1 i) (by decide) rfl (fun ls hl => ?_)
              refine lv_goto (tgt := 2) hx hb d_Mo_flow_193 (by decide) ?_
              have hN : MW ct AM L (sxFlow1 (fun _ => 0) i X Y1) (syFlow1 (fun _ => 0) i X Y1) f := by
                (try simp only [sxFlow1, syFlow1, if_pos eg, if_pos c_65, if_pos c_66])
                exact hM
              exact ih0 (i + 1) _ _ _ _ _ (by omega) hN  (by intro a b e18 e19; rw [← hY0 a b e18 e19]; simp only [sxFlow1, syFlow1, if_pos eg, if_pos c_65, if_pos c_66]; simp [up2, e18, e19]) hP hD hS (lv_sub hl [0, 2] rfl) hfin0
            · exact absurd (by decide) c_66
          · refine lv_aload_n hx hb d_Mo_flow_33 rfl (lv_at hl 1 rfl) ?_
            refine lv_iload_n hx hb d_Mo_flow_34 rfl (lv_at hl 0 rfl) ?_
            refine lv_aload_n hx hb d_Mo_flow_35 rfl (lv_at hl 1 rfl) ?_
            refine pg_get (C := "SmokeZonesModel") (T := T_Mo) (N := 47) hx hb hG in_Mo hown hK hP hM.1.1 hM.1.2 rfl 11 (by decide) (hG _ k632) (fun _ h9 => h9) rfl d_Mo_flow_36 ?_
            refine lv_iload_n hx hb d_Mo_flow_39 rfl (lv_at hl 0 rfl) ?_
            refine mw_iald hx hb hK hP hM (j := 11) rfl (vp_in_nI (show i < 15 by omega) (by decide)) d_Mo_flow_40 ?_
            refine lv_topi (fun y_67 ey_67 => ?_)
            obtain rfl : y_67 = X 11 i := ey_67.trans (by simp [up2, hcl_i, h2, h10, h21, h27, h31, h35])
            refine kV_rl ⟨hx, hb, hml, hown, hG⟩ (c_Mo_covered_e hM (r := r) (by omega) (by omega) (by simpa [up2] using ha_r) er) (cwV 2 hG (gV k830 k832 ks_Mo_covered k2 k833) rfl rfl rfl hd_Mo_covered ⟨Nat.le_of_ble_eq_true rfl, Nat.le_of_ble_eq_true rfl⟩) hK hP hS hM.1.1 hM.1.2 rfl rfl hl.1 rfl (Nat.le_of_ble_eq_true rfl) ⟨Nat.le_of_ble_eq_true rfl, Nat.le_of_ble_eq_true rfl⟩ d_Mo_flow_41 (fun locs hS => ?_)
            refine lv_topl (fun y_68 ey_68 => ?_)
            obtain rfl : y_68 = mo_cv X Y1 i (Int32.toNatClampNeg (X 11 i)) := ey_68.trans (cvY (fun b => by simp [up2]))
            refine lv_aload_n hx hb d_Mo_flow_44 rfl (lv_at hl 1 rfl) ?_
            refine lv_iload_n hx hb d_Mo_flow_45 rfl (lv_at hl 0 rfl) ?_
            refine lv_aload_n hx hb d_Mo_flow_46 rfl (lv_at hl 1 rfl) ?_
            refine pg_get (C := "SmokeZonesModel") (T := T_Mo) (N := 47) hx hb hG in_Mo hown hK hP hM.1.1 hM.1.2 rfl 12 (by decide) (hG _ k633) (fun _ h9 => h9) rfl d_Mo_flow_47 ?_
            refine lv_iload_n hx hb d_Mo_flow_50 rfl (lv_at hl 0 rfl) ?_
            refine mw_iald hx hb hK hP hM (j := 12) rfl (vp_in_nI (show i < 15 by omega) (by decide)) d_Mo_flow_51 ?_
            refine lv_topi (fun y_69 ey_69 => ?_)
            obtain rfl : y_69 = X 12 i := ey_69.trans (by simp [up2, hcl_i, h2, h10, h21, h27, h31, h35])
            refine kV_rl ⟨hx, hb, hml, hown, hG⟩ (c_Mo_covered_en hM (by omega) eg) (cwV 2 hG (gV k830 k832 ks_Mo_covered k2 k833) rfl rfl rfl hd_Mo_covered ⟨Nat.le_of_ble_eq_true rfl, Nat.le_of_ble_eq_true rfl⟩) hK hP hS hM.1.1 hM.1.2 rfl rfl hl.1 rfl (Nat.le_of_ble_eq_true rfl) ⟨Nat.le_of_ble_eq_true rfl, Nat.le_of_ble_eq_true rfl⟩ d_Mo_flow_52 (fun locs hS => ?_)
            refine lv_lsub hx hb d_Mo_flow_55 ?_
            refine lv_goto (tgt := 60) hx hb d_Mo_flow_56 (by decide) ?_
            refine lv_lstore_n (lv' := [(2, .long ((mo_cv X Y1 i (Int32.toNatClampNeg (X 11 i))) - 0)), (1, .int (nI i)), (0, .ref (AM 100))]) hx hb d_Mo_flow_60 rfl hl (by decide) rfl (fun ls hl => ?_)
            refine lv_lload_n hx hb d_Mo_flow_61 rfl (lv_at hl 0 rfl) ?_
            refine lv_lconst (v := 0) hx hb d_Mo_flow_62 (by decide) ?_
            refine lc_eq (tgt := 190) hx hb d_Mo_flow_63 d_Mo_flow_64 (by decide) (fun c_70 => ?_) (fun c_70 => ?_)
            · refine lv_iinc (v := nI (i + 1)) (lv' := [(1, .int (nI (i + 1))), (2, .long ((mo_cv X Y1 i (Int32.toNatClampNeg (X 11 i))) - 0)), (0, .ref (AM 100))]) hx hb d_Mo_flow_190 hl (k := 1) rfl (nI_1 i) (by decide) rfl (fun ls hl => ?_)
              refine lv_goto (tgt := 2) hx hb d_Mo_flow_193 (by decide) ?_
              have hN : MW ct AM L (sxFlow1 (fun _ => 0) i X Y1) (syFlow1 (fun _ => 0) i X Y1) f := by
                (try simp only [sxFlow1, syFlow1, if_pos eg, if_neg c_65, if_pos c_70])
                exact hM
              exact ih0 (i + 1) _ _ _ _ _ (by omega) hN  (by intro a b e18 e19; rw [← hY0 a b e18 e19]; simp only [sxFlow1, syFlow1, if_pos eg, if_neg c_65, if_pos c_70]; simp [up2, e18, e19]) hP hD hS (lv_sub hl [0, 2] rfl) hfin0
            · refine lv_lload_n hx hb d_Mo_flow_67 rfl (lv_at hl 0 rfl) ?_
              refine lv_lconst (v := 0) hx hb d_Mo_flow_68 (by decide) ?_
              refine lc_le (tgt := 82) hx hb d_Mo_flow_69 d_Mo_flow_70 (by decide) (fun c_71 => ?_) (fun c_71 => ?_)
              · exact absurd (hq4 eg c_71) c_70
              · refine lv_aload_n hx hb d_Mo_flow_73 rfl (lv_at hl 2 rfl) ?_
                refine pg_get (C := "SmokeZonesModel") (T := T_Mo) (N := 47) hx hb hG in_Mo hown hK hP hM.1.1 hM.1.2 rfl 11 (by decide) (hG _ k632) (fun _ h9 => h9) rfl d_Mo_flow_74 ?_
                refine lv_iload_n hx hb d_Mo_flow_77 rfl (lv_at hl 1 rfl) ?_
                refine mw_iald hx hb hK hP hM (j := 11) rfl (vp_in_nI (show i < 15 by omega) (by decide)) d_Mo_flow_78 ?_
                refine lv_topi (fun y_72 ey_72 => ?_)
                obtain rfl : y_72 = X 11 i := ey_72.trans (by simp [up2, hcl_i, h2, h10, h21, h27, h31, h35])
                refine lv_goto (tgt := 88) hx hb d_Mo_flow_79 (by decide) ?_
                refine lv_istore (lv' := [(4, .int (X 11 i)), (2, .long ((mo_cv X Y1 i (Int32.toNatClampNeg (X 11 i))) - 0)), (1, .int (nI i)), (0, .ref (AM 100))]) hx hb d_Mo_flow_88 hl (by decide) rfl (fun ls hl => ?_)
                refine lv_ldc2 hx hb hown (hG _ k838) d_Mo_flow_90 ?_
                refine lv_aload_n hx hb d_Mo_flow_93 rfl (lv_at hl 3 rfl) ?_
                refine pg_get (C := "SmokeZonesModel") (T := T_Mo) (N := 47) hx hb hG in_Mo hown hK hP hM.1.1 hM.1.2 rfl 13 (by decide) (hG _ k634) (fun _ h9 => h9) rfl d_Mo_flow_94 ?_
                refine lv_iload_n hx hb d_Mo_flow_97 rfl (lv_at hl 2 rfl) ?_
                refine mw_iald hx hb hK hP hM (j := 13) rfl (vp_in_nI (show i < 15 by omega) (by decide)) d_Mo_flow_98 ?_
                refine lv_topi (fun y_73 ey_73 => ?_)
                obtain rfl : y_73 = X 13 i := ey_73.trans (by simp [up2, hcl_i, h2, h10, h21, h27, h31, h35])
                refine lv_i2l hx hb d_Mo_flow_99 rfl ?_
                refine lv_lmul hx hb d_Mo_flow_100 ?_
                refine lv_lload_n hx hb d_Mo_flow_101 rfl (lv_at hl 1 rfl) ?_
                refine lv_lconst (v := 0) hx hb d_Mo_flow_102 (by decide) ?_
                refine lc_le (tgt := 111) hx hb d_Mo_flow_103 d_Mo_flow_104 (by decide) (fun c_74 => ?_) (fun c_74 => ?_)
                · exact absurd c_74 c_71
                · refine lv_lload_n hx hb d_Mo_flow_107 rfl (lv_at hl 1 rfl) ?_
                  refine lv_goto (tgt := 113) hx hb d_Mo_flow_108 (by decide) ?_
                  refine lv_lmul hx hb d_Mo_flow_113 ?_
                  refine lv_lstore (lv' := [(5, .long ((5 * (Int32.toInt64 (X 13 i))) * ((mo_cv X Y1 i (Int32.toNatClampNeg (X 11 i))) - 0))), (4, .int (X 11 i)), (2, .long ((mo_cv X Y1 i (Int32.toNatClampNeg (X 11 i))) - 0)), (1, .int (nI i)), (0, .ref (AM 100))]) hx hb d_Mo_flow_114 hl (by decide) rfl (fun ls hl => ?_)
                  refine lv_aload_n hx hb d_Mo_flow_116 rfl (lv_at hl 4 rfl) ?_
                  refine pg_get (C := "SmokeZonesModel") (T := T_Mo) (N := 47) hx hb hG in_Mo hown hK hP hM.1.1 hM.1.2 rfl 5 (by decide) (hG _ k626) (fun _ h9 => h9) rfl d_Mo_flow_117 ?_
                  refine lv_iload hx hb d_Mo_flow_120 (lv_at hl 1 rfl) ?_
                  refine mw_lald hx hb hK hP hM (j := 5) rfl (by rw [er]; exact vp_in_nI (show r < 10 by omega) (by decide)) d_Mo_flow_122 ?_
                  refine lv_topl (fun y_75 ey_75 => ?_)
                  obtain rfl : y_75 = Y1 5 (Int32.toNatClampNeg (X 11 i)) := ey_75.trans (by simp [up2, hcl_i, h2, h10, h21, h27, h31, h35])
                  refine lv_ldc2 hx hb hown (hG _ k839) d_Mo_flow_123 ?_
                  refine lv_ldiv hx hb d_Mo_flow_126 (by decide) ?_
                  refine lv_lstore (lv' := [(7, .long ((Y1 5 (Int32.toNatClampNeg (X 11 i))) / 16)), (5, .long ((5 * (Int32.toInt64 (X 13 i))) * ((mo_cv X Y1 i (Int32.toNatClampNeg (X 11 i))) - 0))), (4, .int (X 11 i)), (2, .long ((mo_cv X Y1 i (Int32.toNatClampNeg (X 11 i))) - 0)), (1, .int (nI i)), (0, .ref (AM 100))]) hx hb d_Mo_flow_127 hl (by decide) rfl (fun ls hl => ?_)
                  refine lv_lload hx hb d_Mo_flow_129 (lv_at hl 1 rfl) ?_
                  refine lv_lload hx hb d_Mo_flow_131 (lv_at hl 0 rfl) ?_
                  refine lc_le (tgt := 142) hx hb d_Mo_flow_133 d_Mo_flow_134 (by decide) (fun c_76 => ?_) (fun c_76 => ?_)
                  · refine lv_lload hx hb d_Mo_flow_142 (lv_at hl 1 rfl) ?_
                    refine lv_lstore (lv' := [(5, .long ((5 * (Int32.toInt64 (X 13 i))) * ((mo_cv X Y1 i (Int32.toNatClampNeg (X 11 i))) - 0))), (7, .long ((Y1 5 (Int32.toNatClampNeg (X 11 i))) / 16)), (4, .int (X 11 i)), (2, .long ((mo_cv X Y1 i (Int32.toNatClampNeg (X 11 i))) - 0)), (1, .int (nI i)), (0, .ref (AM 100))]) hx hb d_Mo_flow_144 hl (by decide) rfl (fun ls hl => ?_)
                    refine lv_aload_n hx hb d_Mo_flow_146 rfl (lv_at hl 5 rfl) ?_
                    refine pg_get (C := "SmokeZonesModel") (T := T_Mo) (N := 47) hx hb hG in_Mo hown hK hP hM.1.1 hM.1.2 rfl 18 (by decide) (hG _ k639) (fun _ h9 => h9) rfl d_Mo_flow_147 ?_
                    refine lv_iload_n hx hb d_Mo_flow_150 rfl (lv_at hl 4 rfl) ?_
                    refine lv_lload_n hx hb d_Mo_flow_151 rfl (lv_at hl 3 rfl) ?_
                    refine lv_lconst (v := 0) hx hb d_Mo_flow_152 (by decide) ?_
                    refine lc_le (tgt := 162) hx hb d_Mo_flow_153 d_Mo_flow_154 (by decide) (fun c_77 => ?_) (fun c_77 => ?_)
                    · exact absurd c_77 c_71
                    · refine lv_lload hx hb d_Mo_flow_157 (lv_at hl 0 rfl) ?_
                      refine lv_goto (tgt := 165) hx hb d_Mo_flow_159 (by decide) ?_
                      refine mw_last hx hb hK hP hD hS hM (j := 18) rfl (vp_in_nI (show i < 15 by omega) (by decide)) d_Mo_flow_165 (fun f H locs hM hP hD hS => ?_)
                      rw [show (nI i).toNatClampNeg = i from nI_clamp (by omega)] at hM
                      refine lv_aload_n hx hb d_Mo_flow_166 rfl (lv_at hl 5 rfl) ?_
                      refine pg_get (C := "SmokeZonesModel") (T := T_Mo) (N := 47) hx hb hG in_Mo hown hK hP hM.1.1 hM.1.2 rfl 19 (by decide) (hG _ k640) (fun _ h9 => h9) rfl d_Mo_flow_167 ?_
                      refine lv_iload_n hx hb d_Mo_flow_170 rfl (lv_at hl 4 rfl) ?_
                      refine lv_aload_n hx hb d_Mo_flow_171 rfl (lv_at hl 5 rfl) ?_
                      refine pg_get (C := "SmokeZonesModel") (T := T_Mo) (N := 47) hx hb hG in_Mo hown hK hP hM.1.1 hM.1.2 rfl 6 (by decide) (hG _ k627) (fun _ h9 => h9) rfl d_Mo_flow_172 ?_
                      refine lv_iload hx hb d_Mo_flow_175 (lv_at hl 2 rfl) ?_
                      refine mw_lald hx hb hK hP hM (j := 6) rfl (by rw [er]; exact vp_in_nI (show r < 10 by omega) (by decide)) d_Mo_flow_177 ?_
                      refine lv_topl (fun y_78 ey_78 => ?_)
                      obtain rfl : y_78 = Y1 6 (Int32.toNatClampNeg (X 11 i)) := ey_78.trans (by simp [up2, hcl_i, h2, h10, h21, h27, h31, h35])
                      refine lv_lload hx hb d_Mo_flow_178 (lv_at hl 0 rfl) ?_
                      refine lv_lmul hx hb d_Mo_flow_180 ?_
                      refine lv_aload_n hx hb d_Mo_flow_181 rfl (lv_at hl 5 rfl) ?_
                      refine pg_get (C := "SmokeZonesModel") (T := T_Mo) (N := 47) hx hb hG in_Mo hown hK hP hM.1.1 hM.1.2 rfl 5 (by decide) (hG _ k626) (fun _ h9 => h9) rfl d_Mo_flow_182 ?_
                      refine lv_iload hx hb d_Mo_flow_185 (lv_at hl 2 rfl) ?_
                      refine mw_lald hx hb hK hP hM (j := 5) rfl (by rw [er]; exact vp_in_nI (show r < 10 by omega) (by decide)) d_Mo_flow_187 ?_
                      refine lv_topl (fun y_79 ey_79 => ?_)
                      obtain rfl : y_79 = Y1 5 (Int32.toNatClampNeg (X 11 i)) := ey_79.trans (by simp [up2, hcl_i, h2, h10, h21, h27, h31, h35])
                      refine lv_ldiv hx hb d_Mo_flow_188 (hq1 eg c_71) ?_
                      refine mw_last hx hb hK hP hD hS hM (j := 19) rfl (vp_in_nI (show i < 15 by omega) (by decide)) d_Mo_flow_189 (fun f H locs hM hP hD hS => ?_)
                      rw [show (nI i).toNatClampNeg = i from nI_clamp (by omega)] at hM
                      refine lv_iinc (v := nI (i + 1)) (lv' := [(1, .int (nI (i + 1))), (5, .long ((5 * (Int32.toInt64 (X 13 i))) * ((mo_cv X Y1 i (Int32.toNatClampNeg (X 11 i))) - 0))), (7, .long ((Y1 5 (Int32.toNatClampNeg (X 11 i))) / 16)), (4, .int (X 11 i)), (2, .long ((mo_cv X Y1 i (Int32.toNatClampNeg (X 11 i))) - 0)), (0, .ref (AM 100))]) hx hb d_Mo_flow_190 hl (k := 4) rfl (nI_1 i) (by decide) rfl (fun ls hl => ?_)
                      refine lv_goto (tgt := 2) hx hb d_Mo_flow_193 (by decide) ?_
                      have hN : MW ct AM L (sxFlow1 (fun _ => 0) i X Y1) (syFlow1 (fun _ => 0) i X Y1) f := by
                        (try simp only [sxFlow1, syFlow1, if_pos eg, if_neg c_65, if_neg c_70, if_neg c_71, if_neg c_74, if_pos c_76, if_neg c_77])
                        exact hM
                      exact ih0 (i + 1) _ _ _ _ _ (by omega) hN  (by intro a b e18 e19; rw [← hY0 a b e18 e19]; simp only [sxFlow1, syFlow1, if_pos eg, if_neg c_65, if_neg c_70, if_neg c_71, if_neg c_74, if_pos c_76, if_neg c_77]; simp [up2, e18, e19]) hP hD hS (lv_sub hl [0, 5] rfl) hfin0
                  · refine lv_lload hx hb d_Mo_flow_137 (lv_at hl 0 rfl) ?_
                    refine lv_goto (tgt := 144) hx hb d_Mo_flow_139 (by decide) ?_
                    refine lv_lstore (lv' := [(5, .long ((Y1 5 (Int32.toNatClampNeg (X 11 i))) / 16)), (7, .long ((Y1 5 (Int32.toNatClampNeg (X 11 i))) / 16)), (4, .int (X 11 i)), (2, .long ((mo_cv X Y1 i (Int32.toNatClampNeg (X 11 i))) - 0)), (1, .int (nI i)), (0, .ref (AM 100))]) hx hb d_Mo_flow_144 hl (by decide) rfl (fun ls hl => ?_)
                    refine lv_aload_n hx hb d_Mo_flow_146 rfl (lv_at hl 5 rfl) ?_
                    refine pg_get (C := "SmokeZonesModel") (T := T_Mo) (N := 47) hx hb hG in_Mo hown hK hP hM.1.1 hM.1.2 rfl 18 (by decide) (hG _ k639) (fun _ h9 => h9) rfl d_Mo_flow_147 ?_
                    refine lv_iload_n hx hb d_Mo_flow_150 rfl (lv_at hl 4 rfl) ?_
                    refine lv_lload_n hx hb d_Mo_flow_151 rfl (lv_at hl 3 rfl) ?_
                    refine lv_lconst (v := 0) hx hb d_Mo_flow_152 (by decide) ?_
                    refine lc_le (tgt := 162) hx hb d_Mo_flow_153 d_Mo_flow_154 (by decide) (fun c_80 => ?_) (fun c_80 => ?_)
                    · exact absurd c_80 c_71
                    · refine lv_lload hx hb d_Mo_flow_157 (lv_at hl 0 rfl) ?_
                      refine lv_goto (tgt := 165) hx hb d_Mo_flow_159 (by decide) ?_
                      refine mw_last hx hb hK hP hD hS hM (j := 18) rfl (vp_in_nI (show i < 15 by omega) (by decide)) d_Mo_flow_165 (fun f H locs hM hP hD hS => ?_)
                      rw [show (nI i).toNatClampNeg = i from nI_clamp (by omega)] at hM
                      refine lv_aload_n hx hb d_Mo_flow_166 rfl (lv_at hl 5 rfl) ?_
                      refine pg_get (C := "SmokeZonesModel") (T := T_Mo) (N := 47) hx hb hG in_Mo hown hK hP hM.1.1 hM.1.2 rfl 19 (by decide) (hG _ k640) (fun _ h9 => h9) rfl d_Mo_flow_167 ?_
                      refine lv_iload_n hx hb d_Mo_flow_170 rfl (lv_at hl 4 rfl) ?_
                      refine lv_aload_n hx hb d_Mo_flow_171 rfl (lv_at hl 5 rfl) ?_
                      refine pg_get (C := "SmokeZonesModel") (T := T_Mo) (N := 47) hx hb hG in_Mo hown hK hP hM.1.1 hM.1.2 rfl 6 (by decide) (hG _ k627) (fun _ h9 => h9) rfl d_Mo_flow_172 ?_
                      refine lv_iload hx hb d_Mo_flow_175 (lv_at hl 2 rfl) ?_
                      refine mw_lald hx hb hK hP hM (j := 6) rfl (by rw [er]; exact vp_in_nI (show r < 10 by omega) (by decide)) d_Mo_flow_177 ?_
                      refine lv_topl (fun y_81 ey_81 => ?_)
                      obtain rfl : y_81 = Y1 6 (Int32.toNatClampNeg (X 11 i)) := ey_81.trans (by simp [up2, hcl_i, h2, h10, h21, h27, h31, h35])
                      refine lv_lload hx hb d_Mo_flow_178 (lv_at hl 0 rfl) ?_
                      refine lv_lmul hx hb d_Mo_flow_180 ?_
                      refine lv_aload_n hx hb d_Mo_flow_181 rfl (lv_at hl 5 rfl) ?_
                      refine pg_get (C := "SmokeZonesModel") (T := T_Mo) (N := 47) hx hb hG in_Mo hown hK hP hM.1.1 hM.1.2 rfl 5 (by decide) (hG _ k626) (fun _ h9 => h9) rfl d_Mo_flow_182 ?_
                      refine lv_iload hx hb d_Mo_flow_185 (lv_at hl 2 rfl) ?_
                      refine mw_lald hx hb hK hP hM (j := 5) rfl (by rw [er]; exact vp_in_nI (show r < 10 by omega) (by decide)) d_Mo_flow_187 ?_
                      refine lv_topl (fun y_82 ey_82 => ?_)
                      obtain rfl : y_82 = Y1 5 (Int32.toNatClampNeg (X 11 i)) := ey_82.trans (by simp [up2, hcl_i, h2, h10, h21, h27, h31, h35])
                      refine lv_ldiv hx hb d_Mo_flow_188 (hq1 eg c_71) ?_
                      refine mw_last hx hb hK hP hD hS hM (j := 19) rfl (vp_in_nI (show i < 15 by omega) (by decide)) d_Mo_flow_189 (fun f H locs hM hP hD hS => ?_)
                      rw [show (nI i).toNatClampNeg = i from nI_clamp (by omega)] at hM
                      refine lv_iinc (v := nI (i + 1)) (lv' := [(1, .int (nI (i + 1))), (5, .long ((Y1 5 (Int32.toNatClampNeg (X 11 i))) / 16)), (7, .long ((Y1 5 (Int32.toNatClampNeg (X 11 i))) / 16)), (4, .int (X 11 i)), (2, .long ((mo_cv X Y1 i (Int32.toNatClampNeg (X 11 i))) - 0)), (0, .ref (AM 100))]) hx hb d_Mo_flow_190 hl (k := 4) rfl (nI_1 i) (by decide) rfl (fun ls hl => ?_)
                      refine lv_goto (tgt := 2) hx hb d_Mo_flow_193 (by decide) ?_
                      have hN : MW ct AM L (sxFlow1 (fun _ => 0) i X Y1) (syFlow1 (fun _ => 0) i X Y1) f := by
                        (try simp only [sxFlow1, syFlow1, if_pos eg, if_neg c_65, if_neg c_70, if_neg c_71, if_neg c_74, if_neg c_76, if_neg c_80])
                        exact hM
                      exact ih0 (i + 1) _ _ _ _ _ (by omega) hN  (by intro a b e18 e19; rw [← hY0 a b e18 e19]; simp only [sxFlow1, syFlow1, if_pos eg, if_neg c_65, if_neg c_70, if_neg c_71, if_neg c_74, if_neg c_76, if_neg c_80]; simp [up2, e18, e19]) hP hD hS (lv_sub hl [0, 5] rfl) hfin0
        · have eg : X 12 i = nI g := by exact e0
          have cg : ¬ X 12 i = (-1) := by rw [eg]; exact nI_m1 (by omega)
          have ha_g : ¬ Int32.toInt64 (X 3 g) = 0 := ha g hg
          have ha_r : ¬ Int32.toInt64 (X 3 r) = 0 := ha r hr
          refine lv_aload_n hx hb d_Mo_flow_10 rfl (lv_at hl 1 rfl) ?_
          refine pg_get (C := "SmokeZonesModel") (T := T_Mo) (N := 47) hx hb hG in_Mo hown hK hP hM.1.1 hM.1.2 rfl 18 (by decide) (hG _ k639) (fun _ h9 => h9) rfl d_Mo_flow_11 ?_
          refine lv_iload_n hx hb d_Mo_flow_14 rfl (lv_at hl 0 rfl) ?_
          refine lv_lconst (v := 0) hx hb d_Mo_flow_15 (by decide) ?_
          refine mw_last hx hb hK hP hD hS hM (j := 18) rfl (vp_in_nI (show i < 15 by omega) (by decide)) d_Mo_flow_16 (fun f H locs hM hP hD hS => ?_)
          rw [show (nI i).toNatClampNeg = i from nI_clamp (by omega)] at hM
          refine lv_aload_n hx hb d_Mo_flow_17 rfl (lv_at hl 1 rfl) ?_
          refine pg_get (C := "SmokeZonesModel") (T := T_Mo) (N := 47) hx hb hG in_Mo hown hK hP hM.1.1 hM.1.2 rfl 19 (by decide) (hG _ k640) (fun _ h9 => h9) rfl d_Mo_flow_18 ?_
          refine lv_iload_n hx hb d_Mo_flow_21 rfl (lv_at hl 0 rfl) ?_
          refine lv_lconst (v := 0) hx hb d_Mo_flow_22 (by decide) ?_
          refine mw_last hx hb hK hP hD hS hM (j := 19) rfl (vp_in_nI (show i < 15 by omega) (by decide)) d_Mo_flow_23 (fun f H locs hM hP hD hS => ?_)
          rw [show (nI i).toNatClampNeg = i from nI_clamp (by omega)] at hM
          refine lv_aload_n hx hb d_Mo_flow_24 rfl (lv_at hl 1 rfl) ?_
          refine pg_get (C := "SmokeZonesModel") (T := T_Mo) (N := 47) hx hb hG in_Mo hown hK hP hM.1.1 hM.1.2 rfl 17 (by decide) (hG _ k638) (fun _ h9 => h9) rfl d_Mo_flow_25 ?_
          refine lv_iload_n hx hb d_Mo_flow_28 rfl (lv_at hl 0 rfl) ?_
          refine mw_zald hx hb hK hP hM (j := 17) rfl (vp_in_nI (show i < 15 by omega) (by decide)) d_Mo_flow_29 ?_
          refine lv_topi (fun y_83 ey_83 => ?_)
          obtain rfl : y_83 = X 17 i := ey_83.trans (by simp [up2, hcl_i, h2, h10, h21, h27, h31, h35])
          refine lv_if_eq (tgt := 59) hx hb d_Mo_flow_30 (by decide) (fun c_84 => ?_) (fun c_84 => ?_)
          · refine lv_lconst (v := 0) hx hb d_Mo_flow_59 (by decide) ?_
            refine lv_lstore_n (lv' := [(2, .long 0), (1, .int (nI i)), (0, .ref (AM 100))]) hx hb d_Mo_flow_60 rfl hl (by decide) rfl (fun ls hl => ?_)
            refine lv_lload_n hx hb d_Mo_flow_61 rfl (lv_at hl 0 rfl) ?_
            refine lv_lconst (v := 0) hx hb d_Mo_flow_62 (by decide) ?_
            refine lc_eq (tgt := 190) hx hb d_Mo_flow_63 d_Mo_flow_64 (by decide) (fun c_85 => ?_) (fun c_85 => ?_)
            · refine lv_iinc (v := nI (i + 1)) (lv' := [(1, .int (nI (i + 1))), (2, .long 0), (0, .ref (AM 100))]) hx hb d_Mo_flow_190 hl (k := 1) rfl (nI_1 i) (by decide) rfl (fun ls hl => ?_)
              refine lv_goto (tgt := 2) hx hb d_Mo_flow_193 (by decide) ?_
              have hN : MW ct AM L (sxFlow1 (fun _ => 0) i X Y1) (syFlow1 (fun _ => 0) i X Y1) f := by
                (try simp only [sxFlow1, syFlow1, if_neg cg, if_pos c_84, if_pos c_85])
                exact hM
              exact ih0 (i + 1) _ _ _ _ _ (by omega) hN  (by intro a b e18 e19; rw [← hY0 a b e18 e19]; simp only [sxFlow1, syFlow1, if_neg cg, if_pos c_84, if_pos c_85]; simp [up2, e18, e19]) hP hD hS (lv_sub hl [0, 2] rfl) hfin0
            · exact absurd (by decide) c_85
          · refine lv_aload_n hx hb d_Mo_flow_33 rfl (lv_at hl 1 rfl) ?_
            refine lv_iload_n hx hb d_Mo_flow_34 rfl (lv_at hl 0 rfl) ?_
            refine lv_aload_n hx hb d_Mo_flow_35 rfl (lv_at hl 1 rfl) ?_
            refine pg_get (C := "SmokeZonesModel") (T := T_Mo) (N := 47) hx hb hG in_Mo hown hK hP hM.1.1 hM.1.2 rfl 11 (by decide) (hG _ k632) (fun _ h9 => h9) rfl d_Mo_flow_36 ?_
            refine lv_iload_n hx hb d_Mo_flow_39 rfl (lv_at hl 0 rfl) ?_
            refine mw_iald hx hb hK hP hM (j := 11) rfl (vp_in_nI (show i < 15 by omega) (by decide)) d_Mo_flow_40 ?_
            refine lv_topi (fun y_86 ey_86 => ?_)
            obtain rfl : y_86 = X 11 i := ey_86.trans (by simp [up2, hcl_i, h2, h10, h21, h27, h31, h35])
            refine kV_rl ⟨hx, hb, hml, hown, hG⟩ (c_Mo_covered_e hM (r := r) (by omega) (by omega) (by simpa [up2] using ha_r) er) (cwV 2 hG (gV k830 k832 ks_Mo_covered k2 k833) rfl rfl rfl hd_Mo_covered ⟨Nat.le_of_ble_eq_true rfl, Nat.le_of_ble_eq_true rfl⟩) hK hP hS hM.1.1 hM.1.2 rfl rfl hl.1 rfl (Nat.le_of_ble_eq_true rfl) ⟨Nat.le_of_ble_eq_true rfl, Nat.le_of_ble_eq_true rfl⟩ d_Mo_flow_41 (fun locs hS => ?_)
            refine lv_topl (fun y_87 ey_87 => ?_)
            obtain rfl : y_87 = mo_cv X Y1 i (Int32.toNatClampNeg (X 11 i)) := ey_87.trans (cvY (fun b => by simp [up2]))
            refine lv_aload_n hx hb d_Mo_flow_44 rfl (lv_at hl 1 rfl) ?_
            refine lv_iload_n hx hb d_Mo_flow_45 rfl (lv_at hl 0 rfl) ?_
            refine lv_aload_n hx hb d_Mo_flow_46 rfl (lv_at hl 1 rfl) ?_
            refine pg_get (C := "SmokeZonesModel") (T := T_Mo) (N := 47) hx hb hG in_Mo hown hK hP hM.1.1 hM.1.2 rfl 12 (by decide) (hG _ k633) (fun _ h9 => h9) rfl d_Mo_flow_47 ?_
            refine lv_iload_n hx hb d_Mo_flow_50 rfl (lv_at hl 0 rfl) ?_
            refine mw_iald hx hb hK hP hM (j := 12) rfl (vp_in_nI (show i < 15 by omega) (by decide)) d_Mo_flow_51 ?_
            refine lv_topi (fun y_88 ey_88 => ?_)
            obtain rfl : y_88 = X 12 i := ey_88.trans (by simp [up2, hcl_i, h2, h10, h21, h27, h31, h35])
            refine kV_rl ⟨hx, hb, hml, hown, hG⟩ (c_Mo_covered_e hM (r := g) (by omega) (by omega) (by simpa [up2] using ha_g) eg) (cwV 2 hG (gV k830 k832 ks_Mo_covered k2 k833) rfl rfl rfl hd_Mo_covered ⟨Nat.le_of_ble_eq_true rfl, Nat.le_of_ble_eq_true rfl⟩) hK hP hS hM.1.1 hM.1.2 rfl rfl hl.1 rfl (Nat.le_of_ble_eq_true rfl) ⟨Nat.le_of_ble_eq_true rfl, Nat.le_of_ble_eq_true rfl⟩ d_Mo_flow_52 (fun locs hS => ?_)
            refine lv_topl (fun y_89 ey_89 => ?_)
            obtain rfl : y_89 = mo_cv X Y1 i (Int32.toNatClampNeg (X 12 i)) := ey_89.trans (cvY (fun b => by simp [up2]))
            refine lv_lsub hx hb d_Mo_flow_55 ?_
            refine lv_goto (tgt := 60) hx hb d_Mo_flow_56 (by decide) ?_
            refine lv_lstore_n (lv' := [(2, .long ((mo_cv X Y1 i (Int32.toNatClampNeg (X 11 i))) - (mo_cv X Y1 i (Int32.toNatClampNeg (X 12 i))))), (1, .int (nI i)), (0, .ref (AM 100))]) hx hb d_Mo_flow_60 rfl hl (by decide) rfl (fun ls hl => ?_)
            refine lv_lload_n hx hb d_Mo_flow_61 rfl (lv_at hl 0 rfl) ?_
            refine lv_lconst (v := 0) hx hb d_Mo_flow_62 (by decide) ?_
            refine lc_eq (tgt := 190) hx hb d_Mo_flow_63 d_Mo_flow_64 (by decide) (fun c_90 => ?_) (fun c_90 => ?_)
            · refine lv_iinc (v := nI (i + 1)) (lv' := [(1, .int (nI (i + 1))), (2, .long ((mo_cv X Y1 i (Int32.toNatClampNeg (X 11 i))) - (mo_cv X Y1 i (Int32.toNatClampNeg (X 12 i))))), (0, .ref (AM 100))]) hx hb d_Mo_flow_190 hl (k := 1) rfl (nI_1 i) (by decide) rfl (fun ls hl => ?_)
              refine lv_goto (tgt := 2) hx hb d_Mo_flow_193 (by decide) ?_
              have hN : MW ct AM L (sxFlow1 (fun _ => 0) i X Y1) (syFlow1 (fun _ => 0) i X Y1) f := by
                (try simp only [sxFlow1, syFlow1, if_neg cg, if_neg c_84, if_pos c_90])
                exact hM
              exact ih0 (i + 1) _ _ _ _ _ (by omega) hN  (by intro a b e18 e19; rw [← hY0 a b e18 e19]; simp only [sxFlow1, syFlow1, if_neg cg, if_neg c_84, if_pos c_90]; simp [up2, e18, e19]) hP hD hS (lv_sub hl [0, 2] rfl) hfin0
            · refine lv_lload_n hx hb d_Mo_flow_67 rfl (lv_at hl 0 rfl) ?_
              refine lv_lconst (v := 0) hx hb d_Mo_flow_68 (by decide) ?_
              refine lc_le (tgt := 82) hx hb d_Mo_flow_69 d_Mo_flow_70 (by decide) (fun c_91 => ?_) (fun c_91 => ?_)
              · refine lv_aload_n hx hb d_Mo_flow_82 rfl (lv_at hl 2 rfl) ?_
                refine pg_get (C := "SmokeZonesModel") (T := T_Mo) (N := 47) hx hb hG in_Mo hown hK hP hM.1.1 hM.1.2 rfl 12 (by decide) (hG _ k633) (fun _ h9 => h9) rfl d_Mo_flow_83 ?_
                refine lv_iload_n hx hb d_Mo_flow_86 rfl (lv_at hl 1 rfl) ?_
                refine mw_iald hx hb hK hP hM (j := 12) rfl (vp_in_nI (show i < 15 by omega) (by decide)) d_Mo_flow_87 ?_
                refine lv_topi (fun y_92 ey_92 => ?_)
                obtain rfl : y_92 = X 12 i := ey_92.trans (by simp [up2, hcl_i, h2, h10, h21, h27, h31, h35])
                refine lv_istore (lv' := [(4, .int (X 12 i)), (2, .long ((mo_cv X Y1 i (Int32.toNatClampNeg (X 11 i))) - (mo_cv X Y1 i (Int32.toNatClampNeg (X 12 i))))), (1, .int (nI i)), (0, .ref (AM 100))]) hx hb d_Mo_flow_88 hl (by decide) rfl (fun ls hl => ?_)
                refine lv_ldc2 hx hb hown (hG _ k838) d_Mo_flow_90 ?_
                refine lv_aload_n hx hb d_Mo_flow_93 rfl (lv_at hl 3 rfl) ?_
                refine pg_get (C := "SmokeZonesModel") (T := T_Mo) (N := 47) hx hb hG in_Mo hown hK hP hM.1.1 hM.1.2 rfl 13 (by decide) (hG _ k634) (fun _ h9 => h9) rfl d_Mo_flow_94 ?_
                refine lv_iload_n hx hb d_Mo_flow_97 rfl (lv_at hl 2 rfl) ?_
                refine mw_iald hx hb hK hP hM (j := 13) rfl (vp_in_nI (show i < 15 by omega) (by decide)) d_Mo_flow_98 ?_
                refine lv_topi (fun y_93 ey_93 => ?_)
                obtain rfl : y_93 = X 13 i := ey_93.trans (by simp [up2, hcl_i, h2, h10, h21, h27, h31, h35])
                refine lv_i2l hx hb d_Mo_flow_99 rfl ?_
                refine lv_lmul hx hb d_Mo_flow_100 ?_
                refine lv_lload_n hx hb d_Mo_flow_101 rfl (lv_at hl 1 rfl) ?_
                refine lv_lconst (v := 0) hx hb d_Mo_flow_102 (by decide) ?_
                refine lc_le (tgt := 111) hx hb d_Mo_flow_103 d_Mo_flow_104 (by decide) (fun c_94 => ?_) (fun c_94 => ?_)
                · refine lv_lload_n hx hb d_Mo_flow_111 rfl (lv_at hl 1 rfl) ?_
                  refine lv_lneg hx hb d_Mo_flow_112 ?_
                  refine lv_lmul hx hb d_Mo_flow_113 ?_
                  refine lv_lstore (lv' := [(5, .long ((5 * (Int32.toInt64 (X 13 i))) * (-((mo_cv X Y1 i (Int32.toNatClampNeg (X 11 i))) - (mo_cv X Y1 i (Int32.toNatClampNeg (X 12 i))))))), (4, .int (X 12 i)), (2, .long ((mo_cv X Y1 i (Int32.toNatClampNeg (X 11 i))) - (mo_cv X Y1 i (Int32.toNatClampNeg (X 12 i))))), (1, .int (nI i)), (0, .ref (AM 100))]) hx hb d_Mo_flow_114 hl (by decide) rfl (fun ls hl => ?_)
                  refine lv_aload_n hx hb d_Mo_flow_116 rfl (lv_at hl 4 rfl) ?_
                  refine pg_get (C := "SmokeZonesModel") (T := T_Mo) (N := 47) hx hb hG in_Mo hown hK hP hM.1.1 hM.1.2 rfl 5 (by decide) (hG _ k626) (fun _ h9 => h9) rfl d_Mo_flow_117 ?_
                  refine lv_iload hx hb d_Mo_flow_120 (lv_at hl 1 rfl) ?_
                  refine mw_lald hx hb hK hP hM (j := 5) rfl (by rw [eg]; exact vp_in_nI (show g < 10 by omega) (by decide)) d_Mo_flow_122 ?_
                  refine lv_topl (fun y_95 ey_95 => ?_)
                  obtain rfl : y_95 = Y1 5 (Int32.toNatClampNeg (X 12 i)) := ey_95.trans (by simp [up2, hcl_i, h2, h10, h21, h27, h31, h35])
                  refine lv_ldc2 hx hb hown (hG _ k839) d_Mo_flow_123 ?_
                  refine lv_ldiv hx hb d_Mo_flow_126 (by decide) ?_
                  refine lv_lstore (lv' := [(7, .long ((Y1 5 (Int32.toNatClampNeg (X 12 i))) / 16)), (5, .long ((5 * (Int32.toInt64 (X 13 i))) * (-((mo_cv X Y1 i (Int32.toNatClampNeg (X 11 i))) - (mo_cv X Y1 i (Int32.toNatClampNeg (X 12 i))))))), (4, .int (X 12 i)), (2, .long ((mo_cv X Y1 i (Int32.toNatClampNeg (X 11 i))) - (mo_cv X Y1 i (Int32.toNatClampNeg (X 12 i))))), (1, .int (nI i)), (0, .ref (AM 100))]) hx hb d_Mo_flow_127 hl (by decide) rfl (fun ls hl => ?_)
                  refine lv_lload hx hb d_Mo_flow_129 (lv_at hl 1 rfl) ?_
                  refine lv_lload hx hb d_Mo_flow_131 (lv_at hl 0 rfl) ?_
                  refine lc_le (tgt := 142) hx hb d_Mo_flow_133 d_Mo_flow_134 (by decide) (fun c_96 => ?_) (fun c_96 => ?_)
                  · refine lv_lload hx hb d_Mo_flow_142 (lv_at hl 1 rfl) ?_
                    refine lv_lstore (lv' := [(5, .long ((5 * (Int32.toInt64 (X 13 i))) * (-((mo_cv X Y1 i (Int32.toNatClampNeg (X 11 i))) - (mo_cv X Y1 i (Int32.toNatClampNeg (X 12 i))))))), (7, .long ((Y1 5 (Int32.toNatClampNeg (X 12 i))) / 16)), (4, .int (X 12 i)), (2, .long ((mo_cv X Y1 i (Int32.toNatClampNeg (X 11 i))) - (mo_cv X Y1 i (Int32.toNatClampNeg (X 12 i))))), (1, .int (nI i)), (0, .ref (AM 100))]) hx hb d_Mo_flow_144 hl (by decide) rfl (fun ls hl => ?_)
                    refine lv_aload_n hx hb d_Mo_flow_146 rfl (lv_at hl 5 rfl) ?_
                    refine pg_get (C := "SmokeZonesModel") (T := T_Mo) (N := 47) hx hb hG in_Mo hown hK hP hM.1.1 hM.1.2 rfl 18 (by decide) (hG _ k639) (fun _ h9 => h9) rfl d_Mo_flow_147 ?_
                    refine lv_iload_n hx hb d_Mo_flow_150 rfl (lv_at hl 4 rfl) ?_
                    refine lv_lload_n hx hb d_Mo_flow_151 rfl (lv_at hl 3 rfl) ?_
                    refine lv_lconst (v := 0) hx hb d_Mo_flow_152 (by decide) ?_
                    refine lc_le (tgt := 162) hx hb d_Mo_flow_153 d_Mo_flow_154 (by decide) (fun c_97 => ?_) (fun c_97 => ?_)
                    · refine lv_lload hx hb d_Mo_flow_162 (lv_at hl 0 rfl) ?_
                      refine lv_lneg hx hb d_Mo_flow_164 ?_
                      refine mw_last hx hb hK hP hD hS hM (j := 18) rfl (vp_in_nI (show i < 15 by omega) (by decide)) d_Mo_flow_165 (fun f H locs hM hP hD hS => ?_)
                      rw [show (nI i).toNatClampNeg = i from nI_clamp (by omega)] at hM
                      refine lv_aload_n hx hb d_Mo_flow_166 rfl (lv_at hl 5 rfl) ?_
                      refine pg_get (C := "SmokeZonesModel") (T := T_Mo) (N := 47) hx hb hG in_Mo hown hK hP hM.1.1 hM.1.2 rfl 19 (by decide) (hG _ k640) (fun _ h9 => h9) rfl d_Mo_flow_167 ?_
                      refine lv_iload_n hx hb d_Mo_flow_170 rfl (lv_at hl 4 rfl) ?_
                      refine lv_aload_n hx hb d_Mo_flow_171 rfl (lv_at hl 5 rfl) ?_
                      refine pg_get (C := "SmokeZonesModel") (T := T_Mo) (N := 47) hx hb hG in_Mo hown hK hP hM.1.1 hM.1.2 rfl 6 (by decide) (hG _ k627) (fun _ h9 => h9) rfl d_Mo_flow_172 ?_
                      refine lv_iload hx hb d_Mo_flow_175 (lv_at hl 2 rfl) ?_
                      refine mw_lald hx hb hK hP hM (j := 6) rfl (by rw [eg]; exact vp_in_nI (show g < 10 by omega) (by decide)) d_Mo_flow_177 ?_
                      refine lv_topl (fun y_98 ey_98 => ?_)
                      obtain rfl : y_98 = Y1 6 (Int32.toNatClampNeg (X 12 i)) := ey_98.trans (by simp [up2, hcl_i, h2, h10, h21, h27, h31, h35])
                      refine lv_lload hx hb d_Mo_flow_178 (lv_at hl 0 rfl) ?_
                      refine lv_lmul hx hb d_Mo_flow_180 ?_
                      refine lv_aload_n hx hb d_Mo_flow_181 rfl (lv_at hl 5 rfl) ?_
                      refine pg_get (C := "SmokeZonesModel") (T := T_Mo) (N := 47) hx hb hG in_Mo hown hK hP hM.1.1 hM.1.2 rfl 5 (by decide) (hG _ k626) (fun _ h9 => h9) rfl d_Mo_flow_182 ?_
                      refine lv_iload hx hb d_Mo_flow_185 (lv_at hl 2 rfl) ?_
                      refine mw_lald hx hb hK hP hM (j := 5) rfl (by rw [eg]; exact vp_in_nI (show g < 10 by omega) (by decide)) d_Mo_flow_187 ?_
                      refine lv_topl (fun y_99 ey_99 => ?_)
                      obtain rfl : y_99 = Y1 5 (Int32.toNatClampNeg (X 12 i)) := ey_99.trans (by simp [up2, hcl_i, h2, h10, h21, h27, h31, h35])
                      refine lv_ldiv hx hb d_Mo_flow_188 (hq3 cg c_91 c_90) ?_
                      refine mw_last hx hb hK hP hD hS hM (j := 19) rfl (vp_in_nI (show i < 15 by omega) (by decide)) d_Mo_flow_189 (fun f H locs hM hP hD hS => ?_)
                      rw [show (nI i).toNatClampNeg = i from nI_clamp (by omega)] at hM
                      refine lv_iinc (v := nI (i + 1)) (lv' := [(1, .int (nI (i + 1))), (5, .long ((5 * (Int32.toInt64 (X 13 i))) * (-((mo_cv X Y1 i (Int32.toNatClampNeg (X 11 i))) - (mo_cv X Y1 i (Int32.toNatClampNeg (X 12 i))))))), (7, .long ((Y1 5 (Int32.toNatClampNeg (X 12 i))) / 16)), (4, .int (X 12 i)), (2, .long ((mo_cv X Y1 i (Int32.toNatClampNeg (X 11 i))) - (mo_cv X Y1 i (Int32.toNatClampNeg (X 12 i))))), (0, .ref (AM 100))]) hx hb d_Mo_flow_190 hl (k := 4) rfl (nI_1 i) (by decide) rfl (fun ls hl => ?_)
                      refine lv_goto (tgt := 2) hx hb d_Mo_flow_193 (by decide) ?_
                      have hN : MW ct AM L (sxFlow1 (fun _ => 0) i X Y1) (syFlow1 (fun _ => 0) i X Y1) f := by
                        (try simp only [sxFlow1, syFlow1, if_neg cg, if_neg c_84, if_neg c_90, if_pos c_91, if_pos c_94, if_pos c_96, if_pos c_97])
                        exact hM
                      exact ih0 (i + 1) _ _ _ _ _ (by omega) hN  (by intro a b e18 e19; rw [← hY0 a b e18 e19]; simp only [sxFlow1, syFlow1, if_neg cg, if_neg c_84, if_neg c_90, if_pos c_91, if_pos c_94, if_pos c_96, if_pos c_97]; simp [up2, e18, e19]) hP hD hS (lv_sub hl [0, 5] rfl) hfin0
                    · exact absurd c_91 c_97
                  · refine lv_lload hx hb d_Mo_flow_137 (lv_at hl 0 rfl) ?_
                    refine lv_goto (tgt := 144) hx hb d_Mo_flow_139 (by decide) ?_
                    refine lv_lstore (lv' := [(5, .long ((Y1 5 (Int32.toNatClampNeg (X 12 i))) / 16)), (7, .long ((Y1 5 (Int32.toNatClampNeg (X 12 i))) / 16)), (4, .int (X 12 i)), (2, .long ((mo_cv X Y1 i (Int32.toNatClampNeg (X 11 i))) - (mo_cv X Y1 i (Int32.toNatClampNeg (X 12 i))))), (1, .int (nI i)), (0, .ref (AM 100))]) hx hb d_Mo_flow_144 hl (by decide) rfl (fun ls hl => ?_)
                    refine lv_aload_n hx hb d_Mo_flow_146 rfl (lv_at hl 5 rfl) ?_
                    refine pg_get (C := "SmokeZonesModel") (T := T_Mo) (N := 47) hx hb hG in_Mo hown hK hP hM.1.1 hM.1.2 rfl 18 (by decide) (hG _ k639) (fun _ h9 => h9) rfl d_Mo_flow_147 ?_
                    refine lv_iload_n hx hb d_Mo_flow_150 rfl (lv_at hl 4 rfl) ?_
                    refine lv_lload_n hx hb d_Mo_flow_151 rfl (lv_at hl 3 rfl) ?_
                    refine lv_lconst (v := 0) hx hb d_Mo_flow_152 (by decide) ?_
                    refine lc_le (tgt := 162) hx hb d_Mo_flow_153 d_Mo_flow_154 (by decide) (fun c_100 => ?_) (fun c_100 => ?_)
                    · refine lv_lload hx hb d_Mo_flow_162 (lv_at hl 0 rfl) ?_
                      refine lv_lneg hx hb d_Mo_flow_164 ?_
                      refine mw_last hx hb hK hP hD hS hM (j := 18) rfl (vp_in_nI (show i < 15 by omega) (by decide)) d_Mo_flow_165 (fun f H locs hM hP hD hS => ?_)
                      rw [show (nI i).toNatClampNeg = i from nI_clamp (by omega)] at hM
                      refine lv_aload_n hx hb d_Mo_flow_166 rfl (lv_at hl 5 rfl) ?_
                      refine pg_get (C := "SmokeZonesModel") (T := T_Mo) (N := 47) hx hb hG in_Mo hown hK hP hM.1.1 hM.1.2 rfl 19 (by decide) (hG _ k640) (fun _ h9 => h9) rfl d_Mo_flow_167 ?_
                      refine lv_iload_n hx hb d_Mo_flow_170 rfl (lv_at hl 4 rfl) ?_
                      refine lv_aload_n hx hb d_Mo_flow_171 rfl (lv_at hl 5 rfl) ?_
                      refine pg_get (C := "SmokeZonesModel") (T := T_Mo) (N := 47) hx hb hG in_Mo hown hK hP hM.1.1 hM.1.2 rfl 6 (by decide) (hG _ k627) (fun _ h9 => h9) rfl d_Mo_flow_172 ?_
                      refine lv_iload hx hb d_Mo_flow_175 (lv_at hl 2 rfl) ?_
                      refine mw_lald hx hb hK hP hM (j := 6) rfl (by rw [eg]; exact vp_in_nI (show g < 10 by omega) (by decide)) d_Mo_flow_177 ?_
                      refine lv_topl (fun y_101 ey_101 => ?_)
                      obtain rfl : y_101 = Y1 6 (Int32.toNatClampNeg (X 12 i)) := ey_101.trans (by simp [up2, hcl_i, h2, h10, h21, h27, h31, h35])
                      refine lv_lload hx hb d_Mo_flow_178 (lv_at hl 0 rfl) ?_
                      refine lv_lmul hx hb d_Mo_flow_180 ?_
                      refine lv_aload_n hx hb d_Mo_flow_181 rfl (lv_at hl 5 rfl) ?_
                      refine pg_get (C := "SmokeZonesModel") (T := T_Mo) (N := 47) hx hb hG in_Mo hown hK hP hM.1.1 hM.1.2 rfl 5 (by decide) (hG _ k626) (fun _ h9 => h9) rfl d_Mo_flow_182 ?_
                      refine lv_iload hx hb d_Mo_flow_185 (lv_at hl 2 rfl) ?_
                      refine mw_lald hx hb hK hP hM (j := 5) rfl (by rw [eg]; exact vp_in_nI (show g < 10 by omega) (by decide)) d_Mo_flow_187 ?_
                      refine lv_topl (fun y_102 ey_102 => ?_)
                      obtain rfl : y_102 = Y1 5 (Int32.toNatClampNeg (X 12 i)) := ey_102.trans (by simp [up2, hcl_i, h2, h10, h21, h27, h31, h35])
                      refine lv_ldiv hx hb d_Mo_flow_188 (hq3 cg c_91 c_90) ?_
                      refine mw_last hx hb hK hP hD hS hM (j := 19) rfl (vp_in_nI (show i < 15 by omega) (by decide)) d_Mo_flow_189 (fun f H locs hM hP hD hS => ?_)
                      rw [show (nI i).toNatClampNeg = i from nI_clamp (by omega)] at hM
                      refine lv_iinc (v := nI (i + 1)) (lv' := [(1, .int (nI (i + 1))), (5, .long ((Y1 5 (Int32.toNatClampNeg (X 12 i))) / 16)), (7, .long ((Y1 5 (Int32.toNatClampNeg (X 12 i))) / 16)), (4, .int (X 12 i)), (2, .long ((mo_cv X Y1 i (Int32.toNatClampNeg (X 11 i))) - (mo_cv X Y1 i (Int32.toNatClampNeg (X 12 i))))), (0, .ref (AM 100))]) hx hb d_Mo_flow_190 hl (k := 4) rfl (nI_1 i) (by decide) rfl (fun ls hl => ?_)
                      refine lv_goto (tgt := 2) hx hb d_Mo_flow_193 (by decide) ?_
                      have hN : MW ct AM L (sxFlow1 (fun _ => 0) i X Y1) (syFlow1 (fun _ => 0) i X Y1) f := by
                        (try simp only [sxFlow1, syFlow1, if_neg cg, if_neg c_84, if_neg c_90, if_pos c_91, if_pos c_94, if_neg c_96, if_pos c_100])
                        exact hM
                      exact ih0 (i + 1) _ _ _ _ _ (by omega) hN  (by intro a b e18 e19; rw [← hY0 a b e18 e19]; simp only [sxFlow1, syFlow1, if_neg cg, if_neg c_84, if_neg c_90, if_pos c_91, if_pos c_94, if_neg c_96, if_pos c_100]; simp [up2, e18, e19]) hP hD hS (lv_sub hl [0, 5] rfl) hfin0
                    · exact absurd c_91 c_100
                · exact absurd c_91 c_94
              · refine lv_aload_n hx hb d_Mo_flow_73 rfl (lv_at hl 2 rfl) ?_
                refine pg_get (C := "SmokeZonesModel") (T := T_Mo) (N := 47) hx hb hG in_Mo hown hK hP hM.1.1 hM.1.2 rfl 11 (by decide) (hG _ k632) (fun _ h9 => h9) rfl d_Mo_flow_74 ?_
                refine lv_iload_n hx hb d_Mo_flow_77 rfl (lv_at hl 1 rfl) ?_
                refine mw_iald hx hb hK hP hM (j := 11) rfl (vp_in_nI (show i < 15 by omega) (by decide)) d_Mo_flow_78 ?_
                refine lv_topi (fun y_103 ey_103 => ?_)
                obtain rfl : y_103 = X 11 i := ey_103.trans (by simp [up2, hcl_i, h2, h10, h21, h27, h31, h35])
                refine lv_goto (tgt := 88) hx hb d_Mo_flow_79 (by decide) ?_
                refine lv_istore (lv' := [(4, .int (X 11 i)), (2, .long ((mo_cv X Y1 i (Int32.toNatClampNeg (X 11 i))) - (mo_cv X Y1 i (Int32.toNatClampNeg (X 12 i))))), (1, .int (nI i)), (0, .ref (AM 100))]) hx hb d_Mo_flow_88 hl (by decide) rfl (fun ls hl => ?_)
                refine lv_ldc2 hx hb hown (hG _ k838) d_Mo_flow_90 ?_
                refine lv_aload_n hx hb d_Mo_flow_93 rfl (lv_at hl 3 rfl) ?_
                refine pg_get (C := "SmokeZonesModel") (T := T_Mo) (N := 47) hx hb hG in_Mo hown hK hP hM.1.1 hM.1.2 rfl 13 (by decide) (hG _ k634) (fun _ h9 => h9) rfl d_Mo_flow_94 ?_
                refine lv_iload_n hx hb d_Mo_flow_97 rfl (lv_at hl 2 rfl) ?_
                refine mw_iald hx hb hK hP hM (j := 13) rfl (vp_in_nI (show i < 15 by omega) (by decide)) d_Mo_flow_98 ?_
                refine lv_topi (fun y_104 ey_104 => ?_)
                obtain rfl : y_104 = X 13 i := ey_104.trans (by simp [up2, hcl_i, h2, h10, h21, h27, h31, h35])
                refine lv_i2l hx hb d_Mo_flow_99 rfl ?_
                refine lv_lmul hx hb d_Mo_flow_100 ?_
                refine lv_lload_n hx hb d_Mo_flow_101 rfl (lv_at hl 1 rfl) ?_
                refine lv_lconst (v := 0) hx hb d_Mo_flow_102 (by decide) ?_
                refine lc_le (tgt := 111) hx hb d_Mo_flow_103 d_Mo_flow_104 (by decide) (fun c_105 => ?_) (fun c_105 => ?_)
                · exact absurd c_105 c_91
                · refine lv_lload_n hx hb d_Mo_flow_107 rfl (lv_at hl 1 rfl) ?_
                  refine lv_goto (tgt := 113) hx hb d_Mo_flow_108 (by decide) ?_
                  refine lv_lmul hx hb d_Mo_flow_113 ?_
                  refine lv_lstore (lv' := [(5, .long ((5 * (Int32.toInt64 (X 13 i))) * ((mo_cv X Y1 i (Int32.toNatClampNeg (X 11 i))) - (mo_cv X Y1 i (Int32.toNatClampNeg (X 12 i)))))), (4, .int (X 11 i)), (2, .long ((mo_cv X Y1 i (Int32.toNatClampNeg (X 11 i))) - (mo_cv X Y1 i (Int32.toNatClampNeg (X 12 i))))), (1, .int (nI i)), (0, .ref (AM 100))]) hx hb d_Mo_flow_114 hl (by decide) rfl (fun ls hl => ?_)
                  refine lv_aload_n hx hb d_Mo_flow_116 rfl (lv_at hl 4 rfl) ?_
                  refine pg_get (C := "SmokeZonesModel") (T := T_Mo) (N := 47) hx hb hG in_Mo hown hK hP hM.1.1 hM.1.2 rfl 5 (by decide) (hG _ k626) (fun _ h9 => h9) rfl d_Mo_flow_117 ?_
                  refine lv_iload hx hb d_Mo_flow_120 (lv_at hl 1 rfl) ?_
                  refine mw_lald hx hb hK hP hM (j := 5) rfl (by rw [er]; exact vp_in_nI (show r < 10 by omega) (by decide)) d_Mo_flow_122 ?_
                  refine lv_topl (fun y_106 ey_106 => ?_)
                  obtain rfl : y_106 = Y1 5 (Int32.toNatClampNeg (X 11 i)) := ey_106.trans (by simp [up2, hcl_i, h2, h10, h21, h27, h31, h35])
                  refine lv_ldc2 hx hb hown (hG _ k839) d_Mo_flow_123 ?_
                  refine lv_ldiv hx hb d_Mo_flow_126 (by decide) ?_
                  refine lv_lstore (lv' := [(7, .long ((Y1 5 (Int32.toNatClampNeg (X 11 i))) / 16)), (5, .long ((5 * (Int32.toInt64 (X 13 i))) * ((mo_cv X Y1 i (Int32.toNatClampNeg (X 11 i))) - (mo_cv X Y1 i (Int32.toNatClampNeg (X 12 i)))))), (4, .int (X 11 i)), (2, .long ((mo_cv X Y1 i (Int32.toNatClampNeg (X 11 i))) - (mo_cv X Y1 i (Int32.toNatClampNeg (X 12 i))))), (1, .int (nI i)), (0, .ref (AM 100))]) hx hb d_Mo_flow_127 hl (by decide) rfl (fun ls hl => ?_)
                  refine lv_lload hx hb d_Mo_flow_129 (lv_at hl 1 rfl) ?_
                  refine lv_lload hx hb d_Mo_flow_131 (lv_at hl 0 rfl) ?_
                  refine lc_le (tgt := 142) hx hb d_Mo_flow_133 d_Mo_flow_134 (by decide) (fun c_107 => ?_) (fun c_107 => ?_)
                  · refine lv_lload hx hb d_Mo_flow_142 (lv_at hl 1 rfl) ?_
                    refine lv_lstore (lv' := [(5, .long ((5 * (Int32.toInt64 (X 13 i))) * ((mo_cv X Y1 i (Int32.toNatClampNeg (X 11 i))) - (mo_cv X Y1 i (Int32.toNatClampNeg (X 12 i)))))), (7, .long ((Y1 5 (Int32.toNatClampNeg (X 11 i))) / 16)), (4, .int (X 11 i)), (2, .long ((mo_cv X Y1 i (Int32.toNatClampNeg (X 11 i))) - (mo_cv X Y1 i (Int32.toNatClampNeg (X 12 i))))), (1, .int (nI i)), (0, .ref (AM 100))]) hx hb d_Mo_flow_144 hl (by decide) rfl (fun ls hl => ?_)
                    refine lv_aload_n hx hb d_Mo_flow_146 rfl (lv_at hl 5 rfl) ?_
                    refine pg_get (C := "SmokeZonesModel") (T := T_Mo) (N := 47) hx hb hG in_Mo hown hK hP hM.1.1 hM.1.2 rfl 18 (by decide) (hG _ k639) (fun _ h9 => h9) rfl d_Mo_flow_147 ?_
                    refine lv_iload_n hx hb d_Mo_flow_150 rfl (lv_at hl 4 rfl) ?_
                    refine lv_lload_n hx hb d_Mo_flow_151 rfl (lv_at hl 3 rfl) ?_
                    refine lv_lconst (v := 0) hx hb d_Mo_flow_152 (by decide) ?_
                    refine lc_le (tgt := 162) hx hb d_Mo_flow_153 d_Mo_flow_154 (by decide) (fun c_108 => ?_) (fun c_108 => ?_)
                    · exact absurd c_108 c_91
                    · refine lv_lload hx hb d_Mo_flow_157 (lv_at hl 0 rfl) ?_
                      refine lv_goto (tgt := 165) hx hb d_Mo_flow_159 (by decide) ?_
                      refine mw_last hx hb hK hP hD hS hM (j := 18) rfl (vp_in_nI (show i < 15 by omega) (by decide)) d_Mo_flow_165 (fun f H locs hM hP hD hS => ?_)
                      rw [show (nI i).toNatClampNeg = i from nI_clamp (by omega)] at hM
                      refine lv_aload_n hx hb d_Mo_flow_166 rfl (lv_at hl 5 rfl) ?_
                      refine pg_get (C := "SmokeZonesModel") (T := T_Mo) (N := 47) hx hb hG in_Mo hown hK hP hM.1.1 hM.1.2 rfl 19 (by decide) (hG _ k640) (fun _ h9 => h9) rfl d_Mo_flow_167 ?_
                      refine lv_iload_n hx hb d_Mo_flow_170 rfl (lv_at hl 4 rfl) ?_
                      refine lv_aload_n hx hb d_Mo_flow_171 rfl (lv_at hl 5 rfl) ?_
                      refine pg_get (C := "SmokeZonesModel") (T := T_Mo) (N := 47) hx hb hG in_Mo hown hK hP hM.1.1 hM.1.2 rfl 6 (by decide) (hG _ k627) (fun _ h9 => h9) rfl d_Mo_flow_172 ?_
                      refine lv_iload hx hb d_Mo_flow_175 (lv_at hl 2 rfl) ?_
                      refine mw_lald hx hb hK hP hM (j := 6) rfl (by rw [er]; exact vp_in_nI (show r < 10 by omega) (by decide)) d_Mo_flow_177 ?_
                      refine lv_topl (fun y_109 ey_109 => ?_)
                      obtain rfl : y_109 = Y1 6 (Int32.toNatClampNeg (X 11 i)) := ey_109.trans (by simp [up2, hcl_i, h2, h10, h21, h27, h31, h35])
                      refine lv_lload hx hb d_Mo_flow_178 (lv_at hl 0 rfl) ?_
                      refine lv_lmul hx hb d_Mo_flow_180 ?_
                      refine lv_aload_n hx hb d_Mo_flow_181 rfl (lv_at hl 5 rfl) ?_
                      refine pg_get (C := "SmokeZonesModel") (T := T_Mo) (N := 47) hx hb hG in_Mo hown hK hP hM.1.1 hM.1.2 rfl 5 (by decide) (hG _ k626) (fun _ h9 => h9) rfl d_Mo_flow_182 ?_
                      refine lv_iload hx hb d_Mo_flow_185 (lv_at hl 2 rfl) ?_
                      refine mw_lald hx hb hK hP hM (j := 5) rfl (by rw [er]; exact vp_in_nI (show r < 10 by omega) (by decide)) d_Mo_flow_187 ?_
                      refine lv_topl (fun y_110 ey_110 => ?_)
                      obtain rfl : y_110 = Y1 5 (Int32.toNatClampNeg (X 11 i)) := ey_110.trans (by simp [up2, hcl_i, h2, h10, h21, h27, h31, h35])
                      refine lv_ldiv hx hb d_Mo_flow_188 (hq2 cg c_91) ?_
                      refine mw_last hx hb hK hP hD hS hM (j := 19) rfl (vp_in_nI (show i < 15 by omega) (by decide)) d_Mo_flow_189 (fun f H locs hM hP hD hS => ?_)
                      rw [show (nI i).toNatClampNeg = i from nI_clamp (by omega)] at hM
                      refine lv_iinc (v := nI (i + 1)) (lv' := [(1, .int (nI (i + 1))), (5, .long ((5 * (Int32.toInt64 (X 13 i))) * ((mo_cv X Y1 i (Int32.toNatClampNeg (X 11 i))) - (mo_cv X Y1 i (Int32.toNatClampNeg (X 12 i)))))), (7, .long ((Y1 5 (Int32.toNatClampNeg (X 11 i))) / 16)), (4, .int (X 11 i)), (2, .long ((mo_cv X Y1 i (Int32.toNatClampNeg (X 11 i))) - (mo_cv X Y1 i (Int32.toNatClampNeg (X 12 i))))), (0, .ref (AM 100))]) hx hb d_Mo_flow_190 hl (k := 4) rfl (nI_1 i) (by decide) rfl (fun ls hl => ?_)
                      refine lv_goto (tgt := 2) hx hb d_Mo_flow_193 (by decide) ?_
                      have hN : MW ct AM L (sxFlow1 (fun _ => 0) i X Y1) (syFlow1 (fun _ => 0) i X Y1) f := by
                        (try simp only [sxFlow1, syFlow1, if_neg cg, if_neg c_84, if_neg c_90, if_neg c_91, if_neg c_105, if_pos c_107, if_neg c_108])
                        exact hM
                      exact ih0 (i + 1) _ _ _ _ _ (by omega) hN  (by intro a b e18 e19; rw [← hY0 a b e18 e19]; simp only [sxFlow1, syFlow1, if_neg cg, if_neg c_84, if_neg c_90, if_neg c_91, if_neg c_105, if_pos c_107, if_neg c_108]; simp [up2, e18, e19]) hP hD hS (lv_sub hl [0, 5] rfl) hfin0
                  · refine lv_lload hx hb d_Mo_flow_137 (lv_at hl 0 rfl) ?_
                    refine lv_goto (tgt := 144) hx hb d_Mo_flow_139 (by decide) ?_
                    refine lv_lstore (lv' := [(5, .long ((Y1 5 (Int32.toNatClampNeg (X 11 i))) / 16)), (7, .long ((Y1 5 (Int32.toNatClampNeg (X 11 i))) / 16)), (4, .int (X 11 i)), (2, .long ((mo_cv X Y1 i (Int32.toNatClampNeg (X 11 i))) - (mo_cv X Y1 i (Int32.toNatClampNeg (X 12 i))))), (1, .int (nI i)), (0, .ref (AM 100))]) hx hb d_Mo_flow_144 hl (by decide) rfl (fun ls hl => ?_)
                    refine lv_aload_n hx hb d_Mo_flow_146 rfl (lv_at hl 5 rfl) ?_
                    refine pg_get (C := "SmokeZonesModel") (T := T_Mo) (N := 47) hx hb hG in_Mo hown hK hP hM.1.1 hM.1.2 rfl 18 (by decide) (hG _ k639) (fun _ h9 => h9) rfl d_Mo_flow_147 ?_
                    refine lv_iload_n hx hb d_Mo_flow_150 rfl (lv_at hl 4 rfl) ?_
                    refine lv_lload_n hx hb d_Mo_flow_151 rfl (lv_at hl 3 rfl) ?_
                    refine lv_lconst (v := 0) hx hb d_Mo_flow_152 (by decide) ?_
                    refine lc_le (tgt := 162) hx hb d_Mo_flow_153 d_Mo_flow_154 (by decide) (fun c_111 => ?_) (fun c_111 => ?_)
                    · exact absurd c_111 c_91
                    · refine lv_lload hx hb d_Mo_flow_157 (lv_at hl 0 rfl) ?_
                      refine lv_goto (tgt := 165) hx hb d_Mo_flow_159 (by decide) ?_
                      refine mw_last hx hb hK hP hD hS hM (j := 18) rfl (vp_in_nI (show i < 15 by omega) (by decide)) d_Mo_flow_165 (fun f H locs hM hP hD hS => ?_)
                      rw [show (nI i).toNatClampNeg = i from nI_clamp (by omega)] at hM
                      refine lv_aload_n hx hb d_Mo_flow_166 rfl (lv_at hl 5 rfl) ?_
                      refine pg_get (C := "SmokeZonesModel") (T := T_Mo) (N := 47) hx hb hG in_Mo hown hK hP hM.1.1 hM.1.2 rfl 19 (by decide) (hG _ k640) (fun _ h9 => h9) rfl d_Mo_flow_167 ?_
                      refine lv_iload_n hx hb d_Mo_flow_170 rfl (lv_at hl 4 rfl) ?_
                      refine lv_aload_n hx hb d_Mo_flow_171 rfl (lv_at hl 5 rfl) ?_
                      refine pg_get (C := "SmokeZonesModel") (T := T_Mo) (N := 47) hx hb hG in_Mo hown hK hP hM.1.1 hM.1.2 rfl 6 (by decide) (hG _ k627) (fun _ h9 => h9) rfl d_Mo_flow_172 ?_
                      refine lv_iload hx hb d_Mo_flow_175 (lv_at hl 2 rfl) ?_
                      refine mw_lald hx hb hK hP hM (j := 6) rfl (by rw [er]; exact vp_in_nI (show r < 10 by omega) (by decide)) d_Mo_flow_177 ?_
                      refine lv_topl (fun y_112 ey_112 => ?_)
                      obtain rfl : y_112 = Y1 6 (Int32.toNatClampNeg (X 11 i)) := ey_112.trans (by simp [up2, hcl_i, h2, h10, h21, h27, h31, h35])
                      refine lv_lload hx hb d_Mo_flow_178 (lv_at hl 0 rfl) ?_
                      refine lv_lmul hx hb d_Mo_flow_180 ?_
                      refine lv_aload_n hx hb d_Mo_flow_181 rfl (lv_at hl 5 rfl) ?_
                      refine pg_get (C := "SmokeZonesModel") (T := T_Mo) (N := 47) hx hb hG in_Mo hown hK hP hM.1.1 hM.1.2 rfl 5 (by decide) (hG _ k626) (fun _ h9 => h9) rfl d_Mo_flow_182 ?_
                      refine lv_iload hx hb d_Mo_flow_185 (lv_at hl 2 rfl) ?_
                      refine mw_lald hx hb hK hP hM (j := 5) rfl (by rw [er]; exact vp_in_nI (show r < 10 by omega) (by decide)) d_Mo_flow_187 ?_
                      refine lv_topl (fun y_113 ey_113 => ?_)
                      obtain rfl : y_113 = Y1 5 (Int32.toNatClampNeg (X 11 i)) := ey_113.trans (by simp [up2, hcl_i, h2, h10, h21, h27, h31, h35])
                      refine lv_ldiv hx hb d_Mo_flow_188 (hq2 cg c_91) ?_
                      refine mw_last hx hb hK hP hD hS hM (j := 19) rfl (vp_in_nI (show i < 15 by omega) (by decide)) d_Mo_flow_189 (fun f H locs hM hP hD hS => ?_)
                      rw [show (nI i).toNatClampNeg = i from nI_clamp (by omega)] at hM
                      refine lv_iinc (v := nI (i + 1)) (lv' := [(1, .int (nI (i + 1))), (5, .long ((Y1 5 (Int32.toNatClampNeg (X 11 i))) / 16)), (7, .long ((Y1 5 (Int32.toNatClampNeg (X 11 i))) / 16)), (4, .int (X 11 i)), (2, .long ((mo_cv X Y1 i (Int32.toNatClampNeg (X 11 i))) - (mo_cv X Y1 i (Int32.toNatClampNeg (X 12 i))))), (0, .ref (AM 100))]) hx hb d_Mo_flow_190 hl (k := 4) rfl (nI_1 i) (by decide) rfl (fun ls hl => ?_)
                      refine lv_goto (tgt := 2) hx hb d_Mo_flow_193 (by decide) ?_
                      have hN : MW ct AM L (sxFlow1 (fun _ => 0) i X Y1) (syFlow1 (fun _ => 0) i X Y1) f := by
                        (try simp only [sxFlow1, syFlow1, if_neg cg, if_neg c_84, if_neg c_90, if_neg c_91, if_neg c_105, if_neg c_107, if_neg c_111])
                        exact hM
                      exact ih0 (i + 1) _ _ _ _ _ (by omega) hN  (by intro a b e18 e19; rw [← hY0 a b e18 e19]; simp only [sxFlow1, syFlow1, if_neg cg, if_neg c_84, if_neg c_90, if_neg c_91, if_neg c_105, if_neg c_107, if_neg c_111]; simp [up2, e18, e19]) hP hD hS (lv_sub hl [0, 5] rfl) hfin0
  exact lp0 (n 1) 0 Y f _ _ _ (by omega) hM (fun _ _ _ _ => rfl) hP hD hS (lv_sub hl [0, 1] rfl) rfl
