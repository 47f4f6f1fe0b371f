theorem c_Mo_warmth_e {l : Launch} {D : va_G} {ct : Nat → ClassId} {AM : Nat → Nat} {L : List Nat} {f : Nat → va_E} {X : I2} {Y : J2} {H : Heap} {r : Nat} {p1 : Int32} (hM : MW ct AM L X Y f) (hr : r < 10) (er : p1 = nI r) : Met l y_Mo_warmth (WS y_Mo_warmth b_Mo_warmth 2 (some .long)) { frames := 0, cells := 0, slots := 0, locals := 0 } (va_Pc [.ref (AM 100), .int p1] (RP D (TYS ct) L f H)) (Ql (mo_wa Y p1.toNatClampNeg) H) 0 0 No := by
  subst er
  rw [nI_clamp (by omega)]
  exact c_Mo_warmth hM hr

theorem c_Mo_clearTo_e {l : Launch} {D : va_G} {ct : Nat → ClassId} {AM : Nat → Nat} {L : List Nat} {f : Nat → va_E} {X : I2} {Y : J2} {H : Heap} {r : Nat} {p1 : Int32} (hM : MW ct AM L X Y f) (hr : r < 10) (ha : ¬ Int32.toInt64 (X 3 r) = 0) (er : p1 = nI r) : Met l y_Mo_clearTo (WS y_Mo_clearTo b_Mo_clearTo 2 (some .long)) { frames := 0, cells := 0, slots := 0, locals := 0 } (va_Pc [.ref (AM 100), .int p1] (RP D (TYS ct) L f H)) (Ql (mo_cl X Y p1.toNatClampNeg) H) 0 0 No := by
  subst er
  rw [nI_clamp (by omega)]
  exact c_Mo_clearTo hM hr ha

theorem c_Mo_covered_e {l : Launch} {D : va_G} {ct : Nat → ClassId} {AM : Nat → Nat} {L : List Nat} {f : Nat → va_E} {X : I2} {Y : J2} {H : Heap} {o r : Nat} {p1 : Int32} (hM : MW ct AM L X Y f) (ho : o < 15) (hr : r < 10) (ha : ¬ Int32.toInt64 (X 3 r) = 0) (er : p1 = nI r) : Met l y_Mo_covered (WS y_Mo_covered b_Mo_covered 5 (some .long)) { frames := 1, cells := 0, slots := 0, locals := 21 } (va_Pc [.ref (AM 100), .int (nI o), .int p1] (RP D (TYS ct) L f H)) (Ql (mo_cv X Y o p1.toNatClampNeg) H) 0 0 No := by
  subst er
  rw [nI_clamp (n := r) (by omega)]
  exact c_Mo_covered_s hM ho hr ha

theorem c_Mo_covered_en {l : Launch} {D : va_G} {ct : Nat → ClassId} {AM : Nat → Nat} {L : List Nat} {f : Nat → va_E} {X : I2} {Y : J2} {H : Heap} {o : Nat} {p1 : Int32} (hM : MW ct AM L X Y f) (ho : o < 15) (er : p1 = (-1)) : Met l y_Mo_covered (WS y_Mo_covered b_Mo_covered 5 (some .long)) { frames := 0, cells := 0, slots := 0, locals := 0 } (va_Pc [.ref (AM 100), .int (nI o), .int p1] (RP D (TYS ct) L f H)) (Ql (0) H) 0 0 No := by
  subst er
  exact c_Mo_covered_n hM ho

theorem c_Mo_isHot_e {l : Launch} {D : va_G} {ct : Nat → ClassId} {AM : Nat → Nat} {L : List Nat} {f : Nat → va_E} {X : I2} {Y : J2} {H : Heap} {r : Nat} {p1 li : Int32} (hM : MW ct AM L X Y f) (hr : r < 10) (er : p1 = nI r) : Met l y_Mo_isHot (WS y_Mo_isHot b_Mo_isHot 3 (some .boolean)) { frames := 1, cells := 0, slots := 0, locals := 21 } (va_Pc [.ref (AM 100), .int p1, .int li] (RP D (TYS ct) L f H)) (Qi (mo_hot Y p1.toNatClampNeg li) H) 0 0 No := by
  subst er
  rw [nI_clamp (by omega)]
  exact c_Mo_isHot_s hM hr

theorem c_Mo_isHot_en {l : Launch} {D : va_G} {ct : Nat → ClassId} {AM : Nat → Nat} {L : List Nat} {f : Nat → va_E} {X : I2} {Y : J2} {H : Heap} {p1 li : Int32} (hM : MW ct AM L X Y f) (er : p1 = (-1)) : Met l y_Mo_isHot (WS y_Mo_isHot b_Mo_isHot 3 (some .boolean)) { frames := 0, cells := 0, slots := 0, locals := 0 } (va_Pc [.ref (AM 100), .int p1, .int li] (RP D (TYS ct) L f H)) (Qi (0) H) 0 0 No := by
  subst er
  exact c_Mo_isHot_n hM

def sxAct3 (n : Nat → Nat) (i : Nat) (X : I2) (Y : J2) : I2 := X
def syAct3 (n : Nat → Nat) (i : Nat) (X : I2) (Y : J2) : J2 := up2 Y 34 i ((Y 34 i) + (((mo_wa Y (Int32.toNatClampNeg (X 32 i))) - (Y 34 i)) / (Int32.toInt64 (X 33 i))))
def lAct3 : Nat → Nat → I2 × J2 → I2 × J2
  | 0, _, q => q
  | k + 1, i, q => lAct3 k (i + 1) (sxAct3 (fun _ => 0) i q.1 q.2, syAct3 (fun _ => 0) i q.1 q.2)
def sxAct2 (n : Nat → Nat) (i : Nat) (X : I2) (Y : J2) : I2 := (if X 12 i = (-1) then (if (X 17 i) = 0 then (if (mo_hot Y (Int32.toNatClampNeg (X 11 i)) (X 16 i)) = 0 then up2 X 17 i 0 else up2 X 17 i 1) else up2 X 17 i 1) else (if (X 17 i) = 0 then (if (mo_hot Y (Int32.toNatClampNeg (X 11 i)) (X 16 i)) = 0 then (if (mo_hot Y (Int32.toNatClampNeg (X 12 i)) (X 16 i)) = 0 then up2 X 17 i 0 else up2 X 17 i 1) else up2 X 17 i 1) else up2 X 17 i 1))
def syAct2 (n : Nat → Nat) (i : Nat) (X : I2) (Y : J2) : J2 := Y
def lAct2 : Nat → Nat → I2 × J2 → I2 × J2
  | 0, _, q => q
  | k + 1, i, q => lAct2 k (i + 1) (sxAct2 (fun _ => 0) i q.1 q.2, syAct2 (fun _ => 0) i q.1 q.2)
def sxAct1 (n : Nat → Nat) (i : Nat) (X : I2) (Y : J2) : I2 := (if (X 8 i) = 0 then (if (mo_hot Y i (X 7 i)) = 0 then (if (X 9 i) = (-1) then (if 18 ≤ (mo_cl X Y i) then up2 (up2 X 8 i 0) 9 i (X 9 i) else up2 (up2 X 8 i 0) 9 i (X 1 0)) else up2 (up2 X 8 i 0) 9 i (X 9 i)) else (if (X 9 i) = (-1) then (if 18 ≤ (mo_cl X Y i) then up2 (up2 X 8 i 1) 9 i (X 9 i) else up2 (up2 X 8 i 1) 9 i (X 1 0)) else up2 (up2 X 8 i 1) 9 i (X 9 i))) else (if (X 9 i) = (-1) then (if 18 ≤ (mo_cl X Y i) then up2 (up2 X 8 i 1) 9 i (X 9 i) else up2 (up2 X 8 i 1) 9 i (X 1 0)) else up2 (up2 X 8 i 1) 9 i (X 9 i)))
def syAct1 (n : Nat → Nat) (i : Nat) (X : I2) (Y : J2) : J2 := Y
def lAct1 : Nat → Nat → I2 × J2 → I2 × J2
  | 0, _, q => q
  | k + 1, i, q => lAct1 k (i + 1) (sxAct1 (fun _ => 0) i q.1 q.2, syAct1 (fun _ => 0) i q.1 q.2)
set_option maxHeartbeats 4000000 in
set_option maxRecDepth 100000 in
theorem c_Mo_act {l : Launch} {D : va_G} {ct : Nat → ClassId} {AM : Nat → Nat} {L : List Nat} {f : Nat → va_E} {X : I2} {Y : J2} {sz : Nat} {n : Nat → Nat} (hM : MW ct AM L X Y f) (hI : MI n X)  : Met l y_Mo_act (WS y_Mo_act b_Mo_act 2 none) { frames := 2, cells := 0, slots := 0, locals := 43 } (va_Pc [.ref (AM 100)] (WP D (TYS ct) L f sz)) (Xs D (TYS ct) L (AA L f sz) (fun f' => MW ct AM L (lAct3 (n 4) 0 (lAct2 (n 1) 0 (lAct1 (n 0) 0 (X, Y)))).1 (lAct3 (n 4) 0 (lAct2 (n 1) 0 (lAct1 (n 0) 0 (X, Y)))).2 f')) 0 0 (AA L f sz) := by
  refine Met.ofW (cc := b_Mo_act) (maxL := 2) (ret := none) (by decide) rfl ?_
  intro p e s m args below meth c s₁ B hml hv
  obtain ⟨rfl, hsz, hP, hK, hD0⟩ := hv
  subst hsz
  have hx := B.exec
  have hb := B.bytes
  have hret := B.returns
  have hts := atoms_spec (ws := WS y_Mo_act b_Mo_act 2 none) B.pre
  have hG : ∀ w ∈ GW, w.before _ s = true := fun w h => hts w (List.mem_cons_of_mem _ h)
  have hown : s.vm.findClass "SmokeZonesModel" = some m.cls := findClass_of_methodNamed B.named
  have hlocks := B.notSynchronized
  have hD : va_D (AA L f s.heap.size) (va_pl L f) := hD0.self (sz := s.heap.size)
  generalize hAe : AA L f s.heap.size = A at hD ⊢
  have hA : ∀ q : Nat, s.heap.size ≤ q → A q := fun q h => by rw [← hAe]; exact Or.inr h
  have hS : va_S A s.heap s.heap [] := va_S.rf
  have hl := lv_entry ([.ref (AM 100)]) (n := 2) (Nat.le_of_ble_eq_true rfl)
  rw [lg_entry_eq]
  generalize (lg_sl ([.ref (AM 100)]) ++ List.replicate (2 - (lg_sl ([.ref (AM 100)])).length) Slot.unset).toArray = ls at hl ⊢
  have hl : lv_has ls 2 [(0, .ref (AM 100))] := hl
  obtain ⟨⟨h2, h10, h21, h27, h31, h35⟩, hcap, ha, hop, hfi, hfa, hst, hpe⟩ := hI
  have hc0 : n 0 ≤ 10 := hcap 0 (by decide)
  have hc1 : n 1 ≤ 15 := hcap 1 (by decide)
  have hc2 : n 2 ≤ 5 := hcap 2 (by decide)
  have hc3 : n 3 ≤ 9 := hcap 3 (by decide)
  have hc4 : n 4 ≤ 9 := hcap 4 (by decide)
  have hc5 : n 5 ≤ 9 := hcap 5 (by decide)
  refine lv_iconst (v := 0) hx hb d_Mo_act_0 (by decide) ?_
  refine lv_istore_n (lv' := [(1, .int 0), (0, .ref (AM 100))]) hx hb d_Mo_act_1 rfl hl (by decide) rfl (fun ls hl => ?_)
  have lp0 : ∀ (k i : Nat) (X1 : I2) (Y1 : J2) (g1 : Nat → va_E) (H : Heap) (locs : List Loc) (ls : Array Slot), i + k = n 0 → MW ct AM L X1 Y1 g1 → (∀ a b, a ≠ 8 → a ≠ 9 → X1 a b = X a b) → va_P D vwCl (va_pl L g1) H → va_D A (va_pl L g1) → va_S A s.heap H locs → lv_has ls 2 [(1, .int (nI i)), (0, .ref (AM 100))] → lAct1 k i (X1, Y1) = lAct1 (n 0) 0 (X, Y) → W p l e (headSpec (WS y_Mo_act b_Mo_act 2 none) { frames := 2, cells := 0, slots := 0, locals := 43 }).room s m [.ref (AM 100)].toArray below meth c H locs 0 0 (MQ below (Xs D (TYS ct) L A (fun f' => MW ct AM L (lAct3 (n 4) 0 (lAct2 (n 1) 0 (lAct1 (n 0) 0 (X, Y)))).1 (lAct3 (n 4) 0 (lAct2 (n 1) 0 (lAct1 (n 0) 0 (X, Y)))).2 f')) [.ref (AM 100)].toArray s 0 0 A) (F0 m 2 ls []) := by
    intro k
    induction k with
    | zero =>
      intro i X1 Y1 f H locs ls hik0 hM hX0 hP hD hS hl hfin0
      have hle_i : i ≤ n 0 := by omega
      have hcl_i : (nI i).toNatClampNeg = i := nI_clamp (by omega)
      have z2 : X1 2 0 = nI (n 0) := by rw [hX0 2 0 (by decide) (by decide)]; exact h2
      have z10 : X1 10 0 = nI (n 1) := by rw [hX0 10 0 (by decide) (by decide)]; exact h10
      have z21 : X1 21 0 = nI (n 2) := by rw [hX0 21 0 (by decide) (by decide)]; exact h21
      have z27 : X1 27 0 = nI (n 3) := by rw [hX0 27 0 (by decide) (by decide)]; exact h27
      have z31 : X1 31 0 = nI (n 4) := by rw [hX0 31 0 (by decide) (by decide)]; exact h31
      have z35 : X1 35 0 = nI (n 5) := by rw [hX0 35 0 (by decide) (by decide)]; exact h35
      refine lv_iload_n hx hb d_Mo_act_2 rfl (lv_at hl 0 rfl) ?_
      refine lv_aload_n hx hb d_Mo_act_3 rfl (lv_at hl 1 rfl) ?_
      refine pg_get (C := "SmokeZonesModel") (T := T_Mo) (N := 47) hx hb hG in_Mo hown hK hP hM.1.1 hM.1.2 rfl 2 (by decide) (hG _ k623) (fun _ h9 => h9) rfl d_Mo_act_4 ?_
      refine lv_topi (fun y_1 ey_1 => ?_)
      obtain rfl : y_1 = nI (n 0) := ey_1.trans (by simp [up2, hcl_i, z2, z10, z21, z27, z31, z35])
      refine lv_icmp_ge (tgt := 91) hx hb d_Mo_act_7 (by decide) (fun c_2 => ?_) (fun c_2 => ?_)
      · refine lv_iconst (v := 0) hx hb d_Mo_act_91 (by decide) ?_
        refine lv_istore_n (lv' := [(1, .int 0), (0, .ref (AM 100))]) hx hb d_Mo_act_92 rfl hl (by decide) rfl (fun ls hl => ?_)
        have lp1 : ∀ (k i : Nat) (X2 : I2) (Y2 : J2) (g2 : Nat → va_E) (H : Heap) (locs : List Loc) (ls : Array Slot), i + k = n 1 → MW ct AM L X2 Y2 g2 → (∀ a b, a ≠ 8 → a ≠ 9 → a ≠ 17 → X2 a b = X a b) → va_P D vwCl (va_pl L g2) H → va_D A (va_pl L g2) → va_S A s.heap H locs → lv_has ls 2 [(1, .int (nI i)), (0, .ref (AM 100))] → lAct2 k i (X2, Y2) = lAct2 (n 1) 0 (X1, Y1) → W p l e (headSpec (WS y_Mo_act b_Mo_act 2 none) { frames := 2, cells := 0, slots := 0, locals := 43 }).room s m [.ref (AM 100)].toArray below meth c H locs 0 0 (MQ below (Xs D (TYS ct) L A (fun f' => MW ct AM L (lAct3 (n 4) 0 (lAct2 (n 1) 0 (lAct1 (n 0) 0 (X, Y)))).1 (lAct3 (n 4) 0 (lAct2 (n 1) 0 (lAct1 (n 0) 0 (X, Y)))).2 f')) [.ref (AM 100)].toArray s 0 0 A) (F0 m 93 ls []) := by
          intro k
          induction k with
          | zero =>
            intro i X2 Y2 f H locs ls hik1 hM hX1 hP hD hS hl hfin1
            have hle_i : i ≤ n 1 := by omega
            have hcl_i : (nI i).toNatClampNeg = i := nI_clamp (by omega)
            have z2 : X2 2 0 = nI (n 0) := by rw [hX1 2 0 (by decide) (by decide) (by decide)]; exact h2
            have z10 : X2 10 0 = nI (n 1) := by rw [hX1 10 0 (by decide) (by decide) (by decide)]; exact h10
            have z21 : X2 21 0 = nI (n 2) := by rw [hX1 21 0 (by decide) (by decide) (by decide)]; exact h21
            have z27 : X2 27 0 = nI (n 3) := by rw [hX1 27 0 (by decide) (by decide) (by decide)]; exact h27
            have z31 : X2 31 0 = nI (n 4) := by rw [hX1 31 0 (by decide) (by decide) (by decide)]; exact h31
            have z35 : X2 35 0 = nI (n 5) := by rw [hX1 35 0 (by decide) (by decide) (by decide)]; exact h35
            refine lv_iload_n hx hb d_Mo_act_93 rfl (lv_at hl 0 rfl) ?_
            refine lv_aload_n hx hb d_Mo_act_94 rfl (lv_at hl 1 rfl) ?_
            refine pg_get (C := "SmokeZonesModel") (T := T_Mo) (N := 47) hx hb hG in_Mo hown hK hP hM.1.1 hM.1.2 rfl 10 (by decide) (hG _ k631) (fun _ h9 => h9) rfl d_Mo_act_95 ?_
            refine lv_topi (fun y_3 ey_3 => ?_)
            obtain rfl : y_3 = nI (n 1) := ey_3.trans (by simp [up2, hcl_i, z2, z10, z21, z27, z31, z35])
            refine lv_icmp_ge (tgt := 165) hx hb d_Mo_act_98 (by decide) (fun c_4 => ?_) (fun c_4 => ?_)
            · refine lv_iconst (v := 0) hx hb d_Mo_act_165 (by decide) ?_
              refine lv_istore_n (lv' := [(1, .int 0), (0, .ref (AM 100))]) hx hb d_Mo_act_166 rfl hl (by decide) rfl (fun ls hl => ?_)
              have lp2 : ∀ (k i : Nat) (Y3 : J2) (g3 : Nat → va_E) (H : Heap) (locs : List Loc) (ls : Array Slot), i + k = n 4 → MW ct AM L X2 Y3 g3 → va_P D vwCl (va_pl L g3) H → va_D A (va_pl L g3) → va_S A s.heap H locs → lv_has ls 2 [(1, .int (nI i)), (0, .ref (AM 100))] → lAct3 k i (X2, Y3) = lAct3 (n 4) 0 (X2, Y2) → W p l e (headSpec (WS y_Mo_act b_Mo_act 2 none) { frames := 2, cells := 0, slots := 0, locals := 43 }).room s m [.ref (AM 100)].toArray below meth c H locs 0 0 (MQ below (Xs D (TYS ct) L A (fun f' => MW ct AM L (lAct3 (n 4) 0 (lAct2 (n 1) 0 (lAct1 (n 0) 0 (X, Y)))).1 (lAct3 (n 4) 0 (lAct2 (n 1) 0 (lAct1 (n 0) 0 (X, Y)))).2 f')) [.ref (AM 100)].toArray s 0 0 A) (F0 m 167 ls []) := by
                intro k
                induction k with
                | zero =>
                  intro i Y3 f H locs ls hik2 hM hP hD hS hl hfin2
                  have hle_i : i ≤ n 4 := by omega
                  have hcl_i : (nI i).toNatClampNeg = i := nI_clamp (by omega)
                  have z2 : X2 2 0 = nI (n 0) := by rw [hX1 2 0 (by decide) (by decide) (by decide)]; exact h2
                  have z10 : X2 10 0 = nI (n 1) := by rw [hX1 10 0 (by decide) (by decide) (by decide)]; exact h10
                  have z21 : X2 21 0 = nI (n 2) := by rw [hX1 21 0 (by decide) (by decide) (by decide)]; exact h21
                  have z27 : X2 27 0 = nI (n 3) := by rw [hX1 27 0 (by decide) (by decide) (by decide)]; exact h27
                  have z31 : X2 31 0 = nI (n 4) := by rw [hX1 31 0 (by decide) (by decide) (by decide)]; exact h31
                  have z35 : X2 35 0 = nI (n 5) := by rw [hX1 35 0 (by decide) (by decide) (by decide)]; exact h35
                  refine lv_iload_n hx hb d_Mo_act_167 rfl (lv_at hl 0 rfl) ?_
                  refine lv_aload_n hx hb d_Mo_act_168 rfl (lv_at hl 1 rfl) ?_
                  refine pg_get (C := "SmokeZonesModel") (T := T_Mo) (N := 47) hx hb hG in_Mo hown hK hP hM.1.1 hM.1.2 rfl 31 (by decide) (hG _ k652) (fun _ h9 => h9) rfl d_Mo_act_169 ?_
                  refine lv_topi (fun y_5 ey_5 => ?_)
                  obtain rfl : y_5 = nI (n 4) := ey_5.trans (by simp [up2, hcl_i, z2, z10, z21, z27, z31, z35])
                  refine lv_icmp_ge (tgt := 215) hx hb d_Mo_act_172 (by decide) (fun c_6 => ?_) (fun c_6 => ?_)
                  · have q0 : (X1, Y1) = lAct1 (n 0) 0 (X, Y) := hfin0
                    have q1 : (X2, Y2) = lAct2 (n 1) 0 (X1, Y1) := hfin1
                    have q2 : (X2, Y3) = lAct3 (n 4) 0 (X2, Y2) := hfin2
                    have hN : MW ct AM L (lAct3 (n 4) 0 (lAct2 (n 1) 0 (lAct1 (n 0) 0 (X, Y)))).1 (lAct3 (n 4) 0 (lAct2 (n 1) 0 (lAct1 (n 0) 0 (X, Y)))).2 f := by
                      rw [← q0, ← q1, ← q2]
                      exact hM
                    exact W.vret hx hb hret (fun t ht hW => ⟨⟨f, rfl, hN, by rw [ht]; exact hP, va_K.moved hW.alike hK, hD⟩, hS.F ht⟩) hS.2.2 d_Mo_act_215
                  · exact (ge_yes (by omega) (by omega) c_6).elim
                | succ k ih2 =>
                  intro i Y3 f H locs ls hik2 hM hP hD hS hl hfin2
                  have hle_i : i ≤ n 4 := by omega
                  have hcl_i : (nI i).toNatClampNeg = i := nI_clamp (by omega)
                  have z2 : X2 2 0 = nI (n 0) := by rw [hX1 2 0 (by decide) (by decide) (by decide)]; exact h2
                  have z10 : X2 10 0 = nI (n 1) := by rw [hX1 10 0 (by decide) (by decide) (by decide)]; exact h10
                  have z21 : X2 21 0 = nI (n 2) := by rw [hX1 21 0 (by decide) (by decide) (by decide)]; exact h21
                  have z27 : X2 27 0 = nI (n 3) := by rw [hX1 27 0 (by decide) (by decide) (by decide)]; exact h27
                  have z31 : X2 31 0 = nI (n 4) := by rw [hX1 31 0 (by decide) (by decide) (by decide)]; exact h31
                  have z35 : X2 35 0 = nI (n 5) := by rw [hX1 35 0 (by decide) (by decide) (by decide)]; exact h35
                  have hi : i < n 4 := by omega
                  refine lv_iload_n hx hb d_Mo_act_167 rfl (lv_at hl 0 rfl) ?_
                  refine lv_aload_n hx hb d_Mo_act_168 rfl (lv_at hl 1 rfl) ?_
                  refine pg_get (C := "SmokeZonesModel") (T := T_Mo) (N := 47) hx hb hG in_Mo hown hK hP hM.1.1 hM.1.2 rfl 31 (by decide) (hG _ k652) (fun _ h9 => h9) rfl d_Mo_act_169 ?_
                  refine lv_topi (fun y_7 ey_7 => ?_)
                  obtain rfl : y_7 = nI (n 4) := ey_7.trans (by simp [up2, hcl_i, z2, z10, z21, z27, z31, z35])
                  refine lv_icmp_ge (tgt := 215) hx hb d_Mo_act_172 (by decide) (fun c_8 => ?_) (fun c_8 => ?_)
                  · exact (ge_no hi (by omega) c_8).elim
                  · obtain ⟨⟨r, hr, er0⟩, hs0⟩ := hst i hi
                    have er : X2 32 i = nI r := by rw [hX1 32 i (by decide) (by decide) (by decide)]; exact er0
                    have hs : ¬ Int32.toInt64 (X2 33 i) = 0 := by rw [hX1 33 i (by decide) (by decide) (by decide)]; exact hs0
                    refine lv_aload_n hx hb d_Mo_act_175 rfl (lv_at hl 1 rfl) ?_
                    refine pg_get (C := "SmokeZonesModel") (T := T_Mo) (N := 47) hx hb hG in_Mo hown hK hP hM.1.1 hM.1.2 rfl 34 (by decide) (hG _ k655) (fun _ h9 => h9) rfl d_Mo_act_176 ?_
                    refine lv_iload_n hx hb d_Mo_act_179 rfl (lv_at hl 0 rfl) ?_
                    refine lv_dup2_11 hx hb d_Mo_act_180 rfl rfl ?_
                    refine mw_lald hx hb hK hP hM (j := 34) rfl (vp_in_nI (show i < 9 by omega) (by decide)) d_Mo_act_181 ?_
                    refine lv_topl (fun y_9 ey_9 => ?_)
                    obtain rfl : y_9 = Y3 34 i := ey_9.trans (by simp [up2, hcl_i, z2, z10, z21, z27, z31, z35])
                    refine lv_aload_n hx hb d_Mo_act_182 rfl (lv_at hl 1 rfl) ?_
                    refine lv_aload_n hx hb d_Mo_act_183 rfl (lv_at hl 1 rfl) ?_
                    refine pg_get (C := "SmokeZonesModel") (T := T_Mo) (N := 47) hx hb hG in_Mo hown hK hP hM.1.1 hM.1.2 rfl 32 (by decide) (hG _ k653) (fun _ h9 => h9) rfl d_Mo_act_184 ?_
                    refine lv_iload_n hx hb d_Mo_act_187 rfl (lv_at hl 0 rfl) ?_
                    refine mw_iald hx hb hK hP hM (j := 32) rfl (vp_in_nI (show i < 9 by omega) (by decide)) d_Mo_act_188 ?_
                    refine lv_topi (fun y_10 ey_10 => ?_)
                    obtain rfl : y_10 = X2 32 i := ey_10.trans (by simp [up2, hcl_i, z2, z10, z21, z27, z31, z35])
                    refine kV_rl ⟨hx, hb, hml, hown, hG⟩ (c_Mo_warmth_e hM (r := r) (by omega) er) (cwV 1 hG (gV k856 k858 ks_Mo_warmth k2 k859) rfl rfl rfl hd_Mo_warmth ⟨Nat.le_of_ble_eq_true rfl, Nat.le_of_ble_eq_true rfl⟩) hK hP hS hM.1.1 hM.1.2 rfl rfl hl.1 rfl (Nat.le_of_ble_eq_true rfl) ⟨Nat.le_of_ble_eq_true rfl, Nat.le_of_ble_eq_true rfl⟩ d_Mo_act_189 (fun locs hS => ?_)
                    refine lv_aload_n hx hb d_Mo_act_192 rfl (lv_at hl 1 rfl) ?_
                    refine pg_get (C := "SmokeZonesModel") (T := T_Mo) (N := 47) hx hb hG in_Mo hown hK hP hM.1.1 hM.1.2 rfl 34 (by decide) (hG _ k655) (fun _ h9 => h9) rfl d_Mo_act_193 ?_
                    refine lv_iload_n hx hb d_Mo_act_196 rfl (lv_at hl 0 rfl) ?_
                    refine mw_lald hx hb hK hP hM (j := 34) rfl (vp_in_nI (show i < 9 by omega) (by decide)) d_Mo_act_197 ?_
                    refine lv_topl (fun y_11 ey_11 => ?_)
                    obtain rfl : y_11 = Y3 34 i := ey_11.trans (by simp [up2, hcl_i, z2, z10, z21, z27, z31, z35])
                    refine lv_lsub hx hb d_Mo_act_198 ?_
                    refine lv_aload_n hx hb d_Mo_act_199 rfl (lv_at hl 1 rfl) ?_
                    refine pg_get (C := "SmokeZonesModel") (T := T_Mo) (N := 47) hx hb hG in_Mo hown hK hP hM.1.1 hM.1.2 rfl 33 (by decide) (hG _ k654) (fun _ h9 => h9) rfl d_Mo_act_200 ?_
                    refine lv_iload_n hx hb d_Mo_act_203 rfl (lv_at hl 0 rfl) ?_
                    refine mw_iald hx hb hK hP hM (j := 33) rfl (vp_in_nI (show i < 9 by omega) (by decide)) d_Mo_act_204 ?_
                    refine lv_topi (fun y_12 ey_12 => ?_)
                    obtain rfl : y_12 = X2 33 i := ey_12.trans (by simp [up2, hcl_i, z2, z10, z21, z27, z31, z35])
                    refine lv_i2l hx hb d_Mo_act_205 rfl ?_
                    refine lv_ldiv hx hb d_Mo_act_206 hs ?_
                    refine lv_ladd hx hb d_Mo_act_207 ?_
                    refine mw_last hx hb hK hP hD hS hM (j := 34) rfl (vp_in_nI (show i < 9 by omega) (by decide)) d_Mo_act_208 (fun f H locs hM hP hD hS => ?_)
                    rw [show (nI i).toNatClampNeg = i from nI_clamp (by omega)] at hM
                    refine lv_iinc (v := nI (i + 1)) (lv' := [(1, .int (nI (i + 1))), (0, .ref (AM 100))]) hx hb d_Mo_act_209 hl (k := 0) rfl (nI_1 i) (by decide) rfl (fun ls hl => ?_)
                    refine lv_goto (tgt := 167) hx hb d_Mo_act_212 (by decide) ?_
                    have hN : MW ct AM L (sxAct3 (fun _ => 0) i X2 Y3) (syAct3 (fun _ => 0) i X2 Y3) f := by
                      (try simp only [sxAct3, syAct3])
                      exact hM
                    exact ih2 (i + 1) _ _ _ _ _ (by omega) hN  hP hD hS (lv_sub hl [0, 1] rfl) hfin2
              exact lp2 (n 4) 0 Y2 f _ _ _ (by omega) hM hP hD hS (lv_sub hl [0, 1] rfl) rfl
            · exact (ge_yes (by omega) (by omega) c_4).elim
          | succ k ih1 =>
            intro i X2 Y2 f H locs ls hik1 hM hX1 hP hD hS hl hfin1
            have hle_i : i ≤ n 1 := by omega
            have hcl_i : (nI i).toNatClampNeg = i := nI_clamp (by omega)
            have z2 : X2 2 0 = nI (n 0) := by rw [hX1 2 0 (by decide) (by decide) (by decide)]; exact h2
            have z10 : X2 10 0 = nI (n 1) := by rw [hX1 10 0 (by decide) (by decide) (by decide)]; exact h10
            have z21 : X2 21 0 = nI (n 2) := by rw [hX1 21 0 (by decide) (by decide) (by decide)]; exact h21
            have z27 : X2 27 0 = nI (n 3) := by rw [hX1 27 0 (by decide) (by decide) (by decide)]; exact h27
            have z31 : X2 31 0 = nI (n 4) := by rw [hX1 31 0 (by decide) (by decide) (by decide)]; exact h31
            have z35 : X2 35 0 = nI (n 5) := by rw [hX1 35 0 (by decide) (by decide) (by decide)]; exact h35
            have hi : i < n 1 := by omega
            refine lv_iload_n hx hb d_Mo_act_93 rfl (lv_at hl 0 rfl) ?_
            refine lv_aload_n hx hb d_Mo_act_94 rfl (lv_at hl 1 rfl) ?_
            refine pg_get (C := "SmokeZonesModel") (T := T_Mo) (N := 47) hx hb hG in_Mo hown hK hP hM.1.1 hM.1.2 rfl 10 (by decide) (hG _ k631) (fun _ h9 => h9) rfl d_Mo_act_95 ?_
            refine lv_topi (fun y_13 ey_13 => ?_)
            obtain rfl : y_13 = nI (n 1) := ey_13.trans (by simp [up2, hcl_i, z2, z10, z21, z27, z31, z35])
            refine lv_icmp_ge (tgt := 165) hx hb d_Mo_act_98 (by decide) (fun c_14 => ?_) (fun c_14 => ?_)
            · exact (ge_no hi (by omega) c_14).elim
            · obtain ⟨⟨r, hr, er0⟩, ho, hd0⟩ := hop i hi
              have er : X2 11 i = nI r := by rw [hX1 11 i (by decide) (by decide) (by decide)]; exact er0
              rcases ho with e0 | ⟨g, hg, e0⟩
              · have eg : X2 12 i = (-1) := by rw [hX1 12 i (by decide) (by decide) (by decide)]; exact e0
                refine lv_aload_n hx hb d_Mo_act_101 rfl (lv_at hl 1 rfl) ?_
                refine pg_get (C := "SmokeZonesModel") (T := T_Mo) (N := 47) hx hb hG in_Mo hown hK hP hM.1.1 hM.1.2 rfl 17 (by decide) (hG _ k638) (fun _ h9 => h9) rfl d_Mo_act_102 ?_
                refine lv_iload_n hx hb d_Mo_act_105 rfl (lv_at hl 0 rfl) ?_
                refine lv_aload_n hx hb d_Mo_act_106 rfl (lv_at hl 1 rfl) ?_
                refine pg_get (C := "SmokeZonesModel") (T := T_Mo) (N := 47) hx hb hG in_Mo hown hK hP hM.1.1 hM.1.2 rfl 17 (by decide) (hG _ k638) (fun _ h9 => h9) rfl d_Mo_act_107 ?_
                refine lv_iload_n hx hb d_Mo_act_110 rfl (lv_at hl 0 rfl) ?_
                refine mw_zald hx hb hK hP hM (j := 17) rfl (vp_in_nI (show i < 15 by omega) (by decide)) d_Mo_act_111 ?_
                refine lv_topi (fun y_15 ey_15 => ?_)
                obtain rfl : y_15 = X2 17 i := ey_15.trans (by simp [up2, hcl_i, z2, z10, z21, z27, z31, z35])
                refine lv_if_ne (tgt := 153) hx hb d_Mo_act_112 (by decide) (fun c_16 => ?_) (fun c_16 => ?_)
                · refine lv_iconst (v := 1) hx hb d_Mo_act_153 (by decide) ?_
                  refine lv_goto (tgt := 158) hx hb d_Mo_act_154 (by decide) ?_
                  refine mw_zast hx hb hK hP hD hS hM (j := 17) rfl (vp_in_nI (show i < 15 by omega) (by decide)) rfl d_Mo_act_158 (fun f H locs hM hP hD hS => ?_)
                  rw [show (nI i).toNatClampNeg = i from nI_clamp (by omega)] at hM
                  refine lv_iinc (v := nI (i + 1)) (lv' := [(1, .int (nI (i + 1))), (0, .ref (AM 100))]) hx hb d_Mo_act_159 hl (k := 0) rfl (nI_1 i) (by decide) rfl (fun ls hl => ?_)
                  refine lv_goto (tgt := 93) hx hb d_Mo_act_162 (by decide) ?_
                  have hN : MW ct AM L (sxAct2 (fun _ => 0) i X2 Y2) (syAct2 (fun _ => 0) i X2 Y2) f := by
                    (try simp only [sxAct2, syAct2, if_pos eg, if_neg c_16])
                    exact hM
                  exact ih1 (i + 1) _ _ _ _ _ _ (by omega) hN (by intro a b e8 e9 e17; rw [← hX1 a b e8 e9 e17]; simp only [sxAct2, syAct2, if_pos eg, if_neg c_16]; simp [up2, *]) hP hD hS (lv_sub hl [0, 1] rfl) hfin1
                · refine lv_aload_n hx hb d_Mo_act_115 rfl (lv_at hl 1 rfl) ?_
                  refine lv_aload_n hx hb d_Mo_act_116 rfl (lv_at hl 1 rfl) ?_
                  refine pg_get (C := "SmokeZonesModel") (T := T_Mo) (N := 47) hx hb hG in_Mo hown hK hP hM.1.1 hM.1.2 rfl 11 (by decide) (hG _ k632) (fun _ h9 => h9) rfl d_Mo_act_117 ?_
                  refine lv_iload_n hx hb d_Mo_act_120 rfl (lv_at hl 0 rfl) ?_
                  refine mw_iald hx hb hK hP hM (j := 11) rfl (vp_in_nI (show i < 15 by omega) (by decide)) d_Mo_act_121 ?_
                  refine lv_topi (fun y_17 ey_17 => ?_)
                  obtain rfl : y_17 = X2 11 i := ey_17.trans (by simp [up2, hcl_i, z2, z10, z21, z27, z31, z35])
                  refine lv_aload_n hx hb d_Mo_act_122 rfl (lv_at hl 1 rfl) ?_
                  refine pg_get (C := "SmokeZonesModel") (T := T_Mo) (N := 47) hx hb hG in_Mo hown hK hP hM.1.1 hM.1.2 rfl 16 (by decide) (hG _ k637) (fun _ h9 => h9) rfl d_Mo_act_123 ?_
                  refine lv_iload_n hx hb d_Mo_act_126 rfl (lv_at hl 0 rfl) ?_
                  refine mw_iald hx hb hK hP hM (j := 16) rfl (vp_in_nI (show i < 15 by omega) (by decide)) d_Mo_act_127 ?_
                  refine lv_topi (fun y_18 ey_18 => ?_)
                  obtain rfl : y_18 = X2 16 i := ey_18.trans (by simp [up2, hcl_i, z2, z10, z21, z27, z31, z35])
                  refine kV_ri ⟨hx, hb, hml, hown, hG⟩ (c_Mo_isHot_e hM (r := r) (by omega) er) (cwV 2 hG (gV k852 k854 ks_Mo_isHot k2 k855) rfl rfl rfl hd_Mo_isHot ⟨Nat.le_of_ble_eq_true rfl, Nat.le_of_ble_eq_true rfl⟩) hK hP hS hM.1.1 hM.1.2 rfl rfl hl.1 rfl (Nat.le_of_ble_eq_true rfl) ⟨Nat.le_of_ble_eq_true rfl, Nat.le_of_ble_eq_true rfl⟩ d_Mo_act_128 (fun locs hS => ?_)
                  refine lv_if_ne (tgt := 153) hx hb d_Mo_act_131 (by decide) (fun c_19 => ?_) (fun c_19 => ?_)
                  · refine lv_iconst (v := 1) hx hb d_Mo_act_153 (by decide) ?_
                    refine lv_goto (tgt := 158) hx hb d_Mo_act_154 (by decide) ?_
                    refine mw_zast hx hb hK hP hD hS hM (j := 17) rfl (vp_in_nI (show i < 15 by omega) (by decide)) rfl d_Mo_act_158 (fun f H locs hM hP hD hS => ?_)
                    rw [show (nI i).toNatClampNeg = i from nI_clamp (by omega)] at hM
                    refine lv_iinc (v := nI (i + 1)) (lv' := [(1, .int (nI (i + 1))), (0, .ref (AM 100))]) hx hb d_Mo_act_159 hl (k := 0) rfl (nI_1 i) (by decide) rfl (fun ls hl => ?_)
                    refine lv_goto (tgt := 93) hx hb d_Mo_act_162 (by decide) ?_
                    have hN : MW ct AM L (sxAct2 (fun _ => 0) i X2 Y2) (syAct2 (fun _ => 0) i X2 Y2) f := by
                      (try simp only [sxAct2, syAct2, if_pos eg, if_pos c_16, if_neg c_19])
                      exact hM
                    exact ih1 (i + 1) _ _ _ _ _ _ (by omega) hN (by intro a b e8 e9 e17; rw [← hX1 a b e8 e9 e17]; simp only [sxAct2, syAct2, if_pos eg, if_pos c_16, if_neg c_19]; simp [up2, *]) hP hD hS (lv_sub hl [0, 1] rfl) hfin1
                  · refine lv_aload_n hx hb d_Mo_act_134 rfl (lv_at hl 1 rfl) ?_
                    refine lv_aload_n hx hb d_Mo_act_135 rfl (lv_at hl 1 rfl) ?_
                    refine pg_get (C := "SmokeZonesModel") (T := T_Mo) (N := 47) hx hb hG in_Mo hown hK hP hM.1.1 hM.1.2 rfl 12 (by decide) (hG _ k633) (fun _ h9 => h9) rfl d_Mo_act_136 ?_
                    refine lv_iload_n hx hb d_Mo_act_139 rfl (lv_at hl 0 rfl) ?_
                    refine mw_iald hx hb hK hP hM (j := 12) rfl (vp_in_nI (show i < 15 by omega) (by decide)) d_Mo_act_140 ?_
                    refine lv_topi (fun y_20 ey_20 => ?_)
                    obtain rfl : y_20 = X2 12 i := ey_20.trans (by simp [up2, hcl_i, z2, z10, z21, z27, z31, z35])
                    refine lv_aload_n hx hb d_Mo_act_141 rfl (lv_at hl 1 rfl) ?_
                    refine pg_get (C := "SmokeZonesModel") (T := T_Mo) (N := 47) hx hb hG in_Mo hown hK hP hM.1.1 hM.1.2 rfl 16 (by decide) (hG _ k637) (fun _ h9 => h9) rfl d_Mo_act_142 ?_
                    refine lv_iload_n hx hb d_Mo_act_145 rfl (lv_at hl 0 rfl) ?_
                    refine mw_iald hx hb hK hP hM (j := 16) rfl (vp_in_nI (show i < 15 by omega) (by decide)) d_Mo_act_146 ?_
                    refine lv_topi (fun y_21 ey_21 => ?_)
                    obtain rfl : y_21 = X2 16 i := ey_21.trans (by simp [up2, hcl_i, z2, z10, z21, z27, z31, z35])
                    refine kV_ri ⟨hx, hb, hml, hown, hG⟩ (c_Mo_isHot_en hM eg) (cwV 2 hG (gV k852 k854 ks_Mo_isHot k2 k855) rfl rfl rfl hd_Mo_isHot ⟨Nat.le_of_ble_eq_true rfl, Nat.le_of_ble_eq_true rfl⟩) hK hP hS hM.1.1 hM.1.2 rfl rfl hl.1 rfl (Nat.le_of_ble_eq_true rfl) ⟨Nat.le_of_ble_eq_true rfl, Nat.le_of_ble_eq_true rfl⟩ d_Mo_act_147 (fun locs hS => ?_)
                    refine lv_if_eq (tgt := 157) hx hb d_Mo_act_150 (by decide) (fun c_22 => ?_) (fun c_22 => ?_)
                    · refine lv_iconst (v := 0) hx hb d_Mo_act_157 (by decide) ?_
                      refine mw_zast hx hb hK hP hD hS hM (j := 17) rfl (vp_in_nI (show i < 15 by omega) (by decide)) rfl d_Mo_act_158 (fun f H locs hM hP hD hS => ?_)
                      rw [show (nI i).toNatClampNeg = i from nI_clamp (by omega)] at hM
                      refine lv_iinc (v := nI (i + 1)) (lv' := [(1, .int (nI (i + 1))), (0, .ref (AM 100))]) hx hb d_Mo_act_159 hl (k := 0) rfl (nI_1 i) (by decide) rfl (fun ls hl => ?_)
                      refine lv_goto (tgt := 93) hx hb d_Mo_act_162 (by decide) ?_
                      have hN : MW ct AM L (sxAct2 (fun _ => 0) i X2 Y2) (syAct2 (fun _ => 0) i X2 Y2) f := by
                        (try simp only [sxAct2, syAct2, if_pos eg, if_pos c_16, if_pos c_19, if_pos c_22])
                        exact hM
                      exact ih1 (i + 1) _ _ _ _ _ _ (by omega) hN (by intro a b e8 e9 e17; rw [← hX1 a b e8 e9 e17]; simp only [sxAct2, syAct2, if_pos eg, if_pos c_16, if_pos c_19, if_pos c_22]; simp [up2, *]) hP hD hS (lv_sub hl [0, 1] rfl) hfin1
                    · exact absurd (by decide) c_22
              · have eg : X2 12 i = nI g := by rw [hX1 12 i (by decide) (by decide) (by decide)]; exact e0
                have cg : ¬ X2 12 i = (-1) := by rw [eg]; exact nI_m1 (by omega)
                refine lv_aload_n hx hb d_Mo_act_101 rfl (lv_at hl 1 rfl) ?_
                refine pg_get (C := "SmokeZonesModel") (T := T_Mo) (N := 47) hx hb hG in_Mo hown hK hP hM.1.1 hM.1.2 rfl 17 (by decide) (hG _ k638) (fun _ h9 => h9) rfl d_Mo_act_102 ?_
                refine lv_iload_n hx hb d_Mo_act_105 rfl (lv_at hl 0 rfl) ?_
                refine lv_aload_n hx hb d_Mo_act_106 rfl (lv_at hl 1 rfl) ?_
                refine pg_get (C := "SmokeZonesModel") (T := T_Mo) (N := 47) hx hb hG in_Mo hown hK hP hM.1.1 hM.1.2 rfl 17 (by decide) (hG _ k638) (fun _ h9 => h9) rfl d_Mo_act_107 ?_
                refine lv_iload_n hx hb d_Mo_act_110 rfl (lv_at hl 0 rfl) ?_
                refine mw_zald hx hb hK hP hM (j := 17) rfl (vp_in_nI (show i < 15 by omega) (by decide)) d_Mo_act_111 ?_
                refine lv_topi (fun y_23 ey_23 => ?_)
                obtain rfl : y_23 = X2 17 i := ey_23.trans (by simp [up2, hcl_i, z2, z10, z21, z27, z31, z35])
                refine lv_if_ne (tgt := 153) hx hb d_Mo_act_112 (by decide) (fun c_24 => ?_) (fun c_24 => ?_)
                · refine lv_iconst (v := 1) hx hb d_Mo_act_153 (by decide) ?_
                  refine lv_goto (tgt := 158) hx hb d_Mo_act_154 (by decide) ?_
                  refine mw_zast hx hb hK hP hD hS hM (j := 17) rfl (vp_in_nI (show i < 15 by omega) (by decide)) rfl d_Mo_act_158 (fun f H locs hM hP hD hS => ?_)
                  rw [show (nI i).toNatClampNeg = i from nI_clamp (by omega)] at hM
                  refine lv_iinc (v := nI (i + 1)) (lv' := [(1, .int (nI (i + 1))), (0, .ref (AM 100))]) hx hb d_Mo_act_159 hl (k := 0) rfl (nI_1 i) (by decide) rfl (fun ls hl => ?_)
                  refine lv_goto (tgt := 93) hx hb d_Mo_act_162 (by decide) ?_
                  have hN : MW ct AM L (sxAct2 (fun _ => 0) i X2 Y2) (syAct2 (fun _ => 0) i X2 Y2) f := by
                    (try simp only [sxAct2, syAct2, if_neg cg, if_neg c_24])
                    exact hM
                  exact ih1 (i + 1) _ _ _ _ _ _ (by omega) hN (by intro a b e8 e9 e17; rw [← hX1 a b e8 e9 e17]; simp only [sxAct2, syAct2, if_neg cg, if_neg c_24]; simp [up2, *]) hP hD hS (lv_sub hl [0, 1] rfl) hfin1
                · refine lv_aload_n hx hb d_Mo_act_115 rfl (lv_at hl 1 rfl) ?_
                  refine lv_aload_n hx hb d_Mo_act_116 rfl (lv_at hl 1 rfl) ?_
                  refine pg_get (C := "SmokeZonesModel") (T := T_Mo) (N := 47) hx hb hG in_Mo hown hK hP hM.1.1 hM.1.2 rfl 11 (by decide) (hG _ k632) (fun _ h9 => h9) rfl d_Mo_act_117 ?_
                  refine lv_iload_n hx hb d_Mo_act_120 rfl (lv_at hl 0 rfl) ?_
                  refine mw_iald hx hb hK hP hM (j := 11) rfl (vp_in_nI (show i < 15 by omega) (by decide)) d_Mo_act_121 ?_
                  refine lv_topi (fun y_25 ey_25 => ?_)
                  obtain rfl : y_25 = X2 11 i := ey_25.trans (by simp [up2, hcl_i, z2, z10, z21, z27, z31, z35])
                  refine lv_aload_n hx hb d_Mo_act_122 rfl (lv_at hl 1 rfl) ?_
                  refine pg_get (C := "SmokeZonesModel") (T := T_Mo) (N := 47) hx hb hG in_Mo hown hK hP hM.1.1 hM.1.2 rfl 16 (by decide) (hG _ k637) (fun _ h9 => h9) rfl d_Mo_act_123 ?_
                  refine lv_iload_n hx hb d_Mo_act_126 rfl (lv_at hl 0 rfl) ?_
                  refine mw_iald hx hb hK hP hM (j := 16) rfl (vp_in_nI (show i < 15 by omega) (by decide)) d_Mo_act_127 ?_
                  refine lv_topi (fun y_26 ey_26 => ?_)
                  obtain rfl : y_26 = X2 16 i := ey_26.trans (by simp [up2, hcl_i, z2, z10, z21, z27, z31, z35])
                  refine kV_ri ⟨hx, hb, hml, hown, hG⟩ (c_Mo_isHot_e hM (r := r) (by omega) er) (cwV 2 hG (gV k852 k854 ks_Mo_isHot k2 k855) rfl rfl rfl hd_Mo_isHot ⟨Nat.le_of_ble_eq_true rfl, Nat.le_of_ble_eq_true rfl⟩) hK hP hS hM.1.1 hM.1.2 rfl rfl hl.1 rfl (Nat.le_of_ble_eq_true rfl) ⟨Nat.le_of_ble_eq_true rfl, Nat.le_of_ble_eq_true rfl⟩ d_Mo_act_128 (fun locs hS => ?_)
                  refine lv_if_ne (tgt := 153) hx hb d_Mo_act_131 (by decide) (fun c_27 => ?_) (fun c_27 => ?_)
                  · refine lv_iconst (v := 1) hx hb d_Mo_act_153 (by decide) ?_
                    refine lv_goto (tgt := 158) hx hb d_Mo_act_154 (by decide) ?_
                    refine mw_zast hx hb hK hP hD hS hM (j := 17) rfl (vp_in_nI (show i < 15 by omega) (by decide)) rfl d_Mo_act_158 (fun f H locs hM hP hD hS => ?_)
                    rw [show (nI i).toNatClampNeg = i from nI_clamp (by omega)] at hM
                    refine lv_iinc (v := nI (i + 1)) (lv' := [(1, .int (nI (i + 1))), (0, .ref (AM 100))]) hx hb d_Mo_act_159 hl (k := 0) rfl (nI_1 i) (by decide) rfl (fun ls hl => ?_)
                    refine lv_goto (tgt := 93) hx hb d_Mo_act_162 (by decide) ?_
                    have hN : MW ct AM L (sxAct2 (fun _ => 0) i X2 Y2) (syAct2 (fun _ => 0) i X2 Y2) f := by
                      (try simp only [sxAct2, syAct2, if_neg cg, if_pos c_24, if_neg c_27])
                      exact hM
                    exact ih1 (i + 1) _ _ _ _ _ _ (by omega) hN (by intro a b e8 e9 e17; rw [← hX1 a b e8 e9 e17]; simp only [sxAct2, syAct2, if_neg cg, if_pos c_24, if_neg c_27]; simp [up2, *]) hP hD hS (lv_sub hl [0, 1] rfl) hfin1
                  · refine lv_aload_n hx hb d_Mo_act_134 rfl (lv_at hl 1 rfl) ?_
                    refine lv_aload_n hx hb d_Mo_act_135 rfl (lv_at hl 1 rfl) ?_
                    refine pg_get (C := "SmokeZonesModel") (T := T_Mo) (N := 47) hx hb hG in_Mo hown hK hP hM.1.1 hM.1.2 rfl 12 (by decide) (hG _ k633) (fun _ h9 => h9) rfl d_Mo_act_136 ?_
                    refine lv_iload_n hx hb d_Mo_act_139 rfl (lv_at hl 0 rfl) ?_
                    refine mw_iald hx hb hK hP hM (j := 12) rfl (vp_in_nI (show i < 15 by omega) (by decide)) d_Mo_act_140 ?_
                    refine lv_topi (fun y_28 ey_28 => ?_)
                    obtain rfl : y_28 = X2 12 i := ey_28.trans (by simp [up2, hcl_i, z2, z10, z21, z27, z31, z35])
                    refine lv_aload_n hx hb d_Mo_act_141 rfl (lv_at hl 1 rfl) ?_
                    refine pg_get (C := "SmokeZonesModel") (T := T_Mo) (N := 47) hx hb hG in_Mo hown hK hP hM.1.1 hM.1.2 rfl 16 (by decide) (hG _ k637) (fun _ h9 => h9) rfl d_Mo_act_142 ?_
                    refine lv_iload_n hx hb d_Mo_act_145 rfl (lv_at hl 0 rfl) ?_
                    refine mw_iald hx hb hK hP hM (j := 16) rfl (vp_in_nI (show i < 15 by omega) (by decide)) d_Mo_act_146 ?_
                    refine lv_topi (fun y_29 ey_29 => ?_)
                    obtain rfl : y_29 = X2 16 i := ey_29.trans (by simp [up2, hcl_i, z2, z10, z21, z27, z31, z35])
                    refine kV_ri ⟨hx, hb, hml, hown, hG⟩ (c_Mo_isHot_e hM (r := g) (by omega) eg) (cwV 2 hG (gV k852 k854 ks_Mo_isHot k2 k855) rfl rfl rfl hd_Mo_isHot ⟨Nat.le_of_ble_eq_true rfl, Nat.le_of_ble_eq_true rfl⟩) hK hP hS hM.1.1 hM.1.2 rfl rfl hl.1 rfl (Nat.le_of_ble_eq_true rfl) ⟨Nat.le_of_ble_eq_true rfl, Nat.le_of_ble_eq_true rfl⟩ d_Mo_act_147 (fun locs hS => ?_)
                    refine lv_if_eq (tgt := 157) hx hb d_Mo_act_150 (by decide) (fun c_30 => ?_) (fun c_30 => ?_)
                    · refine lv_iconst (v := 0) hx hb d_Mo_act_157 (by decide) ?_
                      refine mw_zast hx hb hK hP hD hS hM (j := 17) rfl (vp_in_nI (show i < 15 by omega) (by decide)) rfl d_Mo_act_158 (fun f H locs hM hP hD hS => ?_)
                      rw [show (nI i).toNatClampNeg = i from nI_clamp (by omega)] at hM
                      refine lv_iinc (v := nI (i + 1)) (lv' := [(1, .int (nI (i + 1))), (0, .ref (AM 100))]) hx hb d_Mo_act_159 hl (k := 0) rfl (nI_1 i) (by decide) rfl (fun ls hl => ?_)
                      refine lv_goto (tgt := 93) hx hb d_Mo_act_162 (by decide) ?_
                      have hN : MW ct AM L (sxAct2 (fun _ => 0) i X2 Y2) (syAct2 (fun _ => 0) i X2 Y2) f := by
                        (try simp only [sxAct2, syAct2, if_neg cg, if_pos c_24, if_pos c_27, if_pos c_30])
                        exact hM
                      exact ih1 (i + 1) _ _ _ _ _ _ (by omega) hN (by intro a b e8 e9 e17; rw [← hX1 a b e8 e9 e17]; simp only [sxAct2, syAct2, if_neg cg, if_pos c_24, if_pos c_27, if_pos c_30]; simp [up2, *]) hP hD hS (lv_sub hl [0, 1] rfl) hfin1
                    · refine lv_iconst (v := 1) hx hb d_Mo_act_153 (by decide) ?_
                      refine lv_goto (tgt := 158) hx hb d_Mo_act_154 (by decide) ?_
                      refine mw_zast hx hb hK hP hD hS hM (j := 17) rfl (vp_in_nI (show i < 15 by omega) (by decide)) rfl d_Mo_act_158 (fun f H locs hM hP hD hS => ?_)
                      rw [show (nI i).toNatClampNeg = i from nI_clamp (by omega)] at hM
                      refine lv_iinc (v := nI (i + 1)) (lv' := [(1, .int (nI (i + 1))), (0, .ref (AM 100))]) hx hb d_Mo_act_159 hl (k := 0) rfl (nI_1 i) (by decide) rfl (fun ls hl => ?_)
                      refine lv_goto (tgt := 93) hx hb d_Mo_act_162 (by decide) ?_
                      have hN : MW ct AM L (sxAct2 (fun _ => 0) i X2 Y2) (syAct2 (fun _ => 0) i X2 Y2) f := by
                        (try simp only [sxAct2, syAct2, if_neg cg, if_pos c_24, if_pos c_27, if_neg c_30])
                        exact hM
                      exact ih1 (i + 1) _ _ _ _ _ _ (by omega) hN (by intro a b e8 e9 e17; rw [← hX1 a b e8 e9 e17]; simp only [sxAct2, syAct2, if_neg cg, if_pos c_24, if_pos c_27, if_neg c_30]; simp [up2, *]) hP hD hS (lv_sub hl [0, 1] rfl) hfin1
        exact lp1 (n 1) 0 X1 Y1 f _ _ _ (by omega) hM (fun a b e8 e9 _ => hX0 a b e8 e9) hP hD hS (lv_sub hl [0, 1] rfl) rfl
      · exact (ge_yes (by omega) (by omega) c_2).elim
    | succ k ih0 =>
      intro i X1 Y1 f H locs ls hik0 hM hX0 hP hD hS hl hfin0
      have hle_i : i ≤ n 0 := by omega
      have hcl_i : (nI i).toNatClampNeg = i := nI_clamp (by omega)
      have z2 : X1 2 0 = nI (n 0) := by rw [hX0 2 0 (by decide) (by decide)]; exact h2
      have z10 : X1 10 0 = nI (n 1) := by rw [hX0 10 0 (by decide) (by decide)]; exact h10
      have z21 : X1 21 0 = nI (n 2) := by rw [hX0 21 0 (by decide) (by decide)]; exact h21
      have z27 : X1 27 0 = nI (n 3) := by rw [hX0 27 0 (by decide) (by decide)]; exact h27
      have z31 : X1 31 0 = nI (n 4) := by rw [hX0 31 0 (by decide) (by decide)]; exact h31
      have z35 : X1 35 0 = nI (n 5) := by rw [hX0 35 0 (by decide) (by decide)]; exact h35
      have hi : i < n 0 := by omega
      refine lv_iload_n hx hb d_Mo_act_2 rfl (lv_at hl 0 rfl) ?_
      refine lv_aload_n hx hb d_Mo_act_3 rfl (lv_at hl 1 rfl) ?_
      refine pg_get (C := "SmokeZonesModel") (T := T_Mo) (N := 47) hx hb hG in_Mo hown hK hP hM.1.1 hM.1.2 rfl 2 (by decide) (hG _ k623) (fun _ h9 => h9) rfl d_Mo_act_4 ?_
      refine lv_topi (fun y_31 ey_31 => ?_)
      obtain rfl : y_31 = nI (n 0) := ey_31.trans (by simp [up2, hcl_i, z2, z10, z21, z27, z31, z35])
      refine lv_icmp_ge (tgt := 91) hx hb d_Mo_act_7 (by decide) (fun c_32 => ?_) (fun c_32 => ?_)
      · exact (ge_no hi (by omega) c_32).elim
      · have ha_i : ¬ Int32.toInt64 (X1 3 i) = 0 := by rw [hX0 3 i (by decide) (by decide)]; exact ha i hi
        refine lv_aload_n hx hb d_Mo_act_10 rfl (lv_at hl 1 rfl) ?_
        refine pg_get (C := "SmokeZonesModel") (T := T_Mo) (N := 47) hx hb hG in_Mo hown hK hP hM.1.1 hM.1.2 rfl 8 (by decide) (hG _ k629) (fun _ h9 => h9) rfl d_Mo_act_11 ?_
        refine lv_iload_n hx hb d_Mo_act_14 rfl (lv_at hl 0 rfl) ?_
        refine lv_aload_n hx hb d_Mo_act_15 rfl (lv_at hl 1 rfl) ?_
        refine pg_get (C := "SmokeZonesModel") (T := T_Mo) (N := 47) hx hb hG in_Mo hown hK hP hM.1.1 hM.1.2 rfl 8 (by decide) (hG _ k629) (fun _ h9 => h9) rfl d_Mo_act_16 ?_
        refine lv_iload_n hx hb d_Mo_act_19 rfl (lv_at hl 0 rfl) ?_
        refine mw_zald hx hb hK hP hM (j := 8) rfl (vp_in_nI (show i < 10 by omega) (by decide)) d_Mo_act_20 ?_
        refine lv_topi (fun y_33 ey_33 => ?_)
        obtain rfl : y_33 = X1 8 i := ey_33.trans (by simp [up2, hcl_i, z2, z10, z21, z27, z31, z35])
        refine lv_if_ne (tgt := 38) hx hb d_Mo_act_21 (by decide) (fun c_34 => ?_) (fun c_34 => ?_)
        · refine lv_iconst (v := 1) hx hb d_Mo_act_38 (by decide) ?_
          refine lv_goto (tgt := 43) hx hb d_Mo_act_39 (by decide) ?_
          refine mw_zast hx hb hK hP hD hS hM (j := 8) rfl (vp_in_nI (show i < 10 by omega) (by decide)) rfl d_Mo_act_43 (fun f H locs hM hP hD hS => ?_)
          rw [show (nI i).toNatClampNeg = i from nI_clamp (by omega)] at hM
          refine lv_aload_n hx hb d_Mo_act_44 rfl (lv_at hl 1 rfl) ?_
          refine pg_get (C := "SmokeZonesModel") (T := T_Mo) (N := 47) hx hb hG in_Mo hown hK hP hM.1.1 hM.1.2 rfl 9 (by decide) (hG _ k630) (fun _ h9 => h9) rfl d_Mo_act_45 ?_
          refine lv_iload_n hx hb d_Mo_act_48 rfl (lv_at hl 0 rfl) ?_
          refine lv_aload_n hx hb d_Mo_act_49 rfl (lv_at hl 1 rfl) ?_
          refine pg_get (C := "SmokeZonesModel") (T := T_Mo) (N := 47) hx hb hG in_Mo hown hK hP hM.1.1 hM.1.2 rfl 9 (by decide) (hG _ k630) (fun _ h9 => h9) rfl d_Mo_act_50 ?_
          refine lv_iload_n hx hb d_Mo_act_53 rfl (lv_at hl 0 rfl) ?_
          refine mw_iald hx hb hK hP hM (j := 9) rfl (vp_in_nI (show i < 10 by omega) (by decide)) d_Mo_act_54 ?_
          refine lv_topi (fun y_35 ey_35 => ?_)
          obtain rfl : y_35 = X1 9 i := ey_35.trans (by simp [up2, hcl_i, z2, z10, z21, z27, z31, z35])
          refine lv_iconst (v := (-1)) hx hb d_Mo_act_55 (by decide) ?_
          refine lv_icmp_ne (tgt := 78) hx hb d_Mo_act_56 (by decide) (fun c_36 => ?_) (fun c_36 => ?_)
          · refine lv_aload_n hx hb d_Mo_act_78 rfl (lv_at hl 1 rfl) ?_
            refine pg_get (C := "SmokeZonesModel") (T := T_Mo) (N := 47) hx hb hG in_Mo hown hK hP hM.1.1 hM.1.2 rfl 9 (by decide) (hG _ k630) (fun _ h9 => h9) rfl d_Mo_act_79 ?_
            refine lv_iload_n hx hb d_Mo_act_82 rfl (lv_at hl 0 rfl) ?_
            refine mw_iald hx hb hK hP hM (j := 9) rfl (vp_in_nI (show i < 10 by omega) (by decide)) d_Mo_act_83 ?_
            refine lv_topi (fun y_37 ey_37 => ?_)
            obtain rfl : y_37 = X1 9 i := ey_37.trans (by simp [up2, hcl_i, z2, z10, z21, z27, z31, z35])
            refine mw_iast hx hb hK hP hD hS hM (j := 9) rfl (vp_in_nI (show i < 10 by omega) (by decide)) d_Mo_act_84 (fun f H locs hM hP hD hS => ?_)
            rw [show (nI i).toNatClampNeg = i from nI_clamp (by omega)] at hM
            refine lv_iinc (v := nI (i + 1)) (lv' := [(1, .int (nI (i + 1))), (0, .ref (AM 100))]) hx hb d_Mo_act_85 hl (k := 0) rfl (nI_1 i) (by decide) rfl (fun ls hl => ?_)
            refine lv_goto (tgt := 2) hx hb d_Mo_act_88 (by decide) ?_
            have hN : MW ct AM L (sxAct1 (fun _ => 0) i X1 Y1) (syAct1 (fun _ => 0) i X1 Y1) f := by
              (try simp only [sxAct1, syAct1, if_neg c_34, if_neg c_36])
              exact hM
            exact ih0 (i + 1) _ _ _ _ _ _ (by omega) hN (by intro a b e8 e9; rw [← hX0 a b e8 e9]; simp only [sxAct1, syAct1, if_neg c_34, if_neg c_36]; simp [up2, *]) hP hD hS (lv_sub hl [0, 1] rfl) hfin0
          · refine lv_aload_n hx hb d_Mo_act_59 rfl (lv_at hl 1 rfl) ?_
            refine lv_iload_n hx hb d_Mo_act_60 rfl (lv_at hl 0 rfl) ?_
            refine kV_rl ⟨hx, hb, hml, hown, hG⟩ (c_Mo_clearTo hM (by omega) (by simpa [up2] using ha_i)) (cwV 1 hG (gV k834 k836 ks_Mo_clearTo k2 k837) rfl rfl rfl hd_Mo_clearTo ⟨Nat.le_of_ble_eq_true rfl, Nat.le_of_ble_eq_true rfl⟩) hK hP hS hM.1.1 hM.1.2 rfl rfl hl.1 rfl (Nat.le_of_ble_eq_true rfl) ⟨Nat.le_of_ble_eq_true rfl, Nat.le_of_ble_eq_true rfl⟩ d_Mo_act_61 (fun locs hS => ?_)
            refine lv_topl (fun y_38 ey_38 => ?_)
            obtain rfl : y_38 = mo_cl X1 Y1 i := ey_38.trans (by simp [up2, hcl_i, z2, z10, z21, z27, z31, z35, mo_cv, mo_fr, mo_cl, mo_wa, mo_hot, mo_ro])
            refine lv_ldc2 hx hb hown (hG _ k860) d_Mo_act_64 ?_
            refine lc_ge (tgt := 78) hx hb d_Mo_act_67 d_Mo_act_68 (by decide) (fun c_39 => ?_) (fun c_39 => ?_)
            · refine lv_aload_n hx hb d_Mo_act_78 rfl (lv_at hl 1 rfl) ?_
              refine pg_get (C := "SmokeZonesModel") (T := T_Mo) (N := 47) hx hb hG in_Mo hown hK hP hM.1.1 hM.1.2 rfl 9 (by decide) (hG _ k630) (fun _ h9 => h9) rfl d_Mo_act_79 ?_
              refine lv_iload_n hx hb d_Mo_act_82 rfl (lv_at hl 0 rfl) ?_
              refine mw_iald hx hb hK hP hM (j := 9) rfl (vp_in_nI (show i < 10 by omega) (by decide)) d_Mo_act_83 ?_
              refine lv_topi (fun y_40 ey_40 => ?_)
              obtain rfl : y_40 = X1 9 i := ey_40.trans (by simp [up2, hcl_i, z2, z10, z21, z27, z31, z35])
              refine mw_iast hx hb hK hP hD hS hM (j := 9) rfl (vp_in_nI (show i < 10 by omega) (by decide)) d_Mo_act_84 (fun f H locs hM hP hD hS => ?_)
              rw [show (nI i).toNatClampNeg = i from nI_clamp (by omega)] at hM
              refine lv_iinc (v := nI (i + 1)) (lv' := [(1, .int (nI (i + 1))), (0, .ref (AM 100))]) hx hb d_Mo_act_85 hl (k := 0) rfl (nI_1 i) (by decide) rfl (fun ls hl => ?_)
              refine lv_goto (tgt := 2) hx hb d_Mo_act_88 (by decide) ?_
              have hN : MW ct AM L (sxAct1 (fun _ => 0) i X1 Y1) (syAct1 (fun _ => 0) i X1 Y1) f := by
                (try simp only [sxAct1, syAct1, if_neg c_34, if_pos c_36, if_pos c_39])
                exact hM
              exact ih0 (i + 1) _ _ _ _ _ _ (by omega) hN (by intro a b e8 e9; rw [← hX0 a b e8 e9]; simp only [sxAct1, syAct1, if_neg c_34, if_pos c_36, if_pos c_39]; simp [up2, *]) hP hD hS (lv_sub hl [0, 1] rfl) hfin0
            · refine lv_aload_n hx hb d_Mo_act_71 rfl (lv_at hl 1 rfl) ?_
              refine pg_get (C := "SmokeZonesModel") (T := T_Mo) (N := 47) hx hb hG in_Mo hown hK hP hM.1.1 hM.1.2 rfl 1 (by decide) (hG _ k622) (fun _ h9 => h9) rfl d_Mo_act_72 ?_
              refine lv_topi (fun y_41 ey_41 => ?_)
              obtain rfl : y_41 = X1 1 0 := ey_41.trans (by simp [up2, hcl_i, z2, z10, z21, z27, z31, z35])
              refine lv_goto (tgt := 84) hx hb d_Mo_act_75 (by decide) ?_
              refine mw_iast hx hb hK hP hD hS hM (j := 9) rfl (vp_in_nI (show i < 10 by omega) (by decide)) d_Mo_act_84 (fun f H locs hM hP hD hS => ?_)
              rw [show (nI i).toNatClampNeg = i from nI_clamp (by omega)] at hM
              refine lv_iinc (v := nI (i + 1)) (lv' := [(1, .int (nI (i + 1))), (0, .ref (AM 100))]) hx hb d_Mo_act_85 hl (k := 0) rfl (nI_1 i) (by decide) rfl (fun ls hl => ?_)
              refine lv_goto (tgt := 2) hx hb d_Mo_act_88 (by decide) ?_
              have hN : MW ct AM L (sxAct1 (fun _ => 0) i X1 Y1) (syAct1 (fun _ => 0) i X1 Y1) f := by
                (try simp only [sxAct1, syAct1, if_neg c_34, if_pos c_36, if_neg c_39])
                exact hM
              exact ih0 (i + 1) _ _ _ _ _ _ (by omega) hN (by intro a b e8 e9; rw [← hX0 a b e8 e9]; simp only [sxAct1, syAct1, if_neg c_34, if_pos c_36, if_neg c_39]; simp [up2, *]) hP hD hS (lv_sub hl [0, 1] rfl) hfin0
        · refine lv_aload_n hx hb d_Mo_act_24 rfl (lv_at hl 1 rfl) ?_
          refine lv_iload_n hx hb d_Mo_act_25 rfl (lv_at hl 0 rfl) ?_
          refine lv_aload_n hx hb d_Mo_act_26 rfl (lv_at hl 1 rfl) ?_
          refine pg_get (C := "SmokeZonesModel") (T := T_Mo) (N := 47) hx hb hG in_Mo hown hK hP hM.1.1 hM.1.2 rfl 7 (by decide) (hG _ k628) (fun _ h9 => h9) rfl d_Mo_act_27 ?_
          refine lv_iload_n hx hb d_Mo_act_30 rfl (lv_at hl 0 rfl) ?_
          refine mw_iald hx hb hK hP hM (j := 7) rfl (vp_in_nI (show i < 10 by omega) (by decide)) d_Mo_act_31 ?_
          refine lv_topi (fun y_42 ey_42 => ?_)
          obtain rfl : y_42 = X1 7 i := ey_42.trans (by simp [up2, hcl_i, z2, z10, z21, z27, z31, z35])
          refine kV_ri ⟨hx, hb, hml, hown, hG⟩ (c_Mo_isHot_s hM (by omega)) (cwV 2 hG (gV k852 k854 ks_Mo_isHot k2 k855) rfl rfl rfl hd_Mo_isHot ⟨Nat.le_of_ble_eq_true rfl, Nat.le_of_ble_eq_true rfl⟩) hK hP hS hM.1.1 hM.1.2 rfl rfl hl.1 rfl (Nat.le_of_ble_eq_true rfl) ⟨Nat.le_of_ble_eq_true rfl, Nat.le_of_ble_eq_true rfl⟩ d_Mo_act_32 (fun locs hS => ?_)
          refine lv_if_eq (tgt := 42) hx hb d_Mo_act_35 (by decide) (fun c_43 => ?_) (fun c_43 => ?_)
          · refine lv_iconst (v := 0) hx hb d_Mo_act_42 (by decide) ?_
            refine mw_zast hx hb hK hP hD hS hM (j := 8) rfl (vp_in_nI (show i < 10 by omega) (by decide)) rfl d_Mo_act_43 (fun f H locs hM hP hD hS => ?_)
            rw [show (nI i).toNatClampNeg = i from nI_clamp (by omega)] at hM
            refine lv_aload_n hx hb d_Mo_act_44 rfl (lv_at hl 1 rfl) ?_
            refine pg_get (C := "SmokeZonesModel") (T := T_Mo) (N := 47) hx hb hG in_Mo hown hK hP hM.1.1 hM.1.2 rfl 9 (by decide) (hG _ k630) (fun _ h9 => h9) rfl d_Mo_act_45 ?_
            refine lv_iload_n hx hb d_Mo_act_48 rfl (lv_at hl 0 rfl) ?_
            refine lv_aload_n hx hb d_Mo_act_49 rfl (lv_at hl 1 rfl) ?_
            refine pg_get (C := "SmokeZonesModel") (T := T_Mo) (N := 47) hx hb hG in_Mo hown hK hP hM.1.1 hM.1.2 rfl 9 (by decide) (hG _ k630) (fun _ h9 => h9) rfl d_Mo_act_50 ?_
            refine lv_iload_n hx hb d_Mo_act_53 rfl (lv_at hl 0 rfl) ?_
            refine mw_iald hx hb hK hP hM (j := 9) rfl (vp_in_nI (show i < 10 by omega) (by decide)) d_Mo_act_54 ?_
            refine lv_topi (fun y_44 ey_44 => ?_)
            obtain rfl : y_44 = X1 9 i := ey_44.trans (by simp [up2, hcl_i, z2, z10, z21, z27, z31, z35])
            refine lv_iconst (v := (-1)) hx hb d_Mo_act_55 (by decide) ?_
            refine lv_icmp_ne (tgt := 78) hx hb d_Mo_act_56 (by decide) (fun c_45 => ?_) (fun c_45 => ?_)
            · refine lv_aload_n hx hb d_Mo_act_78 rfl (lv_at hl 1 rfl) ?_
              refine pg_get (C := "SmokeZonesModel") (T := T_Mo) (N := 47) hx hb hG in_Mo hown hK hP hM.1.1 hM.1.2 rfl 9 (by decide) (hG _ k630) (fun _ h9 => h9) rfl d_Mo_act_79 ?_
              refine lv_iload_n hx hb d_Mo_act_82 rfl (lv_at hl 0 rfl) ?_
              refine mw_iald hx hb hK hP hM (j := 9) rfl (vp_in_nI (show i < 10 by omega) (by decide)) d_Mo_act_83 ?_
              refine lv_topi (fun y_46 ey_46 => ?_)
              obtain rfl : y_46 = X1 9 i := ey_46.trans (by simp [up2, hcl_i, z2, z10, z21, z27, z31, z35])
              refine mw_iast hx hb hK hP hD hS hM (j := 9) rfl (vp_in_nI (show i < 10 by omega) (by decide)) d_Mo_act_84 (fun f H locs hM hP hD hS => ?_)
              rw [show (nI i).toNatClampNeg = i from nI_clamp (by omega)] at hM
              refine lv_iinc (v := nI (i + 1)) (lv' := [(1, .int (nI (i + 1))), (0, .ref (AM 100))]) hx hb d_Mo_act_85 hl (k := 0) rfl (nI_1 i) (by decide) rfl (fun ls hl => ?_)
              refine lv_goto (tgt := 2) hx hb d_Mo_act_88 (by decide) ?_
              have hN : MW ct AM L (sxAct1 (fun _ => 0) i X1 Y1) (syAct1 (fun _ => 0) i X1 Y1) f := by
                (try simp only [sxAct1, syAct1, if_pos c_34, if_pos c_43, if_neg c_45])
                exact hM
              exact ih0 (i + 1) _ _ _ _ _ _ (by omega) hN (by intro a b e8 e9; rw [← hX0 a b e8 e9]; simp only [sxAct1, syAct1, if_pos c_34, if_pos c_43, if_neg c_45]; simp [up2, *]) hP hD hS (lv_sub hl [0, 1] rfl) hfin0
            · refine lv_aload_n hx hb d_Mo_act_59 rfl (lv_at hl 1 rfl) ?_
              refine lv_iload_n hx hb d_Mo_act_60 rfl (lv_at hl 0 rfl) ?_
              refine kV_rl ⟨hx, hb, hml, hown, hG⟩ (c_Mo_clearTo hM (by omega) (by simpa [up2] using ha_i)) (cwV 1 hG (gV k834 k836 ks_Mo_clearTo k2 k837) rfl rfl rfl hd_Mo_clearTo ⟨Nat.le_of_ble_eq_true rfl, Nat.le_of_ble_eq_true rfl⟩) hK hP hS hM.1.1 hM.1.2 rfl rfl hl.1 rfl (Nat.le_of_ble_eq_true rfl) ⟨Nat.le_of_ble_eq_true rfl, Nat.le_of_ble_eq_true rfl⟩ d_Mo_act_61 (fun locs hS => ?_)
              refine lv_topl (fun y_47 ey_47 => ?_)
              obtain rfl : y_47 = mo_cl X1 Y1 i := ey_47.trans (by simp [up2, hcl_i, z2, z10, z21, z27, z31, z35, mo_cv, mo_fr, mo_cl, mo_wa, mo_hot, mo_ro])
              refine lv_ldc2 hx hb hown (hG _ k860) d_Mo_act_64 ?_
              refine lc_ge (tgt := 78) hx hb d_Mo_act_67 d_Mo_act_68 (by decide) (fun c_48 => ?_) (fun c_48 => ?_)
              · refine lv_aload_n hx hb d_Mo_act_78 rfl (lv_at hl 1 rfl) ?_
                refine pg_get (C := "SmokeZonesModel") (T := T_Mo) (N := 47) hx hb hG in_Mo hown hK hP hM.1.1 hM.1.2 rfl 9 (by decide) (hG _ k630) (fun _ h9 => h9) rfl d_Mo_act_79 ?_
                refine lv_iload_n hx hb d_Mo_act_82 rfl (lv_at hl 0 rfl) ?_
                refine mw_iald hx hb hK hP hM (j := 9) rfl (vp_in_nI (show i < 10 by omega) (by decide)) d_Mo_act_83 ?_
                refine lv_topi (fun y_49 ey_49 => ?_)
                obtain rfl : y_49 = X1 9 i := ey_49.trans (by simp [up2, hcl_i, z2, z10, z21, z27, z31, z35])
                refine mw_iast hx hb hK hP hD hS hM (j := 9) rfl (vp_in_nI (show i < 10 by omega) (by decide)) d_Mo_act_84 (fun f H locs hM hP hD hS => ?_)
                rw [show (nI i).toNatClampNeg = i from nI_clamp (by omega)] at hM
                refine lv_iinc (v := nI (i + 1)) (lv' := [(1, .int (nI (i + 1))), (0, .ref (AM 100))]) hx hb d_Mo_act_85 hl (k := 0) rfl (nI_1 i) (by decide) rfl (fun ls hl => ?_)
                refine lv_goto (tgt := 2) hx hb d_Mo_act_88 (by decide) ?_
                have hN : MW ct AM L (sxAct1 (fun _ => 0) i X1 Y1) (syAct1 (fun _ => 0) i X1 Y1) f := by
                  (try simp only [sxAct1, syAct1, if_pos c_34, if_pos c_43, if_pos c_45, if_pos c_48])
                  exact hM
                exact ih0 (i + 1) _ _ _ _ _ _ (by omega) hN (by intro a b e8 e9; rw [← hX0 a b e8 e9]; simp only [sxAct1, syAct1, if_pos c_34, if_pos c_43, if_pos c_45, if_pos c_48]; simp [up2, *]) hP hD hS (lv_sub hl [0, 1] rfl) hfin0
              · refine lv_aload_n hx hb d_Mo_act_71 rfl (lv_at hl 1 rfl) ?_
                refine pg_get (C := "SmokeZonesModel") (T := T_Mo) (N := 47) hx hb hG in_Mo hown hK hP hM.1.1 hM.1.2 rfl 1 (by decide) (hG _ k622) (fun _ h9 => h9) rfl d_Mo_act_72 ?_
                refine lv_topi (fun y_50 ey_50 => ?_)
                obtain rfl : y_50 = X1 1 0 := ey_50.trans (by simp [up2, hcl_i, z2, z10, z21, z27, z31, z35])
                refine lv_goto (tgt := 84) hx hb d_Mo_act_75 (by decide) ?_
                refine mw_iast hx hb hK hP hD hS hM (j := 9) rfl (vp_in_nI (show i < 10 by omega) (by decide)) d_Mo_act_84 (fun f H locs hM hP hD hS => ?_)
                rw [show (nI i).toNatClampNeg = i from nI_clamp (by omega)] at hM
                refine lv_iinc (v := nI (i + 1)) (lv' := [(1, .int (nI (i + 1))), (0, .ref (AM 100))]) hx hb d_Mo_act_85 hl (k := 0) rfl (nI_1 i) (by decide) rfl (fun ls hl => ?_)
                refine lv_goto (tgt := 2) hx hb d_Mo_act_88 (by decide) ?_
                have hN : MW ct AM L (sxAct1 (fun _ => 0) i X1 Y1) (syAct1 (fun _ => 0) i X1 Y1) f := by
                  (try simp only [sxAct1, syAct1, if_pos c_34, if_pos c_43, if_pos c_45, if_neg c_48])
                  exact hM
                exact ih0 (i + 1) _ _ _ _ _ _ (by omega) hN (by intro a b e8 e9; rw [← hX0 a b e8 e9]; simp only [sxAct1, syAct1, if_pos c_34, if_pos c_43, if_pos c_45, if_neg c_48]; simp [up2, *]) hP hD hS (lv_sub hl [0, 1] rfl) hfin0
          · refine lv_iconst (v := 1) hx hb d_Mo_act_38 (by decide) ?_
            refine lv_goto (tgt := 43) hx hb d_Mo_act_39 (by decide) ?_
            refine mw_zast hx hb hK hP hD hS hM (j := 8) rfl (vp_in_nI (show i < 10 by omega) (by decide)) rfl d_Mo_act_43 (fun f H locs hM hP hD hS => ?_)
            rw [show (nI i).toNatClampNeg = i from nI_clamp (by omega)] at hM
            refine lv_aload_n hx hb d_Mo_act_44 rfl (lv_at hl 1 rfl) ?_
            refine pg_get (C := "SmokeZonesModel") (T := T_Mo) (N := 47) hx hb hG in_Mo hown hK hP hM.1.1 hM.1.2 rfl 9 (by decide) (hG _ k630) (fun _ h9 => h9) rfl d_Mo_act_45 ?_
            refine lv_iload_n hx hb d_Mo_act_48 rfl (lv_at hl 0 rfl) ?_
            refine lv_aload_n hx hb d_Mo_act_49 rfl (lv_at hl 1 rfl) ?_
            refine pg_get (C := "SmokeZonesModel") (T := T_Mo) (N := 47) hx hb hG in_Mo hown hK hP hM.1.1 hM.1.2 rfl 9 (by decide) (hG _ k630) (fun _ h9 => h9) rfl d_Mo_act_50 ?_
            refine lv_iload_n hx hb d_Mo_act_53 rfl (lv_at hl 0 rfl) ?_
            refine mw_iald hx hb hK hP hM (j := 9) rfl (vp_in_nI (show i < 10 by omega) (by decide)) d_Mo_act_54 ?_
            refine lv_topi (fun y_51 ey_51 => ?_)
            obtain rfl : y_51 = X1 9 i := ey_51.trans (by simp [up2, hcl_i, z2, z10, z21, z27, z31, z35])
            refine lv_iconst (v := (-1)) hx hb d_Mo_act_55 (by decide) ?_
            refine lv_icmp_ne (tgt := 78) hx hb d_Mo_act_56 (by decide) (fun c_52 => ?_) (fun c_52 => ?_)
            · refine lv_aload_n hx hb d_Mo_act_78 rfl (lv_at hl 1 rfl) ?_
              refine pg_get (C := "SmokeZonesModel") (T := T_Mo) (N := 47) hx hb hG in_Mo hown hK hP hM.1.1 hM.1.2 rfl 9 (by decide) (hG _ k630) (fun _ h9 => h9) rfl d_Mo_act_79 ?_
              refine lv_iload_n hx hb d_Mo_act_82 rfl (lv_at hl 0 rfl) ?_
              refine mw_iald hx hb hK hP hM (j := 9) rfl (vp_in_nI (show i < 10 by omega) (by decide)) d_Mo_act_83 ?_
              refine lv_topi (fun y_53 ey_53 => ?_)
              obtain rfl : y_53 = X1 9 i := ey_53.trans (by simp [up2, hcl_i, z2, z10, z21, z27, z31, z35])
              refine mw_iast hx hb hK hP hD hS hM (j := 9) rfl (vp_in_nI (show i < 10 by omega) (by decide)) d_Mo_act_84 (fun f H locs hM hP hD hS => ?_)
              rw [show (nI i).toNatClampNeg = i from nI_clamp (by omega)] at hM
              refine lv_iinc (v := nI (i + 1)) (lv' := [(1, .int (nI (i + 1))), (0, .ref (AM 100))]) hx hb d_Mo_act_85 hl (k := 0) rfl (nI_1 i) (by decide) rfl (fun ls hl => ?_)
              refine lv_goto (tgt := 2) hx hb d_Mo_act_88 (by decide) ?_
              have hN : MW ct AM L (sxAct1 (fun _ => 0) i X1 Y1) (syAct1 (fun _ => 0) i X1 Y1) f := by
                (try simp only [sxAct1, syAct1, if_pos c_34, if_neg c_43, if_neg c_52])
                exact hM
              exact ih0 (i + 1) _ _ _ _ _ _ (by omega) hN (by intro a b e8 e9; rw [← hX0 a b e8 e9]; simp only [sxAct1, syAct1, if_pos c_34, if_neg c_43, if_neg c_52]; simp [up2, *]) hP hD hS (lv_sub hl [0, 1] rfl) hfin0
            · refine lv_aload_n hx hb d_Mo_act_59 rfl (lv_at hl 1 rfl) ?_
              refine lv_iload_n hx hb d_Mo_act_60 rfl (lv_at hl 0 rfl) ?_
              refine kV_rl ⟨hx, hb, hml, hown, hG⟩ (c_Mo_clearTo hM (by omega) (by simpa [up2] using ha_i)) (cwV 1 hG (gV k834 k836 ks_Mo_clearTo k2 k837) rfl rfl rfl hd_Mo_clearTo ⟨Nat.le_of_ble_eq_true rfl, Nat.le_of_ble_eq_true rfl⟩) hK hP hS hM.1.1 hM.1.2 rfl rfl hl.1 rfl (Nat.le_of_ble_eq_true rfl) ⟨Nat.le_of_ble_eq_true rfl, Nat.le_of_ble_eq_true rfl⟩ d_Mo_act_61 (fun locs hS => ?_)
              refine lv_topl (fun y_54 ey_54 => ?_)
              obtain rfl : y_54 = mo_cl X1 Y1 i := ey_54.trans (by simp [up2, hcl_i, z2, z10, z21, z27, z31, z35, mo_cv, mo_fr, mo_cl, mo_wa, mo_hot, mo_ro])
              refine lv_ldc2 hx hb hown (hG _ k860) d_Mo_act_64 ?_
              refine lc_ge (tgt := 78) hx hb d_Mo_act_67 d_Mo_act_68 (by decide) (fun c_55 => ?_) (fun c_55 => ?_)
              · refine lv_aload_n hx hb d_Mo_act_78 rfl (lv_at hl 1 rfl) ?_
                refine pg_get (C := "SmokeZonesModel") (T := T_Mo) (N := 47) hx hb hG in_Mo hown hK hP hM.1.1 hM.1.2 rfl 9 (by decide) (hG _ k630) (fun _ h9 => h9) rfl d_Mo_act_79 ?_
                refine lv_iload_n hx hb d_Mo_act_82 rfl (lv_at hl 0 rfl) ?_
                refine mw_iald hx hb hK hP hM (j := 9) rfl (vp_in_nI (show i < 10 by omega) (by decide)) d_Mo_act_83 ?_
                refine lv_topi (fun y_56 ey_56 => ?_)
                obtain rfl : y_56 = X1 9 i := ey_56.trans (by simp [up2, hcl_i, z2, z10, z21, z27, z31, z35])
                refine mw_iast hx hb hK hP hD hS hM (j := 9) rfl (vp_in_nI (show i < 10 by omega) (by decide)) d_Mo_act_84 (fun f H locs hM hP hD hS => ?_)
                rw [show (nI i).toNatClampNeg = i from nI_clamp (by omega)] at hM
                refine lv_iinc (v := nI (i + 1)) (lv' := [(1, .int (nI (i + 1))), (0, .ref (AM 100))]) hx hb d_Mo_act_85 hl (k := 0) rfl (nI_1 i) (by decide) rfl (fun ls hl => ?_)
                refine lv_goto (tgt := 2) hx hb d_Mo_act_88 (by decide) ?_
                have hN : MW ct AM L (sxAct1 (fun _ => 0) i X1 Y1) (syAct1 (fun _ => 0) i X1 Y1) f := by
                  (try simp only [sxAct1, syAct1, if_pos c_34, if_neg c_43, if_pos c_52, if_pos c_55])
                  exact hM
                exact ih0 (i + 1) _ _ _ _ _ _ (by omega) hN (by intro a b e8 e9; rw [← hX0 a b e8 e9]; simp only [sxAct1, syAct1, if_pos c_34, if_neg c_43, if_pos c_52, if_pos c_55]; simp [up2, *]) hP hD hS (lv_sub hl [0, 1] rfl) hfin0
              · refine lv_aload_n hx hb d_Mo_act_71 rfl (lv_at hl 1 rfl) ?_
                refine pg_get (C := "SmokeZonesModel") (T := T_Mo) (N := 47) hx hb hG in_Mo hown hK hP hM.1.1 hM.1.2 rfl 1 (by decide) (hG _ k622) (fun _ h9 => h9) rfl d_Mo_act_72 ?_
                refine lv_topi (fun y_57 ey_57 => ?_)
                obtain rfl : y_57 = X1 1 0 := ey_57.trans (by simp [up2, hcl_i, z2, z10, z21, z27, z31, z35])
                refine lv_goto (tgt := 84) hx hb d_Mo_act_75 (by decide) ?_
                refine mw_iast hx hb hK hP hD hS hM (j := 9) rfl (vp_in_nI (show i < 10 by omega) (by decide)) d_Mo_act_84 (fun f H locs hM hP hD hS => ?_)
                rw [show (nI i).toNatClampNeg = i from nI_clamp (by omega)] at hM
                refine lv_iinc (v := nI (i + 1)) (lv' := [(1, .int (nI (i + 1))), (0, .ref (AM 100))]) hx hb d_Mo_act_85 hl (k := 0) rfl (nI_1 i) (by decide) rfl (fun ls hl => ?_)
                refine lv_goto (tgt := 2) hx hb d_Mo_act_88 (by decide) ?_
                have hN : MW ct AM L (sxAct1 (fun _ => 0) i X1 Y1) (syAct1 (fun _ => 0) i X1 Y1) f := by
                  (try simp only [sxAct1, syAct1, if_pos c_34, if_neg c_43, if_pos c_52, if_neg c_55])
                  exact hM
                exact ih0 (i + 1) _ _ _ _ _ _ (by omega) hN (by intro a b e8 e9; rw [← hX0 a b e8 e9]; simp only [sxAct1, syAct1, if_pos c_34, if_neg c_43, if_pos c_52, if_neg c_55]; simp [up2, *]) hP hD hS (lv_sub hl [0, 1] rfl) hfin0
  exact lp0 (n 0) 0 X Y f _ _ _ (by omega) hM (fun _ _ _ _ => rfl) hP hD hS (lv_sub hl [0, 1] rfl) rfl
