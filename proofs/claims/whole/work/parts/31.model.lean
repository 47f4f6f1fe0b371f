theorem gx_eq {i d : Nat} {x : Int32} (h : x = nI d) : (20 : Int32) * nI i + x = nI (20 * i + d) := by
  rw [h, show (20 : Int32) = nI 20 from rfl, pk_mul, nI_add]
theorem gx_cl {i d : Nat} {x : Int32} (h : x = nI d) (hi : i < 9) (hd : d < 100) : ((20 : Int32) * nI i + x).toNatClampNeg = 20 * i + d := by
  rw [gx_eq h]
  exact nI_clamp (by omega)
theorem gx_in {i d : Nat} {x : Int32} (h : x = nI d) (hi : i < 9) (hd : d < 20) : vp_in ((20 : Int32) * nI i + x) 180 := by
  rw [gx_eq h]
  exact vp_in_nI (by omega) (by decide)
theorem lt_of_nle {c d : Nat} {x y : Int32} (hx : x = nI c) (hy : y = nI d) (hd : d ≤ 1000) (h : ¬ x ≤ y) : d < c := by
  rcases Nat.lt_or_ge d c with q | q
  · exact q
  · exact absurd (by rw [hx, hy]; exact nI_le q (by omega)) h

def sxBrea (n : Nat → Nat) (i : Nat) (X : I2) (Y : J2) : I2 := (if (X 39 i) ≤ (X 40 i) then (if (X 36 i) = (-1) then X else (if 18 ≤ (mo_cl X Y (Int32.toNatClampNeg (X 36 i))) then X else up2 X 38 i ((X 38 i) + 1))) else (if (X 41 (Int32.toNatClampNeg ((20 * (nI i)) + (X 40 i)))) = (X 1 0) then (if (X 42 (Int32.toNatClampNeg ((20 * (nI i)) + (X 40 i)))) = (-1) then up2 (up2 X 36 i (X 42 (Int32.toNatClampNeg ((20 * (nI i)) + (X 40 i))))) 40 i ((X 40 i) + 1) else (if 18 ≤ (mo_cl X Y (Int32.toNatClampNeg (X 42 (Int32.toNatClampNeg ((20 * (nI i)) + (X 40 i)))))) then up2 (up2 X 36 i (X 42 (Int32.toNatClampNeg ((20 * (nI i)) + (X 40 i))))) 40 i ((X 40 i) + 1) else up2 (up2 (up2 X 36 i (X 42 (Int32.toNatClampNeg ((20 * (nI i)) + (X 40 i))))) 40 i ((X 40 i) + 1)) 38 i ((X 38 i) + 1))) else (if (X 36 i) = (-1) then X else (if 18 ≤ (mo_cl X Y (Int32.toNatClampNeg (X 36 i))) then X else up2 X 38 i ((X 38 i) + 1)))))
def syBrea (n : Nat → Nat) (i : Nat) (X : I2) (Y : J2) : J2 := (if (X 39 i) ≤ (X 40 i) then (if (X 36 i) = (-1) then Y else (if 18 ≤ (mo_cl X Y (Int32.toNatClampNeg (X 36 i))) then Y else up2 Y 37 i ((Y 37 i) + ((mo_wa Y (Int32.toNatClampNeg (X 36 i))) + 1)))) else (if (X 41 (Int32.toNatClampNeg ((20 * (nI i)) + (X 40 i)))) = (X 1 0) then (if (X 42 (Int32.toNatClampNeg ((20 * (nI i)) + (X 40 i)))) = (-1) then Y else (if 18 ≤ (mo_cl X Y (Int32.toNatClampNeg (X 42 (Int32.toNatClampNeg ((20 * (nI i)) + (X 40 i)))))) then Y else up2 Y 37 i ((Y 37 i) + ((mo_wa Y (Int32.toNatClampNeg (X 42 (Int32.toNatClampNeg ((20 * (nI i)) + (X 40 i)))))) + 1)))) else (if (X 36 i) = (-1) then Y else (if 18 ≤ (mo_cl X Y (Int32.toNatClampNeg (X 36 i))) then Y else up2 Y 37 i ((Y 37 i) + ((mo_wa Y (Int32.toNatClampNeg (X 36 i))) + 1))))))
def lBrea : Nat → Nat → I2 × J2 → I2 × J2
  | 0, _, q => q
  | k + 1, i, q => lBrea k (i + 1) (sxBrea (fun _ => 0) i q.1 q.2, syBrea (fun _ => 0) i q.1 q.2)
set_option maxHeartbeats 4000000 in
set_option maxRecDepth 100000 in
theorem c_Mo_breathe {l : Launch} {D : va_G} {ct : Nat → ClassId} {AM : Nat → Nat} {L : List Nat} {f : Nat → va_E} {X : I2} {Y : J2} {sz : Nat} {n : Nat → Nat} (hM : MW ct AM L X Y f) (hI : MI n X)  : Met l y_Mo_breathe (WS y_Mo_breathe b_Mo_breathe 3 none) { frames := 1, cells := 0, slots := 0, locals := 21 } (va_Pc [.ref (AM 100)] (WP D (TYS ct) L f sz)) (Xs D (TYS ct) L (AA L f sz) (fun f' => MW ct AM L (lBrea (n 5) 0 (X, Y)).1 (lBrea (n 5) 0 (X, Y)).2 f')) 0 0 (AA L f sz) := by
  refine Met.ofW (cc := b_Mo_breathe) (maxL := 3) (ret := none) (by decide) rfl ?_
  intro p e s m args below meth c s₁ B hml hv
  obtain ⟨rfl, hsz, hP, hK, hD0⟩ := hv
  subst hsz
  have hx := B.exec
  have hb := B.bytes
  have hret := B.returns
  have hts := atoms_spec (ws := WS y_Mo_breathe b_Mo_breathe 3 none) B.pre
  have hG : ∀ w ∈ GW, w.before _ s = true := fun w h => hts w (List.mem_cons_of_mem _ h)
  have hown : s.vm.findClass "SmokeZonesModel" = some m.cls := findClass_of_methodNamed B.named
  have hlocks := B.notSynchronized
  have hD : va_D (AA L f s.heap.size) (va_pl L f) := hD0.self (sz := s.heap.size)
  generalize hAe : AA L f s.heap.size = A at hD ⊢
  have hA : ∀ q : Nat, s.heap.size ≤ q → A q := fun q h => by rw [← hAe]; exact Or.inr h
  have hS : va_S A s.heap s.heap [] := va_S.rf
  have hl := lv_entry ([.ref (AM 100)]) (n := 3) (Nat.le_of_ble_eq_true rfl)
  rw [lg_entry_eq]
  generalize (lg_sl ([.ref (AM 100)]) ++ List.replicate (3 - (lg_sl ([.ref (AM 100)])).length) Slot.unset).toArray = ls at hl ⊢
  have hl : lv_has ls 3 [(0, .ref (AM 100))] := hl
  obtain ⟨⟨h2, h10, h21, h27, h31, h35⟩, hcap, ha, hop, hfi, hfa, hst, hpe⟩ := hI
  have hc0 : n 0 ≤ 10 := hcap 0 (by decide)
  have hc1 : n 1 ≤ 15 := hcap 1 (by decide)
  have hc2 : n 2 ≤ 5 := hcap 2 (by decide)
  have hc3 : n 3 ≤ 9 := hcap 3 (by decide)
  have hc4 : n 4 ≤ 9 := hcap 4 (by decide)
  have hc5 : n 5 ≤ 9 := hcap 5 (by decide)
  refine lv_iconst (v := 0) hx hb d_Mo_breathe_0 (by decide) ?_
  refine lv_istore_n (lv' := [(1, .int 0), (0, .ref (AM 100))]) hx hb d_Mo_breathe_1 rfl hl (by decide) rfl (fun ls hl => ?_)
  have lp0 : ∀ (k i : Nat) (X1 : I2) (Y1 : J2) (g1 : Nat → va_E) (H : Heap) (locs : List Loc) (ls : Array Slot), i + k = n 5 → MW ct AM L X1 Y1 g1 → (∀ a b, ¬ ((a = 36 ∨ a = 38 ∨ a = 40) ∧ b < i) → X1 a b = X a b) → va_P D vwCl (va_pl L g1) H → va_D A (va_pl L g1) → va_S A s.heap H locs → lv_has ls 3 [(1, .int (nI i)), (0, .ref (AM 100))] → lBrea k i (X1, Y1) = lBrea (n 5) 0 (X, Y) → W p l e (headSpec (WS y_Mo_breathe b_Mo_breathe 3 none) { frames := 1, cells := 0, slots := 0, locals := 21 }).room s m [.ref (AM 100)].toArray below meth c H locs 0 0 (MQ below (Xs D (TYS ct) L A (fun f' => MW ct AM L (lBrea (n 5) 0 (X, Y)).1 (lBrea (n 5) 0 (X, Y)).2 f')) [.ref (AM 100)].toArray s 0 0 A) (F0 m 2 ls []) := by
    intro k
    induction k with
    | zero =>
      intro i X1 Y1 f H locs ls hik0 hM hX0 hP hD hS hl hfin0
      have hle_i : i ≤ n 5 := by omega
      have hcl_i : (nI i).toNatClampNeg = i := nI_clamp (by omega)
      have z2 : X1 2 0 = nI (n 0) := by rw [hX0 2 0 (by omega)]; exact h2
      have z10 : X1 10 0 = nI (n 1) := by rw [hX0 10 0 (by omega)]; exact h10
      have z21 : X1 21 0 = nI (n 2) := by rw [hX0 21 0 (by omega)]; exact h21
      have z27 : X1 27 0 = nI (n 3) := by rw [hX0 27 0 (by omega)]; exact h27
      have z31 : X1 31 0 = nI (n 4) := by rw [hX0 31 0 (by omega)]; exact h31
      have z35 : X1 35 0 = nI (n 5) := by rw [hX0 35 0 (by omega)]; exact h35
      refine lv_iload_n hx hb d_Mo_breathe_2 rfl (lv_at hl 0 rfl) ?_
      refine lv_aload_n hx hb d_Mo_breathe_3 rfl (lv_at hl 1 rfl) ?_
      refine pg_get (C := "SmokeZonesModel") (T := T_Mo) (N := 47) hx hb hG in_Mo hown hK hP hM.1.1 hM.1.2 rfl 35 (by decide) (hG _ k656) (fun _ h9 => h9) rfl d_Mo_breathe_4 ?_
      refine lv_topi (fun y_1 ey_1 => ?_)
      obtain rfl : y_1 = nI (n 5) := ey_1.trans (by simp [up2, hcl_i, z2, z10, z21, z27, z31, z35])
      refine lv_icmp_ge (tgt := 136) hx hb d_Mo_breathe_7 (by decide) (fun c_2 => ?_) (fun c_2 => ?_)
      · have q0 : (X1, Y1) = lBrea (n 5) 0 (X, Y) := hfin0
        have hN : MW ct AM L (lBrea (n 5) 0 (X, Y)).1 (lBrea (n 5) 0 (X, Y)).2 f := by
          rw [← q0]
          exact hM
        exact W.vret hx hb hret (fun t ht hW => ⟨⟨f, rfl, hN, by rw [ht]; exact hP, va_K.moved hW.alike hK, hD⟩, hS.F ht⟩) hS.2.2 d_Mo_breathe_136
      · exact (ge_yes (by omega) (by omega) c_2).elim
    | succ k ih0 =>
      intro i X1 Y1 f H locs ls hik0 hM hX0 hP hD hS hl hfin0
      have hle_i : i ≤ n 5 := by omega
      have hcl_i : (nI i).toNatClampNeg = i := nI_clamp (by omega)
      have z2 : X1 2 0 = nI (n 0) := by rw [hX0 2 0 (by omega)]; exact h2
      have z10 : X1 10 0 = nI (n 1) := by rw [hX0 10 0 (by omega)]; exact h10
      have z21 : X1 21 0 = nI (n 2) := by rw [hX0 21 0 (by omega)]; exact h21
      have z27 : X1 27 0 = nI (n 3) := by rw [hX0 27 0 (by omega)]; exact h27
      have z31 : X1 31 0 = nI (n 4) := by rw [hX0 31 0 (by omega)]; exact h31
      have z35 : X1 35 0 = nI (n 5) := by rw [hX0 35 0 (by omega)]; exact h35
      have hi : i < n 5 := by omega
      refine lv_iload_n hx hb d_Mo_breathe_2 rfl (lv_at hl 0 rfl) ?_
      refine lv_aload_n hx hb d_Mo_breathe_3 rfl (lv_at hl 1 rfl) ?_
      refine pg_get (C := "SmokeZonesModel") (T := T_Mo) (N := 47) hx hb hG in_Mo hown hK hP hM.1.1 hM.1.2 rfl 35 (by decide) (hG _ k656) (fun _ h9 => h9) rfl d_Mo_breathe_4 ?_
      refine lv_topi (fun y_3 ey_3 => ?_)
      obtain rfl : y_3 = nI (n 5) := ey_3.trans (by simp [up2, hcl_i, z2, z10, z21, z27, z31, z35])
      refine lv_icmp_ge (tgt := 136) hx hb d_Mo_breathe_7 (by decide) (fun c_4 => ?_) (fun c_4 => ?_)
      · exact (ge_no hi (by omega) c_4).elim
      · obtain ⟨h36, cc, dd, hc20, hdc, h39, h40, h42⟩ := hpe i hi
        have x36 : X1 36 i = X 36 i := hX0 36 i (by omega)
        have x39 : X1 39 i = X 39 i := hX0 39 i (by omega)
        have x40 : X1 40 i = X 40 i := hX0 40 i (by omega)
        have h39 : X1 39 i = nI cc := by rw [x39]; exact h39
        have h40 : X1 40 i = nI dd := by rw [x40]; exact h40
        have h36 : X1 36 i = (-1) ∨ ∃ r, r < n 0 ∧ X1 36 i = nI r := by rw [x36]; exact h36
        refine lv_aload_n hx hb d_Mo_breathe_10 rfl (lv_at hl 1 rfl) ?_
        refine pg_get (C := "SmokeZonesModel") (T := T_Mo) (N := 47) hx hb hG in_Mo hown hK hP hM.1.1 hM.1.2 rfl 40 (by decide) (hG _ k661) (fun _ h9 => h9) rfl d_Mo_breathe_11 ?_
        refine lv_iload_n hx hb d_Mo_breathe_14 rfl (lv_at hl 0 rfl) ?_
        refine mw_iald hx hb hK hP hM (j := 40) rfl (vp_in_nI (show i < 9 by omega) (by decide)) d_Mo_breathe_15 ?_
        refine lv_topi (fun y_5 ey_5 => ?_)
        obtain rfl : y_5 = X1 40 i := ey_5.trans (by simp [up2, hcl_i, z2, z10, z21, z27, z31, z35])
        refine lv_aload_n hx hb d_Mo_breathe_16 rfl (lv_at hl 1 rfl) ?_
        refine pg_get (C := "SmokeZonesModel") (T := T_Mo) (N := 47) hx hb hG in_Mo hown hK hP hM.1.1 hM.1.2 rfl 39 (by decide) (hG _ k660) (fun _ h9 => h9) rfl d_Mo_breathe_17 ?_
        refine lv_iload_n hx hb d_Mo_breathe_20 rfl (lv_at hl 0 rfl) ?_
        refine mw_iald hx hb hK hP hM (j := 39) rfl (vp_in_nI (show i < 9 by omega) (by decide)) d_Mo_breathe_21 ?_
        refine lv_topi (fun y_6 ey_6 => ?_)
        obtain rfl : y_6 = X1 39 i := ey_6.trans (by simp [up2, hcl_i, z2, z10, z21, z27, z31, z35])
        refine lv_icmp_ge (tgt := 80) hx hb d_Mo_breathe_22 (by decide) (fun c_7 => ?_) (fun c_7 => ?_)
        · refine lv_aload_n hx hb d_Mo_breathe_80 rfl (lv_at hl 1 rfl) ?_
          refine pg_get (C := "SmokeZonesModel") (T := T_Mo) (N := 47) hx hb hG in_Mo hown hK hP hM.1.1 hM.1.2 rfl 36 (by decide) (hG _ k657) (fun _ h9 => h9) rfl d_Mo_breathe_81 ?_
          refine lv_iload_n hx hb d_Mo_breathe_84 rfl (lv_at hl 0 rfl) ?_
          refine mw_iald hx hb hK hP hM (j := 36) rfl (vp_in_nI (show i < 9 by omega) (by decide)) d_Mo_breathe_85 ?_
          refine lv_topi (fun y_8 ey_8 => ?_)
          obtain rfl : y_8 = X1 36 i := ey_8.trans (by simp [up2, hcl_i, z2, z10, z21, z27, z31, z35])
          refine lv_istore_n (lv' := [(2, .int (X1 36 i)), (1, .int (nI i)), (0, .ref (AM 100))]) hx hb d_Mo_breathe_86 rfl hl (by decide) rfl (fun ls hl => ?_)
          refine lv_iload_n hx hb d_Mo_breathe_87 rfl (lv_at hl 0 rfl) ?_
          refine lv_iconst (v := (-1)) hx hb d_Mo_breathe_88 (by decide) ?_
          refine lv_icmp_eq (tgt := 130) hx hb d_Mo_breathe_89 (by decide) (fun c_9 => ?_) (fun c_9 => ?_)
          · refine lv_iinc (v := nI (i + 1)) (lv' := [(1, .int (nI (i + 1))), (2, .int (X1 36 i)), (0, .ref (AM 100))]) hx hb d_Mo_breathe_130 hl (k := 1) rfl (nI_1 i) (by decide) rfl (fun ls hl => ?_)
            refine lv_goto (tgt := 2) hx hb d_Mo_breathe_133 (by decide) ?_
            have hN : MW ct AM L (sxBrea (fun _ => 0) i X1 Y1) (syBrea (fun _ => 0) i X1 Y1) f := by
              (try simp only [sxBrea, syBrea, if_pos c_7, if_pos c_9])
              exact hM
            exact ih0 (i + 1) _ _ _ _ _ _ (by omega) hN (by intro a b hab; rw [← hX0 a b (by omega)]; have u1 : ¬ (a = 36 ∧ b = i) := fun h => hab ⟨Or.inl h.1, by omega⟩; have u2 : ¬ (a = 38 ∧ b = i) := fun h => hab ⟨Or.inr (Or.inl h.1), by omega⟩; have u3 : ¬ (a = 40 ∧ b = i) := fun h => hab ⟨Or.inr (Or.inr h.1), by omega⟩; first | (simp only [sxBrea, syBrea, if_pos c_7, if_pos c_9]; done) | (simp only [sxBrea, syBrea, if_pos c_7, if_pos c_9]; simp [up2, u1, u2, u3])) hP hD hS (lv_sub hl [0, 2] rfl) hfin0
          · obtain ⟨g, hg, eg⟩ := h36.resolve_left c_9
            have ha_g : ¬ Int32.toInt64 (X1 3 g) = 0 := by rw [hX0 3 g (by omega)]; exact ha g hg
            refine lv_aload_n hx hb d_Mo_breathe_92 rfl (lv_at hl 2 rfl) ?_
            refine lv_iload_n hx hb d_Mo_breathe_93 rfl (lv_at hl 0 rfl) ?_
            refine kV_rl ⟨hx, hb, hml, hown, hG⟩ (c_Mo_clearTo_e hM (r := g) (by omega) (by simpa [up2] using ha_g) eg) (cwV 1 hG (gV k834 k836 ks_Mo_clearTo k2 k837) rfl rfl rfl hd_Mo_clearTo ⟨Nat.le_of_ble_eq_true rfl, Nat.le_of_ble_eq_true rfl⟩) hK hP hS hM.1.1 hM.1.2 rfl rfl hl.1 rfl (Nat.le_of_ble_eq_true rfl) ⟨Nat.le_of_ble_eq_true rfl, Nat.le_of_ble_eq_true rfl⟩ d_Mo_breathe_94 (fun locs hS => ?_)
            refine lv_ldc2 hx hb hown (hG _ k860) d_Mo_breathe_97 ?_
            refine lc_ge (tgt := 130) hx hb d_Mo_breathe_100 d_Mo_breathe_101 (by decide) (fun c_10 => ?_) (fun c_10 => ?_)
            · refine lv_iinc (v := nI (i + 1)) (lv' := [(1, .int (nI (i + 1))), (2, .int (X1 36 i)), (0, .ref (AM 100))]) hx hb d_Mo_breathe_130 hl (k := 1) rfl (nI_1 i) (by decide) rfl (fun ls hl => ?_)
              refine lv_goto (tgt := 2) hx hb d_Mo_breathe_133 (by decide) ?_
              have hN : MW ct AM L (sxBrea (fun _ => 0) i X1 Y1) (syBrea (fun _ => 0) i X1 Y1) f := by
                (try simp only [sxBrea, syBrea, if_pos c_7, if_neg c_9, if_pos c_10])
                exact hM
              exact ih0 (i + 1) _ _ _ _ _ _ (by omega) hN (by intro a b hab; rw [← hX0 a b (by omega)]; have u1 : ¬ (a = 36 ∧ b = i) := fun h => hab ⟨Or.inl h.1, by omega⟩; have u2 : ¬ (a = 38 ∧ b = i) := fun h => hab ⟨Or.inr (Or.inl h.1), by omega⟩; have u3 : ¬ (a = 40 ∧ b = i) := fun h => hab ⟨Or.inr (Or.inr h.1), by omega⟩; first | (simp only [sxBrea, syBrea, if_pos c_7, if_neg c_9, if_pos c_10]; done) | (simp only [sxBrea, syBrea, if_pos c_7, if_neg c_9, if_pos c_10]; simp [up2, u1, u2, u3])) hP hD hS (lv_sub hl [0, 2] rfl) hfin0
            · refine lv_aload_n hx hb d_Mo_breathe_104 rfl (lv_at hl 2 rfl) ?_
              refine pg_get (C := "SmokeZonesModel") (T := T_Mo) (N := 47) hx hb hG in_Mo hown hK hP hM.1.1 hM.1.2 rfl 37 (by decide) (hG _ k658) (fun _ h9 => h9) rfl d_Mo_breathe_105 ?_
              refine lv_iload_n hx hb d_Mo_breathe_108 rfl (lv_at hl 1 rfl) ?_
              refine lv_dup2_11 hx hb d_Mo_breathe_109 rfl rfl ?_
              refine mw_lald hx hb hK hP hM (j := 37) rfl (vp_in_nI (show i < 9 by omega) (by decide)) d_Mo_breathe_110 ?_
              refine lv_topl (fun y_11 ey_11 => ?_)
              obtain rfl : y_11 = Y1 37 i := ey_11.trans (by simp [up2, hcl_i, z2, z10, z21, z27, z31, z35])
              refine lv_aload_n hx hb d_Mo_breathe_111 rfl (lv_at hl 2 rfl) ?_
              refine lv_iload_n hx hb d_Mo_breathe_112 rfl (lv_at hl 0 rfl) ?_
              refine kV_rl ⟨hx, hb, hml, hown, hG⟩ (c_Mo_warmth_e hM (r := g) (by omega) eg) (cwV 1 hG (gV k856 k858 ks_Mo_warmth k2 k859) rfl rfl rfl hd_Mo_warmth ⟨Nat.le_of_ble_eq_true rfl, Nat.le_of_ble_eq_true rfl⟩) hK hP hS hM.1.1 hM.1.2 rfl rfl hl.1 rfl (Nat.le_of_ble_eq_true rfl) ⟨Nat.le_of_ble_eq_true rfl, Nat.le_of_ble_eq_true rfl⟩ d_Mo_breathe_113 (fun locs hS => ?_)
              refine lv_lconst (v := 1) hx hb d_Mo_breathe_116 (by decide) ?_
              refine lv_ladd hx hb d_Mo_breathe_117 ?_
              refine lv_ladd hx hb d_Mo_breathe_118 ?_
              refine mw_last hx hb hK hP hD hS hM (j := 37) rfl (vp_in_nI (show i < 9 by omega) (by decide)) d_Mo_breathe_119 (fun f H locs hM hP hD hS => ?_)
              rw [show (nI i).toNatClampNeg = i from nI_clamp (by omega)] at hM
              refine lv_aload_n hx hb d_Mo_breathe_120 rfl (lv_at hl 2 rfl) ?_
              refine pg_get (C := "SmokeZonesModel") (T := T_Mo) (N := 47) hx hb hG in_Mo hown hK hP hM.1.1 hM.1.2 rfl 38 (by decide) (hG _ k659) (fun _ h9 => h9) rfl d_Mo_breathe_121 ?_
              refine lv_iload_n hx hb d_Mo_breathe_124 rfl (lv_at hl 1 rfl) ?_
              refine lv_dup2_11 hx hb d_Mo_breathe_125 rfl rfl ?_
              refine mw_iald hx hb hK hP hM (j := 38) rfl (vp_in_nI (show i < 9 by omega) (by decide)) d_Mo_breathe_126 ?_
              refine lv_topi (fun y_12 ey_12 => ?_)
              obtain rfl : y_12 = X1 38 i := ey_12.trans (by simp [up2, hcl_i, z2, z10, z21, z27, z31, z35])
              refine lv_iconst (v := 1) hx hb d_Mo_breathe_127 (by decide) ?_
              refine lv_iadd hx hb d_Mo_breathe_128 ?_
              refine mw_iast hx hb hK hP hD hS hM (j := 38) rfl (vp_in_nI (show i < 9 by omega) (by decide)) d_Mo_breathe_129 (fun f H locs hM hP hD hS => ?_)
              rw [show (nI i).toNatClampNeg = i from nI_clamp (by omega)] at hM
              refine lv_iinc (v := nI (i + 1)) (lv' := [(1, .int (nI (i + 1))), (2, .int (X1 36 i)), (0, .ref (AM 100))]) hx hb d_Mo_breathe_130 hl (k := 1) rfl (nI_1 i) (by decide) rfl (fun ls hl => ?_)
              refine lv_goto (tgt := 2) hx hb d_Mo_breathe_133 (by decide) ?_
              have hN : MW ct AM L (sxBrea (fun _ => 0) i X1 Y1) (syBrea (fun _ => 0) i X1 Y1) f := by
                (try simp only [sxBrea, syBrea, if_pos c_7, if_neg c_9, if_neg c_10])
                exact hM
              exact ih0 (i + 1) _ _ _ _ _ _ (by omega) hN (by intro a b hab; rw [← hX0 a b (by omega)]; have u1 : ¬ (a = 36 ∧ b = i) := fun h => hab ⟨Or.inl h.1, by omega⟩; have u2 : ¬ (a = 38 ∧ b = i) := fun h => hab ⟨Or.inr (Or.inl h.1), by omega⟩; have u3 : ¬ (a = 40 ∧ b = i) := fun h => hab ⟨Or.inr (Or.inr h.1), by omega⟩; first | (simp only [sxBrea, syBrea, if_pos c_7, if_neg c_9, if_neg c_10]; done) | (simp only [sxBrea, syBrea, if_pos c_7, if_neg c_9, if_neg c_10]; simp [up2, u1, u2, u3])) hP hD hS (lv_sub hl [0, 2] rfl) hfin0
        · have hdlt : dd < cc := lt_of_nle h39 h40 (by omega) c_7
          refine lv_aload_n hx hb d_Mo_breathe_25 rfl (lv_at hl 1 rfl) ?_
          refine pg_get (C := "SmokeZonesModel") (T := T_Mo) (N := 47) hx hb hG in_Mo hown hK hP hM.1.1 hM.1.2 rfl 41 (by decide) (hG _ k662) (fun _ h9 => h9) rfl d_Mo_breathe_26 ?_
          refine lv_bipush (v := 20) hx hb d_Mo_breathe_29 (by decide) ?_
          refine lv_iload_n hx hb d_Mo_breathe_31 rfl (lv_at hl 0 rfl) ?_
          refine lv_imul hx hb d_Mo_breathe_32 ?_
          refine lv_aload_n hx hb d_Mo_breathe_33 rfl (lv_at hl 1 rfl) ?_
          refine pg_get (C := "SmokeZonesModel") (T := T_Mo) (N := 47) hx hb hG in_Mo hown hK hP hM.1.1 hM.1.2 rfl 40 (by decide) (hG _ k661) (fun _ h9 => h9) rfl d_Mo_breathe_34 ?_
          refine lv_iload_n hx hb d_Mo_breathe_37 rfl (lv_at hl 0 rfl) ?_
          refine mw_iald hx hb hK hP hM (j := 40) rfl (vp_in_nI (show i < 9 by omega) (by decide)) d_Mo_breathe_38 ?_
          refine lv_topi (fun y_13 ey_13 => ?_)
          obtain rfl : y_13 = X1 40 i := ey_13.trans (by simp [up2, hcl_i, z2, z10, z21, z27, z31, z35])
          refine lv_iadd hx hb d_Mo_breathe_39 ?_
          refine mw_iald hx hb hK hP hM (j := 41) rfl (gx_in h40 (by omega) (by omega)) d_Mo_breathe_40 ?_
          refine lv_aload_n hx hb d_Mo_breathe_41 rfl (lv_at hl 1 rfl) ?_
          refine pg_get (C := "SmokeZonesModel") (T := T_Mo) (N := 47) hx hb hG in_Mo hown hK hP hM.1.1 hM.1.2 rfl 1 (by decide) (hG _ k622) (fun _ h9 => h9) rfl d_Mo_breathe_42 ?_
          refine lv_icmp_ne (tgt := 80) hx hb d_Mo_breathe_45 (by decide) (fun c_14 => ?_) (fun c_14 => ?_)
          · refine lv_aload_n hx hb d_Mo_breathe_80 rfl (lv_at hl 1 rfl) ?_
            refine pg_get (C := "SmokeZonesModel") (T := T_Mo) (N := 47) hx hb hG in_Mo hown hK hP hM.1.1 hM.1.2 rfl 36 (by decide) (hG _ k657) (fun _ h9 => h9) rfl d_Mo_breathe_81 ?_
            refine lv_iload_n hx hb d_Mo_breathe_84 rfl (lv_at hl 0 rfl) ?_
            refine mw_iald hx hb hK hP hM (j := 36) rfl (vp_in_nI (show i < 9 by omega) (by decide)) d_Mo_breathe_85 ?_
            refine lv_topi (fun y_15 ey_15 => ?_)
            obtain rfl : y_15 = X1 36 i := ey_15.trans (by simp [up2, hcl_i, z2, z10, z21, z27, z31, z35])
            refine lv_istore_n (lv' := [(2, .int (X1 36 i)), (1, .int (nI i)), (0, .ref (AM 100))]) hx hb d_Mo_breathe_86 rfl hl (by decide) rfl (fun ls hl => ?_)
            refine lv_iload_n hx hb d_Mo_breathe_87 rfl (lv_at hl 0 rfl) ?_
            refine lv_iconst (v := (-1)) hx hb d_Mo_breathe_88 (by decide) ?_
            refine lv_icmp_eq (tgt := 130) hx hb d_Mo_breathe_89 (by decide) (fun c_16 => ?_) (fun c_16 => ?_)
            · refine lv_iinc (v := nI (i + 1)) (lv' := [(1, .int (nI (i + 1))), (2, .int (X1 36 i)), (0, .ref (AM 100))]) hx hb d_Mo_breathe_130 hl (k := 1) rfl (nI_1 i) (by decide) rfl (fun ls hl => ?_)
              refine lv_goto (tgt := 2) hx hb d_Mo_breathe_133 (by decide) ?_
              have hN : MW ct AM L (sxBrea (fun _ => 0) i X1 Y1) (syBrea (fun _ => 0) i X1 Y1) f := by
                (try simp only [sxBrea, syBrea, if_neg c_7, if_neg c_14, if_pos c_16])
                exact hM
              exact ih0 (i + 1) _ _ _ _ _ _ (by omega) hN (by intro a b hab; rw [← hX0 a b (by omega)]; have u1 : ¬ (a = 36 ∧ b = i) := fun h => hab ⟨Or.inl h.1, by omega⟩; have u2 : ¬ (a = 38 ∧ b = i) := fun h => hab ⟨Or.inr (Or.inl h.1), by omega⟩; have u3 : ¬ (a = 40 ∧ b = i) := fun h => hab ⟨Or.inr (Or.inr h.1), by omega⟩; first | (simp only [sxBrea, syBrea, if_neg c_7, if_neg c_14, if_pos c_16]; done) | (simp only [sxBrea, syBrea, if_neg c_7, if_neg c_14, if_pos c_16]; simp [up2, u1, u2, u3])) hP hD hS (lv_sub hl [0, 2] rfl) hfin0
            · obtain ⟨g, hg, eg⟩ := h36.resolve_left c_16
              have ha_g : ¬ Int32.toInt64 (X1 3 g) = 0 := by rw [hX0 3 g (by omega)]; exact ha g hg
              refine lv_aload_n hx hb d_Mo_breathe_92 rfl (lv_at hl 2 rfl) ?_
              refine lv_iload_n hx hb d_Mo_breathe_93 rfl (lv_at hl 0 rfl) ?_
              refine kV_rl ⟨hx, hb, hml, hown, hG⟩ (c_Mo_clearTo_e hM (r := g) (by omega) (by simpa [up2] using ha_g) eg) (cwV 1 hG (gV k834 k836 ks_Mo_clearTo k2 k837) rfl rfl rfl hd_Mo_clearTo ⟨Nat.le_of_ble_eq_true rfl, Nat.le_of_ble_eq_true rfl⟩) hK hP hS hM.1.1 hM.1.2 rfl rfl hl.1 rfl (Nat.le_of_ble_eq_true rfl) ⟨Nat.le_of_ble_eq_true rfl, Nat.le_of_ble_eq_true rfl⟩ d_Mo_breathe_94 (fun locs hS => ?_)
              refine lv_ldc2 hx hb hown (hG _ k860) d_Mo_breathe_97 ?_
              refine lc_ge (tgt := 130) hx hb d_Mo_breathe_100 d_Mo_breathe_101 (by decide) (fun c_17 => ?_) (fun c_17 => ?_)
              · refine lv_iinc (v := nI (i + 1)) (lv' := [(1, .int (nI (i + 1))), (2, .int (X1 36 i)), (0, .ref (AM 100))]) hx hb d_Mo_breathe_130 hl (k := 1) rfl (nI_1 i) (by decide) rfl (fun ls hl => ?_)
                refine lv_goto (tgt := 2) hx hb d_Mo_breathe_133 (by decide) ?_
                have hN : MW ct AM L (sxBrea (fun _ => 0) i X1 Y1) (syBrea (fun _ => 0) i X1 Y1) f := by
                  (try simp only [sxBrea, syBrea, if_neg c_7, if_neg c_14, if_neg c_16, if_pos c_17])
                  exact hM
                exact ih0 (i + 1) _ _ _ _ _ _ (by omega) hN (by intro a b hab; rw [← hX0 a b (by omega)]; have u1 : ¬ (a = 36 ∧ b = i) := fun h => hab ⟨Or.inl h.1, by omega⟩; have u2 : ¬ (a = 38 ∧ b = i) := fun h => hab ⟨Or.inr (Or.inl h.1), by omega⟩; have u3 : ¬ (a = 40 ∧ b = i) := fun h => hab ⟨Or.inr (Or.inr h.1), by omega⟩; first | (simp only [sxBrea, syBrea, if_neg c_7, if_neg c_14, if_neg c_16, if_pos c_17]; done) | (simp only [sxBrea, syBrea, if_neg c_7, if_neg c_14, if_neg c_16, if_pos c_17]; simp [up2, u1, u2, u3])) hP hD hS (lv_sub hl [0, 2] rfl) hfin0
              · refine lv_aload_n hx hb d_Mo_breathe_104 rfl (lv_at hl 2 rfl) ?_
                refine pg_get (C := "SmokeZonesModel") (T := T_Mo) (N := 47) hx hb hG in_Mo hown hK hP hM.1.1 hM.1.2 rfl 37 (by decide) (hG _ k658) (fun _ h9 => h9) rfl d_Mo_breathe_105 ?_
                refine lv_iload_n hx hb d_Mo_breathe_108 rfl (lv_at hl 1 rfl) ?_
                refine lv_dup2_11 hx hb d_Mo_breathe_109 rfl rfl ?_
                refine mw_lald hx hb hK hP hM (j := 37) rfl (vp_in_nI (show i < 9 by omega) (by decide)) d_Mo_breathe_110 ?_
                refine lv_topl (fun y_18 ey_18 => ?_)
                obtain rfl : y_18 = Y1 37 i := ey_18.trans (by simp [up2, hcl_i, z2, z10, z21, z27, z31, z35])
                refine lv_aload_n hx hb d_Mo_breathe_111 rfl (lv_at hl 2 rfl) ?_
                refine lv_iload_n hx hb d_Mo_breathe_112 rfl (lv_at hl 0 rfl) ?_
                refine kV_rl ⟨hx, hb, hml, hown, hG⟩ (c_Mo_warmth_e hM (r := g) (by omega) eg) (cwV 1 hG (gV k856 k858 ks_Mo_warmth k2 k859) rfl rfl rfl hd_Mo_warmth ⟨Nat.le_of_ble_eq_true rfl, Nat.le_of_ble_eq_true rfl⟩) hK hP hS hM.1.1 hM.1.2 rfl rfl hl.1 rfl (Nat.le_of_ble_eq_true rfl) ⟨Nat.le_of_ble_eq_true rfl, Nat.le_of_ble_eq_true rfl⟩ d_Mo_breathe_113 (fun locs hS => ?_)
                refine lv_lconst (v := 1) hx hb d_Mo_breathe_116 (by decide) ?_
                refine lv_ladd hx hb d_Mo_breathe_117 ?_
                refine lv_ladd hx hb d_Mo_breathe_118 ?_
                refine mw_last hx hb hK hP hD hS hM (j := 37) rfl (vp_in_nI (show i < 9 by omega) (by decide)) d_Mo_breathe_119 (fun f H locs hM hP hD hS => ?_)
                rw [show (nI i).toNatClampNeg = i from nI_clamp (by omega)] at hM
                refine lv_aload_n hx hb d_Mo_breathe_120 rfl (lv_at hl 2 rfl) ?_
                refine pg_get (C := "SmokeZonesModel") (T := T_Mo) (N := 47) hx hb hG in_Mo hown hK hP hM.1.1 hM.1.2 rfl 38 (by decide) (hG _ k659) (fun _ h9 => h9) rfl d_Mo_breathe_121 ?_
                refine lv_iload_n hx hb d_Mo_breathe_124 rfl (lv_at hl 1 rfl) ?_
                refine lv_dup2_11 hx hb d_Mo_breathe_125 rfl rfl ?_
                refine mw_iald hx hb hK hP hM (j := 38) rfl (vp_in_nI (show i < 9 by omega) (by decide)) d_Mo_breathe_126 ?_
                refine lv_topi (fun y_19 ey_19 => ?_)
                obtain rfl : y_19 = X1 38 i := ey_19.trans (by simp [up2, hcl_i, z2, z10, z21, z27, z31, z35])
                refine lv_iconst (v := 1) hx hb d_Mo_breathe_127 (by decide) ?_
                refine lv_iadd hx hb d_Mo_breathe_128 ?_
                refine mw_iast hx hb hK hP hD hS hM (j := 38) rfl (vp_in_nI (show i < 9 by omega) (by decide)) d_Mo_breathe_129 (fun f H locs hM hP hD hS => ?_)
                rw [show (nI i).toNatClampNeg = i from nI_clamp (by omega)] at hM
                refine lv_iinc (v := nI (i + 1)) (lv' := [(1, .int (nI (i + 1))), (2, .int (X1 36 i)), (0, .ref (AM 100))]) hx hb d_Mo_breathe_130 hl (k := 1) rfl (nI_1 i) (by decide) rfl (fun ls hl => ?_)
                refine lv_goto (tgt := 2) hx hb d_Mo_breathe_133 (by decide) ?_
                have hN : MW ct AM L (sxBrea (fun _ => 0) i X1 Y1) (syBrea (fun _ => 0) i X1 Y1) f := by
                  (try simp only [sxBrea, syBrea, if_neg c_7, if_neg c_14, if_neg c_16, if_neg c_17])
                  exact hM
                exact ih0 (i + 1) _ _ _ _ _ _ (by omega) hN (by intro a b hab; rw [← hX0 a b (by omega)]; have u1 : ¬ (a = 36 ∧ b = i) := fun h => hab ⟨Or.inl h.1, by omega⟩; have u2 : ¬ (a = 38 ∧ b = i) := fun h => hab ⟨Or.inr (Or.inl h.1), by omega⟩; have u3 : ¬ (a = 40 ∧ b = i) := fun h => hab ⟨Or.inr (Or.inr h.1), by omega⟩; first | (simp only [sxBrea, syBrea, if_neg c_7, if_neg c_14, if_neg c_16, if_neg c_17]; done) | (simp only [sxBrea, syBrea, if_neg c_7, if_neg c_14, if_neg c_16, if_neg c_17]; simp [up2, u1, u2, u3])) hP hD hS (lv_sub hl [0, 2] rfl) hfin0
          · have h42i : X1 42 (Int32.toNatClampNeg ((20 * (nI i)) + (X1 40 i))) = (-1) ∨ ∃ r, r < n 0 ∧ X1 42 (Int32.toNatClampNeg ((20 * (nI i)) + (X1 40 i))) = nI r := by rw [gx_cl h40 (by omega) (by omega), hX0 42 _ (by omega)]; exact h42 dd hdlt
            refine lv_aload_n hx hb d_Mo_breathe_48 rfl (lv_at hl 1 rfl) ?_
            refine pg_get (C := "SmokeZonesModel") (T := T_Mo) (N := 47) hx hb hG in_Mo hown hK hP hM.1.1 hM.1.2 rfl 36 (by decide) (hG _ k657) (fun _ h9 => h9) rfl d_Mo_breathe_49 ?_
            refine lv_iload_n hx hb d_Mo_breathe_52 rfl (lv_at hl 0 rfl) ?_
            refine lv_aload_n hx hb d_Mo_breathe_53 rfl (lv_at hl 1 rfl) ?_
            refine pg_get (C := "SmokeZonesModel") (T := T_Mo) (N := 47) hx hb hG in_Mo hown hK hP hM.1.1 hM.1.2 rfl 42 (by decide) (hG _ k663) (fun _ h9 => h9) rfl d_Mo_breathe_54 ?_
            refine lv_bipush (v := 20) hx hb d_Mo_breathe_57 (by decide) ?_
            refine lv_iload_n hx hb d_Mo_breathe_59 rfl (lv_at hl 0 rfl) ?_
            refine lv_imul hx hb d_Mo_breathe_60 ?_
            refine lv_aload_n hx hb d_Mo_breathe_61 rfl (lv_at hl 1 rfl) ?_
            refine pg_get (C := "SmokeZonesModel") (T := T_Mo) (N := 47) hx hb hG in_Mo hown hK hP hM.1.1 hM.1.2 rfl 40 (by decide) (hG _ k661) (fun _ h9 => h9) rfl d_Mo_breathe_62 ?_
            refine lv_iload_n hx hb d_Mo_breathe_65 rfl (lv_at hl 0 rfl) ?_
            refine mw_iald hx hb hK hP hM (j := 40) rfl (vp_in_nI (show i < 9 by omega) (by decide)) d_Mo_breathe_66 ?_
            refine lv_topi (fun y_20 ey_20 => ?_)
            obtain rfl : y_20 = X1 40 i := ey_20.trans (by simp [up2, hcl_i, z2, z10, z21, z27, z31, z35])
            refine lv_iadd hx hb d_Mo_breathe_67 ?_
            refine mw_iald hx hb hK hP hM (j := 42) rfl (gx_in h40 (by omega) (by omega)) d_Mo_breathe_68 ?_
            refine mw_iast hx hb hK hP hD hS hM (j := 36) rfl (vp_in_nI (show i < 9 by omega) (by decide)) d_Mo_breathe_69 (fun f H locs hM hP hD hS => ?_)
            rw [show (nI i).toNatClampNeg = i from nI_clamp (by omega)] at hM
            refine lv_aload_n hx hb d_Mo_breathe_70 rfl (lv_at hl 1 rfl) ?_
            refine pg_get (C := "SmokeZonesModel") (T := T_Mo) (N := 47) hx hb hG in_Mo hown hK hP hM.1.1 hM.1.2 rfl 40 (by decide) (hG _ k661) (fun _ h9 => h9) rfl d_Mo_breathe_71 ?_
            refine lv_iload_n hx hb d_Mo_breathe_74 rfl (lv_at hl 0 rfl) ?_
            refine lv_dup2_11 hx hb d_Mo_breathe_75 rfl rfl ?_
            refine mw_iald hx hb hK hP hM (j := 40) rfl (vp_in_nI (show i < 9 by omega) (by decide)) d_Mo_breathe_76 ?_
            refine lv_topi (fun y_21 ey_21 => ?_)
            obtain rfl : y_21 = X1 40 i := ey_21.trans (by simp [up2, hcl_i, z2, z10, z21, z27, z31, z35])
            refine lv_iconst (v := 1) hx hb d_Mo_breathe_77 (by decide) ?_
            refine lv_iadd hx hb d_Mo_breathe_78 ?_
            refine mw_iast hx hb hK hP hD hS hM (j := 40) rfl (vp_in_nI (show i < 9 by omega) (by decide)) d_Mo_breathe_79 (fun f H locs hM hP hD hS => ?_)
            rw [show (nI i).toNatClampNeg = i from nI_clamp (by omega)] at hM
            refine lv_aload_n hx hb d_Mo_breathe_80 rfl (lv_at hl 1 rfl) ?_
            refine pg_get (C := "SmokeZonesModel") (T := T_Mo) (N := 47) hx hb hG in_Mo hown hK hP hM.1.1 hM.1.2 rfl 36 (by decide) (hG _ k657) (fun _ h9 => h9) rfl d_Mo_breathe_81 ?_
            refine lv_iload_n hx hb d_Mo_breathe_84 rfl (lv_at hl 0 rfl) ?_
            refine mw_iald hx hb hK hP hM (j := 36) rfl (vp_in_nI (show i < 9 by omega) (by decide)) d_Mo_breathe_85 ?_
            refine lv_topi (fun y_22 ey_22 => ?_)
            obtain rfl : y_22 = X1 42 (Int32.toNatClampNeg ((20 * (nI i)) + (X1 40 i))) := ey_22.trans (by simp [up2, hcl_i, z2, z10, z21, z27, z31, z35])
            refine lv_istore_n (lv' := [(2, .int (X1 42 (Int32.toNatClampNeg ((20 * (nI i)) + (X1 40 i))))), (1, .int (nI i)), (0, .ref (AM 100))]) hx hb d_Mo_breathe_86 rfl hl (by decide) rfl (fun ls hl => ?_)
            refine lv_iload_n hx hb d_Mo_breathe_87 rfl (lv_at hl 0 rfl) ?_
            refine lv_iconst (v := (-1)) hx hb d_Mo_breathe_88 (by decide) ?_
            refine lv_icmp_eq (tgt := 130) hx hb d_Mo_breathe_89 (by decide) (fun c_23 => ?_) (fun c_23 => ?_)
            · refine lv_iinc (v := nI (i + 1)) (lv' := [(1, .int (nI (i + 1))), (2, .int (X1 42 (Int32.toNatClampNeg ((20 * (nI i)) + (X1 40 i))))), (0, .ref (AM 100))]) hx hb d_Mo_breathe_130 hl (k := 1) rfl (nI_1 i) (by decide) rfl (fun ls hl => ?_)
              refine lv_goto (tgt := 2) hx hb d_Mo_breathe_133 (by decide) ?_
              have hN : MW ct AM L (sxBrea (fun _ => 0) i X1 Y1) (syBrea (fun _ => 0) i X1 Y1) f := by
                (try simp only [sxBrea, syBrea, if_neg c_7, if_pos c_14, if_pos c_23])
                exact hM
              exact ih0 (i + 1) _ _ _ _ _ _ (by omega) hN (by intro a b hab; rw [← hX0 a b (by omega)]; have u1 : ¬ (a = 36 ∧ b = i) := fun h => hab ⟨Or.inl h.1, by omega⟩; have u2 : ¬ (a = 38 ∧ b = i) := fun h => hab ⟨Or.inr (Or.inl h.1), by omega⟩; have u3 : ¬ (a = 40 ∧ b = i) := fun h => hab ⟨Or.inr (Or.inr h.1), by omega⟩; first | (simp only [sxBrea, syBrea, if_neg c_7, if_pos c_14, if_pos c_23]; done) | (simp only [sxBrea, syBrea, if_neg c_7, if_pos c_14, if_pos c_23]; simp [up2, u1, u2, u3])) hP hD hS (lv_sub hl [0, 2] rfl) hfin0
            · obtain ⟨g, hg, eg⟩ := h42i.resolve_left c_23
              have ha_g : ¬ Int32.toInt64 (X1 3 g) = 0 := by rw [hX0 3 g (by omega)]; exact ha g hg
              refine lv_aload_n hx hb d_Mo_breathe_92 rfl (lv_at hl 2 rfl) ?_
              refine lv_iload_n hx hb d_Mo_breathe_93 rfl (lv_at hl 0 rfl) ?_
              refine kV_rl ⟨hx, hb, hml, hown, hG⟩ (c_Mo_clearTo_e hM (r := g) (by omega) (by simpa [up2] using ha_g) eg) (cwV 1 hG (gV k834 k836 ks_Mo_clearTo k2 k837) rfl rfl rfl hd_Mo_clearTo ⟨Nat.le_of_ble_eq_true rfl, Nat.le_of_ble_eq_true rfl⟩) hK hP hS hM.1.1 hM.1.2 rfl rfl hl.1 rfl (Nat.le_of_ble_eq_true rfl) ⟨Nat.le_of_ble_eq_true rfl, Nat.le_of_ble_eq_true rfl⟩ d_Mo_breathe_94 (fun locs hS => ?_)
              refine lv_topl (fun y_24 ey_24 => ?_)
              obtain rfl : y_24 = mo_cl X1 Y1 (Int32.toNatClampNeg (X1 42 (Int32.toNatClampNeg ((20 * (nI i)) + (X1 40 i))))) := ey_24.trans (by simp [up2, hcl_i, z2, z10, z21, z27, z31, z35, mo_cv, mo_fr, mo_cl, mo_wa, mo_hot, mo_ro])
              refine lv_ldc2 hx hb hown (hG _ k860) d_Mo_breathe_97 ?_
              refine lc_ge (tgt := 130) hx hb d_Mo_breathe_100 d_Mo_breathe_101 (by decide) (fun c_25 => ?_) (fun c_25 => ?_)
              · refine lv_iinc (v := nI (i + 1)) (lv' := [(1, .int (nI (i + 1))), (2, .int (X1 42 (Int32.toNatClampNeg ((20 * (nI i)) + (X1 40 i))))), (0, .ref (AM 100))]) hx hb d_Mo_breathe_130 hl (k := 1) rfl (nI_1 i) (by decide) rfl (fun ls hl => ?_)
                refine lv_goto (tgt := 2) hx hb d_Mo_breathe_133 (by decide) ?_
                have hN : MW ct AM L (sxBrea (fun _ => 0) i X1 Y1) (syBrea (fun _ => 0) i X1 Y1) f := by
                  (try simp only [sxBrea, syBrea, if_neg c_7, if_pos c_14, if_neg c_23, if_pos c_25])
                  exact hM
                exact ih0 (i + 1) _ _ _ _ _ _ (by omega) hN (by intro a b hab; rw [← hX0 a b (by omega)]; have u1 : ¬ (a = 36 ∧ b = i) := fun h => hab ⟨Or.inl h.1, by omega⟩; have u2 : ¬ (a = 38 ∧ b = i) := fun h => hab ⟨Or.inr (Or.inl h.1), by omega⟩; have u3 : ¬ (a = 40 ∧ b = i) := fun h => hab ⟨Or.inr (Or.inr h.1), by omega⟩; first | (simp only [sxBrea, syBrea, if_neg c_7, if_pos c_14, if_neg c_23, if_pos c_25]; done) | (simp only [sxBrea, syBrea, if_neg c_7, if_pos c_14, if_neg c_23, if_pos c_25]; simp [up2, u1, u2, u3])) hP hD hS (lv_sub hl [0, 2] rfl) hfin0
              · refine lv_aload_n hx hb d_Mo_breathe_104 rfl (lv_at hl 2 rfl) ?_
                refine pg_get (C := "SmokeZonesModel") (T := T_Mo) (N := 47) hx hb hG in_Mo hown hK hP hM.1.1 hM.1.2 rfl 37 (by decide) (hG _ k658) (fun _ h9 => h9) rfl d_Mo_breathe_105 ?_
                refine lv_iload_n hx hb d_Mo_breathe_108 rfl (lv_at hl 1 rfl) ?_
                refine lv_dup2_11 hx hb d_Mo_breathe_109 rfl rfl ?_
                refine mw_lald hx hb hK hP hM (j := 37) rfl (vp_in_nI (show i < 9 by omega) (by decide)) d_Mo_breathe_110 ?_
                refine lv_topl (fun y_26 ey_26 => ?_)
                obtain rfl : y_26 = Y1 37 i := ey_26.trans (by simp [up2, hcl_i, z2, z10, z21, z27, z31, z35])
                refine lv_aload_n hx hb d_Mo_breathe_111 rfl (lv_at hl 2 rfl) ?_
                refine lv_iload_n hx hb d_Mo_breathe_112 rfl (lv_at hl 0 rfl) ?_
                refine kV_rl ⟨hx, hb, hml, hown, hG⟩ (c_Mo_warmth_e hM (r := g) (by omega) eg) (cwV 1 hG (gV k856 k858 ks_Mo_warmth k2 k859) rfl rfl rfl hd_Mo_warmth ⟨Nat.le_of_ble_eq_true rfl, Nat.le_of_ble_eq_true rfl⟩) hK hP hS hM.1.1 hM.1.2 rfl rfl hl.1 rfl (Nat.le_of_ble_eq_true rfl) ⟨Nat.le_of_ble_eq_true rfl, Nat.le_of_ble_eq_true rfl⟩ d_Mo_breathe_113 (fun locs hS => ?_)
                refine lv_lconst (v := 1) hx hb d_Mo_breathe_116 (by decide) ?_
                refine lv_ladd hx hb d_Mo_breathe_117 ?_
                refine lv_ladd hx hb d_Mo_breathe_118 ?_
                refine mw_last hx hb hK hP hD hS hM (j := 37) rfl (vp_in_nI (show i < 9 by omega) (by decide)) d_Mo_breathe_119 (fun f H locs hM hP hD hS => ?_)
                rw [show (nI i).toNatClampNeg = i from nI_clamp (by omega)] at hM
                refine lv_aload_n hx hb d_Mo_breathe_120 rfl (lv_at hl 2 rfl) ?_
                refine pg_get (C := "SmokeZonesModel") (T := T_Mo) (N := 47) hx hb hG in_Mo hown hK hP hM.1.1 hM.1.2 rfl 38 (by decide) (hG _ k659) (fun _ h9 => h9) rfl d_Mo_breathe_121 ?_
                refine lv_iload_n hx hb d_Mo_breathe_124 rfl (lv_at hl 1 rfl) ?_
                refine lv_dup2_11 hx hb d_Mo_breathe_125 rfl rfl ?_
                refine mw_iald hx hb hK hP hM (j := 38) rfl (vp_in_nI (show i < 9 by omega) (by decide)) d_Mo_breathe_126 ?_
                refine lv_topi (fun y_27 ey_27 => ?_)
                obtain rfl : y_27 = X1 38 i := ey_27.trans (by simp [up2, hcl_i, z2, z10, z21, z27, z31, z35])
                refine lv_iconst (v := 1) hx hb d_Mo_breathe_127 (by decide) ?_
                refine lv_iadd hx hb d_Mo_breathe_128 ?_
                refine mw_iast hx hb hK hP hD hS hM (j := 38) rfl (vp_in_nI (show i < 9 by omega) (by decide)) d_Mo_breathe_129 (fun f H locs hM hP hD hS => ?_)
                rw [show (nI i).toNatClampNeg = i from nI_clamp (by omega)] at hM
                refine lv_iinc (v := nI (i + 1)) (lv' := [(1, .int (nI (i + 1))), (2, .int (X1 42 (Int32.toNatClampNeg ((20 * (nI i)) + (X1 40 i))))), (0, .ref (AM 100))]) hx hb d_Mo_breathe_130 hl (k := 1) rfl (nI_1 i) (by decide) rfl (fun ls hl => ?_)
                refine lv_goto (tgt := 2) hx hb d_Mo_breathe_133 (by decide) ?_
                have hN : MW ct AM L (sxBrea (fun _ => 0) i X1 Y1) (syBrea (fun _ => 0) i X1 Y1) f := by
                  (try simp only [sxBrea, syBrea, if_neg c_7, if_pos c_14, if_neg c_23, if_neg c_25])
                  exact hM
                exact ih0 (i + 1) _ _ _ _ _ _ (by omega) hN (by intro a b hab; rw [← hX0 a b (by omega)]; have u1 : ¬ (a = 36 ∧ b = i) := fun h => hab ⟨Or.inl h.1, by omega⟩; have u2 : ¬ (a = 38 ∧ b = i) := fun h => hab ⟨Or.inr (Or.inl h.1), by omega⟩; have u3 : ¬ (a = 40 ∧ b = i) := fun h => hab ⟨Or.inr (Or.inr h.1), by omega⟩; first | (simp only [sxBrea, syBrea, if_neg c_7, if_pos c_14, if_neg c_23, if_neg c_25]; done) | (simp only [sxBrea, syBrea, if_neg c_7, if_pos c_14, if_neg c_23, if_neg c_25]; simp [up2, u1, u2, u3])) hP hD hS (lv_sub hl [0, 2] rfl) hfin0
  exact lp0 (n 5) 0 X Y f _ _ _ (by omega) hM (fun _ _ _ => rfl) hP hD hS (lv_sub hl [0, 1] rfl) rfl
