theorem ro_of {X : I2} {p : Int32} {n : Nat} (c : ¬ mo_ro X p = 0) (c1 : ¬ p = (-1)) (h : X 2 0 = nI n) (hn : n ≤ 1000) : ∃ r, r < n ∧ p = nI r := by
  unfold mo_ro at c
  rw [if_neg c1] at c
  split at c
  · exact absurd rfl c
  · rename_i h1
    exact in_of h1 h hn
theorem gy_cl {r c : Nat} {p x : Int32} (hp : p = nI r) (h : x = nI c) (hr : r < 9) (hc : c < 100) : ((20 : Int32) * p + x).toNatClampNeg = 20 * r + c := by
  rw [hp]
  exact gx_cl h hr hc
theorem gy_in {r c : Nat} {p x : Int32} (hp : p = nI r) (h : x = nI c) (hr : r < 9) (hc : c < 20) : vp_in ((20 : Int32) * p + x) 180 := by
  rw [hp]
  exact gx_in h hr hc
theorem gz_in {r c : Nat} {p x : Int32} (hp : p = nI r) (h : x = nI c) (hr : r < 9) (hc : c ≤ 20) (h0 : ¬ x ≤ 0) : vp_in ((20 : Int32) * p + x - 1) 180 := by
  rw [hp, gx_eq h]
  have h1 : 0 < c := by
    rcases Nat.eq_zero_or_pos c with q | q
    · subst q
      exact absurd (by rw [h]; exact Int32.le_refl _) h0
    · exact q
  obtain ⟨k, rfl⟩ : ∃ k, c = k + 1 := ⟨c - 1, by omega⟩
  rw [show 20 * r + (k + 1) = (20 * r + k) + 1 by omega, nI_pred]
  exact vp_in_nI (by omega) (by decide)
theorem c20 {c : Nat} {x : Int32} (h : x = nI c) (hc : c ≤ 20) (h1 : ¬ x = 20) : c < 20 := by
  rcases Nat.lt_or_ge c 20 with q | q
  · exact q
  · exact absurd (by rw [h, show c = 20 by omega]; rfl) h1

def vMopen (X : I2) (Y : J2) (p1 p2 p3 p4 p5 : Int32) : Int32 := (if (m_in p1 0 ((X 2 0) - 1)) = 0 then 0 else (if (mo_ro X p2) = 0 then 0 else (if p1 = p2 then 0 else (if (m_in p3 1 50) = 0 then 0 else (if p4 < 0 then 0 else (if p5 ≤ p4 then 0 else (if (X 4 (Int32.toNatClampNeg p1)) < p5 then 0 else (if p2 = (-1) then (if (X 10 0) = 15 then 0 else ((X 10 0) + 1) - 1) else (if (X 4 (Int32.toNatClampNeg p2)) < p5 then 0 else (if (X 10 0) = 15 then 0 else ((X 10 0) + 1) - 1))))))))))
def xMopen (X : I2) (Y : J2) (p1 p2 p3 p4 p5 : Int32) : I2 := (if (m_in p1 0 ((X 2 0) - 1)) = 0 then up2 X 0 0 1 else (if (mo_ro X p2) = 0 then up2 X 0 0 1 else (if p1 = p2 then up2 X 0 0 1 else (if (m_in p3 1 50) = 0 then up2 X 0 0 1 else (if p4 < 0 then up2 X 0 0 1 else (if p5 ≤ p4 then up2 X 0 0 1 else (if (X 4 (Int32.toNatClampNeg p1)) < p5 then up2 X 0 0 1 else (if p2 = (-1) then (if (X 10 0) = 15 then up2 X 0 0 2 else up2 (up2 (up2 (up2 (up2 (up2 (up2 (up2 X 0 0 0) 11 (Int32.toNatClampNeg (X 10 0)) p1) 12 (Int32.toNatClampNeg (X 10 0)) p2) 13 (Int32.toNatClampNeg (X 10 0)) p3) 14 (Int32.toNatClampNeg (X 10 0)) p4) 15 (Int32.toNatClampNeg (X 10 0)) p5) 17 (Int32.toNatClampNeg (X 10 0)) 1) 10 0 ((X 10 0) + 1)) else (if (X 4 (Int32.toNatClampNeg p2)) < p5 then up2 X 0 0 1 else (if (X 10 0) = 15 then up2 X 0 0 2 else up2 (up2 (up2 (up2 (up2 (up2 (up2 (up2 X 0 0 0) 11 (Int32.toNatClampNeg (X 10 0)) p1) 12 (Int32.toNatClampNeg (X 10 0)) p2) 13 (Int32.toNatClampNeg (X 10 0)) p3) 14 (Int32.toNatClampNeg (X 10 0)) p4) 15 (Int32.toNatClampNeg (X 10 0)) p5) 17 (Int32.toNatClampNeg (X 10 0)) 1) 10 0 ((X 10 0) + 1)))))))))))
set_option maxHeartbeats 4000000 in
set_option maxRecDepth 100000 in
theorem c_Mo_opening {l : Launch} {D : va_G} {ct : Nat → ClassId} {AM : Nat → Nat} {L : List Nat} {f : Nat → va_E} {X : I2} {Y : J2} {sz : Nat} {p1 p2 p3 p4 p5 : Int32} {n0 : Nat} {n1 : Nat} (hM : MW ct AM L X Y f) (h2 : X 2 0 = nI n0) (hc2 : n0 ≤ 10) (h10 : X 10 0 = nI n1) (hc10 : n1 ≤ 15) : Met l y_Mo_opening (WS y_Mo_opening b_Mo_opening 7 (some .int)) { frames := 3, cells := 0, slots := 0, locals := 64 } (va_Pc [.ref (AM 100), .int p1, .int p2, .int p3, .int p4, .int p5] (WP D (TYS ct) L f sz)) (va_Qi (fun (r : Int32) f' => r = vMopen X Y p1 p2 p3 p4 p5 ∧ MW ct AM L (xMopen X Y p1 p2 p3 p4 p5) Y f') (fun f' t => WQ D (TYS ct) L f' (AA L f sz) t) (AA L f sz)) 0 0 (AA L f sz) := by
  refine Met.ofW (cc := b_Mo_opening) (maxL := 7) (ret := (some .int)) (by decide) rfl ?_
  intro p e s m args below meth c s₁ B hml hv
  obtain ⟨rfl, hsz, hP, hK, hD0⟩ := hv
  subst hsz
  have hx := B.exec
  have hb := B.bytes
  have hret := B.returns
  have hts := atoms_spec (ws := WS y_Mo_opening b_Mo_opening 7 (some .int)) B.pre
  have hG : ∀ w ∈ GW, w.before _ s = true := fun w h => hts w (List.mem_cons_of_mem _ h)
  have hown : s.vm.findClass "SmokeZonesModel" = some m.cls := findClass_of_methodNamed B.named
  have hlocks := B.notSynchronized
  have hD : va_D (AA L f s.heap.size) (va_pl L f) := hD0.self (sz := s.heap.size)
  generalize hAe : AA L f s.heap.size = A at hD ⊢
  have hA : ∀ q : Nat, s.heap.size ≤ q → A q := fun q h => by rw [← hAe]; exact Or.inr h
  have hS : va_S A s.heap s.heap [] := va_S.rf
  have hl := lv_entry ([.ref (AM 100), .int p1, .int p2, .int p3, .int p4, .int p5]) (n := 7) (Nat.le_of_ble_eq_true rfl)
  rw [lg_entry_eq]
  generalize (lg_sl ([.ref (AM 100), .int p1, .int p2, .int p3, .int p4, .int p5]) ++ List.replicate (7 - (lg_sl ([.ref (AM 100), .int p1, .int p2, .int p3, .int p4, .int p5])).length) Slot.unset).toArray = ls at hl ⊢
  have hl : lv_has ls 7 [(0, .ref (AM 100)), (1, .int p1), (2, .int p2), (3, .int p3), (4, .int p4), (5, .int p5)] := hl
  refine lv_aload_n hx hb d_Mo_opening_0 rfl (lv_at hl 0 rfl) ?_
  refine lv_iload_n hx hb d_Mo_opening_1 rfl (lv_at hl 1 rfl) ?_
  refine kV_ri ⟨hx, hb, hml, hown, hG⟩ (c_Mo_isRoom hM) (cwV 1 hG (gV k780 k782 ks_Mo_isRoom k2 k783) rfl rfl rfl hd_Mo_isRoom ⟨Nat.le_of_ble_eq_true rfl, Nat.le_of_ble_eq_true rfl⟩) hK hP hS hM.1.1 hM.1.2 rfl rfl hl.1 rfl (Nat.le_of_ble_eq_true rfl) ⟨Nat.le_of_ble_eq_true rfl, Nat.le_of_ble_eq_true rfl⟩ d_Mo_opening_2 (fun locs hS => ?_)
  refine lv_topi (fun y_1 ey_1 => ?_)
  obtain rfl : y_1 = m_in p1 0 ((X 2 0) - 1) := ey_1.trans (by simp [up2, mo_cv, mo_fr, mo_cl, mo_wa, mo_hot, mo_ro])
  refine lv_if_eq (tgt := 47) hx hb d_Mo_opening_5 (by decide) (fun c_2 => ?_) (fun c_2 => ?_)
  · refine lv_iconst (v := 0) hx hb d_Mo_opening_47 (by decide) ?_
    refine lv_istore (lv' := [(6, .int 0), (0, .ref (AM 100)), (1, .int p1), (2, .int p2), (3, .int p3), (4, .int p4), (5, .int p5)]) hx hb d_Mo_opening_48 hl (by decide) rfl (fun ls hl => ?_)
    refine lv_iload hx hb d_Mo_opening_50 (lv_at hl 0 rfl) ?_
    refine lv_if_eq (tgt := 86) hx hb d_Mo_opening_52 (by decide) (fun c_3 => ?_) (fun c_3 => ?_)
    · refine lv_iconst (v := 0) hx hb d_Mo_opening_86 (by decide) ?_
      refine lv_istore (lv' := [(6, .int 0), (0, .ref (AM 100)), (1, .int p1), (2, .int p2), (3, .int p3), (4, .int p4), (5, .int p5)]) hx hb d_Mo_opening_87 hl (by decide) rfl (fun ls hl => ?_)
      refine lv_aload_n hx hb d_Mo_opening_89 rfl (lv_at hl 1 rfl) ?_
      refine lv_iload hx hb d_Mo_opening_90 (lv_at hl 0 rfl) ?_
      refine lv_if_ne (tgt := 99) hx hb d_Mo_opening_92 (by decide) (fun c_4 => ?_) (fun c_4 => ?_)
      · exact absurd (by decide) c_4
      · refine lv_iconst (v := 1) hx hb d_Mo_opening_95 (by decide) ?_
        refine lv_goto (tgt := 113) hx hb d_Mo_opening_96 (by decide) ?_
        refine pg_put (C := "SmokeZonesModel") (T := T_Mo) (N := 47) (ty := .int) hx hb hG in_Mo ty_Mo ok_Mo nm_Mo hown hK hP hD hS hM.1.1 hM.1.2 rfl 0 (by decide) (hG _ k621) (fun _ h9 => h9) rfl (by decide +kernel) rfl rfl (Nat.le_of_ble_eq_true rfl) d_Mo_opening_113 (fun H locs hP hD hS => ?_)
        have hM := hM.putX (j := 0) (v := 1) rfl moF_0
        generalize va_up _ (AM 100) _ = f at hM hP hD
        refine lv_aload_n hx hb d_Mo_opening_116 rfl (lv_at hl 1 rfl) ?_
        refine pg_get (C := "SmokeZonesModel") (T := T_Mo) (N := 47) hx hb hG in_Mo hown hK hP hM.1.1 hM.1.2 rfl 0 (by decide) (hG _ k621) (fun _ h9 => h9) rfl d_Mo_opening_117 ?_
        refine lv_topi (fun y_5 ey_5 => ?_)
        obtain rfl : y_5 = 1 := ey_5.trans (by simp [up2])
        refine lv_if_le (tgt := 125) hx hb d_Mo_opening_120 (by decide) (fun c_6 => ?_) (fun c_6 => ?_)
        · exact absurd c_6 (by decide)
        · refine lv_iconst (v := 0) hx hb d_Mo_opening_123 (by decide) ?_
          have hN : MW ct AM L (xMopen X Y p1 p2 p3 p4 p5) Y f := by
            (try simp only [vMopen, xMopen, if_pos c_2, if_pos c_3, if_pos c_4, if_neg c_6])
            exact hM
          exact W.iret hx hb hret (fun t ht hW => ⟨⟨_, f, rfl, ⟨(by simp only [vMopen, xMopen, if_pos c_2, if_pos c_3, if_pos c_4, if_neg c_6]), hN⟩, by rw [ht]; exact hP, va_K.moved hW.alike hK, hD⟩, hS.F ht⟩) hS.2.2 d_Mo_opening_124
    · exact absurd (by decide) c_3
  · obtain ⟨r, hr, er⟩ := in_of c_2 h2 (by omega)
    have hcl : Int32.toNatClampNeg p1 = r := by rw [er]; exact nI_clamp (by omega)
    refine lv_aload_n hx hb d_Mo_opening_8 rfl (lv_at hl 0 rfl) ?_
    refine lv_iload_n hx hb d_Mo_opening_9 rfl (lv_at hl 2 rfl) ?_
    refine kV_ri ⟨hx, hb, hml, hown, hG⟩ (c_Mo_isRoomOrOut hM) (cwV 1 hG (gV k784 k786 ks_Mo_isRoomOrOut k2 k787) rfl rfl rfl hd_Mo_isRoomOrOut ⟨Nat.le_of_ble_eq_true rfl, Nat.le_of_ble_eq_true rfl⟩) hK hP hS hM.1.1 hM.1.2 rfl rfl hl.1 rfl (Nat.le_of_ble_eq_true rfl) ⟨Nat.le_of_ble_eq_true rfl, Nat.le_of_ble_eq_true rfl⟩ d_Mo_opening_10 (fun locs hS => ?_)
    refine lv_if_eq (tgt := 47) hx hb d_Mo_opening_13 (by decide) (fun c_7 => ?_) (fun c_7 => ?_)
    · refine lv_iconst (v := 0) hx hb d_Mo_opening_47 (by decide) ?_
      refine lv_istore (lv' := [(6, .int 0), (0, .ref (AM 100)), (1, .int p1), (2, .int p2), (3, .int p3), (4, .int p4), (5, .int p5)]) hx hb d_Mo_opening_48 hl (by decide) rfl (fun ls hl => ?_)
      refine lv_iload hx hb d_Mo_opening_50 (lv_at hl 0 rfl) ?_
      refine lv_if_eq (tgt := 86) hx hb d_Mo_opening_52 (by decide) (fun c_8 => ?_) (fun c_8 => ?_)
      · refine lv_iconst (v := 0) hx hb d_Mo_opening_86 (by decide) ?_
        refine lv_istore (lv' := [(6, .int 0), (0, .ref (AM 100)), (1, .int p1), (2, .int p2), (3, .int p3), (4, .int p4), (5, .int p5)]) hx hb d_Mo_opening_87 hl (by decide) rfl (fun ls hl => ?_)
        refine lv_aload_n hx hb d_Mo_opening_89 rfl (lv_at hl 1 rfl) ?_
        refine lv_iload hx hb d_Mo_opening_90 (lv_at hl 0 rfl) ?_
        refine lv_if_ne (tgt := 99) hx hb d_Mo_opening_92 (by decide) (fun c_9 => ?_) (fun c_9 => ?_)
        · exact absurd (by decide) c_9
        · refine lv_iconst (v := 1) hx hb d_Mo_opening_95 (by decide) ?_
          refine lv_goto (tgt := 113) hx hb d_Mo_opening_96 (by decide) ?_
          refine pg_put (C := "SmokeZonesModel") (T := T_Mo) (N := 47) (ty := .int) hx hb hG in_Mo ty_Mo ok_Mo nm_Mo hown hK hP hD hS hM.1.1 hM.1.2 rfl 0 (by decide) (hG _ k621) (fun _ h9 => h9) rfl (by decide +kernel) rfl rfl (Nat.le_of_ble_eq_true rfl) d_Mo_opening_113 (fun H locs hP hD hS => ?_)
          have hM := hM.putX (j := 0) (v := 1) rfl moF_0
          generalize va_up _ (AM 100) _ = f at hM hP hD
          refine lv_aload_n hx hb d_Mo_opening_116 rfl (lv_at hl 1 rfl) ?_
          refine pg_get (C := "SmokeZonesModel") (T := T_Mo) (N := 47) hx hb hG in_Mo hown hK hP hM.1.1 hM.1.2 rfl 0 (by decide) (hG _ k621) (fun _ h9 => h9) rfl d_Mo_opening_117 ?_
          refine lv_topi (fun y_10 ey_10 => ?_)
          obtain rfl : y_10 = 1 := ey_10.trans (by simp [up2])
          refine lv_if_le (tgt := 125) hx hb d_Mo_opening_120 (by decide) (fun c_11 => ?_) (fun c_11 => ?_)
          · exact absurd c_11 (by decide)
          · refine lv_iconst (v := 0) hx hb d_Mo_opening_123 (by decide) ?_
            have hN : MW ct AM L (xMopen X Y p1 p2 p3 p4 p5) Y f := by
              (try simp only [vMopen, xMopen, if_neg c_2, if_pos c_7, if_pos c_8, if_pos c_9, if_neg c_11])
              exact hM
            exact W.iret hx hb hret (fun t ht hW => ⟨⟨_, f, rfl, ⟨(by simp only [vMopen, xMopen, if_neg c_2, if_pos c_7, if_pos c_8, if_pos c_9, if_neg c_11]), hN⟩, by rw [ht]; exact hP, va_K.moved hW.alike hK, hD⟩, hS.F ht⟩) hS.2.2 d_Mo_opening_124
      · exact absurd (by decide) c_8
    · refine lv_iload_n hx hb d_Mo_opening_16 rfl (lv_at hl 1 rfl) ?_
      refine lv_iload_n hx hb d_Mo_opening_17 rfl (lv_at hl 2 rfl) ?_
      refine lv_icmp_eq (tgt := 47) hx hb d_Mo_opening_18 (by decide) (fun c_12 => ?_) (fun c_12 => ?_)
      · refine lv_iconst (v := 0) hx hb d_Mo_opening_47 (by decide) ?_
        refine lv_istore (lv' := [(6, .int 0), (0, .ref (AM 100)), (1, .int p1), (2, .int p2), (3, .int p3), (4, .int p4), (5, .int p5)]) hx hb d_Mo_opening_48 hl (by decide) rfl (fun ls hl => ?_)
        refine lv_iload hx hb d_Mo_opening_50 (lv_at hl 0 rfl) ?_
        refine lv_if_eq (tgt := 86) hx hb d_Mo_opening_52 (by decide) (fun c_13 => ?_) (fun c_13 => ?_)
        · refine lv_iconst (v := 0) hx hb d_Mo_opening_86 (by decide) ?_
          refine lv_istore (lv' := [(6, .int 0), (0, .ref (AM 100)), (1, .int p1), (2, .int p2), (3, .int p3), (4, .int p4), (5, .int p5)]) hx hb d_Mo_opening_87 hl (by decide) rfl (fun ls hl => ?_)
          refine lv_aload_n hx hb d_Mo_opening_89 rfl (lv_at hl 1 rfl) ?_
          refine lv_iload hx hb d_Mo_opening_90 (lv_at hl 0 rfl) ?_
          refine lv_if_ne (tgt := 99) hx hb d_Mo_opening_92 (by decide) (fun c_14 => ?_) (fun c_14 => ?_)
          · exact absurd (by decide) c_14
          · refine lv_iconst (v := 1) hx hb d_Mo_opening_95 (by decide) ?_
            refine lv_goto (tgt := 113) hx hb d_Mo_opening_96 (by decide) ?_
            refine pg_put (C := "SmokeZonesModel") (T := T_Mo) (N := 47) (ty := .int) hx hb hG in_Mo ty_Mo ok_Mo nm_Mo hown hK hP hD hS hM.1.1 hM.1.2 rfl 0 (by decide) (hG _ k621) (fun _ h9 => h9) rfl (by decide +kernel) rfl rfl (Nat.le_of_ble_eq_true rfl) d_Mo_opening_113 (fun H locs hP hD hS => ?_)
            have hM := hM.putX (j := 0) (v := 1) rfl moF_0
            generalize va_up _ (AM 100) _ = f at hM hP hD
            refine lv_aload_n hx hb d_Mo_opening_116 rfl (lv_at hl 1 rfl) ?_
            refine pg_get (C := "SmokeZonesModel") (T := T_Mo) (N := 47) hx hb hG in_Mo hown hK hP hM.1.1 hM.1.2 rfl 0 (by decide) (hG _ k621) (fun _ h9 => h9) rfl d_Mo_opening_117 ?_
            refine lv_topi (fun y_15 ey_15 => ?_)
            obtain rfl : y_15 = 1 := ey_15.trans (by simp [up2])
            refine lv_if_le (tgt := 125) hx hb d_Mo_opening_120 (by decide) (fun c_16 => ?_) (fun c_16 => ?_)
            · exact absurd c_16 (by decide)
            · refine lv_iconst (v := 0) hx hb d_Mo_opening_123 (by decide) ?_
              have hN : MW ct AM L (xMopen X Y p1 p2 p3 p4 p5) Y f := by
                (try simp only [vMopen, xMopen, if_neg c_2, if_neg c_7, if_pos c_12, if_pos c_13, if_pos c_14, if_neg c_16])
                exact hM
              exact W.iret hx hb hret (fun t ht hW => ⟨⟨_, f, rfl, ⟨(by simp only [vMopen, xMopen, if_neg c_2, if_neg c_7, if_pos c_12, if_pos c_13, if_pos c_14, if_neg c_16]), hN⟩, by rw [ht]; exact hP, va_K.moved hW.alike hK, hD⟩, hS.F ht⟩) hS.2.2 d_Mo_opening_124
        · exact absurd (by decide) c_13
      · refine lv_iload_n hx hb d_Mo_opening_21 rfl (lv_at hl 3 rfl) ?_
        refine lv_iconst (v := 1) hx hb d_Mo_opening_22 (by decide) ?_
        refine lv_bipush (v := 50) hx hb d_Mo_opening_23 (by decide) ?_
        refine kS_ri ⟨hx, hb, hml, hown, hG⟩ (c_Mo_in ) (cwS 3 hG (gS k773 k774 k2 k775) rfl rfl rfl hd_Mo_in ⟨Nat.le_of_ble_eq_true rfl, Nat.le_of_ble_eq_true rfl⟩) hK hP hS rfl hl.1 rfl (Nat.le_of_ble_eq_true rfl) ⟨Nat.le_of_ble_eq_true rfl, Nat.le_of_ble_eq_true rfl⟩ d_Mo_opening_25 (fun locs hS => ?_)
        refine lv_if_eq (tgt := 47) hx hb d_Mo_opening_28 (by decide) (fun c_17 => ?_) (fun c_17 => ?_)
        · refine lv_iconst (v := 0) hx hb d_Mo_opening_47 (by decide) ?_
          refine lv_istore (lv' := [(6, .int 0), (0, .ref (AM 100)), (1, .int p1), (2, .int p2), (3, .int p3), (4, .int p4), (5, .int p5)]) hx hb d_Mo_opening_48 hl (by decide) rfl (fun ls hl => ?_)
          refine lv_iload hx hb d_Mo_opening_50 (lv_at hl 0 rfl) ?_
          refine lv_if_eq (tgt := 86) hx hb d_Mo_opening_52 (by decide) (fun c_18 => ?_) (fun c_18 => ?_)
          · refine lv_iconst (v := 0) hx hb d_Mo_opening_86 (by decide) ?_
            refine lv_istore (lv' := [(6, .int 0), (0, .ref (AM 100)), (1, .int p1), (2, .int p2), (3, .int p3), (4, .int p4), (5, .int p5)]) hx hb d_Mo_opening_87 hl (by decide) rfl (fun ls hl => ?_)
            refine lv_aload_n hx hb d_Mo_opening_89 rfl (lv_at hl 1 rfl) ?_
            refine lv_iload hx hb d_Mo_opening_90 (lv_at hl 0 rfl) ?_
            refine lv_if_ne (tgt := 99) hx hb d_Mo_opening_92 (by decide) (fun c_19 => ?_) (fun c_19 => ?_)
            · exact absurd (by decide) c_19
            · refine lv_iconst (v := 1) hx hb d_Mo_opening_95 (by decide) ?_
              refine lv_goto (tgt := 113) hx hb d_Mo_opening_96 (by decide) ?_
              refine pg_put (C := "SmokeZonesModel") (T := T_Mo) (N := 47) (ty := .int) hx hb hG in_Mo ty_Mo ok_Mo nm_Mo hown hK hP hD hS hM.1.1 hM.1.2 rfl 0 (by decide) (hG _ k621) (fun _ h9 => h9) rfl (by decide +kernel) rfl rfl (Nat.le_of_ble_eq_true rfl) d_Mo_opening_113 (fun H locs hP hD hS => ?_)
              have hM := hM.putX (j := 0) (v := 1) rfl moF_0
              generalize va_up _ (AM 100) _ = f at hM hP hD
              refine lv_aload_n hx hb d_Mo_opening_116 rfl (lv_at hl 1 rfl) ?_
              refine pg_get (C := "SmokeZonesModel") (T := T_Mo) (N := 47) hx hb hG in_Mo hown hK hP hM.1.1 hM.1.2 rfl 0 (by decide) (hG _ k621) (fun _ h9 => h9) rfl d_Mo_opening_117 ?_
              refine lv_topi (fun y_20 ey_20 => ?_)
              obtain rfl : y_20 = 1 := ey_20.trans (by simp [up2])
              refine lv_if_le (tgt := 125) hx hb d_Mo_opening_120 (by decide) (fun c_21 => ?_) (fun c_21 => ?_)
              · exact absurd c_21 (by decide)
              · refine lv_iconst (v := 0) hx hb d_Mo_opening_123 (by decide) ?_
                have hN : MW ct AM L (xMopen X Y p1 p2 p3 p4 p5) Y f := by
                  (try simp only [vMopen, xMopen, if_neg c_2, if_neg c_7, if_neg c_12, if_pos c_17, if_pos c_18, if_pos c_19, if_neg c_21])
                  exact hM
                exact W.iret hx hb hret (fun t ht hW => ⟨⟨_, f, rfl, ⟨(by simp only [vMopen, xMopen, if_neg c_2, if_neg c_7, if_neg c_12, if_pos c_17, if_pos c_18, if_pos c_19, if_neg c_21]), hN⟩, by rw [ht]; exact hP, va_K.moved hW.alike hK, hD⟩, hS.F ht⟩) hS.2.2 d_Mo_opening_124
          · exact absurd (by decide) c_18
        · refine lv_iload hx hb d_Mo_opening_31 (lv_at hl 4 rfl) ?_
          refine lv_if_lt (tgt := 47) hx hb d_Mo_opening_33 (by decide) (fun c_22 => ?_) (fun c_22 => ?_)
          · refine lv_iconst (v := 0) hx hb d_Mo_opening_47 (by decide) ?_
            refine lv_istore (lv' := [(6, .int 0), (0, .ref (AM 100)), (1, .int p1), (2, .int p2), (3, .int p3), (4, .int p4), (5, .int p5)]) hx hb d_Mo_opening_48 hl (by decide) rfl (fun ls hl => ?_)
            refine lv_iload hx hb d_Mo_opening_50 (lv_at hl 0 rfl) ?_
            refine lv_if_eq (tgt := 86) hx hb d_Mo_opening_52 (by decide) (fun c_23 => ?_) (fun c_23 => ?_)
            · refine lv_iconst (v := 0) hx hb d_Mo_opening_86 (by decide) ?_
              refine lv_istore (lv' := [(6, .int 0), (0, .ref (AM 100)), (1, .int p1), (2, .int p2), (3, .int p3), (4, .int p4), (5, .int p5)]) hx hb d_Mo_opening_87 hl (by decide) rfl (fun ls hl => ?_)
              refine lv_aload_n hx hb d_Mo_opening_89 rfl (lv_at hl 1 rfl) ?_
              refine lv_iload hx hb d_Mo_opening_90 (lv_at hl 0 rfl) ?_
              refine lv_if_ne (tgt := 99) hx hb d_Mo_opening_92 (by decide) (fun c_24 => ?_) (fun c_24 => ?_)
              · exact absurd (by decide) c_24
              · refine lv_iconst (v := 1) hx hb d_Mo_opening_95 (by decide) ?_
                refine lv_goto (tgt := 113) hx hb d_Mo_opening_96 (by decide) ?_
                refine pg_put (C := "SmokeZonesModel") (T := T_Mo) (N := 47) (ty := .int) hx hb hG in_Mo ty_Mo ok_Mo nm_Mo hown hK hP hD hS hM.1.1 hM.1.2 rfl 0 (by decide) (hG _ k621) (fun _ h9 => h9) rfl (by decide +kernel) rfl rfl (Nat.le_of_ble_eq_true rfl) d_Mo_opening_113 (fun H locs hP hD hS => ?_)
                have hM := hM.putX (j := 0) (v := 1) rfl moF_0
                generalize va_up _ (AM 100) _ = f at hM hP hD
                refine lv_aload_n hx hb d_Mo_opening_116 rfl (lv_at hl 1 rfl) ?_
                refine pg_get (C := "SmokeZonesModel") (T := T_Mo) (N := 47) hx hb hG in_Mo hown hK hP hM.1.1 hM.1.2 rfl 0 (by decide) (hG _ k621) (fun _ h9 => h9) rfl d_Mo_opening_117 ?_
                refine lv_topi (fun y_25 ey_25 => ?_)
                obtain rfl : y_25 = 1 := ey_25.trans (by simp [up2])
                refine lv_if_le (tgt := 125) hx hb d_Mo_opening_120 (by decide) (fun c_26 => ?_) (fun c_26 => ?_)
                · exact absurd c_26 (by decide)
                · refine lv_iconst (v := 0) hx hb d_Mo_opening_123 (by decide) ?_
                  have hN : MW ct AM L (xMopen X Y p1 p2 p3 p4 p5) Y f := by
                    (try simp only [vMopen, xMopen, if_neg c_2, if_neg c_7, if_neg c_12, if_neg c_17, if_pos c_22, if_pos c_23, if_pos c_24, if_neg c_26])
                    exact hM
                  exact W.iret hx hb hret (fun t ht hW => ⟨⟨_, f, rfl, ⟨(by simp only [vMopen, xMopen, if_neg c_2, if_neg c_7, if_neg c_12, if_neg c_17, if_pos c_22, if_pos c_23, if_pos c_24, if_neg c_26]), hN⟩, by rw [ht]; exact hP, va_K.moved hW.alike hK, hD⟩, hS.F ht⟩) hS.2.2 d_Mo_opening_124
            · exact absurd (by decide) c_23
          · refine lv_iload hx hb d_Mo_opening_36 (lv_at hl 4 rfl) ?_
            refine lv_iload hx hb d_Mo_opening_38 (lv_at hl 5 rfl) ?_
            refine lv_icmp_ge (tgt := 47) hx hb d_Mo_opening_40 (by decide) (fun c_27 => ?_) (fun c_27 => ?_)
            · refine lv_iconst (v := 0) hx hb d_Mo_opening_47 (by decide) ?_
              refine lv_istore (lv' := [(6, .int 0), (0, .ref (AM 100)), (1, .int p1), (2, .int p2), (3, .int p3), (4, .int p4), (5, .int p5)]) hx hb d_Mo_opening_48 hl (by decide) rfl (fun ls hl => ?_)
              refine lv_iload hx hb d_Mo_opening_50 (lv_at hl 0 rfl) ?_
              refine lv_if_eq (tgt := 86) hx hb d_Mo_opening_52 (by decide) (fun c_28 => ?_) (fun c_28 => ?_)
              · refine lv_iconst (v := 0) hx hb d_Mo_opening_86 (by decide) ?_
                refine lv_istore (lv' := [(6, .int 0), (0, .ref (AM 100)), (1, .int p1), (2, .int p2), (3, .int p3), (4, .int p4), (5, .int p5)]) hx hb d_Mo_opening_87 hl (by decide) rfl (fun ls hl => ?_)
                refine lv_aload_n hx hb d_Mo_opening_89 rfl (lv_at hl 1 rfl) ?_
                refine lv_iload hx hb d_Mo_opening_90 (lv_at hl 0 rfl) ?_
                refine lv_if_ne (tgt := 99) hx hb d_Mo_opening_92 (by decide) (fun c_29 => ?_) (fun c_29 => ?_)
                · exact absurd (by decide) c_29
                · refine lv_iconst (v := 1) hx hb d_Mo_opening_95 (by decide) ?_
                  refine lv_goto (tgt := 113) hx hb d_Mo_opening_96 (by decide) ?_
                  refine pg_put (C := "SmokeZonesModel") (T := T_Mo) (N := 47) (ty := .int) hx hb hG in_Mo ty_Mo ok_Mo nm_Mo hown hK hP hD hS hM.1.1 hM.1.2 rfl 0 (by decide) (hG _ k621) (fun _ h9 => h9) rfl (by decide +kernel) rfl rfl (Nat.le_of_ble_eq_true rfl) d_Mo_opening_113 (fun H locs hP hD hS => ?_)
                  have hM := hM.putX (j := 0) (v := 1) rfl moF_0
                  generalize va_up _ (AM 100) _ = f at hM hP hD
                  refine lv_aload_n hx hb d_Mo_opening_116 rfl (lv_at hl 1 rfl) ?_
                  refine pg_get (C := "SmokeZonesModel") (T := T_Mo) (N := 47) hx hb hG in_Mo hown hK hP hM.1.1 hM.1.2 rfl 0 (by decide) (hG _ k621) (fun _ h9 => h9) rfl d_Mo_opening_117 ?_
                  refine lv_topi (fun y_30 ey_30 => ?_)
                  obtain rfl : y_30 = 1 := ey_30.trans (by simp [up2])
                  refine lv_if_le (tgt := 125) hx hb d_Mo_opening_120 (by decide) (fun c_31 => ?_) (fun c_31 => ?_)
                  · exact absurd c_31 (by decide)
                  · refine lv_iconst (v := 0) hx hb d_Mo_opening_123 (by decide) ?_
                    have hN : MW ct AM L (xMopen X Y p1 p2 p3 p4 p5) Y f := by
                      (try simp only [vMopen, xMopen, if_neg c_2, if_neg c_7, if_neg c_12, if_neg c_17, if_neg c_22, if_pos c_27, if_pos c_28, if_pos c_29, if_neg c_31])
                      exact hM
                    exact W.iret hx hb hret (fun t ht hW => ⟨⟨_, f, rfl, ⟨(by simp only [vMopen, xMopen, if_neg c_2, if_neg c_7, if_neg c_12, if_neg c_17, if_neg c_22, if_pos c_27, if_pos c_28, if_pos c_29, if_neg c_31]), hN⟩, by rw [ht]; exact hP, va_K.moved hW.alike hK, hD⟩, hS.F ht⟩) hS.2.2 d_Mo_opening_124
              · exact absurd (by decide) c_28
            · refine lv_iconst (v := 1) hx hb d_Mo_opening_43 (by decide) ?_
              refine lv_goto (tgt := 48) hx hb d_Mo_opening_44 (by decide) ?_
              refine lv_istore (lv' := [(6, .int 1), (0, .ref (AM 100)), (1, .int p1), (2, .int p2), (3, .int p3), (4, .int p4), (5, .int p5)]) hx hb d_Mo_opening_48 hl (by decide) rfl (fun ls hl => ?_)
              refine lv_iload hx hb d_Mo_opening_50 (lv_at hl 0 rfl) ?_
              refine lv_if_eq (tgt := 86) hx hb d_Mo_opening_52 (by decide) (fun c_32 => ?_) (fun c_32 => ?_)
              · exact absurd c_32 (by decide)
              · refine lv_iload hx hb d_Mo_opening_55 (lv_at hl 6 rfl) ?_
                refine lv_aload_n hx hb d_Mo_opening_57 rfl (lv_at hl 1 rfl) ?_
                refine pg_get (C := "SmokeZonesModel") (T := T_Mo) (N := 47) hx hb hG in_Mo hown hK hP hM.1.1 hM.1.2 rfl 4 (by decide) (hG _ k625) (fun _ h9 => h9) rfl d_Mo_opening_58 ?_
                refine lv_iload_n hx hb d_Mo_opening_61 rfl (lv_at hl 2 rfl) ?_
                refine mw_iald hx hb hK hP hM (j := 4) rfl (by rw [er]; exact vp_in_nI (show r < 10 by omega) (by decide)) d_Mo_opening_62 ?_
                refine lv_icmp_gt (tgt := 86) hx hb d_Mo_opening_63 (by decide) (fun c_33 => ?_) (fun c_33 => ?_)
                · refine lv_iconst (v := 0) hx hb d_Mo_opening_86 (by decide) ?_
                  refine lv_istore (lv' := [(6, .int 0), (0, .ref (AM 100)), (1, .int p1), (2, .int p2), (3, .int p3), (4, .int p4), (5, .int p5)]) hx hb d_Mo_opening_87 hl (by decide) rfl (fun ls hl => ?_)
                  refine lv_aload_n hx hb d_Mo_opening_89 rfl (lv_at hl 1 rfl) ?_
                  refine lv_iload hx hb d_Mo_opening_90 (lv_at hl 0 rfl) ?_
                  refine lv_if_ne (tgt := 99) hx hb d_Mo_opening_92 (by decide) (fun c_34 => ?_) (fun c_34 => ?_)
                  · exact absurd (by decide) c_34
                  · refine lv_iconst (v := 1) hx hb d_Mo_opening_95 (by decide) ?_
                    refine lv_goto (tgt := 113) hx hb d_Mo_opening_96 (by decide) ?_
                    refine pg_put (C := "SmokeZonesModel") (T := T_Mo) (N := 47) (ty := .int) hx hb hG in_Mo ty_Mo ok_Mo nm_Mo hown hK hP hD hS hM.1.1 hM.1.2 rfl 0 (by decide) (hG _ k621) (fun _ h9 => h9) rfl (by decide +kernel) rfl rfl (Nat.le_of_ble_eq_true rfl) d_Mo_opening_113 (fun H locs hP hD hS => ?_)
                    have hM := hM.putX (j := 0) (v := 1) rfl moF_0
                    generalize va_up _ (AM 100) _ = f at hM hP hD
                    refine lv_aload_n hx hb d_Mo_opening_116 rfl (lv_at hl 1 rfl) ?_
                    refine pg_get (C := "SmokeZonesModel") (T := T_Mo) (N := 47) hx hb hG in_Mo hown hK hP hM.1.1 hM.1.2 rfl 0 (by decide) (hG _ k621) (fun _ h9 => h9) rfl d_Mo_opening_117 ?_
                    refine lv_topi (fun y_35 ey_35 => ?_)
                    obtain rfl : y_35 = 1 := ey_35.trans (by simp [up2])
                    refine lv_if_le (tgt := 125) hx hb d_Mo_opening_120 (by decide) (fun c_36 => ?_) (fun c_36 => ?_)
                    · exact absurd c_36 (by decide)
                    · refine lv_iconst (v := 0) hx hb d_Mo_opening_123 (by decide) ?_
                      have hN : MW ct AM L (xMopen X Y p1 p2 p3 p4 p5) Y f := by
                        (try simp only [vMopen, xMopen, if_neg c_2, if_neg c_7, if_neg c_12, if_neg c_17, if_neg c_22, if_neg c_27, if_neg c_32, if_pos c_33, if_pos c_34, if_neg c_36])
                        exact hM
                      exact W.iret hx hb hret (fun t ht hW => ⟨⟨_, f, rfl, ⟨(by simp only [vMopen, xMopen, if_neg c_2, if_neg c_7, if_neg c_12, if_neg c_17, if_neg c_22, if_neg c_27, if_neg c_32, if_pos c_33, if_pos c_34, if_neg c_36]), hN⟩, by rw [ht]; exact hP, va_K.moved hW.alike hK, hD⟩, hS.F ht⟩) hS.2.2 d_Mo_opening_124
                · refine lv_iload_n hx hb d_Mo_opening_66 rfl (lv_at hl 3 rfl) ?_
                  refine lv_iconst (v := (-1)) hx hb d_Mo_opening_67 (by decide) ?_
                  refine lv_icmp_eq (tgt := 82) hx hb d_Mo_opening_68 (by decide) (fun c_37 => ?_) (fun c_37 => ?_)
                  · refine lv_iconst (v := 1) hx hb d_Mo_opening_82 (by decide) ?_
                    refine lv_goto (tgt := 87) hx hb d_Mo_opening_83 (by decide) ?_
                    refine lv_istore (lv' := [(6, .int 1), (0, .ref (AM 100)), (1, .int p1), (2, .int p2), (3, .int p3), (4, .int p4), (5, .int p5)]) hx hb d_Mo_opening_87 hl (by decide) rfl (fun ls hl => ?_)
                    refine lv_aload_n hx hb d_Mo_opening_89 rfl (lv_at hl 1 rfl) ?_
                    refine lv_iload hx hb d_Mo_opening_90 (lv_at hl 0 rfl) ?_
                    refine lv_if_ne (tgt := 99) hx hb d_Mo_opening_92 (by decide) (fun c_38 => ?_) (fun c_38 => ?_)
                    · refine lv_aload_n hx hb d_Mo_opening_99 rfl (lv_at hl 1 rfl) ?_
                      refine pg_get (C := "SmokeZonesModel") (T := T_Mo) (N := 47) hx hb hG in_Mo hown hK hP hM.1.1 hM.1.2 rfl 10 (by decide) (hG _ k631) (fun _ h9 => h9) rfl d_Mo_opening_100 ?_
                      refine lv_bipush (v := 15) hx hb d_Mo_opening_103 (by decide) ?_
                      refine lv_icmp_ne (tgt := 112) hx hb d_Mo_opening_105 (by decide) (fun c_39 => ?_) (fun c_39 => ?_)
                      · refine lv_iconst (v := 0) hx hb d_Mo_opening_112 (by decide) ?_
                        refine pg_put (C := "SmokeZonesModel") (T := T_Mo) (N := 47) (ty := .int) hx hb hG in_Mo ty_Mo ok_Mo nm_Mo hown hK hP hD hS hM.1.1 hM.1.2 rfl 0 (by decide) (hG _ k621) (fun _ h9 => h9) rfl (by decide +kernel) rfl rfl (Nat.le_of_ble_eq_true rfl) d_Mo_opening_113 (fun H locs hP hD hS => ?_)
                        have hM := hM.putX (j := 0) (v := 0) rfl moF_0
                        generalize va_up _ (AM 100) _ = f at hM hP hD
                        refine lv_aload_n hx hb d_Mo_opening_116 rfl (lv_at hl 1 rfl) ?_
                        refine pg_get (C := "SmokeZonesModel") (T := T_Mo) (N := 47) hx hb hG in_Mo hown hK hP hM.1.1 hM.1.2 rfl 0 (by decide) (hG _ k621) (fun _ h9 => h9) rfl d_Mo_opening_117 ?_
                        refine lv_topi (fun y_40 ey_40 => ?_)
                        obtain rfl : y_40 = 0 := ey_40.trans (by simp [up2])
                        refine lv_if_le (tgt := 125) hx hb d_Mo_opening_120 (by decide) (fun c_41 => ?_) (fun c_41 => ?_)
                        · refine lv_aload_n hx hb d_Mo_opening_125 rfl (lv_at hl 1 rfl) ?_
                          refine pg_get (C := "SmokeZonesModel") (T := T_Mo) (N := 47) hx hb hG in_Mo hown hK hP hM.1.1 hM.1.2 rfl 11 (by decide) (hG _ k632) (fun _ h9 => h9) rfl d_Mo_opening_126 ?_
                          refine lv_aload_n hx hb d_Mo_opening_129 rfl (lv_at hl 1 rfl) ?_
                          refine pg_get (C := "SmokeZonesModel") (T := T_Mo) (N := 47) hx hb hG in_Mo hown hK hP hM.1.1 hM.1.2 rfl 10 (by decide) (hG _ k631) (fun _ h9 => h9) rfl d_Mo_opening_130 ?_
                          refine lv_topi (fun y_42 ey_42 => ?_)
                          obtain rfl : y_42 = X 10 0 := ey_42.trans (by simp [up2])
                          refine lv_iload_n hx hb d_Mo_opening_133 rfl (lv_at hl 2 rfl) ?_
                          refine mw_iast hx hb hK hP hD hS hM (j := 11) rfl (vin_ne h10 hc10 c_39) d_Mo_opening_134 (fun f H locs hM hP hD hS => ?_)
                          refine lv_aload_n hx hb d_Mo_opening_135 rfl (lv_at hl 1 rfl) ?_
                          refine pg_get (C := "SmokeZonesModel") (T := T_Mo) (N := 47) hx hb hG in_Mo hown hK hP hM.1.1 hM.1.2 rfl 12 (by decide) (hG _ k633) (fun _ h9 => h9) rfl d_Mo_opening_136 ?_
                          refine lv_aload_n hx hb d_Mo_opening_139 rfl (lv_at hl 1 rfl) ?_
                          refine pg_get (C := "SmokeZonesModel") (T := T_Mo) (N := 47) hx hb hG in_Mo hown hK hP hM.1.1 hM.1.2 rfl 10 (by decide) (hG _ k631) (fun _ h9 => h9) rfl d_Mo_opening_140 ?_
                          refine lv_topi (fun y_43 ey_43 => ?_)
                          obtain rfl : y_43 = X 10 0 := ey_43.trans (by simp [up2])
                          refine lv_iload_n hx hb d_Mo_opening_143 rfl (lv_at hl 3 rfl) ?_
                          refine mw_iast hx hb hK hP hD hS hM (j := 12) rfl (vin_ne h10 hc10 c_39) d_Mo_opening_144 (fun f H locs hM hP hD hS => ?_)
                          refine lv_aload_n hx hb d_Mo_opening_145 rfl (lv_at hl 1 rfl) ?_
                          refine pg_get (C := "SmokeZonesModel") (T := T_Mo) (N := 47) hx hb hG in_Mo hown hK hP hM.1.1 hM.1.2 rfl 13 (by decide) (hG _ k634) (fun _ h9 => h9) rfl d_Mo_opening_146 ?_
                          refine lv_aload_n hx hb d_Mo_opening_149 rfl (lv_at hl 1 rfl) ?_
                          refine pg_get (C := "SmokeZonesModel") (T := T_Mo) (N := 47) hx hb hG in_Mo hown hK hP hM.1.1 hM.1.2 rfl 10 (by decide) (hG _ k631) (fun _ h9 => h9) rfl d_Mo_opening_150 ?_
                          refine lv_topi (fun y_44 ey_44 => ?_)
                          obtain rfl : y_44 = X 10 0 := ey_44.trans (by simp [up2])
                          refine lv_iload_n hx hb d_Mo_opening_153 rfl (lv_at hl 4 rfl) ?_
                          refine mw_iast hx hb hK hP hD hS hM (j := 13) rfl (vin_ne h10 hc10 c_39) d_Mo_opening_154 (fun f H locs hM hP hD hS => ?_)
                          refine lv_aload_n hx hb d_Mo_opening_155 rfl (lv_at hl 1 rfl) ?_
                          refine pg_get (C := "SmokeZonesModel") (T := T_Mo) (N := 47) hx hb hG in_Mo hown hK hP hM.1.1 hM.1.2 rfl 14 (by decide) (hG _ k635) (fun _ h9 => h9) rfl d_Mo_opening_156 ?_
                          refine lv_aload_n hx hb d_Mo_opening_159 rfl (lv_at hl 1 rfl) ?_
                          refine pg_get (C := "SmokeZonesModel") (T := T_Mo) (N := 47) hx hb hG in_Mo hown hK hP hM.1.1 hM.1.2 rfl 10 (by decide) (hG _ k631) (fun _ h9 => h9) rfl d_Mo_opening_160 ?_
                          refine lv_topi (fun y_45 ey_45 => ?_)
                          obtain rfl : y_45 = X 10 0 := ey_45.trans (by simp [up2])
                          refine lv_iload hx hb d_Mo_opening_163 (lv_at hl 5 rfl) ?_
                          refine mw_iast hx hb hK hP hD hS hM (j := 14) rfl (vin_ne h10 hc10 c_39) d_Mo_opening_165 (fun f H locs hM hP hD hS => ?_)
                          refine lv_aload_n hx hb d_Mo_opening_166 rfl (lv_at hl 1 rfl) ?_
                          refine pg_get (C := "SmokeZonesModel") (T := T_Mo) (N := 47) hx hb hG in_Mo hown hK hP hM.1.1 hM.1.2 rfl 15 (by decide) (hG _ k636) (fun _ h9 => h9) rfl d_Mo_opening_167 ?_
                          refine lv_aload_n hx hb d_Mo_opening_170 rfl (lv_at hl 1 rfl) ?_
                          refine pg_get (C := "SmokeZonesModel") (T := T_Mo) (N := 47) hx hb hG in_Mo hown hK hP hM.1.1 hM.1.2 rfl 10 (by decide) (hG _ k631) (fun _ h9 => h9) rfl d_Mo_opening_171 ?_
                          refine lv_topi (fun y_46 ey_46 => ?_)
                          obtain rfl : y_46 = X 10 0 := ey_46.trans (by simp [up2])
                          refine lv_iload hx hb d_Mo_opening_174 (lv_at hl 6 rfl) ?_
                          refine mw_iast hx hb hK hP hD hS hM (j := 15) rfl (vin_ne h10 hc10 c_39) d_Mo_opening_176 (fun f H locs hM hP hD hS => ?_)
                          refine lv_aload_n hx hb d_Mo_opening_177 rfl (lv_at hl 1 rfl) ?_
                          refine pg_get (C := "SmokeZonesModel") (T := T_Mo) (N := 47) hx hb hG in_Mo hown hK hP hM.1.1 hM.1.2 rfl 17 (by decide) (hG _ k638) (fun _ h9 => h9) rfl d_Mo_opening_178 ?_
                          refine lv_aload_n hx hb d_Mo_opening_181 rfl (lv_at hl 1 rfl) ?_
                          refine pg_get (C := "SmokeZonesModel") (T := T_Mo) (N := 47) hx hb hG in_Mo hown hK hP hM.1.1 hM.1.2 rfl 10 (by decide) (hG _ k631) (fun _ h9 => h9) rfl d_Mo_opening_182 ?_
                          refine lv_topi (fun y_47 ey_47 => ?_)
                          obtain rfl : y_47 = X 10 0 := ey_47.trans (by simp [up2])
                          refine lv_iconst (v := 1) hx hb d_Mo_opening_185 (by decide) ?_
                          refine mw_zast hx hb hK hP hD hS hM (j := 17) rfl (vin_ne h10 hc10 c_39) rfl d_Mo_opening_186 (fun f H locs hM hP hD hS => ?_)
                          refine lv_aload_n hx hb d_Mo_opening_187 rfl (lv_at hl 1 rfl) ?_
                          refine lv_dup hx hb d_Mo_opening_188 rfl ?_
                          refine pg_get (C := "SmokeZonesModel") (T := T_Mo) (N := 47) hx hb hG in_Mo hown hK hP hM.1.1 hM.1.2 rfl 10 (by decide) (hG _ k631) (fun _ h9 => h9) rfl d_Mo_opening_189 ?_
                          refine lv_topi (fun y_48 ey_48 => ?_)
                          obtain rfl : y_48 = X 10 0 := ey_48.trans (by simp [up2])
                          refine lv_iconst (v := 1) hx hb d_Mo_opening_192 (by decide) ?_
                          refine lv_iadd hx hb d_Mo_opening_193 ?_
                          refine pg_put (C := "SmokeZonesModel") (T := T_Mo) (N := 47) (ty := .int) hx hb hG in_Mo ty_Mo ok_Mo nm_Mo hown hK hP hD hS hM.1.1 hM.1.2 rfl 10 (by decide) (hG _ k631) (fun _ h9 => h9) rfl (by decide +kernel) rfl rfl (Nat.le_of_ble_eq_true rfl) d_Mo_opening_194 (fun H locs hP hD hS => ?_)
                          have hM := hM.putX (j := 10) (v := (X 10 0) + 1) rfl moF_10
                          generalize va_up _ (AM 100) _ = f at hM hP hD
                          refine lv_aload_n hx hb d_Mo_opening_197 rfl (lv_at hl 1 rfl) ?_
                          refine pg_get (C := "SmokeZonesModel") (T := T_Mo) (N := 47) hx hb hG in_Mo hown hK hP hM.1.1 hM.1.2 rfl 10 (by decide) (hG _ k631) (fun _ h9 => h9) rfl d_Mo_opening_198 ?_
                          refine lv_topi (fun y_49 ey_49 => ?_)
                          obtain rfl : y_49 = (X 10 0) + 1 := ey_49.trans (by simp [up2])
                          refine lv_iconst (v := 1) hx hb d_Mo_opening_201 (by decide) ?_
                          refine lv_isub hx hb d_Mo_opening_202 ?_
                          have hN : MW ct AM L (xMopen X Y p1 p2 p3 p4 p5) Y f := by
                            (try simp only [vMopen, xMopen, if_neg c_2, if_neg c_7, if_neg c_12, if_neg c_17, if_neg c_22, if_neg c_27, if_neg c_32, if_neg c_33, if_pos c_37, if_neg c_38, if_neg c_39, if_pos c_41])
                            exact hM
                          exact W.iret hx hb hret (fun t ht hW => ⟨⟨_, f, rfl, ⟨(by simp only [vMopen, xMopen, if_neg c_2, if_neg c_7, if_neg c_12, if_neg c_17, if_neg c_22, if_neg c_27, if_neg c_32, if_neg c_33, if_pos c_37, if_neg c_38, if_neg c_39, if_pos c_41]), hN⟩, by rw [ht]; exact hP, va_K.moved hW.alike hK, hD⟩, hS.F ht⟩) hS.2.2 d_Mo_opening_203
                        · exact absurd (by decide) c_41
                      · refine lv_iconst (v := 2) hx hb d_Mo_opening_108 (by decide) ?_
                        refine lv_goto (tgt := 113) hx hb d_Mo_opening_109 (by decide) ?_
                        refine pg_put (C := "SmokeZonesModel") (T := T_Mo) (N := 47) (ty := .int) hx hb hG in_Mo ty_Mo ok_Mo nm_Mo hown hK hP hD hS hM.1.1 hM.1.2 rfl 0 (by decide) (hG _ k621) (fun _ h9 => h9) rfl (by decide +kernel) rfl rfl (Nat.le_of_ble_eq_true rfl) d_Mo_opening_113 (fun H locs hP hD hS => ?_)
                        have hM := hM.putX (j := 0) (v := 2) rfl moF_0
                        generalize va_up _ (AM 100) _ = f at hM hP hD
                        refine lv_aload_n hx hb d_Mo_opening_116 rfl (lv_at hl 1 rfl) ?_
                        refine pg_get (C := "SmokeZonesModel") (T := T_Mo) (N := 47) hx hb hG in_Mo hown hK hP hM.1.1 hM.1.2 rfl 0 (by decide) (hG _ k621) (fun _ h9 => h9) rfl d_Mo_opening_117 ?_
                        refine lv_topi (fun y_50 ey_50 => ?_)
                        obtain rfl : y_50 = 2 := ey_50.trans (by simp [up2])
                        refine lv_if_le (tgt := 125) hx hb d_Mo_opening_120 (by decide) (fun c_51 => ?_) (fun c_51 => ?_)
                        · exact absurd c_51 (by decide)
                        · refine lv_iconst (v := 0) hx hb d_Mo_opening_123 (by decide) ?_
                          have hN : MW ct AM L (xMopen X Y p1 p2 p3 p4 p5) Y f := by
                            (try simp only [vMopen, xMopen, if_neg c_2, if_neg c_7, if_neg c_12, if_neg c_17, if_neg c_22, if_neg c_27, if_neg c_32, if_neg c_33, if_pos c_37, if_neg c_38, if_pos c_39, if_neg c_51])
                            exact hM
                          exact W.iret hx hb hret (fun t ht hW => ⟨⟨_, f, rfl, ⟨(by simp only [vMopen, xMopen, if_neg c_2, if_neg c_7, if_neg c_12, if_neg c_17, if_neg c_22, if_neg c_27, if_neg c_32, if_neg c_33, if_pos c_37, if_neg c_38, if_pos c_39, if_neg c_51]), hN⟩, by rw [ht]; exact hP, va_K.moved hW.alike hK, hD⟩, hS.F ht⟩) hS.2.2 d_Mo_opening_124
                    · exact absurd c_38 (by decide)
                  · obtain ⟨g, hg, eg⟩ := ro_of c_7 c_37 h2 (by omega)
                    refine lv_iload hx hb d_Mo_opening_71 (lv_at hl 6 rfl) ?_
                    refine lv_aload_n hx hb d_Mo_opening_73 rfl (lv_at hl 1 rfl) ?_
                    refine pg_get (C := "SmokeZonesModel") (T := T_Mo) (N := 47) hx hb hG in_Mo hown hK hP hM.1.1 hM.1.2 rfl 4 (by decide) (hG _ k625) (fun _ h9 => h9) rfl d_Mo_opening_74 ?_
                    refine lv_iload_n hx hb d_Mo_opening_77 rfl (lv_at hl 3 rfl) ?_
                    refine mw_iald hx hb hK hP hM (j := 4) rfl (by rw [eg]; exact vp_in_nI (show g < 10 by omega) (by decide)) d_Mo_opening_78 ?_
                    refine lv_icmp_gt (tgt := 86) hx hb d_Mo_opening_79 (by decide) (fun c_52 => ?_) (fun c_52 => ?_)
                    · refine lv_iconst (v := 0) hx hb d_Mo_opening_86 (by decide) ?_
                      refine lv_istore (lv' := [(6, .int 0), (0, .ref (AM 100)), (1, .int p1), (2, .int p2), (3, .int p3), (4, .int p4), (5, .int p5)]) hx hb d_Mo_opening_87 hl (by decide) rfl (fun ls hl => ?_)
                      refine lv_aload_n hx hb d_Mo_opening_89 rfl (lv_at hl 1 rfl) ?_
                      refine lv_iload hx hb d_Mo_opening_90 (lv_at hl 0 rfl) ?_
                      refine lv_if_ne (tgt := 99) hx hb d_Mo_opening_92 (by decide) (fun c_53 => ?_) (fun c_53 => ?_)
                      · exact absurd (by decide) c_53
                      · refine lv_iconst (v := 1) hx hb d_Mo_opening_95 (by decide) ?_
                        refine lv_goto (tgt := 113) hx hb d_Mo_opening_96 (by decide) ?_
                        refine pg_put (C := "SmokeZonesModel") (T := T_Mo) (N := 47) (ty := .int) hx hb hG in_Mo ty_Mo ok_Mo nm_Mo hown hK hP hD hS hM.1.1 hM.1.2 rfl 0 (by decide) (hG _ k621) (fun _ h9 => h9) rfl (by decide +kernel) rfl rfl (Nat.le_of_ble_eq_true rfl) d_Mo_opening_113 (fun H locs hP hD hS => ?_)
                        have hM := hM.putX (j := 0) (v := 1) rfl moF_0
                        generalize va_up _ (AM 100) _ = f at hM hP hD
                        refine lv_aload_n hx hb d_Mo_opening_116 rfl (lv_at hl 1 rfl) ?_
                        refine pg_get (C := "SmokeZonesModel") (T := T_Mo) (N := 47) hx hb hG in_Mo hown hK hP hM.1.1 hM.1.2 rfl 0 (by decide) (hG _ k621) (fun _ h9 => h9) rfl d_Mo_opening_117 ?_
                        refine lv_topi (fun y_54 ey_54 => ?_)
                        obtain rfl : y_54 = 1 := ey_54.trans (by simp [up2])
                        refine lv_if_le (tgt := 125) hx hb d_Mo_opening_120 (by decide) (fun c_55 => ?_) (fun c_55 => ?_)
                        · exact absurd c_55 (by decide)
                        · refine lv_iconst (v := 0) hx hb d_Mo_opening_123 (by decide) ?_
                          have hN : MW ct AM L (xMopen X Y p1 p2 p3 p4 p5) Y f := by
                            (try simp only [vMopen, xMopen, if_neg c_2, if_neg c_7, if_neg c_12, if_neg c_17, if_neg c_22, if_neg c_27, if_neg c_32, if_neg c_33, if_neg c_37, if_pos c_52, if_pos c_53, if_neg c_55])
                            exact hM
                          exact W.iret hx hb hret (fun t ht hW => ⟨⟨_, f, rfl, ⟨(by simp only [vMopen, xMopen, if_neg c_2, if_neg c_7, if_neg c_12, if_neg c_17, if_neg c_22, if_neg c_27, if_neg c_32, if_neg c_33, if_neg c_37, if_pos c_52, if_pos c_53, if_neg c_55]), hN⟩, by rw [ht]; exact hP, va_K.moved hW.alike hK, hD⟩, hS.F ht⟩) hS.2.2 d_Mo_opening_124
                    · refine lv_iconst (v := 1) hx hb d_Mo_opening_82 (by decide) ?_
                      refine lv_goto (tgt := 87) hx hb d_Mo_opening_83 (by decide) ?_
                      refine lv_istore (lv' := [(6, .int 1), (0, .ref (AM 100)), (1, .int p1), (2, .int p2), (3, .int p3), (4, .int p4), (5, .int p5)]) hx hb d_Mo_opening_87 hl (by decide) rfl (fun ls hl => ?_)
                      refine lv_aload_n hx hb d_Mo_opening_89 rfl (lv_at hl 1 rfl) ?_
                      refine lv_iload hx hb d_Mo_opening_90 (lv_at hl 0 rfl) ?_
                      refine lv_if_ne (tgt := 99) hx hb d_Mo_opening_92 (by decide) (fun c_56 => ?_) (fun c_56 => ?_)
                      · refine lv_aload_n hx hb d_Mo_opening_99 rfl (lv_at hl 1 rfl) ?_
                        refine pg_get (C := "SmokeZonesModel") (T := T_Mo) (N := 47) hx hb hG in_Mo hown hK hP hM.1.1 hM.1.2 rfl 10 (by decide) (hG _ k631) (fun _ h9 => h9) rfl d_Mo_opening_100 ?_
                        refine lv_bipush (v := 15) hx hb d_Mo_opening_103 (by decide) ?_
                        refine lv_icmp_ne (tgt := 112) hx hb d_Mo_opening_105 (by decide) (fun c_57 => ?_) (fun c_57 => ?_)
                        · refine lv_iconst (v := 0) hx hb d_Mo_opening_112 (by decide) ?_
                          refine pg_put (C := "SmokeZonesModel") (T := T_Mo) (N := 47) (ty := .int) hx hb hG in_Mo ty_Mo ok_Mo nm_Mo hown hK hP hD hS hM.1.1 hM.1.2 rfl 0 (by decide) (hG _ k621) (fun _ h9 => h9) rfl (by decide +kernel) rfl rfl (Nat.le_of_ble_eq_true rfl) d_Mo_opening_113 (fun H locs hP hD hS => ?_)
                          have hM := hM.putX (j := 0) (v := 0) rfl moF_0
                          generalize va_up _ (AM 100) _ = f at hM hP hD
                          refine lv_aload_n hx hb d_Mo_opening_116 rfl (lv_at hl 1 rfl) ?_
                          refine pg_get (C := "SmokeZonesModel") (T := T_Mo) (N := 47) hx hb hG in_Mo hown hK hP hM.1.1 hM.1.2 rfl 0 (by decide) (hG _ k621) (fun _ h9 => h9) rfl d_Mo_opening_117 ?_
                          refine lv_topi (fun y_58 ey_58 => ?_)
                          obtain rfl : y_58 = 0 := ey_58.trans (by simp [up2])
                          refine lv_if_le (tgt := 125) hx hb d_Mo_opening_120 (by decide) (fun c_59 => ?_) (fun c_59 => ?_)
                          · refine lv_aload_n hx hb d_Mo_opening_125 rfl (lv_at hl 1 rfl) ?_
                            refine pg_get (C := "SmokeZonesModel") (T := T_Mo) (N := 47) hx hb hG in_Mo hown hK hP hM.1.1 hM.1.2 rfl 11 (by decide) (hG _ k632) (fun _ h9 => h9) rfl d_Mo_opening_126 ?_
                            refine lv_aload_n hx hb d_Mo_opening_129 rfl (lv_at hl 1 rfl) ?_
                            refine pg_get (C := "SmokeZonesModel") (T := T_Mo) (N := 47) hx hb hG in_Mo hown hK hP hM.1.1 hM.1.2 rfl 10 (by decide) (hG _ k631) (fun _ h9 => h9) rfl d_Mo_opening_130 ?_
                            refine lv_topi (fun y_60 ey_60 => ?_)
                            obtain rfl : y_60 = X 10 0 := ey_60.trans (by simp [up2])
                            refine lv_iload_n hx hb d_Mo_opening_133 rfl (lv_at hl 2 rfl) ?_
                            refine mw_iast hx hb hK hP hD hS hM (j := 11) rfl (vin_ne h10 hc10 c_57) d_Mo_opening_134 (fun f H locs hM hP hD hS => ?_)
                            refine lv_aload_n hx hb d_Mo_opening_135 rfl (lv_at hl 1 rfl) ?_
                            refine pg_get (C := "SmokeZonesModel") (T := T_Mo) (N := 47) hx hb hG in_Mo hown hK hP hM.1.1 hM.1.2 rfl 12 (by decide) (hG _ k633) (fun _ h9 => h9) rfl d_Mo_opening_136 ?_
                            refine lv_aload_n hx hb d_Mo_opening_139 rfl (lv_at hl 1 rfl) ?_
                            refine pg_get (C := "SmokeZonesModel") (T := T_Mo) (N := 47) hx hb hG in_Mo hown hK hP hM.1.1 hM.1.2 rfl 10 (by decide) (hG _ k631) (fun _ h9 => h9) rfl d_Mo_opening_140 ?_
                            refine lv_topi (fun y_61 ey_61 => ?_)
                            obtain rfl : y_61 = X 10 0 := ey_61.trans (by simp [up2])
                            refine lv_iload_n hx hb d_Mo_opening_143 rfl (lv_at hl 3 rfl) ?_
                            refine mw_iast hx hb hK hP hD hS hM (j := 12) rfl (vin_ne h10 hc10 c_57) d_Mo_opening_144 (fun f H locs hM hP hD hS => ?_)
                            refine lv_aload_n hx hb d_Mo_opening_145 rfl (lv_at hl 1 rfl) ?_
                            refine pg_get (C := "SmokeZonesModel") (T := T_Mo) (N := 47) hx hb hG in_Mo hown hK hP hM.1.1 hM.1.2 rfl 13 (by decide) (hG _ k634) (fun _ h9 => h9) rfl d_Mo_opening_146 ?_
                            refine lv_aload_n hx hb d_Mo_opening_149 rfl (lv_at hl 1 rfl) ?_
                            refine pg_get (C := "SmokeZonesModel") (T := T_Mo) (N := 47) hx hb hG in_Mo hown hK hP hM.1.1 hM.1.2 rfl 10 (by decide) (hG _ k631) (fun _ h9 => h9) rfl d_Mo_opening_150 ?_
                            refine lv_topi (fun y_62 ey_62 => ?_)
                            obtain rfl : y_62 = X 10 0 := ey_62.trans (by simp [up2])
                            refine lv_iload_n hx hb d_Mo_opening_153 rfl (lv_at hl 4 rfl) ?_
                            refine mw_iast hx hb hK hP hD hS hM (j := 13) rfl (vin_ne h10 hc10 c_57) d_Mo_opening_154 (fun f H locs hM hP hD hS => ?_)
                            refine lv_aload_n hx hb d_Mo_opening_155 rfl (lv_at hl 1 rfl) ?_
                            refine pg_get (C := "SmokeZonesModel") (T := T_Mo) (N := 47) hx hb hG in_Mo hown hK hP hM.1.1 hM.1.2 rfl 14 (by decide) (hG _ k635) (fun _ h9 => h9) rfl d_Mo_opening_156 ?_
                            refine lv_aload_n hx hb d_Mo_opening_159 rfl (lv_at hl 1 rfl) ?_
                            refine pg_get (C := "SmokeZonesModel") (T := T_Mo) (N := 47) hx hb hG in_Mo hown hK hP hM.1.1 hM.1.2 rfl 10 (by decide) (hG _ k631) (fun _ h9 => h9) rfl d_Mo_opening_160 ?_
                            refine lv_topi (fun y_63 ey_63 => ?_)
                            obtain rfl : y_63 = X 10 0 := ey_63.trans (by simp [up2])
                            refine lv_iload hx hb d_Mo_opening_163 (lv_at hl 5 rfl) ?_
                            refine mw_iast hx hb hK hP hD hS hM (j := 14) rfl (vin_ne h10 hc10 c_57) d_Mo_opening_165 (fun f H locs hM hP hD hS => ?_)
                            refine lv_aload_n hx hb d_Mo_opening_166 rfl (lv_at hl 1 rfl) ?_
                            refine pg_get (C := "SmokeZonesModel") (T := T_Mo) (N := 47) hx hb hG in_Mo hown hK hP hM.1.1 hM.1.2 rfl 15 (by decide) (hG _ k636) (fun _ h9 => h9) rfl d_Mo_opening_167 ?_
                            refine lv_aload_n hx hb d_Mo_opening_170 rfl (lv_at hl 1 rfl) ?_
                            refine pg_get (C := "SmokeZonesModel") (T := T_Mo) (N := 47) hx hb hG in_Mo hown hK hP hM.1.1 hM.1.2 rfl 10 (by decide) (hG _ k631) (fun _ h9 => h9) rfl d_Mo_opening_171 ?_
                            refine lv_topi (fun y_64 ey_64 => ?_)
                            obtain rfl : y_64 = X 10 0 := ey_64.trans (by simp [up2])
                            refine lv_iload hx hb d_Mo_opening_174 (lv_at hl 6 rfl) ?_
                            refine mw_iast hx hb hK hP hD hS hM (j := 15) rfl (vin_ne h10 hc10 c_57) d_Mo_opening_176 (fun f H locs hM hP hD hS => ?_)
                            refine lv_aload_n hx hb d_Mo_opening_177 rfl (lv_at hl 1 rfl) ?_
                            refine pg_get (C := "SmokeZonesModel") (T := T_Mo) (N := 47) hx hb hG in_Mo hown hK hP hM.1.1 hM.1.2 rfl 17 (by decide) (hG _ k638) (fun _ h9 => h9) rfl d_Mo_opening_178 ?_
                            refine lv_aload_n hx hb d_Mo_opening_181 rfl (lv_at hl 1 rfl) ?_
                            refine pg_get (C := "SmokeZonesModel") (T := T_Mo) (N := 47) hx hb hG in_Mo hown hK hP hM.1.1 hM.1.2 rfl 10 (by decide) (hG _ k631) (fun _ h9 => h9) rfl d_Mo_opening_182 ?_
                            refine lv_topi (fun y_65 ey_65 => ?_)
                            obtain rfl : y_65 = X 10 0 := ey_65.trans (by simp [up2])
                            refine lv_iconst (v := 1) hx hb d_Mo_opening_185 (by decide) ?_
                            refine mw_zast hx hb hK hP hD hS hM (j := 17) rfl (vin_ne h10 hc10 c_57) rfl d_Mo_opening_186 (fun f H locs hM hP hD hS => ?_)
                            refine lv_aload_n hx hb d_Mo_opening_187 rfl (lv_at hl 1 rfl) ?_
                            refine lv_dup hx hb d_Mo_opening_188 rfl ?_
                            refine pg_get (C := "SmokeZonesModel") (T := T_Mo) (N := 47) hx hb hG in_Mo hown hK hP hM.1.1 hM.1.2 rfl 10 (by decide) (hG _ k631) (fun _ h9 => h9) rfl d_Mo_opening_189 ?_
                            refine lv_topi (fun y_66 ey_66 => ?_)
                            obtain rfl : y_66 = X 10 0 := ey_66.trans (by simp [up2])
                            refine lv_iconst (v := 1) hx hb d_Mo_opening_192 (by decide) ?_
                            refine lv_iadd hx hb d_Mo_opening_193 ?_
                            refine pg_put (C := "SmokeZonesModel") (T := T_Mo) (N := 47) (ty := .int) hx hb hG in_Mo ty_Mo ok_Mo nm_Mo hown hK hP hD hS hM.1.1 hM.1.2 rfl 10 (by decide) (hG _ k631) (fun _ h9 => h9) rfl (by decide +kernel) rfl rfl (Nat.le_of_ble_eq_true rfl) d_Mo_opening_194 (fun H locs hP hD hS => ?_)
                            have hM := hM.putX (j := 10) (v := (X 10 0) + 1) rfl moF_10
                            generalize va_up _ (AM 100) _ = f at hM hP hD
                            refine lv_aload_n hx hb d_Mo_opening_197 rfl (lv_at hl 1 rfl) ?_
                            refine pg_get (C := "SmokeZonesModel") (T := T_Mo) (N := 47) hx hb hG in_Mo hown hK hP hM.1.1 hM.1.2 rfl 10 (by decide) (hG _ k631) (fun _ h9 => h9) rfl d_Mo_opening_198 ?_
                            refine lv_topi (fun y_67 ey_67 => ?_)
                            obtain rfl : y_67 = (X 10 0) + 1 := ey_67.trans (by simp [up2])
                            refine lv_iconst (v := 1) hx hb d_Mo_opening_201 (by decide) ?_
                            refine lv_isub hx hb d_Mo_opening_202 ?_
                            have hN : MW ct AM L (xMopen X Y p1 p2 p3 p4 p5) Y f := by
                              (try simp only [vMopen, xMopen, if_neg c_2, if_neg c_7, if_neg c_12, if_neg c_17, if_neg c_22, if_neg c_27, if_neg c_32, if_neg c_33, if_neg c_37, if_neg c_52, if_neg c_56, if_neg c_57, if_pos c_59])
                              exact hM
                            exact W.iret hx hb hret (fun t ht hW => ⟨⟨_, f, rfl, ⟨(by simp only [vMopen, xMopen, if_neg c_2, if_neg c_7, if_neg c_12, if_neg c_17, if_neg c_22, if_neg c_27, if_neg c_32, if_neg c_33, if_neg c_37, if_neg c_52, if_neg c_56, if_neg c_57, if_pos c_59]), hN⟩, by rw [ht]; exact hP, va_K.moved hW.alike hK, hD⟩, hS.F ht⟩) hS.2.2 d_Mo_opening_203
                          · exact absurd (by decide) c_59
                        · refine lv_iconst (v := 2) hx hb d_Mo_opening_108 (by decide) ?_
                          refine lv_goto (tgt := 113) hx hb d_Mo_opening_109 (by decide) ?_
                          refine pg_put (C := "SmokeZonesModel") (T := T_Mo) (N := 47) (ty := .int) hx hb hG in_Mo ty_Mo ok_Mo nm_Mo hown hK hP hD hS hM.1.1 hM.1.2 rfl 0 (by decide) (hG _ k621) (fun _ h9 => h9) rfl (by decide +kernel) rfl rfl (Nat.le_of_ble_eq_true rfl) d_Mo_opening_113 (fun H locs hP hD hS => ?_)
                          have hM := hM.putX (j := 0) (v := 2) rfl moF_0
                          generalize va_up _ (AM 100) _ = f at hM hP hD
                          refine lv_aload_n hx hb d_Mo_opening_116 rfl (lv_at hl 1 rfl) ?_
                          refine pg_get (C := "SmokeZonesModel") (T := T_Mo) (N := 47) hx hb hG in_Mo hown hK hP hM.1.1 hM.1.2 rfl 0 (by decide) (hG _ k621) (fun _ h9 => h9) rfl d_Mo_opening_117 ?_
                          refine lv_topi (fun y_68 ey_68 => ?_)
                          obtain rfl : y_68 = 2 := ey_68.trans (by simp [up2])
                          refine lv_if_le (tgt := 125) hx hb d_Mo_opening_120 (by decide) (fun c_69 => ?_) (fun c_69 => ?_)
                          · exact absurd c_69 (by decide)
                          · refine lv_iconst (v := 0) hx hb d_Mo_opening_123 (by decide) ?_
                            have hN : MW ct AM L (xMopen X Y p1 p2 p3 p4 p5) Y f := by
                              (try simp only [vMopen, xMopen, if_neg c_2, if_neg c_7, if_neg c_12, if_neg c_17, if_neg c_22, if_neg c_27, if_neg c_32, if_neg c_33, if_neg c_37, if_neg c_52, if_neg c_56, if_pos c_57, if_neg c_69])
                              exact hM
                            exact W.iret hx hb hret (fun t ht hW => ⟨⟨_, f, rfl, ⟨(by simp only [vMopen, xMopen, if_neg c_2, if_neg c_7, if_neg c_12, if_neg c_17, if_neg c_22, if_neg c_27, if_neg c_32, if_neg c_33, if_neg c_37, if_neg c_52, if_neg c_56, if_pos c_57, if_neg c_69]), hN⟩, by rw [ht]; exact hP, va_K.moved hW.alike hK, hD⟩, hS.F ht⟩) hS.2.2 d_Mo_opening_124
                      · exact absurd c_56 (by decide)

def xMgo (X : I2) (Y : J2) (p1 p2 p3 : Int32) : I2 := (if (m_in p1 0 ((X 35 0) - 1)) = 0 then up2 X 0 0 1 else (if (m_in p2 (X 1 0) 100000) = 0 then up2 X 0 0 1 else (if (mo_ro X p3) = 0 then up2 X 0 0 1 else (if (X 39 (Int32.toNatClampNeg p1)) = 20 then up2 X 0 0 2 else (if (X 39 (Int32.toNatClampNeg p1)) ≤ 0 then up2 (up2 (up2 (up2 X 0 0 0) 41 (Int32.toNatClampNeg ((20 * p1) + (X 39 (Int32.toNatClampNeg p1)))) p2) 42 (Int32.toNatClampNeg ((20 * p1) + (X 39 (Int32.toNatClampNeg p1)))) p3) 39 (Int32.toNatClampNeg p1) ((X 39 (Int32.toNatClampNeg p1)) + 1) else (if (X 41 (Int32.toNatClampNeg (((20 * p1) + (X 39 (Int32.toNatClampNeg p1))) - 1))) < p2 then up2 (up2 (up2 (up2 X 0 0 0) 41 (Int32.toNatClampNeg ((20 * p1) + (X 39 (Int32.toNatClampNeg p1)))) p2) 42 (Int32.toNatClampNeg ((20 * p1) + (X 39 (Int32.toNatClampNeg p1)))) p3) 39 (Int32.toNatClampNeg p1) ((X 39 (Int32.toNatClampNeg p1)) + 1) else up2 X 0 0 2))))))
set_option maxHeartbeats 4000000 in
set_option maxRecDepth 100000 in
theorem c_Mo_go {l : Launch} {D : va_G} {ct : Nat → ClassId} {AM : Nat → Nat} {L : List Nat} {f : Nat → va_E} {X : I2} {Y : J2} {sz : Nat} {p1 p2 p3 : Int32} {n5 : Nat} (hM : MW ct AM L X Y f) (h35 : X 35 0 = nI n5) (hc35 : n5 ≤ 9) (hg : ∀ r, r < n5 → ∃ c, c ≤ 20 ∧ X 39 r = nI c) : Met l y_Mo_go (WS y_Mo_go b_Mo_go 5 none) { frames := 3, cells := 0, slots := 0, locals := 64 } (va_Pc [.ref (AM 100), .int p1, .int p2, .int p3] (WP D (TYS ct) L f sz)) (va_Qv (fun f' => MW ct AM L (xMgo X Y p1 p2 p3) Y f') (fun f' t => WQ D (TYS ct) L f' (AA L f sz) t) (AA L f sz)) 0 0 (AA L f sz) := by
  refine Met.ofW (cc := b_Mo_go) (maxL := 5) (ret := none) (by decide) rfl ?_
  intro p e s m args below meth c s₁ B hml hv
  obtain ⟨rfl, hsz, hP, hK, hD0⟩ := hv
  subst hsz
  have hx := B.exec
  have hb := B.bytes
  have hret := B.returns
  have hts := atoms_spec (ws := WS y_Mo_go b_Mo_go 5 none) B.pre
  have hG : ∀ w ∈ GW, w.before _ s = true := fun w h => hts w (List.mem_cons_of_mem _ h)
  have hown : s.vm.findClass "SmokeZonesModel" = some m.cls := findClass_of_methodNamed B.named
  have hlocks := B.notSynchronized
  have hD : va_D (AA L f s.heap.size) (va_pl L f) := hD0.self (sz := s.heap.size)
  generalize hAe : AA L f s.heap.size = A at hD ⊢
  have hA : ∀ q : Nat, s.heap.size ≤ q → A q := fun q h => by rw [← hAe]; exact Or.inr h
  have hS : va_S A s.heap s.heap [] := va_S.rf
  have hl := lv_entry ([.ref (AM 100), .int p1, .int p2, .int p3]) (n := 5) (Nat.le_of_ble_eq_true rfl)
  rw [lg_entry_eq]
  generalize (lg_sl ([.ref (AM 100), .int p1, .int p2, .int p3]) ++ List.replicate (5 - (lg_sl ([.ref (AM 100), .int p1, .int p2, .int p3])).length) Slot.unset).toArray = ls at hl ⊢
  have hl : lv_has ls 5 [(0, .ref (AM 100)), (1, .int p1), (2, .int p2), (3, .int p3)] := hl
  refine lv_iload_n hx hb d_Mo_go_0 rfl (lv_at hl 1 rfl) ?_
  refine lv_iconst (v := 0) hx hb d_Mo_go_1 (by decide) ?_
  refine lv_aload_n hx hb d_Mo_go_2 rfl (lv_at hl 0 rfl) ?_
  refine pg_get (C := "SmokeZonesModel") (T := T_Mo) (N := 47) hx hb hG in_Mo hown hK hP hM.1.1 hM.1.2 rfl 35 (by decide) (hG _ k656) (fun _ h9 => h9) rfl d_Mo_go_3 ?_
  refine lv_iconst (v := 1) hx hb d_Mo_go_6 (by decide) ?_
  refine lv_isub hx hb d_Mo_go_7 ?_
  refine kS_ri ⟨hx, hb, hml, hown, hG⟩ (c_Mo_in ) (cwS 3 hG (gS k773 k774 k2 k775) rfl rfl rfl hd_Mo_in ⟨Nat.le_of_ble_eq_true rfl, Nat.le_of_ble_eq_true rfl⟩) hK hP hS rfl hl.1 rfl (Nat.le_of_ble_eq_true rfl) ⟨Nat.le_of_ble_eq_true rfl, Nat.le_of_ble_eq_true rfl⟩ d_Mo_go_8 (fun locs hS => ?_)
  refine lv_if_eq (tgt := 39) hx hb d_Mo_go_11 (by decide) (fun c_1 => ?_) (fun c_1 => ?_)
  · refine lv_iconst (v := 0) hx hb d_Mo_go_39 (by decide) ?_
    refine lv_istore (lv' := [(4, .int 0), (0, .ref (AM 100)), (1, .int p1), (2, .int p2), (3, .int p3)]) hx hb d_Mo_go_40 hl (by decide) rfl (fun ls hl => ?_)
    refine lv_aload_n hx hb d_Mo_go_42 rfl (lv_at hl 1 rfl) ?_
    refine lv_iload hx hb d_Mo_go_43 (lv_at hl 0 rfl) ?_
    refine lv_if_ne (tgt := 52) hx hb d_Mo_go_45 (by decide) (fun c_2 => ?_) (fun c_2 => ?_)
    · exact absurd (by decide) c_2
    · refine lv_iconst (v := 1) hx hb d_Mo_go_48 (by decide) ?_
      refine lv_goto (tgt := 99) hx hb d_Mo_go_49 (by decide) ?_
      refine pg_put (C := "SmokeZonesModel") (T := T_Mo) (N := 47) (ty := .int) hx hb hG in_Mo ty_Mo ok_Mo nm_Mo hown hK hP hD hS hM.1.1 hM.1.2 rfl 0 (by decide) (hG _ k621) (fun _ h9 => h9) rfl (by decide +kernel) rfl rfl (Nat.le_of_ble_eq_true rfl) d_Mo_go_99 (fun H locs hP hD hS => ?_)
      have hM := hM.putX (j := 0) (v := 1) rfl moF_0
      generalize va_up _ (AM 100) _ = f at hM hP hD
      refine lv_aload_n hx hb d_Mo_go_102 rfl (lv_at hl 1 rfl) ?_
      refine pg_get (C := "SmokeZonesModel") (T := T_Mo) (N := 47) hx hb hG in_Mo hown hK hP hM.1.1 hM.1.2 rfl 0 (by decide) (hG _ k621) (fun _ h9 => h9) rfl d_Mo_go_103 ?_
      refine lv_topi (fun y_3 ey_3 => ?_)
      obtain rfl : y_3 = 1 := ey_3.trans (by simp [up2])
      refine lv_if_ne (tgt := 153) hx hb d_Mo_go_106 (by decide) (fun c_4 => ?_) (fun c_4 => ?_)
      · have hN : MW ct AM L (xMgo X Y p1 p2 p3) Y f := by
          (try simp only [xMgo, if_pos c_1, if_pos c_2, if_neg c_4])
          exact hM
        exact W.vret hx hb hret (fun t ht hW => ⟨⟨f, rfl, hN, by rw [ht]; exact hP, va_K.moved hW.alike hK, hD⟩, hS.F ht⟩) hS.2.2 d_Mo_go_153
      · exact absurd c_4 (by decide)
  · obtain ⟨r, hr, er⟩ := in_of c_1 h35 (by omega)
    have hcl : Int32.toNatClampNeg p1 = r := by rw [er]; exact nI_clamp (by omega)
    obtain ⟨cc, hc20, h39⟩ := hg r hr
    have h39 : X 39 (Int32.toNatClampNeg p1) = nI cc := by rw [hcl]; exact h39
    refine lv_iload_n hx hb d_Mo_go_14 rfl (lv_at hl 2 rfl) ?_
    refine lv_aload_n hx hb d_Mo_go_15 rfl (lv_at hl 0 rfl) ?_
    refine pg_get (C := "SmokeZonesModel") (T := T_Mo) (N := 47) hx hb hG in_Mo hown hK hP hM.1.1 hM.1.2 rfl 1 (by decide) (hG _ k622) (fun _ h9 => h9) rfl d_Mo_go_16 ?_
    refine lv_ldc hx hb hown (hG _ k796) d_Mo_go_19 ?_
    refine kS_ri ⟨hx, hb, hml, hown, hG⟩ (c_Mo_in ) (cwS 3 hG (gS k773 k774 k2 k775) rfl rfl rfl hd_Mo_in ⟨Nat.le_of_ble_eq_true rfl, Nat.le_of_ble_eq_true rfl⟩) hK hP hS rfl hl.1 rfl (Nat.le_of_ble_eq_true rfl) ⟨Nat.le_of_ble_eq_true rfl, Nat.le_of_ble_eq_true rfl⟩ d_Mo_go_21 (fun locs hS => ?_)
    refine lv_if_eq (tgt := 39) hx hb d_Mo_go_24 (by decide) (fun c_5 => ?_) (fun c_5 => ?_)
    · refine lv_iconst (v := 0) hx hb d_Mo_go_39 (by decide) ?_
      refine lv_istore (lv' := [(4, .int 0), (0, .ref (AM 100)), (1, .int p1), (2, .int p2), (3, .int p3)]) hx hb d_Mo_go_40 hl (by decide) rfl (fun ls hl => ?_)
      refine lv_aload_n hx hb d_Mo_go_42 rfl (lv_at hl 1 rfl) ?_
      refine lv_iload hx hb d_Mo_go_43 (lv_at hl 0 rfl) ?_
      refine lv_if_ne (tgt := 52) hx hb d_Mo_go_45 (by decide) (fun c_6 => ?_) (fun c_6 => ?_)
      · exact absurd (by decide) c_6
      · refine lv_iconst (v := 1) hx hb d_Mo_go_48 (by decide) ?_
        refine lv_goto (tgt := 99) hx hb d_Mo_go_49 (by decide) ?_
        refine pg_put (C := "SmokeZonesModel") (T := T_Mo) (N := 47) (ty := .int) hx hb hG in_Mo ty_Mo ok_Mo nm_Mo hown hK hP hD hS hM.1.1 hM.1.2 rfl 0 (by decide) (hG _ k621) (fun _ h9 => h9) rfl (by decide +kernel) rfl rfl (Nat.le_of_ble_eq_true rfl) d_Mo_go_99 (fun H locs hP hD hS => ?_)
        have hM := hM.putX (j := 0) (v := 1) rfl moF_0
        generalize va_up _ (AM 100) _ = f at hM hP hD
        refine lv_aload_n hx hb d_Mo_go_102 rfl (lv_at hl 1 rfl) ?_
        refine pg_get (C := "SmokeZonesModel") (T := T_Mo) (N := 47) hx hb hG in_Mo hown hK hP hM.1.1 hM.1.2 rfl 0 (by decide) (hG _ k621) (fun _ h9 => h9) rfl d_Mo_go_103 ?_
        refine lv_topi (fun y_7 ey_7 => ?_)
        obtain rfl : y_7 = 1 := ey_7.trans (by simp [up2])
        refine lv_if_ne (tgt := 153) hx hb d_Mo_go_106 (by decide) (fun c_8 => ?_) (fun c_8 => ?_)
        · have hN : MW ct AM L (xMgo X Y p1 p2 p3) Y f := by
            (try simp only [xMgo, if_neg c_1, if_pos c_5, if_pos c_6, if_neg c_8])
            exact hM
          exact W.vret hx hb hret (fun t ht hW => ⟨⟨f, rfl, hN, by rw [ht]; exact hP, va_K.moved hW.alike hK, hD⟩, hS.F ht⟩) hS.2.2 d_Mo_go_153
        · exact absurd c_8 (by decide)
    · refine lv_aload_n hx hb d_Mo_go_27 rfl (lv_at hl 0 rfl) ?_
      refine lv_iload_n hx hb d_Mo_go_28 rfl (lv_at hl 3 rfl) ?_
      refine kV_ri ⟨hx, hb, hml, hown, hG⟩ (c_Mo_isRoomOrOut hM) (cwV 1 hG (gV k784 k786 ks_Mo_isRoomOrOut k2 k787) rfl rfl rfl hd_Mo_isRoomOrOut ⟨Nat.le_of_ble_eq_true rfl, Nat.le_of_ble_eq_true rfl⟩) hK hP hS hM.1.1 hM.1.2 rfl rfl hl.1 rfl (Nat.le_of_ble_eq_true rfl) ⟨Nat.le_of_ble_eq_true rfl, Nat.le_of_ble_eq_true rfl⟩ d_Mo_go_29 (fun locs hS => ?_)
      refine lv_if_eq (tgt := 39) hx hb d_Mo_go_32 (by decide) (fun c_9 => ?_) (fun c_9 => ?_)
      · refine lv_iconst (v := 0) hx hb d_Mo_go_39 (by decide) ?_
        refine lv_istore (lv' := [(4, .int 0), (0, .ref (AM 100)), (1, .int p1), (2, .int p2), (3, .int p3)]) hx hb d_Mo_go_40 hl (by decide) rfl (fun ls hl => ?_)
        refine lv_aload_n hx hb d_Mo_go_42 rfl (lv_at hl 1 rfl) ?_
        refine lv_iload hx hb d_Mo_go_43 (lv_at hl 0 rfl) ?_
        refine lv_if_ne (tgt := 52) hx hb d_Mo_go_45 (by decide) (fun c_10 => ?_) (fun c_10 => ?_)
        · exact absurd (by decide) c_10
        · refine lv_iconst (v := 1) hx hb d_Mo_go_48 (by decide) ?_
          refine lv_goto (tgt := 99) hx hb d_Mo_go_49 (by decide) ?_
          refine pg_put (C := "SmokeZonesModel") (T := T_Mo) (N := 47) (ty := .int) hx hb hG in_Mo ty_Mo ok_Mo nm_Mo hown hK hP hD hS hM.1.1 hM.1.2 rfl 0 (by decide) (hG _ k621) (fun _ h9 => h9) rfl (by decide +kernel) rfl rfl (Nat.le_of_ble_eq_true rfl) d_Mo_go_99 (fun H locs hP hD hS => ?_)
          have hM := hM.putX (j := 0) (v := 1) rfl moF_0
          generalize va_up _ (AM 100) _ = f at hM hP hD
          refine lv_aload_n hx hb d_Mo_go_102 rfl (lv_at hl 1 rfl) ?_
          refine pg_get (C := "SmokeZonesModel") (T := T_Mo) (N := 47) hx hb hG in_Mo hown hK hP hM.1.1 hM.1.2 rfl 0 (by decide) (hG _ k621) (fun _ h9 => h9) rfl d_Mo_go_103 ?_
          refine lv_topi (fun y_11 ey_11 => ?_)
          obtain rfl : y_11 = 1 := ey_11.trans (by simp [up2])
          refine lv_if_ne (tgt := 153) hx hb d_Mo_go_106 (by decide) (fun c_12 => ?_) (fun c_12 => ?_)
          · have hN : MW ct AM L (xMgo X Y p1 p2 p3) Y f := by
              (try simp only [xMgo, if_neg c_1, if_neg c_5, if_pos c_9, if_pos c_10, if_neg c_12])
              exact hM
            exact W.vret hx hb hret (fun t ht hW => ⟨⟨f, rfl, hN, by rw [ht]; exact hP, va_K.moved hW.alike hK, hD⟩, hS.F ht⟩) hS.2.2 d_Mo_go_153
          · exact absurd c_12 (by decide)
      · refine lv_iconst (v := 1) hx hb d_Mo_go_35 (by decide) ?_
        refine lv_goto (tgt := 40) hx hb d_Mo_go_36 (by decide) ?_
        refine lv_istore (lv' := [(4, .int 1), (0, .ref (AM 100)), (1, .int p1), (2, .int p2), (3, .int p3)]) hx hb d_Mo_go_40 hl (by decide) rfl (fun ls hl => ?_)
        refine lv_aload_n hx hb d_Mo_go_42 rfl (lv_at hl 1 rfl) ?_
        refine lv_iload hx hb d_Mo_go_43 (lv_at hl 0 rfl) ?_
        refine lv_if_ne (tgt := 52) hx hb d_Mo_go_45 (by decide) (fun c_13 => ?_) (fun c_13 => ?_)
        · refine lv_aload_n hx hb d_Mo_go_52 rfl (lv_at hl 1 rfl) ?_
          refine pg_get (C := "SmokeZonesModel") (T := T_Mo) (N := 47) hx hb hG in_Mo hown hK hP hM.1.1 hM.1.2 rfl 39 (by decide) (hG _ k660) (fun _ h9 => h9) rfl d_Mo_go_53 ?_
          refine lv_iload_n hx hb d_Mo_go_56 rfl (lv_at hl 2 rfl) ?_
          refine mw_iald hx hb hK hP hM (j := 39) rfl (by rw [er]; exact vp_in_nI (show r < 9 by omega) (by decide)) d_Mo_go_57 ?_
          refine lv_bipush (v := 20) hx hb d_Mo_go_58 (by decide) ?_
          refine lv_icmp_eq (tgt := 94) hx hb d_Mo_go_60 (by decide) (fun c_14 => ?_) (fun c_14 => ?_)
          · refine lv_iconst (v := 2) hx hb d_Mo_go_94 (by decide) ?_
            refine lv_goto (tgt := 99) hx hb d_Mo_go_95 (by decide) ?_
            refine pg_put (C := "SmokeZonesModel") (T := T_Mo) (N := 47) (ty := .int) hx hb hG in_Mo ty_Mo ok_Mo nm_Mo hown hK hP hD hS hM.1.1 hM.1.2 rfl 0 (by decide) (hG _ k621) (fun _ h9 => h9) rfl (by decide +kernel) rfl rfl (Nat.le_of_ble_eq_true rfl) d_Mo_go_99 (fun H locs hP hD hS => ?_)
            have hM := hM.putX (j := 0) (v := 2) rfl moF_0
            generalize va_up _ (AM 100) _ = f at hM hP hD
            refine lv_aload_n hx hb d_Mo_go_102 rfl (lv_at hl 1 rfl) ?_
            refine pg_get (C := "SmokeZonesModel") (T := T_Mo) (N := 47) hx hb hG in_Mo hown hK hP hM.1.1 hM.1.2 rfl 0 (by decide) (hG _ k621) (fun _ h9 => h9) rfl d_Mo_go_103 ?_
            refine lv_topi (fun y_15 ey_15 => ?_)
            obtain rfl : y_15 = 2 := ey_15.trans (by simp [up2])
            refine lv_if_ne (tgt := 153) hx hb d_Mo_go_106 (by decide) (fun c_16 => ?_) (fun c_16 => ?_)
            · have hN : MW ct AM L (xMgo X Y p1 p2 p3) Y f := by
                (try simp only [xMgo, if_neg c_1, if_neg c_5, if_neg c_9, if_neg c_13, if_pos c_14, if_neg c_16])
                exact hM
              exact W.vret hx hb hret (fun t ht hW => ⟨⟨f, rfl, hN, by rw [ht]; exact hP, va_K.moved hW.alike hK, hD⟩, hS.F ht⟩) hS.2.2 d_Mo_go_153
            · exact absurd c_16 (by decide)
          · have hc : cc < 20 := c20 h39 hc20 c_14
            refine lv_aload_n hx hb d_Mo_go_63 rfl (lv_at hl 1 rfl) ?_
            refine pg_get (C := "SmokeZonesModel") (T := T_Mo) (N := 47) hx hb hG in_Mo hown hK hP hM.1.1 hM.1.2 rfl 39 (by decide) (hG _ k660) (fun _ h9 => h9) rfl d_Mo_go_64 ?_
            refine lv_iload_n hx hb d_Mo_go_67 rfl (lv_at hl 2 rfl) ?_
            refine mw_iald hx hb hK hP hM (j := 39) rfl (by rw [er]; exact vp_in_nI (show r < 9 by omega) (by decide)) d_Mo_go_68 ?_
            refine lv_if_le (tgt := 98) hx hb d_Mo_go_69 (by decide) (fun c_17 => ?_) (fun c_17 => ?_)
            · refine lv_iconst (v := 0) hx hb d_Mo_go_98 (by decide) ?_
              refine pg_put (C := "SmokeZonesModel") (T := T_Mo) (N := 47) (ty := .int) hx hb hG in_Mo ty_Mo ok_Mo nm_Mo hown hK hP hD hS hM.1.1 hM.1.2 rfl 0 (by decide) (hG _ k621) (fun _ h9 => h9) rfl (by decide +kernel) rfl rfl (Nat.le_of_ble_eq_true rfl) d_Mo_go_99 (fun H locs hP hD hS => ?_)
              have hM := hM.putX (j := 0) (v := 0) rfl moF_0
              generalize va_up _ (AM 100) _ = f at hM hP hD
              refine lv_aload_n hx hb d_Mo_go_102 rfl (lv_at hl 1 rfl) ?_
              refine pg_get (C := "SmokeZonesModel") (T := T_Mo) (N := 47) hx hb hG in_Mo hown hK hP hM.1.1 hM.1.2 rfl 0 (by decide) (hG _ k621) (fun _ h9 => h9) rfl d_Mo_go_103 ?_
              refine lv_topi (fun y_18 ey_18 => ?_)
              obtain rfl : y_18 = 0 := ey_18.trans (by simp [up2])
              refine lv_if_ne (tgt := 153) hx hb d_Mo_go_106 (by decide) (fun c_19 => ?_) (fun c_19 => ?_)
              · exact absurd (by decide) c_19
              · refine lv_aload_n hx hb d_Mo_go_109 rfl (lv_at hl 1 rfl) ?_
                refine pg_get (C := "SmokeZonesModel") (T := T_Mo) (N := 47) hx hb hG in_Mo hown hK hP hM.1.1 hM.1.2 rfl 41 (by decide) (hG _ k662) (fun _ h9 => h9) rfl d_Mo_go_110 ?_
                refine lv_bipush (v := 20) hx hb d_Mo_go_113 (by decide) ?_
                refine lv_iload_n hx hb d_Mo_go_115 rfl (lv_at hl 2 rfl) ?_
                refine lv_imul hx hb d_Mo_go_116 ?_
                refine lv_aload_n hx hb d_Mo_go_117 rfl (lv_at hl 1 rfl) ?_
                refine pg_get (C := "SmokeZonesModel") (T := T_Mo) (N := 47) hx hb hG in_Mo hown hK hP hM.1.1 hM.1.2 rfl 39 (by decide) (hG _ k660) (fun _ h9 => h9) rfl d_Mo_go_118 ?_
                refine lv_iload_n hx hb d_Mo_go_121 rfl (lv_at hl 2 rfl) ?_
                refine mw_iald hx hb hK hP hM (j := 39) rfl (by rw [er]; exact vp_in_nI (show r < 9 by omega) (by decide)) d_Mo_go_122 ?_
                refine lv_topi (fun y_20 ey_20 => ?_)
                obtain rfl : y_20 = X 39 (Int32.toNatClampNeg p1) := ey_20.trans (by simp [up2])
                refine lv_iadd hx hb d_Mo_go_123 ?_
                refine lv_iload_n hx hb d_Mo_go_124 rfl (lv_at hl 3 rfl) ?_
                refine mw_iast hx hb hK hP hD hS hM (j := 41) rfl (gy_in er h39 (by omega) hc) d_Mo_go_125 (fun f H locs hM hP hD hS => ?_)
                refine lv_aload_n hx hb d_Mo_go_126 rfl (lv_at hl 1 rfl) ?_
                refine pg_get (C := "SmokeZonesModel") (T := T_Mo) (N := 47) hx hb hG in_Mo hown hK hP hM.1.1 hM.1.2 rfl 42 (by decide) (hG _ k663) (fun _ h9 => h9) rfl d_Mo_go_127 ?_
                refine lv_bipush (v := 20) hx hb d_Mo_go_130 (by decide) ?_
                refine lv_iload_n hx hb d_Mo_go_132 rfl (lv_at hl 2 rfl) ?_
                refine lv_imul hx hb d_Mo_go_133 ?_
                refine lv_aload_n hx hb d_Mo_go_134 rfl (lv_at hl 1 rfl) ?_
                refine pg_get (C := "SmokeZonesModel") (T := T_Mo) (N := 47) hx hb hG in_Mo hown hK hP hM.1.1 hM.1.2 rfl 39 (by decide) (hG _ k660) (fun _ h9 => h9) rfl d_Mo_go_135 ?_
                refine lv_iload_n hx hb d_Mo_go_138 rfl (lv_at hl 2 rfl) ?_
                refine mw_iald hx hb hK hP hM (j := 39) rfl (by rw [er]; exact vp_in_nI (show r < 9 by omega) (by decide)) d_Mo_go_139 ?_
                refine lv_topi (fun y_21 ey_21 => ?_)
                obtain rfl : y_21 = X 39 (Int32.toNatClampNeg p1) := ey_21.trans (by simp [up2])
                refine lv_iadd hx hb d_Mo_go_140 ?_
                refine lv_iload_n hx hb d_Mo_go_141 rfl (lv_at hl 4 rfl) ?_
                refine mw_iast hx hb hK hP hD hS hM (j := 42) rfl (gy_in er h39 (by omega) hc) d_Mo_go_142 (fun f H locs hM hP hD hS => ?_)
                refine lv_aload_n hx hb d_Mo_go_143 rfl (lv_at hl 1 rfl) ?_
                refine pg_get (C := "SmokeZonesModel") (T := T_Mo) (N := 47) hx hb hG in_Mo hown hK hP hM.1.1 hM.1.2 rfl 39 (by decide) (hG _ k660) (fun _ h9 => h9) rfl d_Mo_go_144 ?_
                refine lv_iload_n hx hb d_Mo_go_147 rfl (lv_at hl 2 rfl) ?_
                refine lv_dup2_11 hx hb d_Mo_go_148 rfl rfl ?_
                refine mw_iald hx hb hK hP hM (j := 39) rfl (by rw [er]; exact vp_in_nI (show r < 9 by omega) (by decide)) d_Mo_go_149 ?_
                refine lv_topi (fun y_22 ey_22 => ?_)
                obtain rfl : y_22 = X 39 (Int32.toNatClampNeg p1) := ey_22.trans (by simp [up2])
                refine lv_iconst (v := 1) hx hb d_Mo_go_150 (by decide) ?_
                refine lv_iadd hx hb d_Mo_go_151 ?_
                refine mw_iast hx hb hK hP hD hS hM (j := 39) rfl (by rw [er]; exact vp_in_nI (show r < 9 by omega) (by decide)) d_Mo_go_152 (fun f H locs hM hP hD hS => ?_)
                have hN : MW ct AM L (xMgo X Y p1 p2 p3) Y f := by
                  (try simp only [xMgo, if_neg c_1, if_neg c_5, if_neg c_9, if_neg c_13, if_neg c_14, if_pos c_17, if_pos c_19])
                  exact hM
                exact W.vret hx hb hret (fun t ht hW => ⟨⟨f, rfl, hN, by rw [ht]; exact hP, va_K.moved hW.alike hK, hD⟩, hS.F ht⟩) hS.2.2 d_Mo_go_153
            · refine lv_aload_n hx hb d_Mo_go_72 rfl (lv_at hl 1 rfl) ?_
              refine pg_get (C := "SmokeZonesModel") (T := T_Mo) (N := 47) hx hb hG in_Mo hown hK hP hM.1.1 hM.1.2 rfl 41 (by decide) (hG _ k662) (fun _ h9 => h9) rfl d_Mo_go_73 ?_
              refine lv_bipush (v := 20) hx hb d_Mo_go_76 (by decide) ?_
              refine lv_iload_n hx hb d_Mo_go_78 rfl (lv_at hl 2 rfl) ?_
              refine lv_imul hx hb d_Mo_go_79 ?_
              refine lv_aload_n hx hb d_Mo_go_80 rfl (lv_at hl 1 rfl) ?_
              refine pg_get (C := "SmokeZonesModel") (T := T_Mo) (N := 47) hx hb hG in_Mo hown hK hP hM.1.1 hM.1.2 rfl 39 (by decide) (hG _ k660) (fun _ h9 => h9) rfl d_Mo_go_81 ?_
              refine lv_iload_n hx hb d_Mo_go_84 rfl (lv_at hl 2 rfl) ?_
              refine mw_iald hx hb hK hP hM (j := 39) rfl (by rw [er]; exact vp_in_nI (show r < 9 by omega) (by decide)) d_Mo_go_85 ?_
              refine lv_iadd hx hb d_Mo_go_86 ?_
              refine lv_iconst (v := 1) hx hb d_Mo_go_87 (by decide) ?_
              refine lv_isub hx hb d_Mo_go_88 ?_
              refine mw_iald hx hb hK hP hM (j := 41) rfl (gz_in er h39 (by omega) hc20 c_17) d_Mo_go_89 ?_
              refine lv_iload_n hx hb d_Mo_go_90 rfl (lv_at hl 3 rfl) ?_
              refine lv_icmp_lt (tgt := 98) hx hb d_Mo_go_91 (by decide) (fun c_23 => ?_) (fun c_23 => ?_)
              · refine lv_iconst (v := 0) hx hb d_Mo_go_98 (by decide) ?_
                refine pg_put (C := "SmokeZonesModel") (T := T_Mo) (N := 47) (ty := .int) hx hb hG in_Mo ty_Mo ok_Mo nm_Mo hown hK hP hD hS hM.1.1 hM.1.2 rfl 0 (by decide) (hG _ k621) (fun _ h9 => h9) rfl (by decide +kernel) rfl rfl (Nat.le_of_ble_eq_true rfl) d_Mo_go_99 (fun H locs hP hD hS => ?_)
                have hM := hM.putX (j := 0) (v := 0) rfl moF_0
                generalize va_up _ (AM 100) _ = f at hM hP hD
                refine lv_aload_n hx hb d_Mo_go_102 rfl (lv_at hl 1 rfl) ?_
                refine pg_get (C := "SmokeZonesModel") (T := T_Mo) (N := 47) hx hb hG in_Mo hown hK hP hM.1.1 hM.1.2 rfl 0 (by decide) (hG _ k621) (fun _ h9 => h9) rfl d_Mo_go_103 ?_
                refine lv_topi (fun y_24 ey_24 => ?_)
                obtain rfl : y_24 = 0 := ey_24.trans (by simp [up2])
                refine lv_if_ne (tgt := 153) hx hb d_Mo_go_106 (by decide) (fun c_25 => ?_) (fun c_25 => ?_)
                · exact absurd (by decide) c_25
                · refine lv_aload_n hx hb d_Mo_go_109 rfl (lv_at hl 1 rfl) ?_
                  refine pg_get (C := "SmokeZonesModel") (T := T_Mo) (N := 47) hx hb hG in_Mo hown hK hP hM.1.1 hM.1.2 rfl 41 (by decide) (hG _ k662) (fun _ h9 => h9) rfl d_Mo_go_110 ?_
                  refine lv_bipush (v := 20) hx hb d_Mo_go_113 (by decide) ?_
                  refine lv_iload_n hx hb d_Mo_go_115 rfl (lv_at hl 2 rfl) ?_
                  refine lv_imul hx hb d_Mo_go_116 ?_
                  refine lv_aload_n hx hb d_Mo_go_117 rfl (lv_at hl 1 rfl) ?_
                  refine pg_get (C := "SmokeZonesModel") (T := T_Mo) (N := 47) hx hb hG in_Mo hown hK hP hM.1.1 hM.1.2 rfl 39 (by decide) (hG _ k660) (fun _ h9 => h9) rfl d_Mo_go_118 ?_
                  refine lv_iload_n hx hb d_Mo_go_121 rfl (lv_at hl 2 rfl) ?_
                  refine mw_iald hx hb hK hP hM (j := 39) rfl (by rw [er]; exact vp_in_nI (show r < 9 by omega) (by decide)) d_Mo_go_122 ?_
                  refine lv_topi (fun y_26 ey_26 => ?_)
                  obtain rfl : y_26 = X 39 (Int32.toNatClampNeg p1) := ey_26.trans (by simp [up2])
                  refine lv_iadd hx hb d_Mo_go_123 ?_
                  refine lv_iload_n hx hb d_Mo_go_124 rfl (lv_at hl 3 rfl) ?_
                  refine mw_iast hx hb hK hP hD hS hM (j := 41) rfl (gy_in er h39 (by omega) hc) d_Mo_go_125 (fun f H locs hM hP hD hS => ?_)
                  refine lv_aload_n hx hb d_Mo_go_126 rfl (lv_at hl 1 rfl) ?_
                  refine pg_get (C := "SmokeZonesModel") (T := T_Mo) (N := 47) hx hb hG in_Mo hown hK hP hM.1.1 hM.1.2 rfl 42 (by decide) (hG _ k663) (fun _ h9 => h9) rfl d_Mo_go_127 ?_
                  refine lv_bipush (v := 20) hx hb d_Mo_go_130 (by decide) ?_
                  refine lv_iload_n hx hb d_Mo_go_132 rfl (lv_at hl 2 rfl) ?_
                  refine lv_imul hx hb d_Mo_go_133 ?_
                  refine lv_aload_n hx hb d_Mo_go_134 rfl (lv_at hl 1 rfl) ?_
                  refine pg_get (C := "SmokeZonesModel") (T := T_Mo) (N := 47) hx hb hG in_Mo hown hK hP hM.1.1 hM.1.2 rfl 39 (by decide) (hG _ k660) (fun _ h9 => h9) rfl d_Mo_go_135 ?_
                  refine lv_iload_n hx hb d_Mo_go_138 rfl (lv_at hl 2 rfl) ?_
                  refine mw_iald hx hb hK hP hM (j := 39) rfl (by rw [er]; exact vp_in_nI (show r < 9 by omega) (by decide)) d_Mo_go_139 ?_
                  refine lv_topi (fun y_27 ey_27 => ?_)
                  obtain rfl : y_27 = X 39 (Int32.toNatClampNeg p1) := ey_27.trans (by simp [up2])
                  refine lv_iadd hx hb d_Mo_go_140 ?_
                  refine lv_iload_n hx hb d_Mo_go_141 rfl (lv_at hl 4 rfl) ?_
                  refine mw_iast hx hb hK hP hD hS hM (j := 42) rfl (gy_in er h39 (by omega) hc) d_Mo_go_142 (fun f H locs hM hP hD hS => ?_)
                  refine lv_aload_n hx hb d_Mo_go_143 rfl (lv_at hl 1 rfl) ?_
                  refine pg_get (C := "SmokeZonesModel") (T := T_Mo) (N := 47) hx hb hG in_Mo hown hK hP hM.1.1 hM.1.2 rfl 39 (by decide) (hG _ k660) (fun _ h9 => h9) rfl d_Mo_go_144 ?_
                  refine lv_iload_n hx hb d_Mo_go_147 rfl (lv_at hl 2 rfl) ?_
                  refine lv_dup2_11 hx hb d_Mo_go_148 rfl rfl ?_
                  refine mw_iald hx hb hK hP hM (j := 39) rfl (by rw [er]; exact vp_in_nI (show r < 9 by omega) (by decide)) d_Mo_go_149 ?_
                  refine lv_topi (fun y_28 ey_28 => ?_)
                  obtain rfl : y_28 = X 39 (Int32.toNatClampNeg p1) := ey_28.trans (by simp [up2])
                  refine lv_iconst (v := 1) hx hb d_Mo_go_150 (by decide) ?_
                  refine lv_iadd hx hb d_Mo_go_151 ?_
                  refine mw_iast hx hb hK hP hD hS hM (j := 39) rfl (by rw [er]; exact vp_in_nI (show r < 9 by omega) (by decide)) d_Mo_go_152 (fun f H locs hM hP hD hS => ?_)
                  have hN : MW ct AM L (xMgo X Y p1 p2 p3) Y f := by
                    (try simp only [xMgo, if_neg c_1, if_neg c_5, if_neg c_9, if_neg c_13, if_neg c_14, if_neg c_17, if_pos c_23, if_pos c_25])
                    exact hM
                  exact W.vret hx hb hret (fun t ht hW => ⟨⟨f, rfl, hN, by rw [ht]; exact hP, va_K.moved hW.alike hK, hD⟩, hS.F ht⟩) hS.2.2 d_Mo_go_153
              · refine lv_iconst (v := 2) hx hb d_Mo_go_94 (by decide) ?_
                refine lv_goto (tgt := 99) hx hb d_Mo_go_95 (by decide) ?_
                refine pg_put (C := "SmokeZonesModel") (T := T_Mo) (N := 47) (ty := .int) hx hb hG in_Mo ty_Mo ok_Mo nm_Mo hown hK hP hD hS hM.1.1 hM.1.2 rfl 0 (by decide) (hG _ k621) (fun _ h9 => h9) rfl (by decide +kernel) rfl rfl (Nat.le_of_ble_eq_true rfl) d_Mo_go_99 (fun H locs hP hD hS => ?_)
                have hM := hM.putX (j := 0) (v := 2) rfl moF_0
                generalize va_up _ (AM 100) _ = f at hM hP hD
                refine lv_aload_n hx hb d_Mo_go_102 rfl (lv_at hl 1 rfl) ?_
                refine pg_get (C := "SmokeZonesModel") (T := T_Mo) (N := 47) hx hb hG in_Mo hown hK hP hM.1.1 hM.1.2 rfl 0 (by decide) (hG _ k621) (fun _ h9 => h9) rfl d_Mo_go_103 ?_
                refine lv_topi (fun y_29 ey_29 => ?_)
                obtain rfl : y_29 = 2 := ey_29.trans (by simp [up2])
                refine lv_if_ne (tgt := 153) hx hb d_Mo_go_106 (by decide) (fun c_30 => ?_) (fun c_30 => ?_)
                · have hN : MW ct AM L (xMgo X Y p1 p2 p3) Y f := by
                    (try simp only [xMgo, if_neg c_1, if_neg c_5, if_neg c_9, if_neg c_13, if_neg c_14, if_neg c_17, if_neg c_23, if_neg c_30])
                    exact hM
                  exact W.vret hx hb hret (fun t ht hW => ⟨⟨f, rfl, hN, by rw [ht]; exact hP, va_K.moved hW.alike hK, hD⟩, hS.F ht⟩) hS.2.2 d_Mo_go_153
                · exact absurd c_30 (by decide)
        · exact absurd c_13 (by decide)

theorem in_of6 {p : Int32} (c : ¬ m_in p 0 6 = 0) : ∃ r, r < 7 ∧ p = nI r := by
  unfold m_in at c
  split at c
  · exact absurd rfl c
  · rename_i h1
    split at c
    · exact absurd rfl c
    · rename_i h2
      exact btw_of (k := 6) (by decide) ⟨Int32.not_lt.mp h1, Int32.not_lt.mp h2⟩

def vMroomAt (X : I2) (Y : J2) (p1 p2 : Int32) : Int64 := (if (m_in p1 0 ((X 2 0) - 1)) = 0 then 0 else (if (m_in p2 0 6) = 0 then 0 else (if p2 = 0 then Y 5 (Int32.toNatClampNeg p1) else (if p2 = 1 then Y 6 (Int32.toNatClampNeg p1) else (if p2 = 2 then (Y 5 (Int32.toNatClampNeg p1)) / (Int32.toInt64 (X 3 (Int32.toNatClampNeg p1))) else (if p2 = 3 then mo_wa Y (Int32.toNatClampNeg p1) else (if p2 = 4 then mo_cl X Y (Int32.toNatClampNeg p1) else (if p2 = 5 then (if (X 8 (Int32.toNatClampNeg p1)) = 0 then 0 else 1) else Int32.toInt64 (X 9 (Int32.toNatClampNeg p1))))))))))
def xMroomAt (X : I2) (Y : J2) (p1 p2 : Int32) : I2 := (if (m_in p1 0 ((X 2 0) - 1)) = 0 then up2 X 0 0 1 else (if (m_in p2 0 6) = 0 then up2 X 0 0 1 else up2 X 0 0 0))
set_option maxHeartbeats 4000000 in
set_option maxRecDepth 100000 in
theorem c_Mo_roomAt {l : Launch} {D : va_G} {ct : Nat → ClassId} {AM : Nat → Nat} {L : List Nat} {f : Nat → va_E} {X : I2} {Y : J2} {sz : Nat} {p1 p2 : Int32} {n0 : Nat} (hM : MW ct AM L X Y f) (h2 : X 2 0 = nI n0) (hc2 : n0 ≤ 10) (ha : ∀ r, r < n0 → ¬ Int32.toInt64 (X 3 r) = 0) : Met l y_Mo_roomAt (WS y_Mo_roomAt b_Mo_roomAt 3 (some .long)) { frames := 2, cells := 0, slots := 0, locals := 43 } (va_Pc [.ref (AM 100), .int p1, .int p2] (WP D (TYS ct) L f sz)) (va_Ql (fun (r : Int64) f' => r = vMroomAt X Y p1 p2 ∧ MW ct AM L (xMroomAt X Y p1 p2) Y f') (fun f' t => WQ D (TYS ct) L f' (AA L f sz) t) (AA L f sz)) 0 0 (AA L f sz) := by
  refine Met.ofW (cc := b_Mo_roomAt) (maxL := 3) (ret := (some .long)) (by decide) rfl ?_
  intro p e s m args below meth c s₁ B hml hv
  obtain ⟨rfl, hsz, hP, hK, hD0⟩ := hv
  subst hsz
  have hx := B.exec
  have hb := B.bytes
  have hret := B.returns
  have hts := atoms_spec (ws := WS y_Mo_roomAt b_Mo_roomAt 3 (some .long)) B.pre
  have hG : ∀ w ∈ GW, w.before _ s = true := fun w h => hts w (List.mem_cons_of_mem _ h)
  have hown : s.vm.findClass "SmokeZonesModel" = some m.cls := findClass_of_methodNamed B.named
  have hlocks := B.notSynchronized
  have hD : va_D (AA L f s.heap.size) (va_pl L f) := hD0.self (sz := s.heap.size)
  generalize hAe : AA L f s.heap.size = A at hD ⊢
  have hA : ∀ q : Nat, s.heap.size ≤ q → A q := fun q h => by rw [← hAe]; exact Or.inr h
  have hS : va_S A s.heap s.heap [] := va_S.rf
  have hl := lv_entry ([.ref (AM 100), .int p1, .int p2]) (n := 3) (Nat.le_of_ble_eq_true rfl)
  rw [lg_entry_eq]
  generalize (lg_sl ([.ref (AM 100), .int p1, .int p2]) ++ List.replicate (3 - (lg_sl ([.ref (AM 100), .int p1, .int p2])).length) Slot.unset).toArray = ls at hl ⊢
  have hl : lv_has ls 3 [(0, .ref (AM 100)), (1, .int p1), (2, .int p2)] := hl
  refine lv_aload_n hx hb d_Mo_roomAt_0 rfl (lv_at hl 0 rfl) ?_
  refine lv_aload_n hx hb d_Mo_roomAt_1 rfl (lv_at hl 0 rfl) ?_
  refine lv_iload_n hx hb d_Mo_roomAt_2 rfl (lv_at hl 1 rfl) ?_
  refine kV_ri ⟨hx, hb, hml, hown, hG⟩ (c_Mo_isRoom hM) (cwV 1 hG (gV k780 k782 ks_Mo_isRoom k2 k783) rfl rfl rfl hd_Mo_isRoom ⟨Nat.le_of_ble_eq_true rfl, Nat.le_of_ble_eq_true rfl⟩) hK hP hS hM.1.1 hM.1.2 rfl rfl hl.1 rfl (Nat.le_of_ble_eq_true rfl) ⟨Nat.le_of_ble_eq_true rfl, Nat.le_of_ble_eq_true rfl⟩ d_Mo_roomAt_3 (fun locs hS => ?_)
  refine lv_topi (fun y_1 ey_1 => ?_)
  obtain rfl : y_1 = m_in p1 0 ((X 2 0) - 1) := ey_1.trans (by simp [up2, mo_cv, mo_fr, mo_cl, mo_wa, mo_hot, mo_ro])
  refine lv_if_eq (tgt := 23) hx hb d_Mo_roomAt_6 (by decide) (fun c_2 => ?_) (fun c_2 => ?_)
  · refine lv_iconst (v := 1) hx hb d_Mo_roomAt_23 (by decide) ?_
    refine pg_put (C := "SmokeZonesModel") (T := T_Mo) (N := 47) (ty := .int) hx hb hG in_Mo ty_Mo ok_Mo nm_Mo hown hK hP hD hS hM.1.1 hM.1.2 rfl 0 (by decide) (hG _ k621) (fun _ h9 => h9) rfl (by decide +kernel) rfl rfl (Nat.le_of_ble_eq_true rfl) d_Mo_roomAt_24 (fun H locs hP hD hS => ?_)
    have hM := hM.putX (j := 0) (v := 1) rfl moF_0
    generalize va_up _ (AM 100) _ = f at hM hP hD
    refine lv_aload_n hx hb d_Mo_roomAt_27 rfl (lv_at hl 0 rfl) ?_
    refine pg_get (C := "SmokeZonesModel") (T := T_Mo) (N := 47) hx hb hG in_Mo hown hK hP hM.1.1 hM.1.2 rfl 0 (by decide) (hG _ k621) (fun _ h9 => h9) rfl d_Mo_roomAt_28 ?_
    refine lv_topi (fun y_3 ey_3 => ?_)
    obtain rfl : y_3 = 1 := ey_3.trans (by simp [up2])
    refine lv_if_le (tgt := 36) hx hb d_Mo_roomAt_31 (by decide) (fun c_4 => ?_) (fun c_4 => ?_)
    · exact absurd c_4 (by decide)
    · refine lv_lconst (v := 0) hx hb d_Mo_roomAt_34 (by decide) ?_
      have hN : MW ct AM L (xMroomAt X Y p1 p2) Y f := by
        (try simp only [vMroomAt, xMroomAt, if_pos c_2, if_neg c_4])
        exact hM
      exact W.lret hx hb hret (fun t ht hW => ⟨⟨_, f, rfl, ⟨(by simp only [vMroomAt, xMroomAt, if_pos c_2, if_neg c_4]), hN⟩, by rw [ht]; exact hP, va_K.moved hW.alike hK, hD⟩, hS.F ht⟩) hS.2.2 d_Mo_roomAt_35
  · obtain ⟨r, hr, er⟩ := in_of c_2 h2 (by omega)
    have hcl : Int32.toNatClampNeg p1 = r := by rw [er]; exact nI_clamp (by omega)
    have ha_r : ¬ Int32.toInt64 (X 3 r) = 0 := ha r hr
    refine lv_iload_n hx hb d_Mo_roomAt_9 rfl (lv_at hl 2 rfl) ?_
    refine lv_iconst (v := 0) hx hb d_Mo_roomAt_10 (by decide) ?_
    refine lv_bipush (v := 6) hx hb d_Mo_roomAt_11 (by decide) ?_
    refine kS_ri ⟨hx, hb, hml, hown, hG⟩ (c_Mo_in ) (cwS 3 hG (gS k773 k774 k2 k775) rfl rfl rfl hd_Mo_in ⟨Nat.le_of_ble_eq_true rfl, Nat.le_of_ble_eq_true rfl⟩) hK hP hS rfl hl.1 rfl (Nat.le_of_ble_eq_true rfl) ⟨Nat.le_of_ble_eq_true rfl, Nat.le_of_ble_eq_true rfl⟩ d_Mo_roomAt_13 (fun locs hS => ?_)
    refine lv_if_eq (tgt := 23) hx hb d_Mo_roomAt_16 (by decide) (fun c_5 => ?_) (fun c_5 => ?_)
    · refine lv_iconst (v := 1) hx hb d_Mo_roomAt_23 (by decide) ?_
      refine pg_put (C := "SmokeZonesModel") (T := T_Mo) (N := 47) (ty := .int) hx hb hG in_Mo ty_Mo ok_Mo nm_Mo hown hK hP hD hS hM.1.1 hM.1.2 rfl 0 (by decide) (hG _ k621) (fun _ h9 => h9) rfl (by decide +kernel) rfl rfl (Nat.le_of_ble_eq_true rfl) d_Mo_roomAt_24 (fun H locs hP hD hS => ?_)
      have hM := hM.putX (j := 0) (v := 1) rfl moF_0
      generalize va_up _ (AM 100) _ = f at hM hP hD
      refine lv_aload_n hx hb d_Mo_roomAt_27 rfl (lv_at hl 0 rfl) ?_
      refine pg_get (C := "SmokeZonesModel") (T := T_Mo) (N := 47) hx hb hG in_Mo hown hK hP hM.1.1 hM.1.2 rfl 0 (by decide) (hG _ k621) (fun _ h9 => h9) rfl d_Mo_roomAt_28 ?_
      refine lv_topi (fun y_6 ey_6 => ?_)
      obtain rfl : y_6 = 1 := ey_6.trans (by simp [up2])
      refine lv_if_le (tgt := 36) hx hb d_Mo_roomAt_31 (by decide) (fun c_7 => ?_) (fun c_7 => ?_)
      · exact absurd c_7 (by decide)
      · refine lv_lconst (v := 0) hx hb d_Mo_roomAt_34 (by decide) ?_
        have hN : MW ct AM L (xMroomAt X Y p1 p2) Y f := by
          (try simp only [vMroomAt, xMroomAt, if_neg c_2, if_pos c_5, if_neg c_7])
          exact hM
        exact W.lret hx hb hret (fun t ht hW => ⟨⟨_, f, rfl, ⟨(by simp only [vMroomAt, xMroomAt, if_neg c_2, if_pos c_5, if_neg c_7]), hN⟩, by rw [ht]; exact hP, va_K.moved hW.alike hK, hD⟩, hS.F ht⟩) hS.2.2 d_Mo_roomAt_35
    · refine lv_iconst (v := 0) hx hb d_Mo_roomAt_19 (by decide) ?_
      refine lv_goto (tgt := 24) hx hb d_Mo_roomAt_20 (by decide) ?_
      refine pg_put (C := "SmokeZonesModel") (T := T_Mo) (N := 47) (ty := .int) hx hb hG in_Mo ty_Mo ok_Mo nm_Mo hown hK hP hD hS hM.1.1 hM.1.2 rfl 0 (by decide) (hG _ k621) (fun _ h9 => h9) rfl (by decide +kernel) rfl rfl (Nat.le_of_ble_eq_true rfl) d_Mo_roomAt_24 (fun H locs hP hD hS => ?_)
      have hM := hM.putX (j := 0) (v := 0) rfl moF_0
      generalize va_up _ (AM 100) _ = f at hM hP hD
      refine lv_aload_n hx hb d_Mo_roomAt_27 rfl (lv_at hl 0 rfl) ?_
      refine pg_get (C := "SmokeZonesModel") (T := T_Mo) (N := 47) hx hb hG in_Mo hown hK hP hM.1.1 hM.1.2 rfl 0 (by decide) (hG _ k621) (fun _ h9 => h9) rfl d_Mo_roomAt_28 ?_
      refine lv_topi (fun y_8 ey_8 => ?_)
      obtain rfl : y_8 = 0 := ey_8.trans (by simp [up2])
      refine lv_if_le (tgt := 36) hx hb d_Mo_roomAt_31 (by decide) (fun c_9 => ?_) (fun c_9 => ?_)
      · refine lv_iload_n hx hb d_Mo_roomAt_36 rfl (lv_at hl 2 rfl) ?_
        obtain ⟨w, hw, ew⟩ := in_of6 c_5
        rcases lt7 hw with q | q | q | q | q | q | q
        · subst q
          have ew : p2 = 0 := ew
          refine lv_tableIn (off := 39) (tgt := 76) hx hb d_Mo_roomAt_37 (by rw [ew]; decide) (by rw [ew]; decide) (by rw [ew]; decide) (by decide) ?_
          refine lv_aload_n hx hb d_Mo_roomAt_76 rfl (lv_at hl 0 rfl) ?_
          refine pg_get (C := "SmokeZonesModel") (T := T_Mo) (N := 47) hx hb hG in_Mo hown hK hP hM.1.1 hM.1.2 rfl 5 (by decide) (hG _ k626) (fun _ h9 => h9) rfl d_Mo_roomAt_77 ?_
          refine lv_iload_n hx hb d_Mo_roomAt_80 rfl (lv_at hl 1 rfl) ?_
          refine mw_lald hx hb hK hP hM (j := 5) rfl (by rw [er]; exact vp_in_nI (show r < 10 by omega) (by decide)) d_Mo_roomAt_81 ?_
          have hN : MW ct AM L (xMroomAt X Y p1 p2) Y f := by
            (try simp only [vMroomAt, xMroomAt, if_neg c_2, if_neg c_5, if_pos c_9, if_pos ew])
            exact hM
          exact W.lret hx hb hret (fun t ht hW => ⟨⟨_, f, rfl, ⟨(by simp only [vMroomAt, xMroomAt, if_neg c_2, if_neg c_5, if_pos c_9, if_pos ew]), hN⟩, by rw [ht]; exact hP, va_K.moved hW.alike hK, hD⟩, hS.F ht⟩) hS.2.2 d_Mo_roomAt_82
        · subst q
          have ew : p2 = 1 := ew
          have s0 : ¬ p2 = 0 := by rw [ew]; decide
          refine lv_tableIn (off := 46) (tgt := 83) hx hb d_Mo_roomAt_37 (by rw [ew]; decide) (by rw [ew]; decide) (by rw [ew]; decide) (by decide) ?_
          refine lv_aload_n hx hb d_Mo_roomAt_83 rfl (lv_at hl 0 rfl) ?_
          refine pg_get (C := "SmokeZonesModel") (T := T_Mo) (N := 47) hx hb hG in_Mo hown hK hP hM.1.1 hM.1.2 rfl 6 (by decide) (hG _ k627) (fun _ h9 => h9) rfl d_Mo_roomAt_84 ?_
          refine lv_iload_n hx hb d_Mo_roomAt_87 rfl (lv_at hl 1 rfl) ?_
          refine mw_lald hx hb hK hP hM (j := 6) rfl (by rw [er]; exact vp_in_nI (show r < 10 by omega) (by decide)) d_Mo_roomAt_88 ?_
          have hN : MW ct AM L (xMroomAt X Y p1 p2) Y f := by
            (try simp only [vMroomAt, xMroomAt, if_neg c_2, if_neg c_5, if_pos c_9, if_neg s0, if_pos ew])
            exact hM
          exact W.lret hx hb hret (fun t ht hW => ⟨⟨_, f, rfl, ⟨(by simp only [vMroomAt, xMroomAt, if_neg c_2, if_neg c_5, if_pos c_9, if_neg s0, if_pos ew]), hN⟩, by rw [ht]; exact hP, va_K.moved hW.alike hK, hD⟩, hS.F ht⟩) hS.2.2 d_Mo_roomAt_89
        · subst q
          have ew : p2 = 2 := ew
          have s0 : ¬ p2 = 0 := by rw [ew]; decide
          have s1 : ¬ p2 = 1 := by rw [ew]; decide
          refine lv_tableIn (off := 53) (tgt := 90) hx hb d_Mo_roomAt_37 (by rw [ew]; decide) (by rw [ew]; decide) (by rw [ew]; decide) (by decide) ?_
          refine lv_aload_n hx hb d_Mo_roomAt_90 rfl (lv_at hl 0 rfl) ?_
          refine pg_get (C := "SmokeZonesModel") (T := T_Mo) (N := 47) hx hb hG in_Mo hown hK hP hM.1.1 hM.1.2 rfl 5 (by decide) (hG _ k626) (fun _ h9 => h9) rfl d_Mo_roomAt_91 ?_
          refine lv_iload_n hx hb d_Mo_roomAt_94 rfl (lv_at hl 1 rfl) ?_
          refine mw_lald hx hb hK hP hM (j := 5) rfl (by rw [er]; exact vp_in_nI (show r < 10 by omega) (by decide)) d_Mo_roomAt_95 ?_
          refine lv_aload_n hx hb d_Mo_roomAt_96 rfl (lv_at hl 0 rfl) ?_
          refine pg_get (C := "SmokeZonesModel") (T := T_Mo) (N := 47) hx hb hG in_Mo hown hK hP hM.1.1 hM.1.2 rfl 3 (by decide) (hG _ k624) (fun _ h9 => h9) rfl d_Mo_roomAt_97 ?_
          refine lv_iload_n hx hb d_Mo_roomAt_100 rfl (lv_at hl 1 rfl) ?_
          refine mw_iald hx hb hK hP hM (j := 3) rfl (by rw [er]; exact vp_in_nI (show r < 10 by omega) (by decide)) d_Mo_roomAt_101 ?_
          refine lv_topi (fun y_10 ey_10 => ?_)
          obtain rfl : y_10 = X 3 (Int32.toNatClampNeg p1) := ey_10.trans (by simp [up2])
          refine lv_i2l hx hb d_Mo_roomAt_102 rfl ?_
          refine lv_ldiv hx hb d_Mo_roomAt_103 (by rw [hcl]; exact ha_r) ?_
          have hN : MW ct AM L (xMroomAt X Y p1 p2) Y f := by
            (try simp only [vMroomAt, xMroomAt, if_neg c_2, if_neg c_5, if_pos c_9, if_neg s0, if_neg s1, if_pos ew])
            exact hM
          exact W.lret hx hb hret (fun t ht hW => ⟨⟨_, f, rfl, ⟨(by simp only [vMroomAt, xMroomAt, if_neg c_2, if_neg c_5, if_pos c_9, if_neg s0, if_neg s1, if_pos ew]), hN⟩, by rw [ht]; exact hP, va_K.moved hW.alike hK, hD⟩, hS.F ht⟩) hS.2.2 d_Mo_roomAt_104
        · subst q
          have ew : p2 = 3 := ew
          have s0 : ¬ p2 = 0 := by rw [ew]; decide
          have s1 : ¬ p2 = 1 := by rw [ew]; decide
          have s2 : ¬ p2 = 2 := by rw [ew]; decide
          refine lv_tableIn (off := 68) (tgt := 105) hx hb d_Mo_roomAt_37 (by rw [ew]; decide) (by rw [ew]; decide) (by rw [ew]; decide) (by decide) ?_
          refine lv_aload_n hx hb d_Mo_roomAt_105 rfl (lv_at hl 0 rfl) ?_
          refine lv_iload_n hx hb d_Mo_roomAt_106 rfl (lv_at hl 1 rfl) ?_
          refine kV_rl ⟨hx, hb, hml, hown, hG⟩ (c_Mo_warmth_e hM (r := r) (by omega) er) (cwV 1 hG (gV k856 k858 ks_Mo_warmth k2 k859) rfl rfl rfl hd_Mo_warmth ⟨Nat.le_of_ble_eq_true rfl, Nat.le_of_ble_eq_true rfl⟩) hK hP hS hM.1.1 hM.1.2 rfl rfl hl.1 rfl (Nat.le_of_ble_eq_true rfl) ⟨Nat.le_of_ble_eq_true rfl, Nat.le_of_ble_eq_true rfl⟩ d_Mo_roomAt_107 (fun locs hS => ?_)
          have hN : MW ct AM L (xMroomAt X Y p1 p2) Y f := by
            (try simp only [vMroomAt, xMroomAt, if_neg c_2, if_neg c_5, if_pos c_9, if_neg s0, if_neg s1, if_neg s2, if_pos ew])
            exact hM
          exact W.lret hx hb hret (fun t ht hW => ⟨⟨_, f, rfl, ⟨(by simp only [vMroomAt, xMroomAt, if_neg c_2, if_neg c_5, if_pos c_9, if_neg s0, if_neg s1, if_neg s2, if_pos ew]), hN⟩, by rw [ht]; exact hP, va_K.moved hW.alike hK, hD⟩, hS.F ht⟩) hS.2.2 d_Mo_roomAt_110
        · subst q
          have ew : p2 = 4 := ew
          have s0 : ¬ p2 = 0 := by rw [ew]; decide
          have s1 : ¬ p2 = 1 := by rw [ew]; decide
          have s2 : ¬ p2 = 2 := by rw [ew]; decide
          have s3 : ¬ p2 = 3 := by rw [ew]; decide
          refine lv_tableIn (off := 74) (tgt := 111) hx hb d_Mo_roomAt_37 (by rw [ew]; decide) (by rw [ew]; decide) (by rw [ew]; decide) (by decide) ?_
          refine lv_aload_n hx hb d_Mo_roomAt_111 rfl (lv_at hl 0 rfl) ?_
          refine lv_iload_n hx hb d_Mo_roomAt_112 rfl (lv_at hl 1 rfl) ?_
          refine kV_rl ⟨hx, hb, hml, hown, hG⟩ (c_Mo_clearTo_e hM (r := r) (by omega) (by simpa [up2] using ha_r) er) (cwV 1 hG (gV k834 k836 ks_Mo_clearTo k2 k837) rfl rfl rfl hd_Mo_clearTo ⟨Nat.le_of_ble_eq_true rfl, Nat.le_of_ble_eq_true rfl⟩) hK hP hS hM.1.1 hM.1.2 rfl rfl hl.1 rfl (Nat.le_of_ble_eq_true rfl) ⟨Nat.le_of_ble_eq_true rfl, Nat.le_of_ble_eq_true rfl⟩ d_Mo_roomAt_113 (fun locs hS => ?_)
          refine lv_topl (fun y_11 ey_11 => ?_)
          obtain rfl : y_11 = mo_cl X Y (Int32.toNatClampNeg p1) := ey_11.trans (by simp [up2, mo_cv, mo_fr, mo_cl, mo_wa, mo_hot, mo_ro])
          have hN : MW ct AM L (xMroomAt X Y p1 p2) Y f := by
            (try simp only [vMroomAt, xMroomAt, if_neg c_2, if_neg c_5, if_pos c_9, if_neg s0, if_neg s1, if_neg s2, if_neg s3, if_pos ew])
            exact hM
          exact W.lret hx hb hret (fun t ht hW => ⟨⟨_, f, rfl, ⟨(by simp only [vMroomAt, xMroomAt, if_neg c_2, if_neg c_5, if_pos c_9, if_neg s0, if_neg s1, if_neg s2, if_neg s3, if_pos ew]), hN⟩, by rw [ht]; exact hP, va_K.moved hW.alike hK, hD⟩, hS.F ht⟩) hS.2.2 d_Mo_roomAt_116
        · subst q
          have ew : p2 = 5 := ew
          have s0 : ¬ p2 = 0 := by rw [ew]; decide
          have s1 : ¬ p2 = 1 := by rw [ew]; decide
          have s2 : ¬ p2 = 2 := by rw [ew]; decide
          have s3 : ¬ p2 = 3 := by rw [ew]; decide
          have s4 : ¬ p2 = 4 := by rw [ew]; decide
          refine lv_tableIn (off := 80) (tgt := 117) hx hb d_Mo_roomAt_37 (by rw [ew]; decide) (by rw [ew]; decide) (by rw [ew]; decide) (by decide) ?_
          refine lv_aload_n hx hb d_Mo_roomAt_117 rfl (lv_at hl 0 rfl) ?_
          refine pg_get (C := "SmokeZonesModel") (T := T_Mo) (N := 47) hx hb hG in_Mo hown hK hP hM.1.1 hM.1.2 rfl 8 (by decide) (hG _ k629) (fun _ h9 => h9) rfl d_Mo_roomAt_118 ?_
          refine lv_iload_n hx hb d_Mo_roomAt_121 rfl (lv_at hl 1 rfl) ?_
          refine mw_zald hx hb hK hP hM (j := 8) rfl (by rw [er]; exact vp_in_nI (show r < 10 by omega) (by decide)) d_Mo_roomAt_122 ?_
          refine lv_topi (fun y_12 ey_12 => ?_)
          obtain rfl : y_12 = X 8 (Int32.toNatClampNeg p1) := ey_12.trans (by simp [up2])
          refine lv_if_eq (tgt := 130) hx hb d_Mo_roomAt_123 (by decide) (fun c_13 => ?_) (fun c_13 => ?_)
          · refine lv_lconst (v := 0) hx hb d_Mo_roomAt_130 (by decide) ?_
            have hN : MW ct AM L (xMroomAt X Y p1 p2) Y f := by
              (try simp only [vMroomAt, xMroomAt, if_neg c_2, if_neg c_5, if_pos c_9, if_neg s0, if_neg s1, if_neg s2, if_neg s3, if_neg s4, if_pos ew, if_pos c_13])
              exact hM
            exact W.lret hx hb hret (fun t ht hW => ⟨⟨_, f, rfl, ⟨(by simp only [vMroomAt, xMroomAt, if_neg c_2, if_neg c_5, if_pos c_9, if_neg s0, if_neg s1, if_neg s2, if_neg s3, if_neg s4, if_pos ew, if_pos c_13]), hN⟩, by rw [ht]; exact hP, va_K.moved hW.alike hK, hD⟩, hS.F ht⟩) hS.2.2 d_Mo_roomAt_131
          · refine lv_lconst (v := 1) hx hb d_Mo_roomAt_126 (by decide) ?_
            refine lv_goto (tgt := 131) hx hb d_Mo_roomAt_127 (by decide) ?_
            have hN : MW ct AM L (xMroomAt X Y p1 p2) Y f := by
              (try simp only [vMroomAt, xMroomAt, if_neg c_2, if_neg c_5, if_pos c_9, if_neg s0, if_neg s1, if_neg s2, if_neg s3, if_neg s4, if_pos ew, if_neg c_13])
              exact hM
            exact W.lret hx hb hret (fun t ht hW => ⟨⟨_, f, rfl, ⟨(by simp only [vMroomAt, xMroomAt, if_neg c_2, if_neg c_5, if_pos c_9, if_neg s0, if_neg s1, if_neg s2, if_neg s3, if_neg s4, if_pos ew, if_neg c_13]), hN⟩, by rw [ht]; exact hP, va_K.moved hW.alike hK, hD⟩, hS.F ht⟩) hS.2.2 d_Mo_roomAt_131
        · subst q
          have ew : p2 = 6 := ew
          have s0 : ¬ p2 = 0 := by rw [ew]; decide
          have s1 : ¬ p2 = 1 := by rw [ew]; decide
          have s2 : ¬ p2 = 2 := by rw [ew]; decide
          have s3 : ¬ p2 = 3 := by rw [ew]; decide
          have s4 : ¬ p2 = 4 := by rw [ew]; decide
          have s5 : ¬ p2 = 5 := by rw [ew]; decide
          refine lv_tableOut (tgt := 132) hx hb d_Mo_roomAt_37 (by rw [ew]; decide) (by decide) ?_
          refine lv_aload_n hx hb d_Mo_roomAt_132 rfl (lv_at hl 0 rfl) ?_
          refine pg_get (C := "SmokeZonesModel") (T := T_Mo) (N := 47) hx hb hG in_Mo hown hK hP hM.1.1 hM.1.2 rfl 9 (by decide) (hG _ k630) (fun _ h9 => h9) rfl d_Mo_roomAt_133 ?_
          refine lv_iload_n hx hb d_Mo_roomAt_136 rfl (lv_at hl 1 rfl) ?_
          refine mw_iald hx hb hK hP hM (j := 9) rfl (by rw [er]; exact vp_in_nI (show r < 10 by omega) (by decide)) d_Mo_roomAt_137 ?_
          refine lv_topi (fun y_14 ey_14 => ?_)
          obtain rfl : y_14 = X 9 (Int32.toNatClampNeg p1) := ey_14.trans (by simp [up2])
          refine lv_i2l hx hb d_Mo_roomAt_138 rfl ?_
          have hN : MW ct AM L (xMroomAt X Y p1 p2) Y f := by
            (try simp only [vMroomAt, xMroomAt, if_neg c_2, if_neg c_5, if_pos c_9, if_neg s0, if_neg s1, if_neg s2, if_neg s3, if_neg s4, if_neg s5])
            exact hM
          exact W.lret hx hb hret (fun t ht hW => ⟨⟨_, f, rfl, ⟨(by simp only [vMroomAt, xMroomAt, if_neg c_2, if_neg c_5, if_pos c_9, if_neg s0, if_neg s1, if_neg s2, if_neg s3, if_neg s4, if_neg s5]), hN⟩, by rw [ht]; exact hP, va_K.moved hW.alike hK, hD⟩, hS.F ht⟩) hS.2.2 d_Mo_roomAt_139
      · exact absurd (by decide) c_9
