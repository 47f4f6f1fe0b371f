theorem nwOpP_1 {P : P2} {m r g : Nat} : nwOpP P m r g 1 m = r := by simp [nwOpP, up2]
theorem nwOpP_2 {P : P2} {m r g : Nat} : nwOpP P m r g 2 m = g := by simp [nwOpP, up2]
theorem tell_no {f X : Nat → va_E} {n : Nat} {lt t : Int32} (h : m_tell n lt t = 0) : (if 20 ≤ nI n then f else if lt < t then X else f) = f := by
  unfold m_tell at h
  split
  · rfl
  · rename_i h1
    rw [if_neg h1] at h
    split
    · rename_i h2
      rw [if_pos h2] at h
      exact absurd h (by decide)
    · rfl
theorem tell_yes {f X : Nat → va_E} {n : Nat} {lt t : Int32} (h : ¬ m_tell n lt t = 0) : (if 20 ≤ nI n then f else if lt < t then X else f) = X ∧ ¬ 20 ≤ nI n := by
  unfold m_tell at h
  split at h
  · exact absurd rfl h
  · rename_i h1
    split at h
    · rename_i h2
      rw [if_neg h1, if_pos h2]
      exact ⟨rfl, h1⟩
    · exact absurd rfl h
theorem up2_row {I : I2} {a j : Nat} {v : Int32} : up2 I a j v a = upd (I a) j v := by
  funext b
  simp [up2, upd]
section COW
variable {ct : Nat → ClassId} {AD : Nat → Nat → Nat} {n : Nat → Nat} {I I' : I2} {J : J2} {P : P2}
theorem co_row {a0 : Nat} (ha : 100 ≤ a0) (hI : ∀ a i, a ≠ a0 → I' a i = I a i) : ∀ k i, ¬ (k = 6 ∧ 100 + i = a0) → ¬ (k = 7 ∧ 200 + i = a0) → cellOf ct AD n I' J P k i = cellOf ct AD n I J P k i := by
  intro k i h6 h7
  have f1 : ∀ b, b ≠ a0 → I' b = I b := fun b hb => funext fun j => hI b j hb
  match k with
  | 0 => simp only [cellOf]; rw [hI 0 i (by omega), hI 1 i (by omega), hI 2 i (by omega), hI 3 i (by omega), hI 4 i (by omega)]
  | 1 => simp only [cellOf]; rw [hI 12 i (by omega), hI 13 i (by omega), hI 14 i (by omega), hI 15 i (by omega), hI 16 i (by omega)]
  | 2 => simp only [cellOf]; rw [hI 21 i (by omega), hI 22 i (by omega), hI 23 i (by omega), hI 24 i (by omega)]
  | 3 => simp only [cellOf]; rw [hI 31 i (by omega), hI 32 i (by omega)]
  | 4 => simp only [cellOf]; rw [hI 41 i (by omega), hI 42 i (by omega)]
  | 5 => simp only [cellOf]; rw [hI 50 i (by omega), hI 52 i (by omega)]
  | 6 => simp only [cellOf]; rw [f1 _ (by omega)]
  | 7 => simp only [cellOf]; rw [f1 _ (by omega)]
  | 8 => rfl
  | k + 9 => simp only [cellOf, mainE]; rw [hI 99 0 (by omega)]
end COW
def nwGoI (I : I2) (P : P2) (r : Nat) (t p : Int32) : I2 := up2 (up2 (up2 I (100 + r) (P 6 r) t) (200 + r) (P 6 r) p) 52 r t
def nwGoP (P : P2) (r : Nat) : P2 := up2 P 6 r (P 6 r + 1)
def kdGo (n : Nat → Nat) (I : I2) (P : P2) (p1 p2 p3 : Int32) : Int32 := if 0 ≤ p1 ∧ p1 < nI (n 5) then (if I 99 0 ≤ p2 ∧ p2 ≤ 100000 then (if p3 = (-1) ∨ ¬ m_isR (n 0) p3 = 0 then (if ¬ m_tell (P 6 p1.toNatClampNeg) (I 52 p1.toNatClampNeg) p2 = 0 then 0 else 2) else 1) else 1) else 1
def kdRun (I : I2) (p : Int32) : Int32 := if 1 ≤ p ∧ p ≤ 500 then (if 100000 < I 99 0 + p then 2 else 0) else 1
theorem goP_inv {n : Nat → Nat} {P : P2} {r : Nat} (h : CInv n P) (hr : r < n 5) (h20 : P 6 r < 20) : CInv n (nwGoP P r) := by
  obtain ⟨h1, h2, h3, h4, h5, h6⟩ := h
  have e : ∀ a j, a ≠ 6 → nwGoP P r a j = P a j := fun a j ha => up2_ne _ _ _ _ (by omega)
  refine ⟨h1, fun j hj => ?_, fun j hj => ?_, fun j hj => ?_, fun j hj => ?_, fun j hj => ?_⟩
  · rw [e 1 j (by decide), e 2 j (by decide)]; exact h2 j hj
  · rw [e 3 j (by decide)]; exact h3 j hj
  · rw [e 4 j (by decide)]; exact h4 j hj
  · rw [e 5 j (by decide)]; exact h5 j hj
  · rw [e 7 j (by decide)]
    by_cases q : j = r
    · subst q
      show up2 P 6 j _ 6 j ≤ 20 ∧ _ ≤ up2 P 6 j _ 6 j
      rw [up2_at]
      have := h6 j hj
      omega
    · show up2 P 6 r _ 6 j ≤ 20 ∧ _ ≤ up2 P 6 r _ 6 j
      rw [up2_ne _ _ _ _ (by omega)]
      exact h6 j hj
theorem lt20 {n : Nat} (h : n ≤ 20) (c : ¬ (20 : Int32) ≤ nI n) : n < 20 := by
  rcases Nat.lt_or_ge n 20 with q | q
  · exact q
  · exact absurd (show (20 : Int32) ≤ nI n from nI_le (a := 20) q (by omega)) c
theorem ge_no5 {i n : Nat} (h : i < n) (hn : n ≤ 1000) (c : nI n ≤ nI i) : False := nI_ge h (by omega) c
theorem ge_yes5 {i n : Nat} (h : n ≤ i) (hn : i ≤ 1000) (c : ¬ nI n ≤ nI i) : False := c (nI_le h (by omega))

set_option maxHeartbeats 4000000 in
set_option maxRecDepth 100000 in
theorem c_Sz_opening {l : Launch} (hl0 : l.stackTraces = false) {D : va_G} {ct : Nat → ClassId} {AD : Nat → Nat → Nat} {L : List Nat} {f : Nat → va_E} {sz : Nat} {n : Nat → Nat} {I : Nat → Nat → Int32} {J : Nat → Nat → Int64} {P : Nat → Nat → Nat} {sa sb : Nat} {p1 p2 p3 p4 p5 : Int32} (hCW : CW ct AD L n I J P f)  : vx_Met l y_Sz_opening (WS y_Sz_opening b_Sz_opening 7 (some .int)) { frames := 8, cells := 12, slots := 100, locals := 132 } (va_Pc [.ref (AD 9 0), .int p1, .int p2, .int p3, .int p4, .int p5] (MP D ct L f sa sb sz)) (va_Qi (fun (r : Int32) (u : CSt) => (kdOpen n I p1 p2 p3 p4 p5) = 0 ∧ r = nI (n 1) ∧ CW ct u.1 u.2.1 (va_up n 1 (n 1 + 1)) (nwOpI I (n 1) p3 p4 p5) (nwOpJ J (n 1)) (nwOpP P (n 1) p1.toNatClampNeg (farIx p2)) u.2.2 ∧ u.1 9 0 = AD 9 0) (fun u t => WQ D (TYS ct) u.2.1 u.2.2 (AA L f sz) t) (AA L f sz)) (XE D ct L f (AA L f sz) (kdOpen n I p1 p2 p3 p4 p5)) 12 100 (AA L f sz) := by
  refine vx_ofW (cc := b_Sz_opening) (maxL := 7) (ret := (some .int)) (by decide) rfl ?_
  intro p e s m args below meth c s₁ B hml htab hv
  obtain ⟨rfl, hsz, hP, hK, hD0, hE⟩ := hv
  subst hsz
  have hx := B.exec
  have hb := B.bytes
  have hret := B.returns
  have hts := atoms_spec (ws := WS y_Sz_opening b_Sz_opening 7 (some .int)) B.pre
  have hG : ∀ w ∈ GW, w.before _ s = true := fun w h => hts w (List.mem_cons_of_mem _ h)
  have hown : s.vm.findClass "SmokeZones" = some m.cls := findClass_of_methodNamed B.named
  have hlocks := B.notSynchronized
  have hD : va_D (AA L f s.heap.size) (va_pl L f) := hD0.self (sz := s.heap.size)
  generalize hAe : AA L f s.heap.size = A at hD hE ⊢
  have hA : ∀ q : Nat, s.heap.size ≤ q → A q := fun q h => by rw [← hAe]; exact Or.inr h
  have hS : va_S A s.heap s.heap [] := va_S.rf
  have hl := lv_entry ([.ref (AD 9 0), .int p1, .int p2, .int p3, .int p4, .int p5]) (n := 7) (Nat.le_of_ble_eq_true rfl)
  rw [lg_entry_eq]
  generalize (lg_sl ([.ref (AD 9 0), .int p1, .int p2, .int p3, .int p4, .int p5]) ++ List.replicate (7 - (lg_sl ([.ref (AD 9 0), .int p1, .int p2, .int p3, .int p4, .int p5])).length) Slot.unset).toArray = ls at hl ⊢
  have hl : lv_has ls 7 [(0, .ref (AD 9 0)), (1, .int p1), (2, .int p2), (3, .int p3), (4, .int p4), (5, .int p5)] := hl
  obtain ⟨g0L, g0E⟩ := hCW.ma
  have hc0 := hCW.cap0
  have hc1 := hCW.cap1
  have hc2 := hCW.cap2
  have hc3 := hCW.cap3
  have hc4 := hCW.cap4
  have hc5 := hCW.cap5
  refine lv_iload_n hx hb d_Sz_opening_0 rfl (lv_at hl 1 rfl) ?_
  refine lv_aload_n hx hb d_Sz_opening_1 rfl (lv_at hl 0 rfl) ?_
  refine pg_get (C := "SmokeZones") (T := T_Sz) (N := 17) hx hb hG in_Sz hown hK hP g0L g0E rfl 6 (by decide) (hG _ k41) (fun _ h9 => h9) rfl d_Sz_opening_2 ?_
  refine kS_ck ⟨hx, hb, hml, hown, hG⟩ (c_Sz_needNumber hl0 ) (cwS 2 hG (gS k237 k238 k1 k239) rfl rfl rfl hd_Sz_needNumber ⟨Nat.le_of_ble_eq_true rfl, Nat.le_of_ble_eq_true rfl⟩) hK hP hS hA hE rfl hl.1 rfl (Nat.le_of_ble_eq_true rfl) ⟨Nat.le_of_ble_eq_true rfl, Nat.le_of_ble_eq_true rfl⟩ d_Sz_opening_5 (fun k_1 ce q9 H1 locs hz hk hS h1 h2 h3 => ?_) (fun k_1 locs hS => ?_)
  · exact vx_out (fun x hx9 => (htab x hx9).elim) hlocks h1 h2 h3 (fun t ht hvm => ⟨(), trivial, ⟨Or.inl ⟨(by simp only [kdOpen, if_neg k_1]), rfl⟩, by rw [ht]; exact P_keep hP hk, va_K.moved hvm hK, hD⟩, hS.F ht⟩) hS.2.2 (by decide) (by decide)
  · obtain ⟨r, hr, er⟩ := num_of k_1 (by omega)
    have hcl : (p1).toNatClampNeg = r := by rw [er]; exact nI_clamp (by omega)
    obtain ⟨g_2L, g_2E⟩ := hCW.ro hr
    obtain ⟨g_3L, g_3E⟩ := hCW.a0
    refine lv_aload_n hx hb d_Sz_opening_8 rfl (lv_at hl 0 rfl) ?_
    refine lv_iload_n hx hb d_Sz_opening_9 rfl (lv_at hl 2 rfl) ?_
    refine kV_ck ⟨hx, hb, hml, hown, hG⟩ (c_Sz_needPlace hl0 g0L g0E) (cwV 1 hG (gV k240 k242 ks_Sz_needPlace k1 k243) rfl rfl rfl hd_Sz_needPlace ⟨Nat.le_of_ble_eq_true rfl, Nat.le_of_ble_eq_true rfl⟩) hK hP hS hA hE g0L g0E rfl rfl hl.1 rfl (Nat.le_of_ble_eq_true rfl) ⟨Nat.le_of_ble_eq_true rfl, Nat.le_of_ble_eq_true rfl⟩ d_Sz_opening_10 (fun k_4 ce q9 H1 locs hz hk hS h1 h2 h3 => ?_) (fun k_4 locs hS => ?_)
    · exact vx_out (fun x hx9 => (htab x hx9).elim) hlocks h1 h2 h3 (fun t ht hvm => ⟨(), trivial, ⟨Or.inl ⟨(by simp only [kdOpen, hcl, if_pos k_1, if_neg k_4]), rfl⟩, by rw [ht]; exact P_keep hP hk, va_K.moved hvm hK, hD⟩, hS.F ht⟩) hS.2.2 (by decide) (by decide)
    · refine lv_iload_n hx hb d_Sz_opening_13 rfl (lv_at hl 1 rfl) ?_
      refine lv_iload_n hx hb d_Sz_opening_14 rfl (lv_at hl 2 rfl) ?_
      refine lv_icmp_eq (tgt := 22) hx hb d_Sz_opening_15 (by decide) (fun c_5 => ?_) (fun c_5 => ?_)
      · refine lv_iconst (v := 0) hx hb d_Sz_opening_22 (by decide) ?_
        refine kS_ck ⟨hx, hb, hml, hown, hG⟩ (c_Sz_needArgument hl0 ) (cwS 1 hG (gS k99 k100 k1 k101) rfl rfl rfl hd_Sz_needArgument ⟨Nat.le_of_ble_eq_true rfl, Nat.le_of_ble_eq_true rfl⟩) hK hP hS hA hE rfl hl.1 rfl (Nat.le_of_ble_eq_true rfl) ⟨Nat.le_of_ble_eq_true rfl, Nat.le_of_ble_eq_true rfl⟩ d_Sz_opening_23 (fun k_6 ce q9 H1 locs hz hk hS h1 h2 h3 => ?_) (fun k_6 locs hS => ?_)
        · exact vx_out (fun x hx9 => (htab x hx9).elim) hlocks h1 h2 h3 (fun t ht hvm => ⟨(), trivial, ⟨Or.inl ⟨(by simp only [kdOpen, hcl, if_pos k_1, if_pos k_4, if_pos c_5]), rfl⟩, by rw [ht]; exact P_keep hP hk, va_K.moved hvm hK, hD⟩, hS.F ht⟩) hS.2.2 (by decide) (by decide)
        · exact absurd rfl k_6
      · refine lv_iconst (v := 1) hx hb d_Sz_opening_18 (by decide) ?_
        refine lv_goto (tgt := 23) hx hb d_Sz_opening_19 (by decide) ?_
        refine kS_ck ⟨hx, hb, hml, hown, hG⟩ (c_Sz_needArgument hl0 ) (cwS 1 hG (gS k99 k100 k1 k101) rfl rfl rfl hd_Sz_needArgument ⟨Nat.le_of_ble_eq_true rfl, Nat.le_of_ble_eq_true rfl⟩) hK hP hS hA hE rfl hl.1 rfl (Nat.le_of_ble_eq_true rfl) ⟨Nat.le_of_ble_eq_true rfl, Nat.le_of_ble_eq_true rfl⟩ d_Sz_opening_23 (fun k_7 ce q9 H1 locs hz hk hS h1 h2 h3 => ?_) (fun k_7 locs hS => ?_)
        · exact absurd (by decide) k_7
        · refine lv_iload_n hx hb d_Sz_opening_26 rfl (lv_at hl 3 rfl) ?_
          refine lv_iconst (v := 1) hx hb d_Sz_opening_27 (by decide) ?_
          refine lv_bipush (v := 50) hx hb d_Sz_opening_28 (by decide) ?_
          refine kS_ck ⟨hx, hb, hml, hown, hG⟩ (c_Sz_needBetween hl0 ) (cwS 3 hG (gS k96 k97 k1 k98) rfl rfl rfl hd_Sz_needBetween ⟨Nat.le_of_ble_eq_true rfl, Nat.le_of_ble_eq_true rfl⟩) hK hP hS hA hE rfl hl.1 rfl (Nat.le_of_ble_eq_true rfl) ⟨Nat.le_of_ble_eq_true rfl, Nat.le_of_ble_eq_true rfl⟩ d_Sz_opening_30 (fun k_8 ce q9 H1 locs hz hk hS h1 h2 h3 => ?_) (fun k_8 locs hS => ?_)
          · exact vx_out (fun x hx9 => (htab x hx9).elim) hlocks h1 h2 h3 (fun t ht hvm => ⟨(), trivial, ⟨Or.inl ⟨(by simp only [kdOpen, hcl, if_pos k_1, if_pos k_4, if_neg c_5, if_pos k_7, if_neg k_8]), rfl⟩, by rw [ht]; exact P_keep hP hk, va_K.moved hvm hK, hD⟩, hS.F ht⟩) hS.2.2 (by decide) (by decide)
          · refine lv_iload hx hb d_Sz_opening_33 (lv_at hl 5 rfl) ?_
            refine lv_iconst (v := 1) hx hb d_Sz_opening_35 (by decide) ?_
            refine lv_aload_n hx hb d_Sz_opening_36 rfl (lv_at hl 0 rfl) ?_
            refine pg_get (C := "SmokeZones") (T := T_Sz) (N := 17) hx hb hG in_Sz hown hK hP g0L g0E rfl 0 (by decide) (hG _ k35) (fun _ h9 => h9) rfl d_Sz_opening_37 ?_
            refine lv_iload_n hx hb d_Sz_opening_40 rfl (lv_at hl 1 rfl) ?_
            refine pg_ald hx hb hK hP 0 g_3L g_3E rfl (by rw [er]; exact vp_in_nI (by omega) (by decide)) (by rw [er]; exact rf_at hr (by omega)) d_Sz_opening_41 ?_
            refine pg_get (C := "SmokeZones$Room") (T := T_Ro) (N := 8) hx hb hG in_Ro hown hK hP g_2L g_2E rfl 1 (by decide) (hG _ k198) (fun _ h9 => h9) rfl d_Sz_opening_42 ?_
            refine kS_ck ⟨hx, hb, hml, hown, hG⟩ (c_Sz_needBetween hl0 ) (cwS 3 hG (gS k96 k97 k1 k98) rfl rfl rfl hd_Sz_needBetween ⟨Nat.le_of_ble_eq_true rfl, Nat.le_of_ble_eq_true rfl⟩) hK hP hS hA hE rfl hl.1 rfl (Nat.le_of_ble_eq_true rfl) ⟨Nat.le_of_ble_eq_true rfl, Nat.le_of_ble_eq_true rfl⟩ d_Sz_opening_45 (fun k_9 ce q9 H1 locs hz hk hS h1 h2 h3 => ?_) (fun k_9 locs hS => ?_)
            · exact vx_out (fun x hx9 => (htab x hx9).elim) hlocks h1 h2 h3 (fun t ht hvm => ⟨(), trivial, ⟨Or.inl ⟨(by simp only [kdOpen, hcl, if_pos k_1, if_pos k_4, if_neg c_5, if_pos k_7, if_pos k_8, if_neg k_9]), rfl⟩, by rw [ht]; exact P_keep hP hk, va_K.moved hvm hK, hD⟩, hS.F ht⟩) hS.2.2 (by decide) (by decide)
            · refine lv_iload hx hb d_Sz_opening_48 (lv_at hl 4 rfl) ?_
              refine lv_iconst (v := 0) hx hb d_Sz_opening_50 (by decide) ?_
              refine lv_iload hx hb d_Sz_opening_51 (lv_at hl 5 rfl) ?_
              refine lv_iconst (v := 1) hx hb d_Sz_opening_53 (by decide) ?_
              refine lv_isub hx hb d_Sz_opening_54 ?_
              refine kS_ck ⟨hx, hb, hml, hown, hG⟩ (c_Sz_needBetween hl0 ) (cwS 3 hG (gS k96 k97 k1 k98) rfl rfl rfl hd_Sz_needBetween ⟨Nat.le_of_ble_eq_true rfl, Nat.le_of_ble_eq_true rfl⟩) hK hP hS hA hE rfl hl.1 rfl (Nat.le_of_ble_eq_true rfl) ⟨Nat.le_of_ble_eq_true rfl, Nat.le_of_ble_eq_true rfl⟩ d_Sz_opening_55 (fun k_10 ce q9 H1 locs hz hk hS h1 h2 h3 => ?_) (fun k_10 locs hS => ?_)
              · exact vx_out (fun x hx9 => (htab x hx9).elim) hlocks h1 h2 h3 (fun t ht hvm => ⟨(), trivial, ⟨Or.inl ⟨(by simp only [kdOpen, hcl, if_pos k_1, if_pos k_4, if_neg c_5, if_pos k_7, if_pos k_8, if_pos k_9, if_neg k_10]), rfl⟩, by rw [ht]; exact P_keep hP hk, va_K.moved hvm hK, hD⟩, hS.F ht⟩) hS.2.2 (by decide) (by decide)
              · refine lv_iload_n hx hb d_Sz_opening_58 rfl (lv_at hl 2 rfl) ?_
                refine lv_iconst (v := (-1)) hx hb d_Sz_opening_59 (by decide) ?_
                refine lv_icmp_ne (tgt := 67) hx hb d_Sz_opening_60 (by decide) (fun c_11 => ?_) (fun c_11 => ?_)
                · obtain ⟨g, hg, eg⟩ := isR_of (by omega) (k_4.resolve_left c_11)
                  have hcg : p2.toNatClampNeg = g := by rw [eg]; exact nI_clamp (by omega)
                  have hrg : r ≠ g := fun h => c_5 (by rw [er, eg, h])
                  obtain ⟨g_12L, g_12E⟩ := hCW.ro hg
                  have hfx : farIx p2 = g + 1 := by unfold farIx; rw [if_neg c_11, hcg]
                  refine lv_aload_n hx hb d_Sz_opening_67 rfl (lv_at hl 0 rfl) ?_
                  refine pg_get (C := "SmokeZones") (T := T_Sz) (N := 17) hx hb hG in_Sz hown hK hP g0L g0E rfl 0 (by decide) (hG _ k35) (fun _ h9 => h9) rfl d_Sz_opening_68 ?_
                  refine lv_iload_n hx hb d_Sz_opening_71 rfl (lv_at hl 2 rfl) ?_
                  refine pg_ald hx hb hK hP 0 g_3L g_3E rfl (by rw [eg]; exact vp_in_nI (by omega) (by decide)) (by rw [eg]; exact rf_at hg (by omega)) d_Sz_opening_72 ?_
                  refine lv_astore (lv' := [(6, .ref (AD 0 g)), (0, .ref (AD 9 0)), (1, .int p1), (2, .int p2), (3, .int p3), (4, .int p4), (5, .int p5)]) hx hb d_Sz_opening_73 hl (by decide) rfl (fun ls hl => ?_)
                  refine lv_aload hx hb d_Sz_opening_75 (lv_at hl 0 rfl) ?_
                  refine lv_ifnull hx hb d_Sz_opening_77 ?_
                  refine lv_iload hx hb d_Sz_opening_80 (lv_at hl 6 rfl) ?_
                  refine lv_aload hx hb d_Sz_opening_82 (lv_at hl 0 rfl) ?_
                  refine pg_get (C := "SmokeZones$Room") (T := T_Ro) (N := 8) hx hb hG in_Ro hown hK hP g_12L g_12E rfl 1 (by decide) (hG _ k198) (fun _ h9 => h9) rfl d_Sz_opening_84 ?_
                  refine lv_icmp_gt (tgt := 94) hx hb d_Sz_opening_87 (by decide) (fun c_13 => ?_) (fun c_13 => ?_)
                  · refine lv_iconst (v := 0) hx hb d_Sz_opening_94 (by decide) ?_
                    refine kS_ck ⟨hx, hb, hml, hown, hG⟩ (c_Sz_needArgument hl0 ) (cwS 1 hG (gS k99 k100 k1 k101) rfl rfl rfl hd_Sz_needArgument ⟨Nat.le_of_ble_eq_true rfl, Nat.le_of_ble_eq_true rfl⟩) hK hP hS hA hE rfl hl.1 rfl (Nat.le_of_ble_eq_true rfl) ⟨Nat.le_of_ble_eq_true rfl, Nat.le_of_ble_eq_true rfl⟩ d_Sz_opening_95 (fun k_14 ce q9 H1 locs hz hk hS h1 h2 h3 => ?_) (fun k_14 locs hS => ?_)
                    · exact vx_out (fun x hx9 => (htab x hx9).elim) hlocks h1 h2 h3 (fun t ht hvm => ⟨(), trivial, ⟨Or.inl ⟨(by simp only [kdOpen, hcl, hcg, if_pos k_1, if_pos k_4, if_neg c_5, if_pos k_7, if_pos k_8, if_pos k_9, if_pos k_10, if_neg c_11, if_pos c_13]), rfl⟩, by rw [ht]; exact P_keep hP hk, va_K.moved hvm hK, hD⟩, hS.F ht⟩) hS.2.2 (by decide) (by decide)
                    · exact absurd rfl k_14
                  · refine lv_iconst (v := 1) hx hb d_Sz_opening_90 (by decide) ?_
                    refine lv_goto (tgt := 95) hx hb d_Sz_opening_91 (by decide) ?_
                    refine kS_ck ⟨hx, hb, hml, hown, hG⟩ (c_Sz_needArgument hl0 ) (cwS 1 hG (gS k99 k100 k1 k101) rfl rfl rfl hd_Sz_needArgument ⟨Nat.le_of_ble_eq_true rfl, Nat.le_of_ble_eq_true rfl⟩) hK hP hS hA hE rfl hl.1 rfl (Nat.le_of_ble_eq_true rfl) ⟨Nat.le_of_ble_eq_true rfl, Nat.le_of_ble_eq_true rfl⟩ d_Sz_opening_95 (fun k_15 ce q9 H1 locs hz hk hS h1 h2 h3 => ?_) (fun k_15 locs hS => ?_)
                    · exact absurd (by decide) k_15
                    · refine lv_aload_n hx hb d_Sz_opening_98 rfl (lv_at hl 1 rfl) ?_
                      refine pg_get (C := "SmokeZones") (T := T_Sz) (N := 17) hx hb hG in_Sz hown hK hP g0L g0E rfl 7 (by decide) (hG _ k42) (fun _ h9 => h9) rfl d_Sz_opening_99 ?_
                      refine lv_bipush (v := 15) hx hb d_Sz_opening_102 (by decide) ?_
                      refine kS_ck ⟨hx, hb, hml, hown, hG⟩ (c_Sz_needSpace hl0 ) (cwS 2 hG (gS k169 k170 k1 k171) rfl rfl rfl hd_Sz_needSpace ⟨Nat.le_of_ble_eq_true rfl, Nat.le_of_ble_eq_true rfl⟩) hK hP hS hA hE rfl hl.1 rfl (Nat.le_of_ble_eq_true rfl) ⟨Nat.le_of_ble_eq_true rfl, Nat.le_of_ble_eq_true rfl⟩ d_Sz_opening_104 (fun k_16 ce q9 H1 locs hz hk hS h1 h2 h3 => ?_) (fun k_16 locs hS => ?_)
                      · exact vx_out (fun x hx9 => (htab x hx9).elim) hlocks h1 h2 h3 (fun t ht hvm => ⟨(), trivial, ⟨Or.inr ⟨(by simp only [kdOpen, hcl, hcg, if_pos k_1, if_pos k_4, if_neg c_5, if_pos k_7, if_pos k_8, if_pos k_9, if_pos k_10, if_neg c_11, if_neg c_13, if_pos k_15, if_neg k_16]), rfl⟩, by rw [ht]; exact P_keep hP hk, va_K.moved hvm hK, hD⟩, hS.F ht⟩) hS.2.2 (by decide) (by decide)
                      · have hlt : n 1 < 15 := nI_lt_of (b := 15) (by omega) (by decide) k_16
                        obtain ⟨g_17L, g_17E⟩ := hCW.a1
                        have ne_AD_9_0_AD_8_1 : AD 9 0 ≠ AD 8 1 := hCW.ne (k := 9) (i := 0) (k' := 8) (i' := 1) (lv9) (lv8 (by decide)) (by omega)
                        have ne_AD_9_0_AD_0_r : AD 9 0 ≠ AD 0 r := hCW.ne (k := 9) (i := 0) (k' := 0) (i' := r) (lv9) (lv0 (by decide) hr) (by omega)
                        have ne_AD_9_0_AD_8_0 : AD 9 0 ≠ AD 8 0 := hCW.ne (k := 9) (i := 0) (k' := 8) (i' := 0) (lv9) (lv8 (by decide)) (by omega)
                        have ne_AD_9_0_AD_0_g : AD 9 0 ≠ AD 0 g := hCW.ne (k := 9) (i := 0) (k' := 0) (i' := g) (lv9) (lv0 (by decide) hg) (by omega)
                        have ne_AD_8_1_AD_9_0 : AD 8 1 ≠ AD 9 0 := hCW.ne (k := 8) (i := 1) (k' := 9) (i' := 0) (lv8 (by decide)) (lv9) (by omega)
                        have ne_AD_8_1_AD_0_r : AD 8 1 ≠ AD 0 r := hCW.ne (k := 8) (i := 1) (k' := 0) (i' := r) (lv8 (by decide)) (lv0 (by decide) hr) (by omega)
                        have ne_AD_8_1_AD_8_0 : AD 8 1 ≠ AD 8 0 := hCW.ne (k := 8) (i := 1) (k' := 8) (i' := 0) (lv8 (by decide)) (lv8 (by decide)) (by omega)
                        have ne_AD_8_1_AD_0_g : AD 8 1 ≠ AD 0 g := hCW.ne (k := 8) (i := 1) (k' := 0) (i' := g) (lv8 (by decide)) (lv0 (by decide) hg) (by omega)
                        have ne_AD_0_r_AD_9_0 : AD 0 r ≠ AD 9 0 := hCW.ne (k := 0) (i := r) (k' := 9) (i' := 0) (lv0 (by decide) hr) (lv9) (by omega)
                        have ne_AD_0_r_AD_8_1 : AD 0 r ≠ AD 8 1 := hCW.ne (k := 0) (i := r) (k' := 8) (i' := 1) (lv0 (by decide) hr) (lv8 (by decide)) (by omega)
                        have ne_AD_0_r_AD_8_0 : AD 0 r ≠ AD 8 0 := hCW.ne (k := 0) (i := r) (k' := 8) (i' := 0) (lv0 (by decide) hr) (lv8 (by decide)) (by omega)
                        have ne_AD_0_r_AD_0_g : AD 0 r ≠ AD 0 g := hCW.ne (k := 0) (i := r) (k' := 0) (i' := g) (lv0 (by decide) hr) (lv0 (by decide) hg) (by omega)
                        have ne_AD_8_0_AD_9_0 : AD 8 0 ≠ AD 9 0 := hCW.ne (k := 8) (i := 0) (k' := 9) (i' := 0) (lv8 (by decide)) (lv9) (by omega)
                        have ne_AD_8_0_AD_8_1 : AD 8 0 ≠ AD 8 1 := hCW.ne (k := 8) (i := 0) (k' := 8) (i' := 1) (lv8 (by decide)) (lv8 (by decide)) (by omega)
                        have ne_AD_8_0_AD_0_r : AD 8 0 ≠ AD 0 r := hCW.ne (k := 8) (i := 0) (k' := 0) (i' := r) (lv8 (by decide)) (lv0 (by decide) hr) (by omega)
                        have ne_AD_8_0_AD_0_g : AD 8 0 ≠ AD 0 g := hCW.ne (k := 8) (i := 0) (k' := 0) (i' := g) (lv8 (by decide)) (lv0 (by decide) hg) (by omega)
                        have ne_AD_0_g_AD_9_0 : AD 0 g ≠ AD 9 0 := hCW.ne (k := 0) (i := g) (k' := 9) (i' := 0) (lv0 (by decide) hg) (lv9) (by omega)
                        have ne_AD_0_g_AD_8_1 : AD 0 g ≠ AD 8 1 := hCW.ne (k := 0) (i := g) (k' := 8) (i' := 1) (lv0 (by decide) hg) (lv8 (by decide)) (by omega)
                        have ne_AD_0_g_AD_0_r : AD 0 g ≠ AD 0 r := hCW.ne (k := 0) (i := g) (k' := 0) (i' := r) (lv0 (by decide) hg) (lv0 (by decide) hr) (by omega)
                        have ne_AD_0_g_AD_8_0 : AD 0 g ≠ AD 8 0 := hCW.ne (k := 0) (i := g) (k' := 8) (i' := 0) (lv0 (by decide) hg) (lv8 (by decide)) (by omega)
                        refine lv_aload_n hx hb d_Sz_opening_107 rfl (lv_at hl 1 rfl) ?_
                        refine pg_get (C := "SmokeZones") (T := T_Sz) (N := 17) hx hb hG in_Sz hown hK hP g0L g0E rfl 1 (by decide) (hG _ k36) (fun _ h9 => h9) rfl d_Sz_opening_108 ?_
                        refine lv_aload_n hx hb d_Sz_opening_111 rfl (lv_at hl 1 rfl) ?_
                        refine pg_get (C := "SmokeZones") (T := T_Sz) (N := 17) hx hb hG in_Sz hown hK hP g0L g0E rfl 7 (by decide) (hG _ k42) (fun _ h9 => h9) rfl d_Sz_opening_112 ?_
                        refine pg_new (ci := 1) (fs := [.null, .null, .int 0, .int 0, .int 0, .int 0, .int 0, .long 0, .long 0, .long 0]) (C := "SmokeZones$Opening") (T := T_Op) (N := 10) hx hb hG in_Op ty_Op ok_Op hown (hG _ k25) (hG _ k248) (hG _ k9) hK hP hD hS hA rfl (fun j hj => by first | (rcases lt10 hj with rfl | rfl | rfl | rfl | rfl | rfl | rfl | rfl | rfl | rfl <;> rfl)) (Nat.le_of_ble_eq_true rfl) (Nat.le_of_ble_eq_true rfl) d_Sz_opening_115 (fun q_18 H hn_q_18 hP hD hS => ?_)
                        have ne_AD_9_0_q_18 : AD 9 0 ≠ q_18 := fun h => hn_q_18 (h ▸ g0L)
                        have ne_q_18_AD_9_0 : q_18 ≠ AD 9 0 := fun h => ne_AD_9_0_q_18 h.symm
                        have m_19 : AD 9 0 ∈ L ++ [q_18] := List.mem_append_left _ g0L
                        have ne_AD_0_r_q_18 : AD 0 r ≠ q_18 := fun h => hn_q_18 (h ▸ g_2L)
                        have ne_q_18_AD_0_r : q_18 ≠ AD 0 r := fun h => ne_AD_0_r_q_18 h.symm
                        have m_20 : AD 0 r ∈ L ++ [q_18] := List.mem_append_left _ g_2L
                        have ne_AD_8_0_q_18 : AD 8 0 ≠ q_18 := fun h => hn_q_18 (h ▸ g_3L)
                        have ne_q_18_AD_8_0 : q_18 ≠ AD 8 0 := fun h => ne_AD_8_0_q_18 h.symm
                        have m_21 : AD 8 0 ∈ L ++ [q_18] := List.mem_append_left _ g_3L
                        have ne_AD_0_g_q_18 : AD 0 g ≠ q_18 := fun h => hn_q_18 (h ▸ g_12L)
                        have ne_q_18_AD_0_g : q_18 ≠ AD 0 g := fun h => ne_AD_0_g_q_18 h.symm
                        have m_22 : AD 0 g ∈ L ++ [q_18] := List.mem_append_left _ g_12L
                        have ne_AD_8_1_q_18 : AD 8 1 ≠ q_18 := fun h => hn_q_18 (h ▸ g_17L)
                        have ne_q_18_AD_8_1 : q_18 ≠ AD 8 1 := fun h => ne_AD_8_1_q_18 h.symm
                        have m_23 : AD 8 1 ∈ L ++ [q_18] := List.mem_append_left _ g_17L
                        have m_24 : q_18 ∈ L ++ [q_18] := List.mem_append_right _ (List.mem_singleton.mpr rfl)
                        have hP : va_P D vwCl (va_pl (L ++ [q_18]) (va_up f q_18 (.inr (1, [.null, .null, .int 0, .int 0, .int 0, .int 0, .int 0, .long 0, .long 0, .long 0])))) H := hP
                        have hD : va_D A (va_pl (L ++ [q_18]) (va_up f q_18 (.inr (1, [.null, .null, .int 0, .int 0, .int 0, .int 0, .int 0, .long 0, .long 0, .long 0])))) := hD
                        have e_25 : (va_up f q_18 (.inr (1, [.null, .null, .int 0, .int 0, .int 0, .int 0, .int 0, .long 0, .long 0, .long 0]))) q_18 = .inr (1, [.null, .null, .int 0, .int 0, .int 0, .int 0, .int 0, .long 0, .long 0, .long 0]) := va_up_self _ _ _
                        have e_26 : (va_up f q_18 (.inr (1, [.null, .null, .int 0, .int 0, .int 0, .int 0, .int 0, .long 0, .long 0, .long 0]))) (AD 9 0) = .inr (6, [.ref (AD 8 0), .ref (AD 8 1), .ref (AD 8 2), .ref (AD 8 3), .ref (AD 8 4), .ref (AD 8 5), .int (nI (n 0)), .int (nI (n 1)), .int (nI (n 2)), .int (nI (n 3)), .int (nI (n 4)), .int (nI (n 5)), .int (I 99 0), .long (J 99 0), .long (J 99 1), .long (J 99 2), .long (J 99 3)]) := (va_up_ne _ _ ne_AD_9_0_q_18).trans g0E
                        have e_27 : (va_up f q_18 (.inr (1, [.null, .null, .int 0, .int 0, .int 0, .int 0, .int 0, .long 0, .long 0, .long 0]))) (AD 0 r) = .inr (0, [.int (I 0 r), .int (I 1 r), .long (J 0 r), .long (J 1 r), .long (J 2 r), .int (I 2 r), .int (I 3 r), .int (I 4 r)]) := (va_up_ne _ _ ne_AD_0_r_q_18).trans g_2E
                        have e_28 : (va_up f q_18 (.inr (1, [.null, .null, .int 0, .int 0, .int 0, .int 0, .int 0, .long 0, .long 0, .long 0]))) (AD 8 0) = .inl (ct 0, 10, .inr (.inr (.inr (.inr (fun j => if j < n 0 then some (AD 0 j) else none))))) := (va_up_ne _ _ ne_AD_8_0_q_18).trans g_3E
                        have e_29 : (va_up f q_18 (.inr (1, [.null, .null, .int 0, .int 0, .int 0, .int 0, .int 0, .long 0, .long 0, .long 0]))) (AD 0 g) = .inr (0, [.int (I 0 g), .int (I 1 g), .long (J 0 g), .long (J 1 g), .long (J 2 g), .int (I 2 g), .int (I 3 g), .int (I 4 g)]) := (va_up_ne _ _ ne_AD_0_g_q_18).trans g_12E
                        have e_30 : (va_up f q_18 (.inr (1, [.null, .null, .int 0, .int 0, .int 0, .int 0, .int 0, .long 0, .long 0, .long 0]))) (AD 8 1) = .inl (ct 1, 15, .inr (.inr (.inr (.inr (fun j => if j < n 1 then some (AD 1 j) else none))))) := (va_up_ne _ _ ne_AD_8_1_q_18).trans g_17E
                        refine lv_dup hx hb d_Sz_opening_118 rfl ?_
                        refine lv_aload_n hx hb d_Sz_opening_119 rfl (lv_at hl 1 rfl) ?_
                        refine pg_get (C := "SmokeZones") (T := T_Sz) (N := 17) hx hb hG in_Sz hown hK hP m_19 e_26 rfl 0 (by decide) (hG _ k35) (fun _ h9 => h9) rfl d_Sz_opening_120 ?_
                        refine lv_iload_n hx hb d_Sz_opening_123 rfl (lv_at hl 2 rfl) ?_
                        refine pg_ald hx hb hK hP 0 m_21 e_28 rfl (by rw [er]; exact vp_in_nI (by omega) (by decide)) (by rw [er]; exact rf_at hr (by omega)) d_Sz_opening_124 ?_
                        refine lv_aload hx hb d_Sz_opening_125 (lv_at hl 0 rfl) ?_
                        refine lv_iload_n hx hb d_Sz_opening_127 rfl (lv_at hl 4 rfl) ?_
                        refine lv_iload hx hb d_Sz_opening_128 (lv_at hl 5 rfl) ?_
                        refine lv_iload hx hb d_Sz_opening_130 (lv_at hl 6 rfl) ?_
                        refine kI_wv (f' := va_up (va_up f q_18 (.inr (1, [.null, .null, .int 0, .int 0, .int 0, .int 0, .int 0, .long 0, .long 0, .long 0]))) q_18 (.inr (1, [.ref (AD 0 r), .ref (AD 0 g), .int p3, .int p4, .int p5, .int (-1), .int 0, .long 0, .long 0, .long 0]))) ⟨hx, hb, hml, hown, hG⟩ (c_Op_init_s m_24 e_25) (cwI 5 hG (gw_c k251) rfl rfl rfl (hG _ k9) (hG _ k249) (hG _ k250) rfl hd_Op_init ⟨Nat.le_of_ble_eq_true rfl, Nat.le_of_ble_eq_true rfl⟩) hK hP hD hS hA rfl hl.1 rfl (Nat.le_of_ble_eq_true rfl) ⟨Nat.le_of_ble_eq_true rfl, Nat.le_of_ble_eq_true rfl⟩ d_Sz_opening_132 (fun H locs hP hD hS => ?_)
                        rw [bx_uu] at hP hD
                        have hP : va_P D vwCl (va_pl (L ++ [q_18]) (va_up f q_18 (.inr (1, [.ref (AD 0 r), .ref (AD 0 g), .int p3, .int p4, .int p5, .int (-1), .int 0, .long 0, .long 0, .long 0])))) H := hP
                        have hD : va_D A (va_pl (L ++ [q_18]) (va_up f q_18 (.inr (1, [.ref (AD 0 r), .ref (AD 0 g), .int p3, .int p4, .int p5, .int (-1), .int 0, .long 0, .long 0, .long 0])))) := hD
                        have e_31 : (va_up f q_18 (.inr (1, [.ref (AD 0 r), .ref (AD 0 g), .int p3, .int p4, .int p5, .int (-1), .int 0, .long 0, .long 0, .long 0]))) q_18 = .inr (1, [.ref (AD 0 r), .ref (AD 0 g), .int p3, .int p4, .int p5, .int (-1), .int 0, .long 0, .long 0, .long 0]) := va_up_self _ _ _
                        have e_32 : (va_up f q_18 (.inr (1, [.ref (AD 0 r), .ref (AD 0 g), .int p3, .int p4, .int p5, .int (-1), .int 0, .long 0, .long 0, .long 0]))) (AD 9 0) = .inr (6, [.ref (AD 8 0), .ref (AD 8 1), .ref (AD 8 2), .ref (AD 8 3), .ref (AD 8 4), .ref (AD 8 5), .int (nI (n 0)), .int (nI (n 1)), .int (nI (n 2)), .int (nI (n 3)), .int (nI (n 4)), .int (nI (n 5)), .int (I 99 0), .long (J 99 0), .long (J 99 1), .long (J 99 2), .long (J 99 3)]) := (va_up_ne _ _ ne_AD_9_0_q_18).trans g0E
                        have e_33 : (va_up f q_18 (.inr (1, [.ref (AD 0 r), .ref (AD 0 g), .int p3, .int p4, .int p5, .int (-1), .int 0, .long 0, .long 0, .long 0]))) (AD 0 r) = .inr (0, [.int (I 0 r), .int (I 1 r), .long (J 0 r), .long (J 1 r), .long (J 2 r), .int (I 2 r), .int (I 3 r), .int (I 4 r)]) := (va_up_ne _ _ ne_AD_0_r_q_18).trans g_2E
                        have e_34 : (va_up f q_18 (.inr (1, [.ref (AD 0 r), .ref (AD 0 g), .int p3, .int p4, .int p5, .int (-1), .int 0, .long 0, .long 0, .long 0]))) (AD 8 0) = .inl (ct 0, 10, .inr (.inr (.inr (.inr (fun j => if j < n 0 then some (AD 0 j) else none))))) := (va_up_ne _ _ ne_AD_8_0_q_18).trans g_3E
                        have e_35 : (va_up f q_18 (.inr (1, [.ref (AD 0 r), .ref (AD 0 g), .int p3, .int p4, .int p5, .int (-1), .int 0, .long 0, .long 0, .long 0]))) (AD 0 g) = .inr (0, [.int (I 0 g), .int (I 1 g), .long (J 0 g), .long (J 1 g), .long (J 2 g), .int (I 2 g), .int (I 3 g), .int (I 4 g)]) := (va_up_ne _ _ ne_AD_0_g_q_18).trans g_12E
                        have e_36 : (va_up f q_18 (.inr (1, [.ref (AD 0 r), .ref (AD 0 g), .int p3, .int p4, .int p5, .int (-1), .int 0, .long 0, .long 0, .long 0]))) (AD 8 1) = .inl (ct 1, 15, .inr (.inr (.inr (.inr (fun j => if j < n 1 then some (AD 1 j) else none))))) := (va_up_ne _ _ ne_AD_8_1_q_18).trans g_17E
                        refine pg_astq hx hb hK hP hD hS 1 1 m_23 e_36 rfl m_24 e_31 rfl (vp_in_nI hlt (by decide)) d_Sz_opening_135 (fun H locs hP hD hS => ?_)
                        have hP : va_P D vwCl (va_pl (L ++ [q_18]) (va_up (va_up f q_18 (.inr (1, [.ref (AD 0 r), .ref (AD 0 g), .int p3, .int p4, .int p5, .int (-1), .int 0, .long 0, .long 0, .long 0]))) (AD 8 1) (.inl (ct 1, 15, .inr (.inr (.inr (.inr (va_up (fun j => if j < n 1 then some (AD 1 j) else none) (Int32.toNatClampNeg (nI (n 1))) (some q_18))))))))) H := hP
                        have hD : va_D A (va_pl (L ++ [q_18]) (va_up (va_up f q_18 (.inr (1, [.ref (AD 0 r), .ref (AD 0 g), .int p3, .int p4, .int p5, .int (-1), .int 0, .long 0, .long 0, .long 0]))) (AD 8 1) (.inl (ct 1, 15, .inr (.inr (.inr (.inr (va_up (fun j => if j < n 1 then some (AD 1 j) else none) (Int32.toNatClampNeg (nI (n 1))) (some q_18))))))))) := hD
                        have e_37 : (va_up (va_up f q_18 (.inr (1, [.ref (AD 0 r), .ref (AD 0 g), .int p3, .int p4, .int p5, .int (-1), .int 0, .long 0, .long 0, .long 0]))) (AD 8 1) (.inl (ct 1, 15, .inr (.inr (.inr (.inr (va_up (fun j => if j < n 1 then some (AD 1 j) else none) (Int32.toNatClampNeg (nI (n 1))) (some q_18)))))))) (AD 8 1) = .inl (ct 1, 15, .inr (.inr (.inr (.inr (va_up (fun j => if j < n 1 then some (AD 1 j) else none) (Int32.toNatClampNeg (nI (n 1))) (some q_18)))))) := va_up_self _ _ _
                        have e_38 : (va_up (va_up f q_18 (.inr (1, [.ref (AD 0 r), .ref (AD 0 g), .int p3, .int p4, .int p5, .int (-1), .int 0, .long 0, .long 0, .long 0]))) (AD 8 1) (.inl (ct 1, 15, .inr (.inr (.inr (.inr (va_up (fun j => if j < n 1 then some (AD 1 j) else none) (Int32.toNatClampNeg (nI (n 1))) (some q_18)))))))) (AD 9 0) = .inr (6, [.ref (AD 8 0), .ref (AD 8 1), .ref (AD 8 2), .ref (AD 8 3), .ref (AD 8 4), .ref (AD 8 5), .int (nI (n 0)), .int (nI (n 1)), .int (nI (n 2)), .int (nI (n 3)), .int (nI (n 4)), .int (nI (n 5)), .int (I 99 0), .long (J 99 0), .long (J 99 1), .long (J 99 2), .long (J 99 3)]) := (va_up_ne _ _ ne_AD_9_0_AD_8_1).trans e_32
                        have e_39 : (va_up (va_up f q_18 (.inr (1, [.ref (AD 0 r), .ref (AD 0 g), .int p3, .int p4, .int p5, .int (-1), .int 0, .long 0, .long 0, .long 0]))) (AD 8 1) (.inl (ct 1, 15, .inr (.inr (.inr (.inr (va_up (fun j => if j < n 1 then some (AD 1 j) else none) (Int32.toNatClampNeg (nI (n 1))) (some q_18)))))))) (AD 0 r) = .inr (0, [.int (I 0 r), .int (I 1 r), .long (J 0 r), .long (J 1 r), .long (J 2 r), .int (I 2 r), .int (I 3 r), .int (I 4 r)]) := (va_up_ne _ _ ne_AD_0_r_AD_8_1).trans e_33
                        have e_40 : (va_up (va_up f q_18 (.inr (1, [.ref (AD 0 r), .ref (AD 0 g), .int p3, .int p4, .int p5, .int (-1), .int 0, .long 0, .long 0, .long 0]))) (AD 8 1) (.inl (ct 1, 15, .inr (.inr (.inr (.inr (va_up (fun j => if j < n 1 then some (AD 1 j) else none) (Int32.toNatClampNeg (nI (n 1))) (some q_18)))))))) (AD 8 0) = .inl (ct 0, 10, .inr (.inr (.inr (.inr (fun j => if j < n 0 then some (AD 0 j) else none))))) := (va_up_ne _ _ ne_AD_8_0_AD_8_1).trans e_34
                        have e_41 : (va_up (va_up f q_18 (.inr (1, [.ref (AD 0 r), .ref (AD 0 g), .int p3, .int p4, .int p5, .int (-1), .int 0, .long 0, .long 0, .long 0]))) (AD 8 1) (.inl (ct 1, 15, .inr (.inr (.inr (.inr (va_up (fun j => if j < n 1 then some (AD 1 j) else none) (Int32.toNatClampNeg (nI (n 1))) (some q_18)))))))) (AD 0 g) = .inr (0, [.int (I 0 g), .int (I 1 g), .long (J 0 g), .long (J 1 g), .long (J 2 g), .int (I 2 g), .int (I 3 g), .int (I 4 g)]) := (va_up_ne _ _ ne_AD_0_g_AD_8_1).trans e_35
                        have e_42 : (va_up (va_up f q_18 (.inr (1, [.ref (AD 0 r), .ref (AD 0 g), .int p3, .int p4, .int p5, .int (-1), .int 0, .long 0, .long 0, .long 0]))) (AD 8 1) (.inl (ct 1, 15, .inr (.inr (.inr (.inr (va_up (fun j => if j < n 1 then some (AD 1 j) else none) (Int32.toNatClampNeg (nI (n 1))) (some q_18)))))))) q_18 = .inr (1, [.ref (AD 0 r), .ref (AD 0 g), .int p3, .int p4, .int p5, .int (-1), .int 0, .long 0, .long 0, .long 0]) := (va_up_ne _ _ ne_q_18_AD_8_1).trans e_31
                        refine lv_aload_n hx hb d_Sz_opening_136 rfl (lv_at hl 1 rfl) ?_
                        refine lv_dup hx hb d_Sz_opening_137 rfl ?_
                        refine pg_get (C := "SmokeZones") (T := T_Sz) (N := 17) hx hb hG in_Sz hown hK hP m_19 e_38 rfl 7 (by decide) (hG _ k42) (fun _ h9 => h9) rfl d_Sz_opening_138 ?_
                        refine lv_iconst (v := 1) hx hb d_Sz_opening_141 (by decide) ?_
                        refine lv_iadd hx hb d_Sz_opening_142 ?_
                        refine pg_put (C := "SmokeZones") (T := T_Sz) (N := 17) (ty := .int) hx hb hG in_Sz ty_Sz ok_Sz nm_Sz hown hK hP hD hS m_19 e_38 rfl 7 (by decide) (hG _ k42) (fun _ h9 => h9) rfl (by decide +kernel) rfl rfl (Nat.le_of_ble_eq_true rfl) d_Sz_opening_143 (fun H locs hP hD hS => ?_)
                        have hP : va_P D vwCl (va_pl (L ++ [q_18]) (va_up (va_up (va_up f q_18 (.inr (1, [.ref (AD 0 r), .ref (AD 0 g), .int p3, .int p4, .int p5, .int (-1), .int 0, .long 0, .long 0, .long 0]))) (AD 8 1) (.inl (ct 1, 15, .inr (.inr (.inr (.inr (va_up (fun j => if j < n 1 then some (AD 1 j) else none) (Int32.toNatClampNeg (nI (n 1))) (some q_18)))))))) (AD 9 0) (.inr (6, [.ref (AD 8 0), .ref (AD 8 1), .ref (AD 8 2), .ref (AD 8 3), .ref (AD 8 4), .ref (AD 8 5), .int (nI (n 0)), .int ((nI (n 1)) + 1), .int (nI (n 2)), .int (nI (n 3)), .int (nI (n 4)), .int (nI (n 5)), .int (I 99 0), .long (J 99 0), .long (J 99 1), .long (J 99 2), .long (J 99 3)])))) H := hP
                        have hD : va_D A (va_pl (L ++ [q_18]) (va_up (va_up (va_up f q_18 (.inr (1, [.ref (AD 0 r), .ref (AD 0 g), .int p3, .int p4, .int p5, .int (-1), .int 0, .long 0, .long 0, .long 0]))) (AD 8 1) (.inl (ct 1, 15, .inr (.inr (.inr (.inr (va_up (fun j => if j < n 1 then some (AD 1 j) else none) (Int32.toNatClampNeg (nI (n 1))) (some q_18)))))))) (AD 9 0) (.inr (6, [.ref (AD 8 0), .ref (AD 8 1), .ref (AD 8 2), .ref (AD 8 3), .ref (AD 8 4), .ref (AD 8 5), .int (nI (n 0)), .int ((nI (n 1)) + 1), .int (nI (n 2)), .int (nI (n 3)), .int (nI (n 4)), .int (nI (n 5)), .int (I 99 0), .long (J 99 0), .long (J 99 1), .long (J 99 2), .long (J 99 3)])))) := hD
                        have e_43 : (va_up (va_up (va_up f q_18 (.inr (1, [.ref (AD 0 r), .ref (AD 0 g), .int p3, .int p4, .int p5, .int (-1), .int 0, .long 0, .long 0, .long 0]))) (AD 8 1) (.inl (ct 1, 15, .inr (.inr (.inr (.inr (va_up (fun j => if j < n 1 then some (AD 1 j) else none) (Int32.toNatClampNeg (nI (n 1))) (some q_18)))))))) (AD 9 0) (.inr (6, [.ref (AD 8 0), .ref (AD 8 1), .ref (AD 8 2), .ref (AD 8 3), .ref (AD 8 4), .ref (AD 8 5), .int (nI (n 0)), .int ((nI (n 1)) + 1), .int (nI (n 2)), .int (nI (n 3)), .int (nI (n 4)), .int (nI (n 5)), .int (I 99 0), .long (J 99 0), .long (J 99 1), .long (J 99 2), .long (J 99 3)]))) (AD 9 0) = .inr (6, [.ref (AD 8 0), .ref (AD 8 1), .ref (AD 8 2), .ref (AD 8 3), .ref (AD 8 4), .ref (AD 8 5), .int (nI (n 0)), .int ((nI (n 1)) + 1), .int (nI (n 2)), .int (nI (n 3)), .int (nI (n 4)), .int (nI (n 5)), .int (I 99 0), .long (J 99 0), .long (J 99 1), .long (J 99 2), .long (J 99 3)]) := va_up_self _ _ _
                        have e_44 : (va_up (va_up (va_up f q_18 (.inr (1, [.ref (AD 0 r), .ref (AD 0 g), .int p3, .int p4, .int p5, .int (-1), .int 0, .long 0, .long 0, .long 0]))) (AD 8 1) (.inl (ct 1, 15, .inr (.inr (.inr (.inr (va_up (fun j => if j < n 1 then some (AD 1 j) else none) (Int32.toNatClampNeg (nI (n 1))) (some q_18)))))))) (AD 9 0) (.inr (6, [.ref (AD 8 0), .ref (AD 8 1), .ref (AD 8 2), .ref (AD 8 3), .ref (AD 8 4), .ref (AD 8 5), .int (nI (n 0)), .int ((nI (n 1)) + 1), .int (nI (n 2)), .int (nI (n 3)), .int (nI (n 4)), .int (nI (n 5)), .int (I 99 0), .long (J 99 0), .long (J 99 1), .long (J 99 2), .long (J 99 3)]))) (AD 0 r) = .inr (0, [.int (I 0 r), .int (I 1 r), .long (J 0 r), .long (J 1 r), .long (J 2 r), .int (I 2 r), .int (I 3 r), .int (I 4 r)]) := (va_up_ne _ _ ne_AD_0_r_AD_9_0).trans e_39
                        have e_45 : (va_up (va_up (va_up f q_18 (.inr (1, [.ref (AD 0 r), .ref (AD 0 g), .int p3, .int p4, .int p5, .int (-1), .int 0, .long 0, .long 0, .long 0]))) (AD 8 1) (.inl (ct 1, 15, .inr (.inr (.inr (.inr (va_up (fun j => if j < n 1 then some (AD 1 j) else none) (Int32.toNatClampNeg (nI (n 1))) (some q_18)))))))) (AD 9 0) (.inr (6, [.ref (AD 8 0), .ref (AD 8 1), .ref (AD 8 2), .ref (AD 8 3), .ref (AD 8 4), .ref (AD 8 5), .int (nI (n 0)), .int ((nI (n 1)) + 1), .int (nI (n 2)), .int (nI (n 3)), .int (nI (n 4)), .int (nI (n 5)), .int (I 99 0), .long (J 99 0), .long (J 99 1), .long (J 99 2), .long (J 99 3)]))) (AD 8 0) = .inl (ct 0, 10, .inr (.inr (.inr (.inr (fun j => if j < n 0 then some (AD 0 j) else none))))) := (va_up_ne _ _ ne_AD_8_0_AD_9_0).trans e_40
                        have e_46 : (va_up (va_up (va_up f q_18 (.inr (1, [.ref (AD 0 r), .ref (AD 0 g), .int p3, .int p4, .int p5, .int (-1), .int 0, .long 0, .long 0, .long 0]))) (AD 8 1) (.inl (ct 1, 15, .inr (.inr (.inr (.inr (va_up (fun j => if j < n 1 then some (AD 1 j) else none) (Int32.toNatClampNeg (nI (n 1))) (some q_18)))))))) (AD 9 0) (.inr (6, [.ref (AD 8 0), .ref (AD 8 1), .ref (AD 8 2), .ref (AD 8 3), .ref (AD 8 4), .ref (AD 8 5), .int (nI (n 0)), .int ((nI (n 1)) + 1), .int (nI (n 2)), .int (nI (n 3)), .int (nI (n 4)), .int (nI (n 5)), .int (I 99 0), .long (J 99 0), .long (J 99 1), .long (J 99 2), .long (J 99 3)]))) (AD 0 g) = .inr (0, [.int (I 0 g), .int (I 1 g), .long (J 0 g), .long (J 1 g), .long (J 2 g), .int (I 2 g), .int (I 3 g), .int (I 4 g)]) := (va_up_ne _ _ ne_AD_0_g_AD_9_0).trans e_41
                        have e_47 : (va_up (va_up (va_up f q_18 (.inr (1, [.ref (AD 0 r), .ref (AD 0 g), .int p3, .int p4, .int p5, .int (-1), .int 0, .long 0, .long 0, .long 0]))) (AD 8 1) (.inl (ct 1, 15, .inr (.inr (.inr (.inr (va_up (fun j => if j < n 1 then some (AD 1 j) else none) (Int32.toNatClampNeg (nI (n 1))) (some q_18)))))))) (AD 9 0) (.inr (6, [.ref (AD 8 0), .ref (AD 8 1), .ref (AD 8 2), .ref (AD 8 3), .ref (AD 8 4), .ref (AD 8 5), .int (nI (n 0)), .int ((nI (n 1)) + 1), .int (nI (n 2)), .int (nI (n 3)), .int (nI (n 4)), .int (nI (n 5)), .int (I 99 0), .long (J 99 0), .long (J 99 1), .long (J 99 2), .long (J 99 3)]))) (AD 8 1) = .inl (ct 1, 15, .inr (.inr (.inr (.inr (va_up (fun j => if j < n 1 then some (AD 1 j) else none) (Int32.toNatClampNeg (nI (n 1))) (some q_18)))))) := (va_up_ne _ _ ne_AD_8_1_AD_9_0).trans e_37
                        have e_48 : (va_up (va_up (va_up f q_18 (.inr (1, [.ref (AD 0 r), .ref (AD 0 g), .int p3, .int p4, .int p5, .int (-1), .int 0, .long 0, .long 0, .long 0]))) (AD 8 1) (.inl (ct 1, 15, .inr (.inr (.inr (.inr (va_up (fun j => if j < n 1 then some (AD 1 j) else none) (Int32.toNatClampNeg (nI (n 1))) (some q_18)))))))) (AD 9 0) (.inr (6, [.ref (AD 8 0), .ref (AD 8 1), .ref (AD 8 2), .ref (AD 8 3), .ref (AD 8 4), .ref (AD 8 5), .int (nI (n 0)), .int ((nI (n 1)) + 1), .int (nI (n 2)), .int (nI (n 3)), .int (nI (n 4)), .int (nI (n 5)), .int (I 99 0), .long (J 99 0), .long (J 99 1), .long (J 99 2), .long (J 99 3)]))) q_18 = .inr (1, [.ref (AD 0 r), .ref (AD 0 g), .int p3, .int p4, .int p5, .int (-1), .int 0, .long 0, .long 0, .long 0]) := (va_up_ne _ _ ne_q_18_AD_9_0).trans e_42
                        refine lv_aload_n hx hb d_Sz_opening_146 rfl (lv_at hl 1 rfl) ?_
                        refine pg_get (C := "SmokeZones") (T := T_Sz) (N := 17) hx hb hG in_Sz hown hK hP m_19 e_43 rfl 7 (by decide) (hG _ k42) (fun _ h9 => h9) rfl d_Sz_opening_147 ?_
                        refine lv_iconst (v := 1) hx hb d_Sz_opening_150 (by decide) ?_
                        refine lv_isub hx hb d_Sz_opening_151 ?_
                        have hPk : ∀ a i, ¬ (i = n 1 ∧ pk a = 1) → (nwOpP P (n 1) p1.toNatClampNeg (farIx p2)) a i = P a i := by
                          intro a i h
                          unfold nwOpP
                          rw [up2_ne _ _ _ _ (fun e => h ⟨e.2, by rw [e.1]; rfl⟩), up2_ne _ _ _ _ (fun e => h ⟨e.2, by rw [e.1]; rfl⟩)]
                        have hN : CW ct (up2 AD 1 (n 1) q_18) (L ++ [q_18]) (va_up n 1 ((n 1) + 1)) (nwOpI I (n 1) p3 p4 p5) (nwOpJ J (n 1)) (nwOpP P (n 1) p1.toNatClampNeg (farIx p2)) (va_up (va_up (va_up f q_18 (.inr (1, [.ref (AD 0 r), .ref (AD 0 g), .int p3, .int p4, .int p5, .int (-1), .int 0, .long 0, .long 0, .long 0]))) (AD 8 1) (.inl (ct 1, 15, .inr (.inr (.inr (.inr (va_up (fun j => if j < n 1 then some (AD 1 j) else none) (Int32.toNatClampNeg (nI (n 1))) (some q_18)))))))) (AD 9 0) (.inr (6, [.ref (AD 8 0), .ref (AD 8 1), .ref (AD 8 2), .ref (AD 8 3), .ref (AD 8 4), .ref (AD 8 5), .int (nI (n 0)), .int ((nI (n 1)) + 1), .int (nI (n 2)), .int (nI (n 3)), .int (nI (n 4)), .int (nI (n 5)), .int (I 99 0), .long (J 99 0), .long (J 99 1), .long (J 99 2), .long (J 99 3)]))) := by
                          refine hCW.push (k := 1) (by decide) hn_q_18 (co_grow hCW.2.2 (by decide) (fun a b h => by unfold nwOpI; repeat' (first | rfl | rw [up2_ne _ _ _ _ (by omega)])) (fun a b h => by unfold nwOpJ; repeat' (first | rfl | rw [up2_ne _ _ _ _ (by omega)])) hPk) ?_ ?_ ?_ ?_ (inv_grow hCW.2.2 (by decide) hlt hPk (fun _ => by rw [nwOpP_1, nwOpP_2, hcl, hfx]; omega) (fun h => by omega) (fun h => by omega) (fun h => by omega) )
                          · rw [e_48]; simp [cellOf, roomE, openE, fireE, fanE, steelE, farV, up2, va_up, nwOpI, nwOpJ, nwOpP, hcl, hfx]
                          · rw [e_47, rf_push (k := 0) (by omega)]; simp [cellOf, cap, up2, va_up]
                          · rw [e_43]; simp [cellOf, mainE, up2, va_up, nI_1, nwOpI, nwOpJ]
                          · intro a h1 h2 h3; simp [va_up, h1, h2, h3]
                        have had9 : up2 AD 1 (n 1) q_18 9 0 = AD 9 0 := up2_ne _ _ _ _ (by omega)
                        refine W.widen (k := 12) (n := 100) (by decide) (by decide) ?_
                        exact vx_ret (W.iret hx hb hret (fun t ht hW => ⟨⟨_, ((up2 AD 1 (n 1) q_18), (L ++ [q_18]), va_up (va_up (va_up f q_18 (.inr (1, [.ref (AD 0 r), .ref (AD 0 g), .int p3, .int p4, .int p5, .int (-1), .int 0, .long 0, .long 0, .long 0]))) (AD 8 1) (.inl (ct 1, 15, .inr (.inr (.inr (.inr (va_up (fun j => if j < n 1 then some (AD 1 j) else none) (Int32.toNatClampNeg (nI (n 1))) (some q_18)))))))) (AD 9 0) (.inr (6, [.ref (AD 8 0), .ref (AD 8 1), .ref (AD 8 2), .ref (AD 8 3), .ref (AD 8 4), .ref (AD 8 5), .int (nI (n 0)), .int ((nI (n 1)) + 1), .int (nI (n 2)), .int (nI (n 3)), .int (nI (n 4)), .int (nI (n 5)), .int (I 99 0), .long (J 99 0), .long (J 99 1), .long (J 99 2), .long (J 99 3)]))), rfl, ⟨(by simp only [kdOpen, hcl, hcg, if_pos k_1, if_pos k_4, if_neg c_5, if_pos k_7, if_pos k_8, if_pos k_9, if_pos k_10, if_neg c_11, if_neg c_13, if_pos k_15, if_pos k_16]), (by rw [nI_1, nI_pred]), hN, had9⟩, by rw [ht]; exact hP, va_K.moved hW.alike hK, hD⟩, hS.F ht⟩) hS.2.2 d_Sz_opening_152)
                · have hfx : farIx p2 = 0 := by unfold farIx; rw [if_pos c_11]
                  refine lv_null hx hb d_Sz_opening_63 ?_
                  refine lv_goto (tgt := 73) hx hb d_Sz_opening_64 (by decide) ?_
                  refine lv_astoreN (lv' := [(6, .null), (0, .ref (AD 9 0)), (1, .int p1), (2, .int p2), (3, .int p3), (4, .int p4), (5, .int p5)]) hx hb d_Sz_opening_73 hl (by decide) rfl (fun ls hl => ?_)
                  refine lv_aloadN hx hb d_Sz_opening_75 (lv_at hl 0 rfl) ?_
                  refine lv_ifnullN (tgt := 90) hx hb d_Sz_opening_77 (by decide) ?_
                  refine lv_iconst (v := 1) hx hb d_Sz_opening_90 (by decide) ?_
                  refine lv_goto (tgt := 95) hx hb d_Sz_opening_91 (by decide) ?_
                  refine kS_ck ⟨hx, hb, hml, hown, hG⟩ (c_Sz_needArgument hl0 ) (cwS 1 hG (gS k99 k100 k1 k101) rfl rfl rfl hd_Sz_needArgument ⟨Nat.le_of_ble_eq_true rfl, Nat.le_of_ble_eq_true rfl⟩) hK hP hS hA hE rfl hl.1 rfl (Nat.le_of_ble_eq_true rfl) ⟨Nat.le_of_ble_eq_true rfl, Nat.le_of_ble_eq_true rfl⟩ d_Sz_opening_95 (fun k_49 ce q9 H1 locs hz hk hS h1 h2 h3 => ?_) (fun k_49 locs hS => ?_)
                  · exact absurd (by decide) k_49
                  · refine lv_aload_n hx hb d_Sz_opening_98 rfl (lv_at hl 1 rfl) ?_
                    refine pg_get (C := "SmokeZones") (T := T_Sz) (N := 17) hx hb hG in_Sz hown hK hP g0L g0E rfl 7 (by decide) (hG _ k42) (fun _ h9 => h9) rfl d_Sz_opening_99 ?_
                    refine lv_bipush (v := 15) hx hb d_Sz_opening_102 (by decide) ?_
                    refine kS_ck ⟨hx, hb, hml, hown, hG⟩ (c_Sz_needSpace hl0 ) (cwS 2 hG (gS k169 k170 k1 k171) rfl rfl rfl hd_Sz_needSpace ⟨Nat.le_of_ble_eq_true rfl, Nat.le_of_ble_eq_true rfl⟩) hK hP hS hA hE rfl hl.1 rfl (Nat.le_of_ble_eq_true rfl) ⟨Nat.le_of_ble_eq_true rfl, Nat.le_of_ble_eq_true rfl⟩ d_Sz_opening_104 (fun k_50 ce q9 H1 locs hz hk hS h1 h2 h3 => ?_) (fun k_50 locs hS => ?_)
                    · exact vx_out (fun x hx9 => (htab x hx9).elim) hlocks h1 h2 h3 (fun t ht hvm => ⟨(), trivial, ⟨Or.inr ⟨(by simp only [kdOpen, hcl, if_pos k_1, if_pos k_4, if_neg c_5, if_pos k_7, if_pos k_8, if_pos k_9, if_pos k_10, if_pos c_11, if_pos k_49, if_neg k_50]), rfl⟩, by rw [ht]; exact P_keep hP hk, va_K.moved hvm hK, hD⟩, hS.F ht⟩) hS.2.2 (by decide) (by decide)
                    · have hlt : n 1 < 15 := nI_lt_of (b := 15) (by omega) (by decide) k_50
                      obtain ⟨g_51L, g_51E⟩ := hCW.a1
                      have ne_AD_9_0_AD_8_1 : AD 9 0 ≠ AD 8 1 := hCW.ne (k := 9) (i := 0) (k' := 8) (i' := 1) (lv9) (lv8 (by decide)) (by omega)
                      have ne_AD_9_0_AD_0_r : AD 9 0 ≠ AD 0 r := hCW.ne (k := 9) (i := 0) (k' := 0) (i' := r) (lv9) (lv0 (by decide) hr) (by omega)
                      have ne_AD_9_0_AD_8_0 : AD 9 0 ≠ AD 8 0 := hCW.ne (k := 9) (i := 0) (k' := 8) (i' := 0) (lv9) (lv8 (by decide)) (by omega)
                      have ne_AD_8_1_AD_9_0 : AD 8 1 ≠ AD 9 0 := hCW.ne (k := 8) (i := 1) (k' := 9) (i' := 0) (lv8 (by decide)) (lv9) (by omega)
                      have ne_AD_8_1_AD_0_r : AD 8 1 ≠ AD 0 r := hCW.ne (k := 8) (i := 1) (k' := 0) (i' := r) (lv8 (by decide)) (lv0 (by decide) hr) (by omega)
                      have ne_AD_8_1_AD_8_0 : AD 8 1 ≠ AD 8 0 := hCW.ne (k := 8) (i := 1) (k' := 8) (i' := 0) (lv8 (by decide)) (lv8 (by decide)) (by omega)
                      have ne_AD_0_r_AD_9_0 : AD 0 r ≠ AD 9 0 := hCW.ne (k := 0) (i := r) (k' := 9) (i' := 0) (lv0 (by decide) hr) (lv9) (by omega)
                      have ne_AD_0_r_AD_8_1 : AD 0 r ≠ AD 8 1 := hCW.ne (k := 0) (i := r) (k' := 8) (i' := 1) (lv0 (by decide) hr) (lv8 (by decide)) (by omega)
                      have ne_AD_0_r_AD_8_0 : AD 0 r ≠ AD 8 0 := hCW.ne (k := 0) (i := r) (k' := 8) (i' := 0) (lv0 (by decide) hr) (lv8 (by decide)) (by omega)
                      have ne_AD_8_0_AD_9_0 : AD 8 0 ≠ AD 9 0 := hCW.ne (k := 8) (i := 0) (k' := 9) (i' := 0) (lv8 (by decide)) (lv9) (by omega)
                      have ne_AD_8_0_AD_8_1 : AD 8 0 ≠ AD 8 1 := hCW.ne (k := 8) (i := 0) (k' := 8) (i' := 1) (lv8 (by decide)) (lv8 (by decide)) (by omega)
                      have ne_AD_8_0_AD_0_r : AD 8 0 ≠ AD 0 r := hCW.ne (k := 8) (i := 0) (k' := 0) (i' := r) (lv8 (by decide)) (lv0 (by decide) hr) (by omega)
                      refine lv_aload_n hx hb d_Sz_opening_107 rfl (lv_at hl 1 rfl) ?_
                      refine pg_get (C := "SmokeZones") (T := T_Sz) (N := 17) hx hb hG in_Sz hown hK hP g0L g0E rfl 1 (by decide) (hG _ k36) (fun _ h9 => h9) rfl d_Sz_opening_108 ?_
                      refine lv_aload_n hx hb d_Sz_opening_111 rfl (lv_at hl 1 rfl) ?_
                      refine pg_get (C := "SmokeZones") (T := T_Sz) (N := 17) hx hb hG in_Sz hown hK hP g0L g0E rfl 7 (by decide) (hG _ k42) (fun _ h9 => h9) rfl d_Sz_opening_112 ?_
                      refine pg_new (ci := 1) (fs := [.null, .null, .int 0, .int 0, .int 0, .int 0, .int 0, .long 0, .long 0, .long 0]) (C := "SmokeZones$Opening") (T := T_Op) (N := 10) hx hb hG in_Op ty_Op ok_Op hown (hG _ k25) (hG _ k248) (hG _ k9) hK hP hD hS hA rfl (fun j hj => by first | (rcases lt10 hj with rfl | rfl | rfl | rfl | rfl | rfl | rfl | rfl | rfl | rfl <;> rfl)) (Nat.le_of_ble_eq_true rfl) (Nat.le_of_ble_eq_true rfl) d_Sz_opening_115 (fun q_52 H hn_q_52 hP hD hS => ?_)
                      have ne_AD_9_0_q_52 : AD 9 0 ≠ q_52 := fun h => hn_q_52 (h ▸ g0L)
                      have ne_q_52_AD_9_0 : q_52 ≠ AD 9 0 := fun h => ne_AD_9_0_q_52 h.symm
                      have m_53 : AD 9 0 ∈ L ++ [q_52] := List.mem_append_left _ g0L
                      have ne_AD_0_r_q_52 : AD 0 r ≠ q_52 := fun h => hn_q_52 (h ▸ g_2L)
                      have ne_q_52_AD_0_r : q_52 ≠ AD 0 r := fun h => ne_AD_0_r_q_52 h.symm
                      have m_54 : AD 0 r ∈ L ++ [q_52] := List.mem_append_left _ g_2L
                      have ne_AD_8_0_q_52 : AD 8 0 ≠ q_52 := fun h => hn_q_52 (h ▸ g_3L)
                      have ne_q_52_AD_8_0 : q_52 ≠ AD 8 0 := fun h => ne_AD_8_0_q_52 h.symm
                      have m_55 : AD 8 0 ∈ L ++ [q_52] := List.mem_append_left _ g_3L
                      have ne_AD_8_1_q_52 : AD 8 1 ≠ q_52 := fun h => hn_q_52 (h ▸ g_51L)
                      have ne_q_52_AD_8_1 : q_52 ≠ AD 8 1 := fun h => ne_AD_8_1_q_52 h.symm
                      have m_56 : AD 8 1 ∈ L ++ [q_52] := List.mem_append_left _ g_51L
                      have m_57 : q_52 ∈ L ++ [q_52] := List.mem_append_right _ (List.mem_singleton.mpr rfl)
                      have hP : va_P D vwCl (va_pl (L ++ [q_52]) (va_up f q_52 (.inr (1, [.null, .null, .int 0, .int 0, .int 0, .int 0, .int 0, .long 0, .long 0, .long 0])))) H := hP
                      have hD : va_D A (va_pl (L ++ [q_52]) (va_up f q_52 (.inr (1, [.null, .null, .int 0, .int 0, .int 0, .int 0, .int 0, .long 0, .long 0, .long 0])))) := hD
                      have e_58 : (va_up f q_52 (.inr (1, [.null, .null, .int 0, .int 0, .int 0, .int 0, .int 0, .long 0, .long 0, .long 0]))) q_52 = .inr (1, [.null, .null, .int 0, .int 0, .int 0, .int 0, .int 0, .long 0, .long 0, .long 0]) := va_up_self _ _ _
                      have e_59 : (va_up f q_52 (.inr (1, [.null, .null, .int 0, .int 0, .int 0, .int 0, .int 0, .long 0, .long 0, .long 0]))) (AD 9 0) = .inr (6, [.ref (AD 8 0), .ref (AD 8 1), .ref (AD 8 2), .ref (AD 8 3), .ref (AD 8 4), .ref (AD 8 5), .int (nI (n 0)), .int (nI (n 1)), .int (nI (n 2)), .int (nI (n 3)), .int (nI (n 4)), .int (nI (n 5)), .int (I 99 0), .long (J 99 0), .long (J 99 1), .long (J 99 2), .long (J 99 3)]) := (va_up_ne _ _ ne_AD_9_0_q_52).trans g0E
                      have e_60 : (va_up f q_52 (.inr (1, [.null, .null, .int 0, .int 0, .int 0, .int 0, .int 0, .long 0, .long 0, .long 0]))) (AD 0 r) = .inr (0, [.int (I 0 r), .int (I 1 r), .long (J 0 r), .long (J 1 r), .long (J 2 r), .int (I 2 r), .int (I 3 r), .int (I 4 r)]) := (va_up_ne _ _ ne_AD_0_r_q_52).trans g_2E
                      have e_61 : (va_up f q_52 (.inr (1, [.null, .null, .int 0, .int 0, .int 0, .int 0, .int 0, .long 0, .long 0, .long 0]))) (AD 8 0) = .inl (ct 0, 10, .inr (.inr (.inr (.inr (fun j => if j < n 0 then some (AD 0 j) else none))))) := (va_up_ne _ _ ne_AD_8_0_q_52).trans g_3E
                      have e_62 : (va_up f q_52 (.inr (1, [.null, .null, .int 0, .int 0, .int 0, .int 0, .int 0, .long 0, .long 0, .long 0]))) (AD 8 1) = .inl (ct 1, 15, .inr (.inr (.inr (.inr (fun j => if j < n 1 then some (AD 1 j) else none))))) := (va_up_ne _ _ ne_AD_8_1_q_52).trans g_51E
                      refine lv_dup hx hb d_Sz_opening_118 rfl ?_
                      refine lv_aload_n hx hb d_Sz_opening_119 rfl (lv_at hl 1 rfl) ?_
                      refine pg_get (C := "SmokeZones") (T := T_Sz) (N := 17) hx hb hG in_Sz hown hK hP m_53 e_59 rfl 0 (by decide) (hG _ k35) (fun _ h9 => h9) rfl d_Sz_opening_120 ?_
                      refine lv_iload_n hx hb d_Sz_opening_123 rfl (lv_at hl 2 rfl) ?_
                      refine pg_ald hx hb hK hP 0 m_55 e_61 rfl (by rw [er]; exact vp_in_nI (by omega) (by decide)) (by rw [er]; exact rf_at hr (by omega)) d_Sz_opening_124 ?_
                      refine lv_aloadN hx hb d_Sz_opening_125 (lv_at hl 0 rfl) ?_
                      refine lv_iload_n hx hb d_Sz_opening_127 rfl (lv_at hl 4 rfl) ?_
                      refine lv_iload hx hb d_Sz_opening_128 (lv_at hl 5 rfl) ?_
                      refine lv_iload hx hb d_Sz_opening_130 (lv_at hl 6 rfl) ?_
                      refine kI_wv (f' := va_up (va_up f q_52 (.inr (1, [.null, .null, .int 0, .int 0, .int 0, .int 0, .int 0, .long 0, .long 0, .long 0]))) q_52 (.inr (1, [.ref (AD 0 r), .null, .int p3, .int p4, .int p5, .int (-1), .int 0, .long 0, .long 0, .long 0]))) ⟨hx, hb, hml, hown, hG⟩ (c_Op_init_n m_57 e_58) (cwI 5 hG (gw_c k251) rfl rfl rfl (hG _ k9) (hG _ k249) (hG _ k250) rfl hd_Op_init ⟨Nat.le_of_ble_eq_true rfl, Nat.le_of_ble_eq_true rfl⟩) hK hP hD hS hA rfl hl.1 rfl (Nat.le_of_ble_eq_true rfl) ⟨Nat.le_of_ble_eq_true rfl, Nat.le_of_ble_eq_true rfl⟩ d_Sz_opening_132 (fun H locs hP hD hS => ?_)
                      rw [bx_uu] at hP hD
                      have hP : va_P D vwCl (va_pl (L ++ [q_52]) (va_up f q_52 (.inr (1, [.ref (AD 0 r), .null, .int p3, .int p4, .int p5, .int (-1), .int 0, .long 0, .long 0, .long 0])))) H := hP
                      have hD : va_D A (va_pl (L ++ [q_52]) (va_up f q_52 (.inr (1, [.ref (AD 0 r), .null, .int p3, .int p4, .int p5, .int (-1), .int 0, .long 0, .long 0, .long 0])))) := hD
                      have e_63 : (va_up f q_52 (.inr (1, [.ref (AD 0 r), .null, .int p3, .int p4, .int p5, .int (-1), .int 0, .long 0, .long 0, .long 0]))) q_52 = .inr (1, [.ref (AD 0 r), .null, .int p3, .int p4, .int p5, .int (-1), .int 0, .long 0, .long 0, .long 0]) := va_up_self _ _ _
                      have e_64 : (va_up f q_52 (.inr (1, [.ref (AD 0 r), .null, .int p3, .int p4, .int p5, .int (-1), .int 0, .long 0, .long 0, .long 0]))) (AD 9 0) = .inr (6, [.ref (AD 8 0), .ref (AD 8 1), .ref (AD 8 2), .ref (AD 8 3), .ref (AD 8 4), .ref (AD 8 5), .int (nI (n 0)), .int (nI (n 1)), .int (nI (n 2)), .int (nI (n 3)), .int (nI (n 4)), .int (nI (n 5)), .int (I 99 0), .long (J 99 0), .long (J 99 1), .long (J 99 2), .long (J 99 3)]) := (va_up_ne _ _ ne_AD_9_0_q_52).trans g0E
                      have e_65 : (va_up f q_52 (.inr (1, [.ref (AD 0 r), .null, .int p3, .int p4, .int p5, .int (-1), .int 0, .long 0, .long 0, .long 0]))) (AD 0 r) = .inr (0, [.int (I 0 r), .int (I 1 r), .long (J 0 r), .long (J 1 r), .long (J 2 r), .int (I 2 r), .int (I 3 r), .int (I 4 r)]) := (va_up_ne _ _ ne_AD_0_r_q_52).trans g_2E
                      have e_66 : (va_up f q_52 (.inr (1, [.ref (AD 0 r), .null, .int p3, .int p4, .int p5, .int (-1), .int 0, .long 0, .long 0, .long 0]))) (AD 8 0) = .inl (ct 0, 10, .inr (.inr (.inr (.inr (fun j => if j < n 0 then some (AD 0 j) else none))))) := (va_up_ne _ _ ne_AD_8_0_q_52).trans g_3E
                      have e_67 : (va_up f q_52 (.inr (1, [.ref (AD 0 r), .null, .int p3, .int p4, .int p5, .int (-1), .int 0, .long 0, .long 0, .long 0]))) (AD 8 1) = .inl (ct 1, 15, .inr (.inr (.inr (.inr (fun j => if j < n 1 then some (AD 1 j) else none))))) := (va_up_ne _ _ ne_AD_8_1_q_52).trans g_51E
                      refine pg_astq hx hb hK hP hD hS 1 1 m_56 e_67 rfl m_57 e_63 rfl (vp_in_nI hlt (by decide)) d_Sz_opening_135 (fun H locs hP hD hS => ?_)
                      have hP : va_P D vwCl (va_pl (L ++ [q_52]) (va_up (va_up f q_52 (.inr (1, [.ref (AD 0 r), .null, .int p3, .int p4, .int p5, .int (-1), .int 0, .long 0, .long 0, .long 0]))) (AD 8 1) (.inl (ct 1, 15, .inr (.inr (.inr (.inr (va_up (fun j => if j < n 1 then some (AD 1 j) else none) (Int32.toNatClampNeg (nI (n 1))) (some q_52))))))))) H := hP
                      have hD : va_D A (va_pl (L ++ [q_52]) (va_up (va_up f q_52 (.inr (1, [.ref (AD 0 r), .null, .int p3, .int p4, .int p5, .int (-1), .int 0, .long 0, .long 0, .long 0]))) (AD 8 1) (.inl (ct 1, 15, .inr (.inr (.inr (.inr (va_up (fun j => if j < n 1 then some (AD 1 j) else none) (Int32.toNatClampNeg (nI (n 1))) (some q_52))))))))) := hD
                      have e_68 : (va_up (va_up f q_52 (.inr (1, [.ref (AD 0 r), .null, .int p3, .int p4, .int p5, .int (-1), .int 0, .long 0, .long 0, .long 0]))) (AD 8 1) (.inl (ct 1, 15, .inr (.inr (.inr (.inr (va_up (fun j => if j < n 1 then some (AD 1 j) else none) (Int32.toNatClampNeg (nI (n 1))) (some q_52)))))))) (AD 8 1) = .inl (ct 1, 15, .inr (.inr (.inr (.inr (va_up (fun j => if j < n 1 then some (AD 1 j) else none) (Int32.toNatClampNeg (nI (n 1))) (some q_52)))))) := va_up_self _ _ _
                      have e_69 : (va_up (va_up f q_52 (.inr (1, [.ref (AD 0 r), .null, .int p3, .int p4, .int p5, .int (-1), .int 0, .long 0, .long 0, .long 0]))) (AD 8 1) (.inl (ct 1, 15, .inr (.inr (.inr (.inr (va_up (fun j => if j < n 1 then some (AD 1 j) else none) (Int32.toNatClampNeg (nI (n 1))) (some q_52)))))))) (AD 9 0) = .inr (6, [.ref (AD 8 0), .ref (AD 8 1), .ref (AD 8 2), .ref (AD 8 3), .ref (AD 8 4), .ref (AD 8 5), .int (nI (n 0)), .int (nI (n 1)), .int (nI (n 2)), .int (nI (n 3)), .int (nI (n 4)), .int (nI (n 5)), .int (I 99 0), .long (J 99 0), .long (J 99 1), .long (J 99 2), .long (J 99 3)]) := (va_up_ne _ _ ne_AD_9_0_AD_8_1).trans e_64
                      have e_70 : (va_up (va_up f q_52 (.inr (1, [.ref (AD 0 r), .null, .int p3, .int p4, .int p5, .int (-1), .int 0, .long 0, .long 0, .long 0]))) (AD 8 1) (.inl (ct 1, 15, .inr (.inr (.inr (.inr (va_up (fun j => if j < n 1 then some (AD 1 j) else none) (Int32.toNatClampNeg (nI (n 1))) (some q_52)))))))) (AD 0 r) = .inr (0, [.int (I 0 r), .int (I 1 r), .long (J 0 r), .long (J 1 r), .long (J 2 r), .int (I 2 r), .int (I 3 r), .int (I 4 r)]) := (va_up_ne _ _ ne_AD_0_r_AD_8_1).trans e_65
                      have e_71 : (va_up (va_up f q_52 (.inr (1, [.ref (AD 0 r), .null, .int p3, .int p4, .int p5, .int (-1), .int 0, .long 0, .long 0, .long 0]))) (AD 8 1) (.inl (ct 1, 15, .inr (.inr (.inr (.inr (va_up (fun j => if j < n 1 then some (AD 1 j) else none) (Int32.toNatClampNeg (nI (n 1))) (some q_52)))))))) (AD 8 0) = .inl (ct 0, 10, .inr (.inr (.inr (.inr (fun j => if j < n 0 then some (AD 0 j) else none))))) := (va_up_ne _ _ ne_AD_8_0_AD_8_1).trans e_66
                      have e_72 : (va_up (va_up f q_52 (.inr (1, [.ref (AD 0 r), .null, .int p3, .int p4, .int p5, .int (-1), .int 0, .long 0, .long 0, .long 0]))) (AD 8 1) (.inl (ct 1, 15, .inr (.inr (.inr (.inr (va_up (fun j => if j < n 1 then some (AD 1 j) else none) (Int32.toNatClampNeg (nI (n 1))) (some q_52)))))))) q_52 = .inr (1, [.ref (AD 0 r), .null, .int p3, .int p4, .int p5, .int (-1), .int 0, .long 0, .long 0, .long 0]) := (va_up_ne _ _ ne_q_52_AD_8_1).trans e_63
                      refine lv_aload_n hx hb d_Sz_opening_136 rfl (lv_at hl 1 rfl) ?_
                      refine lv_dup hx hb d_Sz_opening_137 rfl ?_
                      refine pg_get (C := "SmokeZones") (T := T_Sz) (N := 17) hx hb hG in_Sz hown hK hP m_53 e_69 rfl 7 (by decide) (hG _ k42) (fun _ h9 => h9) rfl d_Sz_opening_138 ?_
                      refine lv_iconst (v := 1) hx hb d_Sz_opening_141 (by decide) ?_
                      refine lv_iadd hx hb d_Sz_opening_142 ?_
                      refine pg_put (C := "SmokeZones") (T := T_Sz) (N := 17) (ty := .int) hx hb hG in_Sz ty_Sz ok_Sz nm_Sz hown hK hP hD hS m_53 e_69 rfl 7 (by decide) (hG _ k42) (fun _ h9 => h9) rfl (by decide +kernel) rfl rfl (Nat.le_of_ble_eq_true rfl) d_Sz_opening_143 (fun H locs hP hD hS => ?_)
                      have hP : va_P D vwCl (va_pl (L ++ [q_52]) (va_up (va_up (va_up f q_52 (.inr (1, [.ref (AD 0 r), .null, .int p3, .int p4, .int p5, .int (-1), .int 0, .long 0, .long 0, .long 0]))) (AD 8 1) (.inl (ct 1, 15, .inr (.inr (.inr (.inr (va_up (fun j => if j < n 1 then some (AD 1 j) else none) (Int32.toNatClampNeg (nI (n 1))) (some q_52)))))))) (AD 9 0) (.inr (6, [.ref (AD 8 0), .ref (AD 8 1), .ref (AD 8 2), .ref (AD 8 3), .ref (AD 8 4), .ref (AD 8 5), .int (nI (n 0)), .int ((nI (n 1)) + 1), .int (nI (n 2)), .int (nI (n 3)), .int (nI (n 4)), .int (nI (n 5)), .int (I 99 0), .long (J 99 0), .long (J 99 1), .long (J 99 2), .long (J 99 3)])))) H := hP
                      have hD : va_D A (va_pl (L ++ [q_52]) (va_up (va_up (va_up f q_52 (.inr (1, [.ref (AD 0 r), .null, .int p3, .int p4, .int p5, .int (-1), .int 0, .long 0, .long 0, .long 0]))) (AD 8 1) (.inl (ct 1, 15, .inr (.inr (.inr (.inr (va_up (fun j => if j < n 1 then some (AD 1 j) else none) (Int32.toNatClampNeg (nI (n 1))) (some q_52)))))))) (AD 9 0) (.inr (6, [.ref (AD 8 0), .ref (AD 8 1), .ref (AD 8 2), .ref (AD 8 3), .ref (AD 8 4), .ref (AD 8 5), .int (nI (n 0)), .int ((nI (n 1)) + 1), .int (nI (n 2)), .int (nI (n 3)), .int (nI (n 4)), .int (nI (n 5)), .int (I 99 0), .long (J 99 0), .long (J 99 1), .long (J 99 2), .long (J 99 3)])))) := hD
                      have e_73 : (va_up (va_up (va_up f q_52 (.inr (1, [.ref (AD 0 r), .null, .int p3, .int p4, .int p5, .int (-1), .int 0, .long 0, .long 0, .long 0]))) (AD 8 1) (.inl (ct 1, 15, .inr (.inr (.inr (.inr (va_up (fun j => if j < n 1 then some (AD 1 j) else none) (Int32.toNatClampNeg (nI (n 1))) (some q_52)))))))) (AD 9 0) (.inr (6, [.ref (AD 8 0), .ref (AD 8 1), .ref (AD 8 2), .ref (AD 8 3), .ref (AD 8 4), .ref (AD 8 5), .int (nI (n 0)), .int ((nI (n 1)) + 1), .int (nI (n 2)), .int (nI (n 3)), .int (nI (n 4)), .int (nI (n 5)), .int (I 99 0), .long (J 99 0), .long (J 99 1), .long (J 99 2), .long (J 99 3)]))) (AD 9 0) = .inr (6, [.ref (AD 8 0), .ref (AD 8 1), .ref (AD 8 2), .ref (AD 8 3), .ref (AD 8 4), .ref (AD 8 5), .int (nI (n 0)), .int ((nI (n 1)) + 1), .int (nI (n 2)), .int (nI (n 3)), .int (nI (n 4)), .int (nI (n 5)), .int (I 99 0), .long (J 99 0), .long (J 99 1), .long (J 99 2), .long (J 99 3)]) := va_up_self _ _ _
                      have e_74 : (va_up (va_up (va_up f q_52 (.inr (1, [.ref (AD 0 r), .null, .int p3, .int p4, .int p5, .int (-1), .int 0, .long 0, .long 0, .long 0]))) (AD 8 1) (.inl (ct 1, 15, .inr (.inr (.inr (.inr (va_up (fun j => if j < n 1 then some (AD 1 j) else none) (Int32.toNatClampNeg (nI (n 1))) (some q_52)))))))) (AD 9 0) (.inr (6, [.ref (AD 8 0), .ref (AD 8 1), .ref (AD 8 2), .ref (AD 8 3), .ref (AD 8 4), .ref (AD 8 5), .int (nI (n 0)), .int ((nI (n 1)) + 1), .int (nI (n 2)), .int (nI (n 3)), .int (nI (n 4)), .int (nI (n 5)), .int (I 99 0), .long (J 99 0), .long (J 99 1), .long (J 99 2), .long (J 99 3)]))) (AD 0 r) = .inr (0, [.int (I 0 r), .int (I 1 r), .long (J 0 r), .long (J 1 r), .long (J 2 r), .int (I 2 r), .int (I 3 r), .int (I 4 r)]) := (va_up_ne _ _ ne_AD_0_r_AD_9_0).trans e_70
                      have e_75 : (va_up (va_up (va_up f q_52 (.inr (1, [.ref (AD 0 r), .null, .int p3, .int p4, .int p5, .int (-1), .int 0, .long 0, .long 0, .long 0]))) (AD 8 1) (.inl (ct 1, 15, .inr (.inr (.inr (.inr (va_up (fun j => if j < n 1 then some (AD 1 j) else none) (Int32.toNatClampNeg (nI (n 1))) (some q_52)))))))) (AD 9 0) (.inr (6, [.ref (AD 8 0), .ref (AD 8 1), .ref (AD 8 2), .ref (AD 8 3), .ref (AD 8 4), .ref (AD 8 5), .int (nI (n 0)), .int ((nI (n 1)) + 1), .int (nI (n 2)), .int (nI (n 3)), .int (nI (n 4)), .int (nI (n 5)), .int (I 99 0), .long (J 99 0), .long (J 99 1), .long (J 99 2), .long (J 99 3)]))) (AD 8 0) = .inl (ct 0, 10, .inr (.inr (.inr (.inr (fun j => if j < n 0 then some (AD 0 j) else none))))) := (va_up_ne _ _ ne_AD_8_0_AD_9_0).trans e_71
                      have e_76 : (va_up (va_up (va_up f q_52 (.inr (1, [.ref (AD 0 r), .null, .int p3, .int p4, .int p5, .int (-1), .int 0, .long 0, .long 0, .long 0]))) (AD 8 1) (.inl (ct 1, 15, .inr (.inr (.inr (.inr (va_up (fun j => if j < n 1 then some (AD 1 j) else none) (Int32.toNatClampNeg (nI (n 1))) (some q_52)))))))) (AD 9 0) (.inr (6, [.ref (AD 8 0), .ref (AD 8 1), .ref (AD 8 2), .ref (AD 8 3), .ref (AD 8 4), .ref (AD 8 5), .int (nI (n 0)), .int ((nI (n 1)) + 1), .int (nI (n 2)), .int (nI (n 3)), .int (nI (n 4)), .int (nI (n 5)), .int (I 99 0), .long (J 99 0), .long (J 99 1), .long (J 99 2), .long (J 99 3)]))) (AD 8 1) = .inl (ct 1, 15, .inr (.inr (.inr (.inr (va_up (fun j => if j < n 1 then some (AD 1 j) else none) (Int32.toNatClampNeg (nI (n 1))) (some q_52)))))) := (va_up_ne _ _ ne_AD_8_1_AD_9_0).trans e_68
                      have e_77 : (va_up (va_up (va_up f q_52 (.inr (1, [.ref (AD 0 r), .null, .int p3, .int p4, .int p5, .int (-1), .int 0, .long 0, .long 0, .long 0]))) (AD 8 1) (.inl (ct 1, 15, .inr (.inr (.inr (.inr (va_up (fun j => if j < n 1 then some (AD 1 j) else none) (Int32.toNatClampNeg (nI (n 1))) (some q_52)))))))) (AD 9 0) (.inr (6, [.ref (AD 8 0), .ref (AD 8 1), .ref (AD 8 2), .ref (AD 8 3), .ref (AD 8 4), .ref (AD 8 5), .int (nI (n 0)), .int ((nI (n 1)) + 1), .int (nI (n 2)), .int (nI (n 3)), .int (nI (n 4)), .int (nI (n 5)), .int (I 99 0), .long (J 99 0), .long (J 99 1), .long (J 99 2), .long (J 99 3)]))) q_52 = .inr (1, [.ref (AD 0 r), .null, .int p3, .int p4, .int p5, .int (-1), .int 0, .long 0, .long 0, .long 0]) := (va_up_ne _ _ ne_q_52_AD_9_0).trans e_72
                      refine lv_aload_n hx hb d_Sz_opening_146 rfl (lv_at hl 1 rfl) ?_
                      refine pg_get (C := "SmokeZones") (T := T_Sz) (N := 17) hx hb hG in_Sz hown hK hP m_53 e_73 rfl 7 (by decide) (hG _ k42) (fun _ h9 => h9) rfl d_Sz_opening_147 ?_
                      refine lv_iconst (v := 1) hx hb d_Sz_opening_150 (by decide) ?_
                      refine lv_isub hx hb d_Sz_opening_151 ?_
                      have hPk : ∀ a i, ¬ (i = n 1 ∧ pk a = 1) → (nwOpP P (n 1) p1.toNatClampNeg (farIx p2)) a i = P a i := by
                        intro a i h
                        unfold nwOpP
                        rw [up2_ne _ _ _ _ (fun e => h ⟨e.2, by rw [e.1]; rfl⟩), up2_ne _ _ _ _ (fun e => h ⟨e.2, by rw [e.1]; rfl⟩)]
                      have hN : CW ct (up2 AD 1 (n 1) q_52) (L ++ [q_52]) (va_up n 1 ((n 1) + 1)) (nwOpI I (n 1) p3 p4 p5) (nwOpJ J (n 1)) (nwOpP P (n 1) p1.toNatClampNeg (farIx p2)) (va_up (va_up (va_up f q_52 (.inr (1, [.ref (AD 0 r), .null, .int p3, .int p4, .int p5, .int (-1), .int 0, .long 0, .long 0, .long 0]))) (AD 8 1) (.inl (ct 1, 15, .inr (.inr (.inr (.inr (va_up (fun j => if j < n 1 then some (AD 1 j) else none) (Int32.toNatClampNeg (nI (n 1))) (some q_52)))))))) (AD 9 0) (.inr (6, [.ref (AD 8 0), .ref (AD 8 1), .ref (AD 8 2), .ref (AD 8 3), .ref (AD 8 4), .ref (AD 8 5), .int (nI (n 0)), .int ((nI (n 1)) + 1), .int (nI (n 2)), .int (nI (n 3)), .int (nI (n 4)), .int (nI (n 5)), .int (I 99 0), .long (J 99 0), .long (J 99 1), .long (J 99 2), .long (J 99 3)]))) := by
                        refine hCW.push (k := 1) (by decide) hn_q_52 (co_grow hCW.2.2 (by decide) (fun a b h => by unfold nwOpI; repeat' (first | rfl | rw [up2_ne _ _ _ _ (by omega)])) (fun a b h => by unfold nwOpJ; repeat' (first | rfl | rw [up2_ne _ _ _ _ (by omega)])) hPk) ?_ ?_ ?_ ?_ (inv_grow hCW.2.2 (by decide) hlt hPk (fun _ => by rw [nwOpP_1, nwOpP_2, hcl, hfx]; omega) (fun h => by omega) (fun h => by omega) (fun h => by omega) )
                        · rw [e_77]; simp [cellOf, roomE, openE, fireE, fanE, steelE, farV, up2, va_up, nwOpI, nwOpJ, nwOpP, hcl, hfx]
                        · rw [e_76, rf_push (k := 0) (by omega)]; simp [cellOf, cap, up2, va_up]
                        · rw [e_73]; simp [cellOf, mainE, up2, va_up, nI_1, nwOpI, nwOpJ]
                        · intro a h1 h2 h3; simp [va_up, h1, h2, h3]
                      have had9 : up2 AD 1 (n 1) q_52 9 0 = AD 9 0 := up2_ne _ _ _ _ (by omega)
                      refine W.widen (k := 12) (n := 100) (by decide) (by decide) ?_
                      exact vx_ret (W.iret hx hb hret (fun t ht hW => ⟨⟨_, ((up2 AD 1 (n 1) q_52), (L ++ [q_52]), va_up (va_up (va_up f q_52 (.inr (1, [.ref (AD 0 r), .null, .int p3, .int p4, .int p5, .int (-1), .int 0, .long 0, .long 0, .long 0]))) (AD 8 1) (.inl (ct 1, 15, .inr (.inr (.inr (.inr (va_up (fun j => if j < n 1 then some (AD 1 j) else none) (Int32.toNatClampNeg (nI (n 1))) (some q_52)))))))) (AD 9 0) (.inr (6, [.ref (AD 8 0), .ref (AD 8 1), .ref (AD 8 2), .ref (AD 8 3), .ref (AD 8 4), .ref (AD 8 5), .int (nI (n 0)), .int ((nI (n 1)) + 1), .int (nI (n 2)), .int (nI (n 3)), .int (nI (n 4)), .int (nI (n 5)), .int (I 99 0), .long (J 99 0), .long (J 99 1), .long (J 99 2), .long (J 99 3)]))), rfl, ⟨(by simp only [kdOpen, hcl, if_pos k_1, if_pos k_4, if_neg c_5, if_pos k_7, if_pos k_8, if_pos k_9, if_pos k_10, if_pos c_11, if_pos k_49, if_pos k_50]), (by rw [nI_1, nI_pred]), hN, had9⟩, by rw [ht]; exact hP, va_K.moved hW.alike hK, hD⟩, hS.F ht⟩) hS.2.2 d_Sz_opening_152)

set_option maxHeartbeats 4000000 in
set_option maxRecDepth 100000 in
theorem c_Sz_go {l : Launch} (hl0 : l.stackTraces = false) {D : va_G} {ct : Nat → ClassId} {AD : Nat → Nat → Nat} {L : List Nat} {f : Nat → va_E} {sz : Nat} {n : Nat → Nat} {I : Nat → Nat → Int32} {J : Nat → Nat → Int64} {P : Nat → Nat → Nat} {sa sb : Nat} {p1 p2 p3 : Int32} (hCW : CW ct AD L n I J P f)  : vx_Met l y_Sz_go (WS y_Sz_go b_Sz_go 4 none) { frames := 8, cells := 12, slots := 100, locals := 132 } (va_Pc [.ref (AD 9 0), .int p1, .int p2, .int p3] (MP D ct L f sa sb sz)) (va_Qv (fun (u : CSt) => (kdGo n I P p1 p2 p3) = 0 ∧ CW ct u.1 u.2.1 n (nwGoI I P p1.toNatClampNeg p2 p3) J (nwGoP P p1.toNatClampNeg) u.2.2 ∧ u.1 9 0 = AD 9 0) (fun u t => WQ D (TYS ct) u.2.1 u.2.2 (AA L f sz) t) (AA L f sz)) (XE D ct L f (AA L f sz) (kdGo n I P p1 p2 p3)) 12 100 (AA L f sz) := by
  refine vx_ofW (cc := b_Sz_go) (maxL := 4) (ret := none) (by decide) rfl ?_
  intro p e s m args below meth c s₁ B hml htab hv
  obtain ⟨rfl, hsz, hP, hK, hD0, hE⟩ := hv
  subst hsz
  have hx := B.exec
  have hb := B.bytes
  have hret := B.returns
  have hts := atoms_spec (ws := WS y_Sz_go b_Sz_go 4 none) B.pre
  have hG : ∀ w ∈ GW, w.before _ s = true := fun w h => hts w (List.mem_cons_of_mem _ h)
  have hown : s.vm.findClass "SmokeZones" = some m.cls := findClass_of_methodNamed B.named
  have hlocks := B.notSynchronized
  have hD : va_D (AA L f s.heap.size) (va_pl L f) := hD0.self (sz := s.heap.size)
  generalize hAe : AA L f s.heap.size = A at hD hE ⊢
  have hA : ∀ q : Nat, s.heap.size ≤ q → A q := fun q h => by rw [← hAe]; exact Or.inr h
  have hS : va_S A s.heap s.heap [] := va_S.rf
  have hl := lv_entry ([.ref (AD 9 0), .int p1, .int p2, .int p3]) (n := 4) (Nat.le_of_ble_eq_true rfl)
  rw [lg_entry_eq]
  generalize (lg_sl ([.ref (AD 9 0), .int p1, .int p2, .int p3]) ++ List.replicate (4 - (lg_sl ([.ref (AD 9 0), .int p1, .int p2, .int p3])).length) Slot.unset).toArray = ls at hl ⊢
  have hl : lv_has ls 4 [(0, .ref (AD 9 0)), (1, .int p1), (2, .int p2), (3, .int p3)] := hl
  obtain ⟨g0L, g0E⟩ := hCW.ma
  have hc0 := hCW.cap0
  have hc1 := hCW.cap1
  have hc2 := hCW.cap2
  have hc3 := hCW.cap3
  have hc4 := hCW.cap4
  have hc5 := hCW.cap5
  refine lv_iload_n hx hb d_Sz_go_0 rfl (lv_at hl 1 rfl) ?_
  refine lv_aload_n hx hb d_Sz_go_1 rfl (lv_at hl 0 rfl) ?_
  refine pg_get (C := "SmokeZones") (T := T_Sz) (N := 17) hx hb hG in_Sz hown hK hP g0L g0E rfl 11 (by decide) (hG _ k46) (fun _ h9 => h9) rfl d_Sz_go_2 ?_
  refine kS_ck ⟨hx, hb, hml, hown, hG⟩ (c_Sz_needNumber hl0 ) (cwS 2 hG (gS k237 k238 k1 k239) rfl rfl rfl hd_Sz_needNumber ⟨Nat.le_of_ble_eq_true rfl, Nat.le_of_ble_eq_true rfl⟩) hK hP hS hA hE rfl hl.1 rfl (Nat.le_of_ble_eq_true rfl) ⟨Nat.le_of_ble_eq_true rfl, Nat.le_of_ble_eq_true rfl⟩ d_Sz_go_5 (fun k_1 ce q9 H1 locs hz hk hS h1 h2 h3 => ?_) (fun k_1 locs hS => ?_)
  · exact vx_out (fun x hx9 => (htab x hx9).elim) hlocks h1 h2 h3 (fun t ht hvm => ⟨(), trivial, ⟨Or.inl ⟨(by simp only [kdGo, if_neg k_1]), rfl⟩, by rw [ht]; exact P_keep hP hk, va_K.moved hvm hK, hD⟩, hS.F ht⟩) hS.2.2 (by decide) (by decide)
  · obtain ⟨r, hr, er⟩ := num_of k_1 (by omega)
    have hcl : (p1).toNatClampNeg = r := by rw [er]; exact nI_clamp (by omega)
    obtain ⟨h20, hwk⟩ := hCW.2.2.2.2.2.2.2 r hr
    obtain ⟨g_2L, g_2E⟩ := hCW.pe hr
    obtain ⟨g_3L, g_3E⟩ := hCW.w1 hr
    obtain ⟨g_4L, g_4E⟩ := hCW.w2 hr
    obtain ⟨g_5L, g_5E⟩ := hCW.a5
    have ne_AD_9_0_AD_5_r : AD 9 0 ≠ AD 5 r := hCW.ne (k := 9) (i := 0) (k' := 5) (i' := r) (lv9) (lv0 (by decide) hr) (by omega)
    have ne_AD_9_0_AD_6_r : AD 9 0 ≠ AD 6 r := hCW.ne (k := 9) (i := 0) (k' := 6) (i' := r) (lv9) (lv6 hr) (by omega)
    have ne_AD_9_0_AD_7_r : AD 9 0 ≠ AD 7 r := hCW.ne (k := 9) (i := 0) (k' := 7) (i' := r) (lv9) (lv7 hr) (by omega)
    have ne_AD_9_0_AD_8_5 : AD 9 0 ≠ AD 8 5 := hCW.ne (k := 9) (i := 0) (k' := 8) (i' := 5) (lv9) (lv8 (by decide)) (by omega)
    have ne_AD_5_r_AD_9_0 : AD 5 r ≠ AD 9 0 := hCW.ne (k := 5) (i := r) (k' := 9) (i' := 0) (lv0 (by decide) hr) (lv9) (by omega)
    have ne_AD_5_r_AD_6_r : AD 5 r ≠ AD 6 r := hCW.ne (k := 5) (i := r) (k' := 6) (i' := r) (lv0 (by decide) hr) (lv6 hr) (by omega)
    have ne_AD_5_r_AD_7_r : AD 5 r ≠ AD 7 r := hCW.ne (k := 5) (i := r) (k' := 7) (i' := r) (lv0 (by decide) hr) (lv7 hr) (by omega)
    have ne_AD_5_r_AD_8_5 : AD 5 r ≠ AD 8 5 := hCW.ne (k := 5) (i := r) (k' := 8) (i' := 5) (lv0 (by decide) hr) (lv8 (by decide)) (by omega)
    have ne_AD_6_r_AD_9_0 : AD 6 r ≠ AD 9 0 := hCW.ne (k := 6) (i := r) (k' := 9) (i' := 0) (lv6 hr) (lv9) (by omega)
    have ne_AD_6_r_AD_5_r : AD 6 r ≠ AD 5 r := hCW.ne (k := 6) (i := r) (k' := 5) (i' := r) (lv6 hr) (lv0 (by decide) hr) (by omega)
    have ne_AD_6_r_AD_7_r : AD 6 r ≠ AD 7 r := hCW.ne (k := 6) (i := r) (k' := 7) (i' := r) (lv6 hr) (lv7 hr) (by omega)
    have ne_AD_6_r_AD_8_5 : AD 6 r ≠ AD 8 5 := hCW.ne (k := 6) (i := r) (k' := 8) (i' := 5) (lv6 hr) (lv8 (by decide)) (by omega)
    have ne_AD_7_r_AD_9_0 : AD 7 r ≠ AD 9 0 := hCW.ne (k := 7) (i := r) (k' := 9) (i' := 0) (lv7 hr) (lv9) (by omega)
    have ne_AD_7_r_AD_5_r : AD 7 r ≠ AD 5 r := hCW.ne (k := 7) (i := r) (k' := 5) (i' := r) (lv7 hr) (lv0 (by decide) hr) (by omega)
    have ne_AD_7_r_AD_6_r : AD 7 r ≠ AD 6 r := hCW.ne (k := 7) (i := r) (k' := 6) (i' := r) (lv7 hr) (lv6 hr) (by omega)
    have ne_AD_7_r_AD_8_5 : AD 7 r ≠ AD 8 5 := hCW.ne (k := 7) (i := r) (k' := 8) (i' := 5) (lv7 hr) (lv8 (by decide)) (by omega)
    have ne_AD_8_5_AD_9_0 : AD 8 5 ≠ AD 9 0 := hCW.ne (k := 8) (i := 5) (k' := 9) (i' := 0) (lv8 (by decide)) (lv9) (by omega)
    have ne_AD_8_5_AD_5_r : AD 8 5 ≠ AD 5 r := hCW.ne (k := 8) (i := 5) (k' := 5) (i' := r) (lv8 (by decide)) (lv0 (by decide) hr) (by omega)
    have ne_AD_8_5_AD_6_r : AD 8 5 ≠ AD 6 r := hCW.ne (k := 8) (i := 5) (k' := 6) (i' := r) (lv8 (by decide)) (lv6 hr) (by omega)
    have ne_AD_8_5_AD_7_r : AD 8 5 ≠ AD 7 r := hCW.ne (k := 8) (i := 5) (k' := 7) (i' := r) (lv8 (by decide)) (lv7 hr) (by omega)
    refine lv_iload_n hx hb d_Sz_go_8 rfl (lv_at hl 2 rfl) ?_
    refine lv_aload_n hx hb d_Sz_go_9 rfl (lv_at hl 0 rfl) ?_
    refine pg_get (C := "SmokeZones") (T := T_Sz) (N := 17) hx hb hG in_Sz hown hK hP g0L g0E rfl 12 (by decide) (hG _ k47) (fun _ h9 => h9) rfl d_Sz_go_10 ?_
    refine lv_ldc hx hb hown (hG _ k301) d_Sz_go_13 ?_
    refine kS_ck ⟨hx, hb, hml, hown, hG⟩ (c_Sz_needBetween hl0 ) (cwS 3 hG (gS k96 k97 k1 k98) rfl rfl rfl hd_Sz_needBetween ⟨Nat.le_of_ble_eq_true rfl, Nat.le_of_ble_eq_true rfl⟩) hK hP hS hA hE rfl hl.1 rfl (Nat.le_of_ble_eq_true rfl) ⟨Nat.le_of_ble_eq_true rfl, Nat.le_of_ble_eq_true rfl⟩ d_Sz_go_15 (fun k_6 ce q9 H1 locs hz hk hS h1 h2 h3 => ?_) (fun k_6 locs hS => ?_)
    · exact vx_out (fun x hx9 => (htab x hx9).elim) hlocks h1 h2 h3 (fun t ht hvm => ⟨(), trivial, ⟨Or.inl ⟨(by simp only [kdGo, hcl, if_pos k_1, if_neg k_6]), rfl⟩, by rw [ht]; exact P_keep hP hk, va_K.moved hvm hK, hD⟩, hS.F ht⟩) hS.2.2 (by decide) (by decide)
    · refine lv_aload_n hx hb d_Sz_go_18 rfl (lv_at hl 0 rfl) ?_
      refine lv_iload_n hx hb d_Sz_go_19 rfl (lv_at hl 3 rfl) ?_
      refine kV_ck ⟨hx, hb, hml, hown, hG⟩ (c_Sz_needPlace hl0 g0L g0E) (cwV 1 hG (gV k240 k242 ks_Sz_needPlace k1 k243) rfl rfl rfl hd_Sz_needPlace ⟨Nat.le_of_ble_eq_true rfl, Nat.le_of_ble_eq_true rfl⟩) hK hP hS hA hE g0L g0E rfl rfl hl.1 rfl (Nat.le_of_ble_eq_true rfl) ⟨Nat.le_of_ble_eq_true rfl, Nat.le_of_ble_eq_true rfl⟩ d_Sz_go_20 (fun k_7 ce q9 H1 locs hz hk hS h1 h2 h3 => ?_) (fun k_7 locs hS => ?_)
      · exact vx_out (fun x hx9 => (htab x hx9).elim) hlocks h1 h2 h3 (fun t ht hvm => ⟨(), trivial, ⟨Or.inl ⟨(by simp only [kdGo, hcl, if_pos k_1, if_pos k_6, if_neg k_7]), rfl⟩, by rw [ht]; exact P_keep hP hk, va_K.moved hvm hK, hD⟩, hS.F ht⟩) hS.2.2 (by decide) (by decide)
      · refine lv_aload_n hx hb d_Sz_go_23 rfl (lv_at hl 0 rfl) ?_
        refine pg_get (C := "SmokeZones") (T := T_Sz) (N := 17) hx hb hG in_Sz hown hK hP g0L g0E rfl 5 (by decide) (hG _ k40) (fun _ h9 => h9) rfl d_Sz_go_24 ?_
        refine lv_iload_n hx hb d_Sz_go_27 rfl (lv_at hl 1 rfl) ?_
        refine pg_ald hx hb hK hP 5 g_5L g_5E rfl (by rw [er]; exact vp_in_nI (by omega) (by decide)) (by rw [er]; exact rf_at hr (by omega)) d_Sz_go_28 ?_
        refine lv_iload_n hx hb d_Sz_go_29 rfl (lv_at hl 2 rfl) ?_
        refine lv_iload_n hx hb d_Sz_go_30 rfl (lv_at hl 3 rfl) ?_
        refine kV_wi (f' := if 20 ≤ nI (P 6 r) then f else if I 52 r < p2 then va_up (va_up (va_up f (AD 6 r) (.inl (ct 6, 20, .inl (upd (I (100 + r)) (Int32.toNatClampNeg (nI (P 6 r))) p2)))) (AD 7 r) (.inl (ct 6, 20, .inl (upd (I (200 + r)) (Int32.toNatClampNeg (nI (P 6 r))) p3)))) (AD 5 r) (personE (I 50 r) (J 50 r) (J 51 r) (AD 6 r) (AD 7 r) (nI (P 6 r) + 1) p2 (nI (P 7 r))) else f) ⟨hx, hb, hml, hown, hG⟩ (c_Pe_tell g_3L g_3E g_4L g_4E g_2L g_2E ne_AD_6_r_AD_7_r h20) (cwV 2 hG (gV k423 k424 k425 k13 k426) rfl rfl rfl hd_Pe_tell ⟨Nat.le_of_ble_eq_true rfl, Nat.le_of_ble_eq_true rfl⟩) hK hP hD hS hA g_2L g_2E rfl rfl hl.1 rfl (Nat.le_of_ble_eq_true rfl) ⟨Nat.le_of_ble_eq_true rfl, Nat.le_of_ble_eq_true rfl⟩ d_Sz_go_31 (fun H locs hP hD hS => ?_)
        refine kS_ck ⟨hx, hb, hml, hown, hG⟩ (c_Sz_needState hl0 ) (cwS 1 hG (gS k172 k173 k1 k174) rfl rfl rfl hd_Sz_needState ⟨Nat.le_of_ble_eq_true rfl, Nat.le_of_ble_eq_true rfl⟩) hK hP hS hA hE rfl hl.1 rfl (Nat.le_of_ble_eq_true rfl) ⟨Nat.le_of_ble_eq_true rfl, Nat.le_of_ble_eq_true rfl⟩ d_Sz_go_34 (fun k_8 ce q9 H1 locs hz hk hS h1 h2 h3 => ?_) (fun k_8 locs hS => ?_)
        · rw [tell_no (Decidable.of_not_not k_8)] at hP hD
          exact vx_out (fun x hx9 => (htab x hx9).elim) hlocks h1 h2 h3 (fun t ht hvm => ⟨(), trivial, ⟨Or.inr ⟨(by simp only [kdGo, hcl, if_pos k_1, if_pos k_6, if_pos k_7, if_neg k_8]), rfl⟩, by rw [ht]; exact P_keep hP hk, va_K.moved hvm hK, hD⟩, hS.F ht⟩) hS.2.2 (by decide) (by decide)
        · obtain ⟨hy1, hy2⟩ := tell_yes (f := f) (X := va_up (va_up (va_up f (AD 6 r) (.inl (ct 6, 20, .inl (upd (I (100 + r)) (Int32.toNatClampNeg (nI (P 6 r))) p2)))) (AD 7 r) (.inl (ct 6, 20, .inl (upd (I (200 + r)) (Int32.toNatClampNeg (nI (P 6 r))) p3)))) (AD 5 r) (personE (I 50 r) (J 50 r) (J 51 r) (AD 6 r) (AD 7 r) (nI (P 6 r) + 1) p2 (nI (P 7 r)))) k_8
          rw [hy1] at hP hD
          have hlt := lt20 h20 hy2
          have hcm : (nI (P 6 r)).toNatClampNeg = P 6 r := nI_clamp (by omega)
          have hr9 := hr
          have hA1 : CW ct AD L n (up2 I (100 + r) (P 6 r) p2) J P _ := hCW.set (k := 6) (i := r) (lv6 hr) (fun k i hl h => co_row (a0 := 100 + r) (by omega) (fun a b h9 => up2_ne _ _ _ _ (by omega)) k i (fun q9 => h ⟨q9.1, by omega⟩) (fun q9 => by omega)) hCW.2.2
          have hA2 : CW ct AD L n (up2 (up2 I (100 + r) (P 6 r) p2) (200 + r) (P 6 r) p3) J P _ := hA1.set (k := 7) (i := r) (lv7 hr) (fun k i hl h => co_row (a0 := 200 + r) (by omega) (fun a b h9 => up2_ne _ _ _ _ (by omega)) k i (fun q9 => by rcases hl with ⟨h1, _⟩ | ⟨_, h1⟩ | ⟨h1, _⟩ | ⟨h1, _⟩ | ⟨h1, _⟩ <;> omega) (fun q9 => h ⟨q9.1, by omega⟩)) hCW.2.2
          have hA3 : CW ct AD L n (nwGoI I P r p2 p3) J (nwGoP P r) _ := hA2.set (k := 5) (i := r) (lv0 (by decide) hr) (co_pe (fun a b h => up_hO a b (by omega)) (fun _ _ _ => rfl) (fun a b h => up_hO a b (by omega))) (goP_inv hCW.2.2 hr hlt)
          have hN : CW ct AD L n (nwGoI I P p1.toNatClampNeg p2 p3) J (nwGoP P p1.toNatClampNeg) (va_up (va_up (va_up f (AD 6 r) (.inl (ct 6, 20, .inl (upd (I (100 + r)) (Int32.toNatClampNeg (nI (P 6 r))) p2)))) (AD 7 r) (.inl (ct 6, 20, .inl (upd (I (200 + r)) (Int32.toNatClampNeg (nI (P 6 r))) p3)))) (AD 5 r) (personE (I 50 r) (J 50 r) (J 51 r) (AD 6 r) (AD 7 r) (nI (P 6 r) + 1) p2 (nI (P 7 r)))) := by
            rw [hcl]
            refine cast (congrArg (CW ct AD L n (nwGoI I P r p2 p3) J (nwGoP P r)) ?_) hA3
            have z1 : (100 + r = 200 + r) = False := by simp
            have z2 : ¬ (52 = 100 + r) := by omega
            have z3 : ¬ (52 = 200 + r) := by omega
            have z4 : ¬ (50 = 100 + r) := by omega
            have z5 : ¬ (50 = 200 + r) := by omega
            simp only [cellOf]
            have y1 : (up2 I (100 + r) (P 6 r) p2) (100 + r) = upd (I (100 + r)) (P 6 r) p2 := up2_row
            have y2 : (up2 (up2 I (100 + r) (P 6 r) p2) (200 + r) (P 6 r) p3) (200 + r) = upd (I (200 + r)) (P 6 r) p3 := by rw [up2_row]; congr 1; funext j; exact up2_ne _ _ _ _ (by omega)
            rw [y1, y2, hcm]
            simp [nwGoI, nwGoP, personE, up2, nI_1, z2, z3, z4, z5]
          refine W.widen (k := 12) (n := 100) (by decide) (by decide) ?_
          exact vx_ret (W.vret hx hb hret (fun t ht hW => ⟨⟨(AD, L, va_up (va_up (va_up f (AD 6 r) (.inl (ct 6, 20, .inl (upd (I (100 + r)) (Int32.toNatClampNeg (nI (P 6 r))) p2)))) (AD 7 r) (.inl (ct 6, 20, .inl (upd (I (200 + r)) (Int32.toNatClampNeg (nI (P 6 r))) p3)))) (AD 5 r) (personE (I 50 r) (J 50 r) (J 51 r) (AD 6 r) (AD 7 r) (nI (P 6 r) + 1) p2 (nI (P 7 r)))), rfl, ⟨(by simp only [kdGo, hcl, if_pos k_1, if_pos k_6, if_pos k_7, if_pos k_8]), hN, rfl⟩, by rw [ht]; exact hP, va_K.moved hW.alike hK, hD⟩, hS.F ht⟩) hS.2.2 d_Sz_go_37)
