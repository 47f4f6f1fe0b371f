theorem and15 (x : Int32) : ∃ k, k < 16 ∧ x &&& 15 = nI k := by
  refine ⟨(x &&& 15).toBitVec.toNat, ?_, ?_⟩
  · rw [Int32.toBitVec_and, BitVec.toNat_and]
    exact Nat.lt_of_le_of_lt Nat.and_le_right (by decide)
  · apply Int32.toBitVec_inj.mp
    show _ = BitVec.ofNat 32 _
    rw [BitVec.ofNat_toNat]
    simp
theorem lt16 {k : Nat} (h : k < 16) : k = 0 ∨ k = 1 ∨ k = 2 ∨ k = 3 ∨ k = 4 ∨ k = 5 ∨ k = 6 ∨ k = 7 ∨ k = 8 ∨ k = 9 ∨ k = 10 ∨ k = 11 ∨ k = 12 ∨ k = 13 ∨ k = 14 ∨ k = 15 := by omega
set_option maxHeartbeats 4000000 in
set_option maxRecDepth 100000 in
theorem law_loop {p : Program} {l : Launch} {e : Env} {s : State} {m : MethodId} {below : List Frame} {meth : Method} {c : Code} {D : va_G} {ct : Nat → ClassId} {b Lx : Nat} {xs : Nat → Int32} {sa sb ao x0 m0 : Nat} (C : LC l D ct p s m meth c b Lx xs sa sb) : ∀ (q j : Nat) (H : Heap) (locs : List Loc) (ls : Array Slot), 513 ≤ j + q → j ≤ 512 → LW D ct s ao x0 m0 H locs → lv_has ls 8 [(4, .int (nI (6 * j))), (3, .ref ao), (2, .ref m0), (1, .ref x0), (0, .ref b)] → W p l e room_1 s m #[Value.ref b] below meth c H locs (44 + 12 * j) (826 + 100 * j) (lw_Z below #[Value.ref b] s) (F0 m 23 ls []) := by
  intro q
  induction q with
  | zero => intro j H locs ls h1 h2; omega
  | succ q ih =>
    intro j H locs ls h1 h2 hw hl
    obtain ⟨⟨hx, hb, hr, hml, hown, hts, hX, hbl, hlocks, hgv⟩, hl0, hLx, hK, hE, hNc⟩ := id C
    have hbA : ¬ NA s b := Nat.not_le.mpr hbl
    have hS : va_S (NA s) s.heap H locs := by
      obtain ⟨_, _, _, _, _, _, _, _, _, _, _, _, _, h⟩ := hw
      exact h.2.2.2.2
    refine lv_iload hx hb d_La_law_23 (lv_at hl 0 rfl) ?_
    refine lv_aload_n hx hb d_La_law_25 rfl (lv_at hl 4 rfl) ?_
    refine va_slen hx hb hX hbl hbA hS d_La_law_26 ?_
    refine lv_bipush (v := 6) hx hb d_La_law_27 (by decide) ?_
    refine lv_isub hx hb d_La_law_29 ?_
    have eL : (Int32.ofNat Lx).toInt = (Lx : Int) := nI_toInt (by omega)
    have e6 : (6 : Int32).toInt = 6 := by decide
    have eS : (Int32.ofNat Lx - 6).toInt = (Lx : Int) - 6 := by rw [I_sub (by rw [eL, e6]; omega) (by rw [eL, e6]; omega), eL, e6]
    refine lv_icmp_gt (tgt := 1126) hx hb d_La_law_30 (by decide) (fun c_1 => ?_) (fun c_1 => ?_)
    · refine va_forget (fun q hq => hS.2.2 q hq) ?_
      refine lv_iconst (v := 1) hx hb d_La_law_1126 (by decide) ?_
      refine W.widen (k := 601024) (n := 7293034) (by omega) (by omega) ?_
      exact lw_ret hx hb hr hlocks d_La_law_1127
    · have hi : 6 * j + 6 ≤ Lx := by
        rw [I_lt, eS, nI_toInt (by omega)] at c_1
        omega
      refine lv_aload_n hx hb d_La_law_33 rfl (lv_at hl 4 rfl) ?_
      refine lv_iload hx hb d_La_law_34 (lv_at hl 0 rfl) ?_
      refine va_sld hx hb hX hbl hbA hS (vp_in_nI (by omega) (by omega)) d_La_law_36 ?_
      refine lv_bipush (v := 15) hx hb d_La_law_37 (by decide) ?_
      refine lv_iand hx hb d_La_law_39 ?_
      have hcap : 44 + 12 * j + 12 ≤ 601024 ∧ 826 + 100 * j + 100 ≤ 7293034 := ⟨by omega, by omega⟩
      have kk : ∀ (H1 : Heap) (locs1 : List Loc) (ls1 : Array Slot), LW D ct s ao x0 m0 H1 locs1 → lv_has ls1 8 [(4, .int (nI (6 * j))), (3, .ref ao), (2, .ref m0), (1, .ref x0), (0, .ref b)] → W p l e room_1 s m #[Value.ref b] below meth c H1 locs1 (44 + 12 * j + 12) (826 + 100 * j + 100) (lw_Z below #[Value.ref b] s) (F0 m 1120 ls1 []) := fun H1 locs1 ls1 hw hl => by
        refine lv_iinc (v := nI (6 * (j + 1))) (lv' := [(4, .int (nI (6 * (j + 1)))), (3, .ref ao), (2, .ref m0), (1, .ref x0), (0, .ref b)]) hx hb d_La_law_1120 hl (k := 0) rfl (by rw [show Int32.ofInt 6 = nI 6 from by decide, nI_add]; rfl) (by decide) rfl (fun ls hl => ?_)
        refine lv_goto (tgt := 23) hx hb d_La_law_1123 (by decide) ?_
        exact ih (j + 1) H1 locs1 ls (by omega) (by omega) hw hl
      obtain ⟨k, hk, ek⟩ := and15 (xs (nI (6 * j)).toNatClampNeg)
      rw [ek]
      rcases lt16 hk with rfl | rfl | rfl | rfl | rfl | rfl | rfl | rfl | rfl | rfl | rfl | rfl | rfl | rfl | rfl | rfl
      · exact lv_tableIn (off := 76) (tgt := 116) hx hb d_La_law_40 (by decide) (by decide) (by decide) (by decide) (lk_room C hw hi hcap hl kk)
      · exact lv_tableIn (off := 144) (tgt := 184) hx hb d_La_law_40 (by decide) (by decide) (by decide) (by decide) (lk_opening C hw hi hcap hl kk)
      · exact lv_tableIn (off := 248) (tgt := 288) hx hb d_La_law_40 (by decide) (by decide) (by decide) (by decide) (lk_glass C hw hi hcap hl kk)
      · exact lv_tableIn (off := 296) (tgt := 336) hx hb d_La_law_40 (by decide) (by decide) (by decide) (by decide) (lk_fire C hw hi hcap hl kk)
      · exact lv_tableIn (off := 400) (tgt := 440) hx hb d_La_law_40 (by decide) (by decide) (by decide) (by decide) (lk_sprinkler C hw hi hcap hl kk)
      · exact lv_tableIn (off := 448) (tgt := 488) hx hb d_La_law_40 (by decide) (by decide) (by decide) (by decide) (lk_fan C hw hi hcap hl kk)
      · exact lv_tableIn (off := 528) (tgt := 568) hx hb d_La_law_40 (by decide) (by decide) (by decide) (by decide) (lk_steel C hw hi hcap hl kk)
      · exact lv_tableIn (off := 596) (tgt := 636) hx hb d_La_law_40 (by decide) (by decide) (by decide) (by decide) (lk_person C hw hi hcap hl kk)
      · exact lv_tableIn (off := 652) (tgt := 692) hx hb d_La_law_40 (by decide) (by decide) (by decide) (by decide) (lk_go C hw hi hcap hl kk)
      · exact lv_tableIn (off := 712) (tgt := 752) hx hb d_La_law_40 (by decide) (by decide) (by decide) (by decide) (lk_run C hw hi hcap hl kk)
      · exact lv_tableIn (off := 768) (tgt := 808) hx hb d_La_law_40 (by decide) (by decide) (by decide) (by decide) (lk_roomAt C hw hi hcap hl kk)
      · exact lv_tableIn (off := 835) (tgt := 875) hx hb d_La_law_40 (by decide) (by decide) (by decide) (by decide) (lk_openingAt C hw hi hcap hl kk)
      · exact lv_tableIn (off := 902) (tgt := 942) hx hb d_La_law_40 (by decide) (by decide) (by decide) (by decide) (lk_personAt C hw hi hcap hl kk)
      · exact lv_tableIn (off := 969) (tgt := 1009) hx hb d_La_law_40 (by decide) (by decide) (by decide) (by decide) (lk_steelAt C hw hi hcap hl kk)
      · exact lv_tableIn (off := 1025) (tgt := 1065) hx hb d_La_law_40 (by decide) (by decide) (by decide) (by decide) (lk_balance C hw hi hcap hl kk)
      · refine lv_tableOut (tgt := 1120) hx hb d_La_law_40 (Or.inr (by decide)) (by decide) ?_
        exact W.widen (by omega) (by omega) (kk H locs ls hw hl)
