set_option maxHeartbeats 4000000 in
set_option maxRecDepth 100000 in
theorem lk_room {p : Program} {l : Launch} {e : Env} {s : State} {m : MethodId} {below : List Frame} {meth : Method} {c : Code} {H : Heap} {locs : List Loc} {cells slots : Nat} {Q : State → Prop} {D : va_G} {ct : Nat → ClassId} {b Lx : Nat} {xs : Nat → Int32} {sa sb ao x0 m0 i : Nat} {ls : Array Slot} (C : LC l D ct p s m meth c b Lx xs sa sb) (hw : LW D ct s ao x0 m0 H locs) (hi : i + 6 ≤ Lx) (hcap : cells + 12 ≤ 601024 ∧ slots + 100 ≤ 7293034) (hl : lv_has ls 8 [(4, .int (nI i)), (3, .ref ao), (2, .ref m0), (1, .ref x0), (0, .ref b)]) (kk : ∀ (H1 : Heap) (locs1 : List Loc) (ls1 : Array Slot), LW D ct s ao x0 m0 H1 locs1 → lv_has ls1 8 [(4, .int (nI i)), (3, .ref ao), (2, .ref m0), (1, .ref x0), (0, .ref b)] → W p l e room_1 s m #[Value.ref b] below meth c H1 locs1 (cells + 12) (slots + 100) Q (F0 m 1120 ls1 [])) : W p l e room_1 s m #[Value.ref b] below meth c H locs cells slots Q (F0 m 116 ls []) := by
  obtain ⟨⟨hx, hb, hr, hml, hown, hts, hX, hbl, hlocks, hgv⟩, hl0, hLx, hK, hE, hNc⟩ := C
  have hG : ∀ w ∈ GW, w.before #[Value.ref b] s = true := fun w h => hts w (List.mem_filter.mp h).1
  obtain ⟨AD, L, f, AM, LM, fM, X, Y, v, ⟨n, I, J, P, T, hCW, hSim⟩, hM, e9, e100, hPW⟩ := hw
  subst e9; subst e100
  have hbA : ¬ NA s b := Nat.not_le.mpr hbl
  refine lv_aload_n hx hb d_La_law_116 rfl (lv_at hl 3 rfl) ?_
  refine lv_aload_n hx hb d_La_law_117 rfl (lv_at hl 4 rfl) ?_
  refine lv_iload hx hb d_La_law_118 (lv_at hl 0 rfl) ?_
  refine lv_iconst (v := 1) hx hb d_La_law_120 (by decide) ?_
  refine lv_iadd hx hb d_La_law_121 ?_
  refine va_sld hx hb hX hbl hbA hPW.2.2.2.2 (sin hi hLx 1 (by decide)) d_La_law_122 ?_
  refine lv_aload_n hx hb d_La_law_123 rfl (lv_at hl 4 rfl) ?_
  refine lv_iload hx hb d_La_law_124 (lv_at hl 0 rfl) ?_
  refine lv_iconst (v := 2) hx hb d_La_law_126 (by decide) ?_
  refine lv_iadd hx hb d_La_law_127 ?_
  refine va_sld hx hb hX hbl hbA hPW.2.2.2.2 (sin hi hLx 2 (by decide)) d_La_law_128 ?_
  refine lv_aload_n hx hb d_La_law_129 rfl (lv_at hl 1 rfl) ?_
  refine kL_w (As := [.ref (AD 9 0), .int (xs (nI i + 1).toNatClampNeg), .int (xs (nI i + 2).toNatClampNeg), .ref ao]) (rest := []) ⟨hx, hb, hml, hown, hG⟩ (c_La_room hl0 (sa := sa) (sb := sb) (v := v) hCW) (vx_cwSW 4 hG (gH k87 k88 k0 k89) rfl rfl rfl hd_La_room.2 ⟨Nat.le_of_ble_eq_true rfl, Nat.le_of_ble_eq_true rfl⟩) hK hE hNc hPW rfl hl.1 rfl (Nat.le_of_ble_eq_true rfl) hcap d_La_law_130 (fun r u H1 locs1 hp hPW => ?_)
  obtain ⟨hr1, hp0, hp1⟩ := hp
  subst hr1
  have h9 : u.1.1 9 0 = AD 9 0 := by
    by_cases k : (kdRoom n (xs (nI i + 1).toNatClampNeg) (xs (nI i + 2).toNatClampNeg)) = 0
    · exact (hp0 k).2.2
    · rw [hp1 k]
  refine lv_istore (lv' := [(5, .int (kdRoom n (xs (nI i + 1).toNatClampNeg) (xs (nI i + 2).toNatClampNeg))), (4, .int (nI i)), (3, .ref ao), (2, .ref (AM 100)), (1, .ref (AD 9 0)), (0, .ref b)]) hx hb d_La_law_133 hl (by decide) rfl (fun ls hl => ?_)
  refine lv_aload_n hx hb d_La_law_135 rfl (lv_at hl 3 rfl) ?_
  refine lv_aload_n hx hb d_La_law_136 rfl (lv_at hl 5 rfl) ?_
  refine lv_iload hx hb d_La_law_137 (lv_at hl 1 rfl) ?_
  refine lv_iconst (v := 1) hx hb d_La_law_139 (by decide) ?_
  refine lv_iadd hx hb d_La_law_140 ?_
  refine va_sld hx hb hX hbl hbA hPW.2.2.2.2 (sin hi hLx 1 (by decide)) d_La_law_141 ?_
  refine lv_aload_n hx hb d_La_law_142 rfl (lv_at hl 5 rfl) ?_
  refine lv_iload hx hb d_La_law_143 (lv_at hl 1 rfl) ?_
  refine lv_iconst (v := 2) hx hb d_La_law_145 (by decide) ?_
  refine lv_iadd hx hb d_La_law_146 ?_
  refine va_sld hx hb hX hbl hbA hPW.2.2.2.2 (sin hi hLx 2 (by decide)) d_La_law_147 ?_
  refine kL_mi (As := [.int (xs (nI i + 1).toNatClampNeg), .int (xs (nI i + 2).toNatClampNeg)]) (rest := []) ⟨hx, hb, hml, hown, hG⟩ (c_Mo_room hM hSim.x2 (hSim.cap 0 (by decide))) (cwV 2 hG (gV k769 k770 k771 k2 k772) rfl rfl rfl hd_Mo_room ⟨Nat.le_of_ble_eq_true rfl, Nat.le_of_ble_eq_true rfl⟩) hK hPW hM.1.1 hM.1.2 rfl rfl hl.1 rfl (Nat.le_of_ble_eq_true rfl) ⟨hcap.1, hcap.2⟩ d_La_law_148 (fun r f2 H1 locs1 hp hPW => ?_)
  obtain ⟨hr2, hM⟩ := hp
  subst hr2
  obtain ⟨s1, s2, s3⟩ := so_room hCW hSim (xs (nI i + 1).toNatClampNeg) (xs (nI i + 2).toNatClampNeg)
  have hLI := s3 u.1 (fun k => (hp0 k).2.1) hp1
  obtain ⟨w, ew⟩ : ∃ w, w = vMroom X Y (xs (nI i + 1).toNatClampNeg) (xs (nI i + 2).toNatClampNeg) := ⟨_, rfl⟩
  rw [← ew]
  refine lv_istore (lv' := [(6, .int w), (5, .int (kdRoom n (xs (nI i + 1).toNatClampNeg) (xs (nI i + 2).toNatClampNeg))), (4, .int (nI i)), (3, .ref ao), (2, .ref (AM 100)), (1, .ref (AD 9 0)), (0, .ref b)]) hx hb d_La_law_151 hl (by decide) rfl (fun ls hl => ?_)
  refine lv_aload_n hx hb d_La_law_153 rfl (lv_at hl 4 rfl) ?_
  refine kL_th (As := []) (rest := []) ⟨hx, hb, hml, hown, hG⟩ (c_Mo_thrown hM) (cwV 0 hG (gV k765 k766 k767 k2 k768) rfl rfl rfl hd_Mo_thrown ⟨Nat.le_of_ble_eq_true rfl, Nat.le_of_ble_eq_true rfl⟩) hK hPW hM.1.1 hM.1.2 rfl rfl hl.1 rfl (Nat.le_of_ble_eq_true rfl) ⟨hcap.1, hcap.2⟩ d_La_law_154 (fun locs1 hPW => ?_)
  refine lv_iload hx hb d_La_law_157 (lv_at hl 1 rfl) ?_
  refine lv_icmp_eq (tgt := 164) hx hb d_La_law_159 (by decide) (fun c_1 => ?_) (fun c_1 => absurd s1 c_1)
  refine lv_iload hx hb d_La_law_164 (lv_at hl 1 rfl) ?_
  refine lv_if_ne (tgt := 181) hx hb d_La_law_166 (by decide) (fun c_2 => ?_) (fun c_2 => ?_)
  · exact lv_goto (tgt := 1120) hx hb d_La_law_181 (by decide) (kk _ _ _ ⟨u.1.1, u.1.2.1, u.1.2.2, AM, LM, f2, _, _, u.2, hLI, hM, h9, rfl, hPW⟩ (lv_sub hl [2, 3, 4, 5, 6] rfl))
  · refine lv_aload_n hx hb d_La_law_169 rfl (lv_at hl 3 rfl) ?_
    refine lv_iconst (v := 0) hx hb d_La_law_170 (by decide) ?_
    refine va_lald hx hb hK (cP hPW.2.2.1.1 (fun _ _ h => nomatch h : va_P D vwCl [] _)) 0 7 rfl rfl vin01 d_La_law_171 ?_
    refine lv_iload hx hb d_La_law_172 (lv_at hl 0 rfl) ?_
    refine lv_i2l hx hb d_La_law_174 rfl ?_
    refine lc_eq (tgt := 181) hx hb d_La_law_175 d_La_law_176 (by decide) (fun c_3 => ?_) (fun c_3 => absurd ?_ c_3)
    · exact lv_goto (tgt := 1120) hx hb d_La_law_181 (by decide) (kk _ _ _ ⟨u.1.1, u.1.2.1, u.1.2.2, AM, LM, f2, _, _, u.2, hLI, hM, h9, rfl, hPW⟩ (lv_sub hl [2, 3, 4, 5, 6] rfl))
    · rw [ew, s2 c_2]
      exact (hp0 c_2).1
set_option maxHeartbeats 4000000 in
set_option maxRecDepth 100000 in
theorem lk_opening {p : Program} {l : Launch} {e : Env} {s : State} {m : MethodId} {below : List Frame} {meth : Method} {c : Code} {H : Heap} {locs : List Loc} {cells slots : Nat} {Q : State → Prop} {D : va_G} {ct : Nat → ClassId} {b Lx : Nat} {xs : Nat → Int32} {sa sb ao x0 m0 i : Nat} {ls : Array Slot} (C : LC l D ct p s m meth c b Lx xs sa sb) (hw : LW D ct s ao x0 m0 H locs) (hi : i + 6 ≤ Lx) (hcap : cells + 12 ≤ 601024 ∧ slots + 100 ≤ 7293034) (hl : lv_has ls 8 [(4, .int (nI i)), (3, .ref ao), (2, .ref m0), (1, .ref x0), (0, .ref b)]) (kk : ∀ (H1 : Heap) (locs1 : List Loc) (ls1 : Array Slot), LW D ct s ao x0 m0 H1 locs1 → lv_has ls1 8 [(4, .int (nI i)), (3, .ref ao), (2, .ref m0), (1, .ref x0), (0, .ref b)] → W p l e room_1 s m #[Value.ref b] below meth c H1 locs1 (cells + 12) (slots + 100) Q (F0 m 1120 ls1 [])) : W p l e room_1 s m #[Value.ref b] below meth c H locs cells slots Q (F0 m 184 ls []) := by
  obtain ⟨⟨hx, hb, hr, hml, hown, hts, hX, hbl, hlocks, hgv⟩, hl0, hLx, hK, hE, hNc⟩ := C
  have hG : ∀ w ∈ GW, w.before #[Value.ref b] s = true := fun w h => hts w (List.mem_filter.mp h).1
  obtain ⟨AD, L, f, AM, LM, fM, X, Y, v, ⟨n, I, J, P, T, hCW, hSim⟩, hM, e9, e100, hPW⟩ := hw
  subst e9; subst e100
  have hbA : ¬ NA s b := Nat.not_le.mpr hbl
  refine lv_aload_n hx hb d_La_law_184 rfl (lv_at hl 3 rfl) ?_
  refine lv_aload_n hx hb d_La_law_185 rfl (lv_at hl 4 rfl) ?_
  refine lv_iload hx hb d_La_law_186 (lv_at hl 0 rfl) ?_
  refine lv_iconst (v := 1) hx hb d_La_law_188 (by decide) ?_
  refine lv_iadd hx hb d_La_law_189 ?_
  refine va_sld hx hb hX hbl hbA hPW.2.2.2.2 (sin hi hLx 1 (by decide)) d_La_law_190 ?_
  refine lv_aload_n hx hb d_La_law_191 rfl (lv_at hl 4 rfl) ?_
  refine lv_iload hx hb d_La_law_192 (lv_at hl 0 rfl) ?_
  refine lv_iconst (v := 2) hx hb d_La_law_194 (by decide) ?_
  refine lv_iadd hx hb d_La_law_195 ?_
  refine va_sld hx hb hX hbl hbA hPW.2.2.2.2 (sin hi hLx 2 (by decide)) d_La_law_196 ?_
  refine lv_aload_n hx hb d_La_law_197 rfl (lv_at hl 4 rfl) ?_
  refine lv_iload hx hb d_La_law_198 (lv_at hl 0 rfl) ?_
  refine lv_iconst (v := 3) hx hb d_La_law_200 (by decide) ?_
  refine lv_iadd hx hb d_La_law_201 ?_
  refine va_sld hx hb hX hbl hbA hPW.2.2.2.2 (sin hi hLx 3 (by decide)) d_La_law_202 ?_
  refine lv_aload_n hx hb d_La_law_203 rfl (lv_at hl 4 rfl) ?_
  refine lv_iload hx hb d_La_law_204 (lv_at hl 0 rfl) ?_
  refine lv_iconst (v := 4) hx hb d_La_law_206 (by decide) ?_
  refine lv_iadd hx hb d_La_law_207 ?_
  refine va_sld hx hb hX hbl hbA hPW.2.2.2.2 (sin hi hLx 4 (by decide)) d_La_law_208 ?_
  refine lv_aload_n hx hb d_La_law_209 rfl (lv_at hl 4 rfl) ?_
  refine lv_iload hx hb d_La_law_210 (lv_at hl 0 rfl) ?_
  refine lv_iconst (v := 5) hx hb d_La_law_212 (by decide) ?_
  refine lv_iadd hx hb d_La_law_213 ?_
  refine va_sld hx hb hX hbl hbA hPW.2.2.2.2 (sin hi hLx 5 (by decide)) d_La_law_214 ?_
  refine lv_aload_n hx hb d_La_law_215 rfl (lv_at hl 1 rfl) ?_
  refine kL_w (As := [.ref (AD 9 0), .int (xs (nI i + 1).toNatClampNeg), .int (xs (nI i + 2).toNatClampNeg), .int (xs (nI i + 3).toNatClampNeg), .int (xs (nI i + 4).toNatClampNeg), .int (xs (nI i + 5).toNatClampNeg), .ref ao]) (rest := []) ⟨hx, hb, hml, hown, hG⟩ (c_La_opening hl0 (sa := sa) (sb := sb) (v := v) hCW) (vx_cwSW 7 hG (gH k230 k231 k0 k232) rfl rfl rfl hd_La_opening.2 ⟨Nat.le_of_ble_eq_true rfl, Nat.le_of_ble_eq_true rfl⟩) hK hE hNc hPW rfl hl.1 rfl (Nat.le_of_ble_eq_true rfl) hcap d_La_law_216 (fun r u H1 locs1 hp hPW => ?_)
  obtain ⟨hr1, hp0, hp1⟩ := hp
  subst hr1
  have h9 : u.1.1 9 0 = AD 9 0 := by
    by_cases k : (kdOpen n I (xs (nI i + 1).toNatClampNeg) (xs (nI i + 2).toNatClampNeg) (xs (nI i + 3).toNatClampNeg) (xs (nI i + 4).toNatClampNeg) (xs (nI i + 5).toNatClampNeg)) = 0
    · exact (hp0 k).2.2
    · rw [hp1 k]
  refine lv_istore (lv' := [(5, .int (kdOpen n I (xs (nI i + 1).toNatClampNeg) (xs (nI i + 2).toNatClampNeg) (xs (nI i + 3).toNatClampNeg) (xs (nI i + 4).toNatClampNeg) (xs (nI i + 5).toNatClampNeg))), (4, .int (nI i)), (3, .ref ao), (2, .ref (AM 100)), (1, .ref (AD 9 0)), (0, .ref b)]) hx hb d_La_law_219 hl (by decide) rfl (fun ls hl => ?_)
  refine lv_aload_n hx hb d_La_law_221 rfl (lv_at hl 3 rfl) ?_
  refine lv_aload_n hx hb d_La_law_222 rfl (lv_at hl 5 rfl) ?_
  refine lv_iload hx hb d_La_law_223 (lv_at hl 1 rfl) ?_
  refine lv_iconst (v := 1) hx hb d_La_law_225 (by decide) ?_
  refine lv_iadd hx hb d_La_law_226 ?_
  refine va_sld hx hb hX hbl hbA hPW.2.2.2.2 (sin hi hLx 1 (by decide)) d_La_law_227 ?_
  refine lv_aload_n hx hb d_La_law_228 rfl (lv_at hl 5 rfl) ?_
  refine lv_iload hx hb d_La_law_229 (lv_at hl 1 rfl) ?_
  refine lv_iconst (v := 2) hx hb d_La_law_231 (by decide) ?_
  refine lv_iadd hx hb d_La_law_232 ?_
  refine va_sld hx hb hX hbl hbA hPW.2.2.2.2 (sin hi hLx 2 (by decide)) d_La_law_233 ?_
  refine lv_aload_n hx hb d_La_law_234 rfl (lv_at hl 5 rfl) ?_
  refine lv_iload hx hb d_La_law_235 (lv_at hl 1 rfl) ?_
  refine lv_iconst (v := 3) hx hb d_La_law_237 (by decide) ?_
  refine lv_iadd hx hb d_La_law_238 ?_
  refine va_sld hx hb hX hbl hbA hPW.2.2.2.2 (sin hi hLx 3 (by decide)) d_La_law_239 ?_
  refine lv_aload_n hx hb d_La_law_240 rfl (lv_at hl 5 rfl) ?_
  refine lv_iload hx hb d_La_law_241 (lv_at hl 1 rfl) ?_
  refine lv_iconst (v := 4) hx hb d_La_law_243 (by decide) ?_
  refine lv_iadd hx hb d_La_law_244 ?_
  refine va_sld hx hb hX hbl hbA hPW.2.2.2.2 (sin hi hLx 4 (by decide)) d_La_law_245 ?_
  refine lv_aload_n hx hb d_La_law_246 rfl (lv_at hl 5 rfl) ?_
  refine lv_iload hx hb d_La_law_247 (lv_at hl 1 rfl) ?_
  refine lv_iconst (v := 5) hx hb d_La_law_249 (by decide) ?_
  refine lv_iadd hx hb d_La_law_250 ?_
  refine va_sld hx hb hX hbl hbA hPW.2.2.2.2 (sin hi hLx 5 (by decide)) d_La_law_251 ?_
  refine kL_mi (As := [.int (xs (nI i + 1).toNatClampNeg), .int (xs (nI i + 2).toNatClampNeg), .int (xs (nI i + 3).toNatClampNeg), .int (xs (nI i + 4).toNatClampNeg), .int (xs (nI i + 5).toNatClampNeg)]) (rest := []) ⟨hx, hb, hml, hown, hG⟩ (c_Mo_opening hM hSim.x2 (hSim.cap 0 (by decide)) hSim.x10 (hSim.cap 1 (by decide))) (cwV 5 hG (gV k776 k777 k778 k2 k779) rfl rfl rfl hd_Mo_opening ⟨Nat.le_of_ble_eq_true rfl, Nat.le_of_ble_eq_true rfl⟩) hK hPW hM.1.1 hM.1.2 rfl rfl hl.1 rfl (Nat.le_of_ble_eq_true rfl) ⟨hcap.1, hcap.2⟩ d_La_law_252 (fun r f2 H1 locs1 hp hPW => ?_)
  obtain ⟨hr2, hM⟩ := hp
  subst hr2
  obtain ⟨s1, s2, s3⟩ := so_open hCW hSim (xs (nI i + 1).toNatClampNeg) (xs (nI i + 2).toNatClampNeg) (xs (nI i + 3).toNatClampNeg) (xs (nI i + 4).toNatClampNeg) (xs (nI i + 5).toNatClampNeg)
  have hLI := s3 u.1 (fun k => (hp0 k).2.1) hp1
  obtain ⟨w, ew⟩ : ∃ w, w = vMopen X Y (xs (nI i + 1).toNatClampNeg) (xs (nI i + 2).toNatClampNeg) (xs (nI i + 3).toNatClampNeg) (xs (nI i + 4).toNatClampNeg) (xs (nI i + 5).toNatClampNeg) := ⟨_, rfl⟩
  rw [← ew]
  refine lv_istore (lv' := [(6, .int w), (5, .int (kdOpen n I (xs (nI i + 1).toNatClampNeg) (xs (nI i + 2).toNatClampNeg) (xs (nI i + 3).toNatClampNeg) (xs (nI i + 4).toNatClampNeg) (xs (nI i + 5).toNatClampNeg))), (4, .int (nI i)), (3, .ref ao), (2, .ref (AM 100)), (1, .ref (AD 9 0)), (0, .ref b)]) hx hb d_La_law_255 hl (by decide) rfl (fun ls hl => ?_)
  refine lv_aload_n hx hb d_La_law_257 rfl (lv_at hl 4 rfl) ?_
  refine kL_th (As := []) (rest := []) ⟨hx, hb, hml, hown, hG⟩ (c_Mo_thrown hM) (cwV 0 hG (gV k765 k766 k767 k2 k768) rfl rfl rfl hd_Mo_thrown ⟨Nat.le_of_ble_eq_true rfl, Nat.le_of_ble_eq_true rfl⟩) hK hPW hM.1.1 hM.1.2 rfl rfl hl.1 rfl (Nat.le_of_ble_eq_true rfl) ⟨hcap.1, hcap.2⟩ d_La_law_258 (fun locs1 hPW => ?_)
  refine lv_iload hx hb d_La_law_261 (lv_at hl 1 rfl) ?_
  refine lv_icmp_eq (tgt := 268) hx hb d_La_law_263 (by decide) (fun c_1 => ?_) (fun c_1 => absurd s1 c_1)
  refine lv_iload hx hb d_La_law_268 (lv_at hl 1 rfl) ?_
  refine lv_if_ne (tgt := 285) hx hb d_La_law_270 (by decide) (fun c_2 => ?_) (fun c_2 => ?_)
  · exact lv_goto (tgt := 1120) hx hb d_La_law_285 (by decide) (kk _ _ _ ⟨u.1.1, u.1.2.1, u.1.2.2, AM, LM, f2, _, _, u.2, hLI, hM, h9, rfl, hPW⟩ (lv_sub hl [2, 3, 4, 5, 6] rfl))
  · refine lv_aload_n hx hb d_La_law_273 rfl (lv_at hl 3 rfl) ?_
    refine lv_iconst (v := 0) hx hb d_La_law_274 (by decide) ?_
    refine va_lald hx hb hK (cP hPW.2.2.1.1 (fun _ _ h => nomatch h : va_P D vwCl [] _)) 0 7 rfl rfl vin01 d_La_law_275 ?_
    refine lv_iload hx hb d_La_law_276 (lv_at hl 0 rfl) ?_
    refine lv_i2l hx hb d_La_law_278 rfl ?_
    refine lc_eq (tgt := 285) hx hb d_La_law_279 d_La_law_280 (by decide) (fun c_3 => ?_) (fun c_3 => absurd ?_ c_3)
    · exact lv_goto (tgt := 1120) hx hb d_La_law_285 (by decide) (kk _ _ _ ⟨u.1.1, u.1.2.1, u.1.2.2, AM, LM, f2, _, _, u.2, hLI, hM, h9, rfl, hPW⟩ (lv_sub hl [2, 3, 4, 5, 6] rfl))
    · rw [ew, s2 c_2]
      exact (hp0 c_2).1
set_option maxHeartbeats 4000000 in
set_option maxRecDepth 100000 in
theorem lk_glass {p : Program} {l : Launch} {e : Env} {s : State} {m : MethodId} {below : List Frame} {meth : Method} {c : Code} {H : Heap} {locs : List Loc} {cells slots : Nat} {Q : State → Prop} {D : va_G} {ct : Nat → ClassId} {b Lx : Nat} {xs : Nat → Int32} {sa sb ao x0 m0 i : Nat} {ls : Array Slot} (C : LC l D ct p s m meth c b Lx xs sa sb) (hw : LW D ct s ao x0 m0 H locs) (hi : i + 6 ≤ Lx) (hcap : cells + 12 ≤ 601024 ∧ slots + 100 ≤ 7293034) (hl : lv_has ls 8 [(4, .int (nI i)), (3, .ref ao), (2, .ref m0), (1, .ref x0), (0, .ref b)]) (kk : ∀ (H1 : Heap) (locs1 : List Loc) (ls1 : Array Slot), LW D ct s ao x0 m0 H1 locs1 → lv_has ls1 8 [(4, .int (nI i)), (3, .ref ao), (2, .ref m0), (1, .ref x0), (0, .ref b)] → W p l e room_1 s m #[Value.ref b] below meth c H1 locs1 (cells + 12) (slots + 100) Q (F0 m 1120 ls1 [])) : W p l e room_1 s m #[Value.ref b] below meth c H locs cells slots Q (F0 m 288 ls []) := by
  obtain ⟨⟨hx, hb, hr, hml, hown, hts, hX, hbl, hlocks, hgv⟩, hl0, hLx, hK, hE, hNc⟩ := C
  have hG : ∀ w ∈ GW, w.before #[Value.ref b] s = true := fun w h => hts w (List.mem_filter.mp h).1
  obtain ⟨AD, L, f, AM, LM, fM, X, Y, v, ⟨n, I, J, P, T, hCW, hSim⟩, hM, e9, e100, hPW⟩ := hw
  subst e9; subst e100
  have hbA : ¬ NA s b := Nat.not_le.mpr hbl
  refine lv_aload_n hx hb d_La_law_288 rfl (lv_at hl 3 rfl) ?_
  refine lv_aload_n hx hb d_La_law_289 rfl (lv_at hl 4 rfl) ?_
  refine lv_iload hx hb d_La_law_290 (lv_at hl 0 rfl) ?_
  refine lv_iconst (v := 1) hx hb d_La_law_292 (by decide) ?_
  refine lv_iadd hx hb d_La_law_293 ?_
  refine va_sld hx hb hX hbl hbA hPW.2.2.2.2 (sin hi hLx 1 (by decide)) d_La_law_294 ?_
  refine lv_aload_n hx hb d_La_law_295 rfl (lv_at hl 4 rfl) ?_
  refine lv_iload hx hb d_La_law_296 (lv_at hl 0 rfl) ?_
  refine lv_iconst (v := 2) hx hb d_La_law_298 (by decide) ?_
  refine lv_iadd hx hb d_La_law_299 ?_
  refine va_sld hx hb hX hbl hbA hPW.2.2.2.2 (sin hi hLx 2 (by decide)) d_La_law_300 ?_
  refine kL_w (As := [.ref (AD 9 0), .int (xs (nI i + 1).toNatClampNeg), .int (xs (nI i + 2).toNatClampNeg)]) (rest := []) ⟨hx, hb, hml, hown, hG⟩ (c_La_glass hl0 (sa := sa) (sb := sb) (v := v) hCW) (vx_cwSW 3 hG (gH k287 k288 k0 k289) rfl rfl rfl hd_La_glass.2 ⟨Nat.le_of_ble_eq_true rfl, Nat.le_of_ble_eq_true rfl⟩) hK hE hNc hPW rfl hl.1 rfl (Nat.le_of_ble_eq_true rfl) hcap d_La_law_301 (fun r u H1 locs1 hp hPW => ?_)
  obtain ⟨hr1, hp0, hp1⟩ := hp
  subst hr1
  have h9 : u.1.1 9 0 = AD 9 0 := by
    by_cases k : (kdGlass n I (xs (nI i + 1).toNatClampNeg) (xs (nI i + 2).toNatClampNeg)) = 0
    · exact (hp0 k).2
    · rw [hp1 k]
  refine lv_istore (lv' := [(5, .int (kdGlass n I (xs (nI i + 1).toNatClampNeg) (xs (nI i + 2).toNatClampNeg))), (4, .int (nI i)), (3, .ref ao), (2, .ref (AM 100)), (1, .ref (AD 9 0)), (0, .ref b)]) hx hb d_La_law_304 hl (by decide) rfl (fun ls hl => ?_)
  refine lv_aload_n hx hb d_La_law_306 rfl (lv_at hl 3 rfl) ?_
  refine lv_aload_n hx hb d_La_law_307 rfl (lv_at hl 5 rfl) ?_
  refine lv_iload hx hb d_La_law_308 (lv_at hl 1 rfl) ?_
  refine lv_iconst (v := 1) hx hb d_La_law_310 (by decide) ?_
  refine lv_iadd hx hb d_La_law_311 ?_
  refine va_sld hx hb hX hbl hbA hPW.2.2.2.2 (sin hi hLx 1 (by decide)) d_La_law_312 ?_
  refine lv_aload_n hx hb d_La_law_313 rfl (lv_at hl 5 rfl) ?_
  refine lv_iload hx hb d_La_law_314 (lv_at hl 1 rfl) ?_
  refine lv_iconst (v := 2) hx hb d_La_law_316 (by decide) ?_
  refine lv_iadd hx hb d_La_law_317 ?_
  refine va_sld hx hb hX hbl hbA hPW.2.2.2.2 (sin hi hLx 2 (by decide)) d_La_law_318 ?_
  refine kL_mv (As := [.int (xs (nI i + 1).toNatClampNeg), .int (xs (nI i + 2).toNatClampNeg)]) (rest := []) ⟨hx, hb, hml, hown, hG⟩ (c_Mo_glass hM hSim.x10 (hSim.cap 1 (by decide))) (cwV 2 hG (gV k788 k789 k790 k2 k791) rfl rfl rfl hd_Mo_glass ⟨Nat.le_of_ble_eq_true rfl, Nat.le_of_ble_eq_true rfl⟩) hK hPW hM.1.1 hM.1.2 rfl rfl hl.1 rfl (Nat.le_of_ble_eq_true rfl) ⟨hcap.1, hcap.2⟩ d_La_law_319 (fun f2 H1 locs1 hp hPW => ?_)
  have hM := hp
  obtain ⟨s1, s3⟩ := so_glass hCW hSim (xs (nI i + 1).toNatClampNeg) (xs (nI i + 2).toNatClampNeg)
  have hLI := s3 u.1 (fun k => (hp0 k).1) hp1
  refine lv_aload_n hx hb d_La_law_322 rfl (lv_at hl 3 rfl) ?_
  refine kL_th (As := []) (rest := []) ⟨hx, hb, hml, hown, hG⟩ (c_Mo_thrown hM) (cwV 0 hG (gV k765 k766 k767 k2 k768) rfl rfl rfl hd_Mo_thrown ⟨Nat.le_of_ble_eq_true rfl, Nat.le_of_ble_eq_true rfl⟩) hK hPW hM.1.1 hM.1.2 rfl rfl hl.1 rfl (Nat.le_of_ble_eq_true rfl) ⟨hcap.1, hcap.2⟩ d_La_law_323 (fun locs1 hPW => ?_)
  refine lv_iload hx hb d_La_law_326 (lv_at hl 0 rfl) ?_
  refine lv_icmp_eq (tgt := 333) hx hb d_La_law_328 (by decide) (fun c_1 => ?_) (fun c_1 => absurd s1 c_1)
  exact lv_goto (tgt := 1120) hx hb d_La_law_333 (by decide) (kk _ _ _ ⟨u.1.1, u.1.2.1, u.1.2.2, AM, LM, f2, _, _, u.2, hLI, hM, h9, rfl, hPW⟩ (lv_sub hl [1, 2, 3, 4, 5] rfl))
set_option maxHeartbeats 4000000 in
set_option maxRecDepth 100000 in
theorem lk_fire {p : Program} {l : Launch} {e : Env} {s : State} {m : MethodId} {below : List Frame} {meth : Method} {c : Code} {H : Heap} {locs : List Loc} {cells slots : Nat} {Q : State → Prop} {D : va_G} {ct : Nat → ClassId} {b Lx : Nat} {xs : Nat → Int32} {sa sb ao x0 m0 i : Nat} {ls : Array Slot} (C : LC l D ct p s m meth c b Lx xs sa sb) (hw : LW D ct s ao x0 m0 H locs) (hi : i + 6 ≤ Lx) (hcap : cells + 12 ≤ 601024 ∧ slots + 100 ≤ 7293034) (hl : lv_has ls 8 [(4, .int (nI i)), (3, .ref ao), (2, .ref m0), (1, .ref x0), (0, .ref b)]) (kk : ∀ (H1 : Heap) (locs1 : List Loc) (ls1 : Array Slot), LW D ct s ao x0 m0 H1 locs1 → lv_has ls1 8 [(4, .int (nI i)), (3, .ref ao), (2, .ref m0), (1, .ref x0), (0, .ref b)] → W p l e room_1 s m #[Value.ref b] below meth c H1 locs1 (cells + 12) (slots + 100) Q (F0 m 1120 ls1 [])) : W p l e room_1 s m #[Value.ref b] below meth c H locs cells slots Q (F0 m 336 ls []) := by
  obtain ⟨⟨hx, hb, hr, hml, hown, hts, hX, hbl, hlocks, hgv⟩, hl0, hLx, hK, hE, hNc⟩ := C
  have hG : ∀ w ∈ GW, w.before #[Value.ref b] s = true := fun w h => hts w (List.mem_filter.mp h).1
  obtain ⟨AD, L, f, AM, LM, fM, X, Y, v, ⟨n, I, J, P, T, hCW, hSim⟩, hM, e9, e100, hPW⟩ := hw
  subst e9; subst e100
  have hbA : ¬ NA s b := Nat.not_le.mpr hbl
  refine lv_aload_n hx hb d_La_law_336 rfl (lv_at hl 3 rfl) ?_
  refine lv_aload_n hx hb d_La_law_337 rfl (lv_at hl 4 rfl) ?_
  refine lv_iload hx hb d_La_law_338 (lv_at hl 0 rfl) ?_
  refine lv_iconst (v := 1) hx hb d_La_law_340 (by decide) ?_
  refine lv_iadd hx hb d_La_law_341 ?_
  refine va_sld hx hb hX hbl hbA hPW.2.2.2.2 (sin hi hLx 1 (by decide)) d_La_law_342 ?_
  refine lv_aload_n hx hb d_La_law_343 rfl (lv_at hl 4 rfl) ?_
  refine lv_iload hx hb d_La_law_344 (lv_at hl 0 rfl) ?_
  refine lv_iconst (v := 2) hx hb d_La_law_346 (by decide) ?_
  refine lv_iadd hx hb d_La_law_347 ?_
  refine va_sld hx hb hX hbl hbA hPW.2.2.2.2 (sin hi hLx 2 (by decide)) d_La_law_348 ?_
  refine lv_aload_n hx hb d_La_law_349 rfl (lv_at hl 4 rfl) ?_
  refine lv_iload hx hb d_La_law_350 (lv_at hl 0 rfl) ?_
  refine lv_iconst (v := 3) hx hb d_La_law_352 (by decide) ?_
  refine lv_iadd hx hb d_La_law_353 ?_
  refine va_sld hx hb hX hbl hbA hPW.2.2.2.2 (sin hi hLx 3 (by decide)) d_La_law_354 ?_
  refine lv_aload_n hx hb d_La_law_355 rfl (lv_at hl 4 rfl) ?_
  refine lv_iload hx hb d_La_law_356 (lv_at hl 0 rfl) ?_
  refine lv_iconst (v := 4) hx hb d_La_law_358 (by decide) ?_
  refine lv_iadd hx hb d_La_law_359 ?_
  refine va_sld hx hb hX hbl hbA hPW.2.2.2.2 (sin hi hLx 4 (by decide)) d_La_law_360 ?_
  refine lv_aload_n hx hb d_La_law_361 rfl (lv_at hl 4 rfl) ?_
  refine lv_iload hx hb d_La_law_362 (lv_at hl 0 rfl) ?_
  refine lv_iconst (v := 5) hx hb d_La_law_364 (by decide) ?_
  refine lv_iadd hx hb d_La_law_365 ?_
  refine va_sld hx hb hX hbl hbA hPW.2.2.2.2 (sin hi hLx 5 (by decide)) d_La_law_366 ?_
  refine lv_aload_n hx hb d_La_law_367 rfl (lv_at hl 1 rfl) ?_
  refine kL_w (As := [.ref (AD 9 0), .int (xs (nI i + 1).toNatClampNeg), .int (xs (nI i + 2).toNatClampNeg), .int (xs (nI i + 3).toNatClampNeg), .int (xs (nI i + 4).toNatClampNeg), .int (xs (nI i + 5).toNatClampNeg), .ref ao]) (rest := []) ⟨hx, hb, hml, hown, hG⟩ (c_La_fire hl0 (sa := sa) (sb := sb) (v := v) hCW) (vx_cwSW 7 hG (gH k294 k295 k0 k296) rfl rfl rfl hd_La_fire.2 ⟨Nat.le_of_ble_eq_true rfl, Nat.le_of_ble_eq_true rfl⟩) hK hE hNc hPW rfl hl.1 rfl (Nat.le_of_ble_eq_true rfl) hcap d_La_law_368 (fun r u H1 locs1 hp hPW => ?_)
  obtain ⟨hr1, hp0, hp1⟩ := hp
  subst hr1
  have h9 : u.1.1 9 0 = AD 9 0 := by
    by_cases k : (kdFire n I (xs (nI i + 1).toNatClampNeg) (xs (nI i + 2).toNatClampNeg) (xs (nI i + 3).toNatClampNeg) (xs (nI i + 4).toNatClampNeg) (xs (nI i + 5).toNatClampNeg)) = 0
    · exact (hp0 k).2.2
    · rw [hp1 k]
  refine lv_istore (lv' := [(5, .int (kdFire n I (xs (nI i + 1).toNatClampNeg) (xs (nI i + 2).toNatClampNeg) (xs (nI i + 3).toNatClampNeg) (xs (nI i + 4).toNatClampNeg) (xs (nI i + 5).toNatClampNeg))), (4, .int (nI i)), (3, .ref ao), (2, .ref (AM 100)), (1, .ref (AD 9 0)), (0, .ref b)]) hx hb d_La_law_371 hl (by decide) rfl (fun ls hl => ?_)
  refine lv_aload_n hx hb d_La_law_373 rfl (lv_at hl 3 rfl) ?_
  refine lv_aload_n hx hb d_La_law_374 rfl (lv_at hl 5 rfl) ?_
  refine lv_iload hx hb d_La_law_375 (lv_at hl 1 rfl) ?_
  refine lv_iconst (v := 1) hx hb d_La_law_377 (by decide) ?_
  refine lv_iadd hx hb d_La_law_378 ?_
  refine va_sld hx hb hX hbl hbA hPW.2.2.2.2 (sin hi hLx 1 (by decide)) d_La_law_379 ?_
  refine lv_aload_n hx hb d_La_law_380 rfl (lv_at hl 5 rfl) ?_
  refine lv_iload hx hb d_La_law_381 (lv_at hl 1 rfl) ?_
  refine lv_iconst (v := 2) hx hb d_La_law_383 (by decide) ?_
  refine lv_iadd hx hb d_La_law_384 ?_
  refine va_sld hx hb hX hbl hbA hPW.2.2.2.2 (sin hi hLx 2 (by decide)) d_La_law_385 ?_
  refine lv_aload_n hx hb d_La_law_386 rfl (lv_at hl 5 rfl) ?_
  refine lv_iload hx hb d_La_law_387 (lv_at hl 1 rfl) ?_
  refine lv_iconst (v := 3) hx hb d_La_law_389 (by decide) ?_
  refine lv_iadd hx hb d_La_law_390 ?_
  refine va_sld hx hb hX hbl hbA hPW.2.2.2.2 (sin hi hLx 3 (by decide)) d_La_law_391 ?_
  refine lv_aload_n hx hb d_La_law_392 rfl (lv_at hl 5 rfl) ?_
  refine lv_iload hx hb d_La_law_393 (lv_at hl 1 rfl) ?_
  refine lv_iconst (v := 4) hx hb d_La_law_395 (by decide) ?_
  refine lv_iadd hx hb d_La_law_396 ?_
  refine va_sld hx hb hX hbl hbA hPW.2.2.2.2 (sin hi hLx 4 (by decide)) d_La_law_397 ?_
  refine lv_aload_n hx hb d_La_law_398 rfl (lv_at hl 5 rfl) ?_
  refine lv_iload hx hb d_La_law_399 (lv_at hl 1 rfl) ?_
  refine lv_iconst (v := 5) hx hb d_La_law_401 (by decide) ?_
  refine lv_iadd hx hb d_La_law_402 ?_
  refine va_sld hx hb hX hbl hbA hPW.2.2.2.2 (sin hi hLx 5 (by decide)) d_La_law_403 ?_
  refine kL_mi (As := [.int (xs (nI i + 1).toNatClampNeg), .int (xs (nI i + 2).toNatClampNeg), .int (xs (nI i + 3).toNatClampNeg), .int (xs (nI i + 4).toNatClampNeg), .int (xs (nI i + 5).toNatClampNeg)]) (rest := []) ⟨hx, hb, hml, hown, hG⟩ (c_Mo_fire hM hSim.x21 (hSim.cap 2 (by decide))) (cwV 5 hG (gV k792 k793 k794 k2 k795) rfl rfl rfl hd_Mo_fire ⟨Nat.le_of_ble_eq_true rfl, Nat.le_of_ble_eq_true rfl⟩) hK hPW hM.1.1 hM.1.2 rfl rfl hl.1 rfl (Nat.le_of_ble_eq_true rfl) ⟨hcap.1, hcap.2⟩ d_La_law_404 (fun r f2 H1 locs1 hp hPW => ?_)
  obtain ⟨hr2, hM⟩ := hp
  subst hr2
  obtain ⟨s1, s2, s3⟩ := so_fire hCW hSim (xs (nI i + 1).toNatClampNeg) (xs (nI i + 2).toNatClampNeg) (xs (nI i + 3).toNatClampNeg) (xs (nI i + 4).toNatClampNeg) (xs (nI i + 5).toNatClampNeg)
  have hLI := s3 u.1 (fun k => (hp0 k).2.1) hp1
  obtain ⟨w, ew⟩ : ∃ w, w = vMfire X Y (xs (nI i + 1).toNatClampNeg) (xs (nI i + 2).toNatClampNeg) (xs (nI i + 3).toNatClampNeg) (xs (nI i + 4).toNatClampNeg) (xs (nI i + 5).toNatClampNeg) := ⟨_, rfl⟩
  rw [← ew]
  refine lv_istore (lv' := [(6, .int w), (5, .int (kdFire n I (xs (nI i + 1).toNatClampNeg) (xs (nI i + 2).toNatClampNeg) (xs (nI i + 3).toNatClampNeg) (xs (nI i + 4).toNatClampNeg) (xs (nI i + 5).toNatClampNeg))), (4, .int (nI i)), (3, .ref ao), (2, .ref (AM 100)), (1, .ref (AD 9 0)), (0, .ref b)]) hx hb d_La_law_407 hl (by decide) rfl (fun ls hl => ?_)
  refine lv_aload_n hx hb d_La_law_409 rfl (lv_at hl 4 rfl) ?_
  refine kL_th (As := []) (rest := []) ⟨hx, hb, hml, hown, hG⟩ (c_Mo_thrown hM) (cwV 0 hG (gV k765 k766 k767 k2 k768) rfl rfl rfl hd_Mo_thrown ⟨Nat.le_of_ble_eq_true rfl, Nat.le_of_ble_eq_true rfl⟩) hK hPW hM.1.1 hM.1.2 rfl rfl hl.1 rfl (Nat.le_of_ble_eq_true rfl) ⟨hcap.1, hcap.2⟩ d_La_law_410 (fun locs1 hPW => ?_)
  refine lv_iload hx hb d_La_law_413 (lv_at hl 1 rfl) ?_
  refine lv_icmp_eq (tgt := 420) hx hb d_La_law_415 (by decide) (fun c_1 => ?_) (fun c_1 => absurd s1 c_1)
  refine lv_iload hx hb d_La_law_420 (lv_at hl 1 rfl) ?_
  refine lv_if_ne (tgt := 437) hx hb d_La_law_422 (by decide) (fun c_2 => ?_) (fun c_2 => ?_)
  · exact lv_goto (tgt := 1120) hx hb d_La_law_437 (by decide) (kk _ _ _ ⟨u.1.1, u.1.2.1, u.1.2.2, AM, LM, f2, _, _, u.2, hLI, hM, h9, rfl, hPW⟩ (lv_sub hl [2, 3, 4, 5, 6] rfl))
  · refine lv_aload_n hx hb d_La_law_425 rfl (lv_at hl 3 rfl) ?_
    refine lv_iconst (v := 0) hx hb d_La_law_426 (by decide) ?_
    refine va_lald hx hb hK (cP hPW.2.2.1.1 (fun _ _ h => nomatch h : va_P D vwCl [] _)) 0 7 rfl rfl vin01 d_La_law_427 ?_
    refine lv_iload hx hb d_La_law_428 (lv_at hl 0 rfl) ?_
    refine lv_i2l hx hb d_La_law_430 rfl ?_
    refine lc_eq (tgt := 437) hx hb d_La_law_431 d_La_law_432 (by decide) (fun c_3 => ?_) (fun c_3 => absurd ?_ c_3)
    · exact lv_goto (tgt := 1120) hx hb d_La_law_437 (by decide) (kk _ _ _ ⟨u.1.1, u.1.2.1, u.1.2.2, AM, LM, f2, _, _, u.2, hLI, hM, h9, rfl, hPW⟩ (lv_sub hl [2, 3, 4, 5, 6] rfl))
    · rw [ew, s2 c_2]
      exact (hp0 c_2).1
set_option maxHeartbeats 4000000 in
set_option maxRecDepth 100000 in
theorem lk_sprinkler {p : Program} {l : Launch} {e : Env} {s : State} {m : MethodId} {below : List Frame} {meth : Method} {c : Code} {H : Heap} {locs : List Loc} {cells slots : Nat} {Q : State → Prop} {D : va_G} {ct : Nat → ClassId} {b Lx : Nat} {xs : Nat → Int32} {sa sb ao x0 m0 i : Nat} {ls : Array Slot} (C : LC l D ct p s m meth c b Lx xs sa sb) (hw : LW D ct s ao x0 m0 H locs) (hi : i + 6 ≤ Lx) (hcap : cells + 12 ≤ 601024 ∧ slots + 100 ≤ 7293034) (hl : lv_has ls 8 [(4, .int (nI i)), (3, .ref ao), (2, .ref m0), (1, .ref x0), (0, .ref b)]) (kk : ∀ (H1 : Heap) (locs1 : List Loc) (ls1 : Array Slot), LW D ct s ao x0 m0 H1 locs1 → lv_has ls1 8 [(4, .int (nI i)), (3, .ref ao), (2, .ref m0), (1, .ref x0), (0, .ref b)] → W p l e room_1 s m #[Value.ref b] below meth c H1 locs1 (cells + 12) (slots + 100) Q (F0 m 1120 ls1 [])) : W p l e room_1 s m #[Value.ref b] below meth c H locs cells slots Q (F0 m 440 ls []) := by
  obtain ⟨⟨hx, hb, hr, hml, hown, hts, hX, hbl, hlocks, hgv⟩, hl0, hLx, hK, hE, hNc⟩ := C
  have hG : ∀ w ∈ GW, w.before #[Value.ref b] s = true := fun w h => hts w (List.mem_filter.mp h).1
  obtain ⟨AD, L, f, AM, LM, fM, X, Y, v, ⟨n, I, J, P, T, hCW, hSim⟩, hM, e9, e100, hPW⟩ := hw
  subst e9; subst e100
  have hbA : ¬ NA s b := Nat.not_le.mpr hbl
  refine lv_aload_n hx hb d_La_law_440 rfl (lv_at hl 3 rfl) ?_
  refine lv_aload_n hx hb d_La_law_441 rfl (lv_at hl 4 rfl) ?_
  refine lv_iload hx hb d_La_law_442 (lv_at hl 0 rfl) ?_
  refine lv_iconst (v := 1) hx hb d_La_law_444 (by decide) ?_
  refine lv_iadd hx hb d_La_law_445 ?_
  refine va_sld hx hb hX hbl hbA hPW.2.2.2.2 (sin hi hLx 1 (by decide)) d_La_law_446 ?_
  refine lv_aload_n hx hb d_La_law_447 rfl (lv_at hl 4 rfl) ?_
  refine lv_iload hx hb d_La_law_448 (lv_at hl 0 rfl) ?_
  refine lv_iconst (v := 2) hx hb d_La_law_450 (by decide) ?_
  refine lv_iadd hx hb d_La_law_451 ?_
  refine va_sld hx hb hX hbl hbA hPW.2.2.2.2 (sin hi hLx 2 (by decide)) d_La_law_452 ?_
  refine kL_w (As := [.ref (AD 9 0), .int (xs (nI i + 1).toNatClampNeg), .int (xs (nI i + 2).toNatClampNeg)]) (rest := []) ⟨hx, hb, hml, hown, hG⟩ (c_La_sprinkler hl0 (sa := sa) (sb := sb) (v := v) hCW) (vx_cwSW 3 hG (gH k323 k324 k0 k325) rfl rfl rfl hd_La_sprinkler.2 ⟨Nat.le_of_ble_eq_true rfl, Nat.le_of_ble_eq_true rfl⟩) hK hE hNc hPW rfl hl.1 rfl (Nat.le_of_ble_eq_true rfl) hcap d_La_law_453 (fun r u H1 locs1 hp hPW => ?_)
  obtain ⟨hr1, hp0, hp1⟩ := hp
  subst hr1
  have h9 : u.1.1 9 0 = AD 9 0 := by
    by_cases k : (kdSpr n I (xs (nI i + 1).toNatClampNeg) (xs (nI i + 2).toNatClampNeg)) = 0
    · exact (hp0 k).2
    · rw [hp1 k]
  refine lv_istore (lv' := [(5, .int (kdSpr n I (xs (nI i + 1).toNatClampNeg) (xs (nI i + 2).toNatClampNeg))), (4, .int (nI i)), (3, .ref ao), (2, .ref (AM 100)), (1, .ref (AD 9 0)), (0, .ref b)]) hx hb d_La_law_456 hl (by decide) rfl (fun ls hl => ?_)
  refine lv_aload_n hx hb d_La_law_458 rfl (lv_at hl 3 rfl) ?_
  refine lv_aload_n hx hb d_La_law_459 rfl (lv_at hl 5 rfl) ?_
  refine lv_iload hx hb d_La_law_460 (lv_at hl 1 rfl) ?_
  refine lv_iconst (v := 1) hx hb d_La_law_462 (by decide) ?_
  refine lv_iadd hx hb d_La_law_463 ?_
  refine va_sld hx hb hX hbl hbA hPW.2.2.2.2 (sin hi hLx 1 (by decide)) d_La_law_464 ?_
  refine lv_aload_n hx hb d_La_law_465 rfl (lv_at hl 5 rfl) ?_
  refine lv_iload hx hb d_La_law_466 (lv_at hl 1 rfl) ?_
  refine lv_iconst (v := 2) hx hb d_La_law_468 (by decide) ?_
  refine lv_iadd hx hb d_La_law_469 ?_
  refine va_sld hx hb hX hbl hbA hPW.2.2.2.2 (sin hi hLx 2 (by decide)) d_La_law_470 ?_
  refine kL_mv (As := [.int (xs (nI i + 1).toNatClampNeg), .int (xs (nI i + 2).toNatClampNeg)]) (rest := []) ⟨hx, hb, hml, hown, hG⟩ (c_Mo_sprinkler hM hSim.x2 (hSim.cap 0 (by decide))) (cwV 2 hG (gV k797 k798 k799 k2 k800) rfl rfl rfl hd_Mo_sprinkler ⟨Nat.le_of_ble_eq_true rfl, Nat.le_of_ble_eq_true rfl⟩) hK hPW hM.1.1 hM.1.2 rfl rfl hl.1 rfl (Nat.le_of_ble_eq_true rfl) ⟨hcap.1, hcap.2⟩ d_La_law_471 (fun f2 H1 locs1 hp hPW => ?_)
  have hM := hp
  obtain ⟨s1, s3⟩ := so_spr hCW hSim (xs (nI i + 1).toNatClampNeg) (xs (nI i + 2).toNatClampNeg)
  have hLI := s3 u.1 (fun k => (hp0 k).1) hp1
  refine lv_aload_n hx hb d_La_law_474 rfl (lv_at hl 3 rfl) ?_
  refine kL_th (As := []) (rest := []) ⟨hx, hb, hml, hown, hG⟩ (c_Mo_thrown hM) (cwV 0 hG (gV k765 k766 k767 k2 k768) rfl rfl rfl hd_Mo_thrown ⟨Nat.le_of_ble_eq_true rfl, Nat.le_of_ble_eq_true rfl⟩) hK hPW hM.1.1 hM.1.2 rfl rfl hl.1 rfl (Nat.le_of_ble_eq_true rfl) ⟨hcap.1, hcap.2⟩ d_La_law_475 (fun locs1 hPW => ?_)
  refine lv_iload hx hb d_La_law_478 (lv_at hl 0 rfl) ?_
  refine lv_icmp_eq (tgt := 485) hx hb d_La_law_480 (by decide) (fun c_1 => ?_) (fun c_1 => absurd s1 c_1)
  exact lv_goto (tgt := 1120) hx hb d_La_law_485 (by decide) (kk _ _ _ ⟨u.1.1, u.1.2.1, u.1.2.2, AM, LM, f2, _, _, u.2, hLI, hM, h9, rfl, hPW⟩ (lv_sub hl [1, 2, 3, 4, 5] rfl))
set_option maxHeartbeats 4000000 in
set_option maxRecDepth 100000 in
theorem lk_fan {p : Program} {l : Launch} {e : Env} {s : State} {m : MethodId} {below : List Frame} {meth : Method} {c : Code} {H : Heap} {locs : List Loc} {cells slots : Nat} {Q : State → Prop} {D : va_G} {ct : Nat → ClassId} {b Lx : Nat} {xs : Nat → Int32} {sa sb ao x0 m0 i : Nat} {ls : Array Slot} (C : LC l D ct p s m meth c b Lx xs sa sb) (hw : LW D ct s ao x0 m0 H locs) (hi : i + 6 ≤ Lx) (hcap : cells + 12 ≤ 601024 ∧ slots + 100 ≤ 7293034) (hl : lv_has ls 8 [(4, .int (nI i)), (3, .ref ao), (2, .ref m0), (1, .ref x0), (0, .ref b)]) (kk : ∀ (H1 : Heap) (locs1 : List Loc) (ls1 : Array Slot), LW D ct s ao x0 m0 H1 locs1 → lv_has ls1 8 [(4, .int (nI i)), (3, .ref ao), (2, .ref m0), (1, .ref x0), (0, .ref b)] → W p l e room_1 s m #[Value.ref b] below meth c H1 locs1 (cells + 12) (slots + 100) Q (F0 m 1120 ls1 [])) : W p l e room_1 s m #[Value.ref b] below meth c H locs cells slots Q (F0 m 488 ls []) := by
  obtain ⟨⟨hx, hb, hr, hml, hown, hts, hX, hbl, hlocks, hgv⟩, hl0, hLx, hK, hE, hNc⟩ := C
  have hG : ∀ w ∈ GW, w.before #[Value.ref b] s = true := fun w h => hts w (List.mem_filter.mp h).1
  obtain ⟨AD, L, f, AM, LM, fM, X, Y, v, ⟨n, I, J, P, T, hCW, hSim⟩, hM, e9, e100, hPW⟩ := hw
  subst e9; subst e100
  have hbA : ¬ NA s b := Nat.not_le.mpr hbl
  refine lv_aload_n hx hb d_La_law_488 rfl (lv_at hl 3 rfl) ?_
  refine lv_aload_n hx hb d_La_law_489 rfl (lv_at hl 4 rfl) ?_
  refine lv_iload hx hb d_La_law_490 (lv_at hl 0 rfl) ?_
  refine lv_iconst (v := 1) hx hb d_La_law_492 (by decide) ?_
  refine lv_iadd hx hb d_La_law_493 ?_
  refine va_sld hx hb hX hbl hbA hPW.2.2.2.2 (sin hi hLx 1 (by decide)) d_La_law_494 ?_
  refine lv_aload_n hx hb d_La_law_495 rfl (lv_at hl 4 rfl) ?_
  refine lv_iload hx hb d_La_law_496 (lv_at hl 0 rfl) ?_
  refine lv_iconst (v := 2) hx hb d_La_law_498 (by decide) ?_
  refine lv_iadd hx hb d_La_law_499 ?_
  refine va_sld hx hb hX hbl hbA hPW.2.2.2.2 (sin hi hLx 2 (by decide)) d_La_law_500 ?_
  refine lv_aload_n hx hb d_La_law_501 rfl (lv_at hl 4 rfl) ?_
  refine lv_iload hx hb d_La_law_502 (lv_at hl 0 rfl) ?_
  refine lv_iconst (v := 3) hx hb d_La_law_504 (by decide) ?_
  refine lv_iadd hx hb d_La_law_505 ?_
  refine va_sld hx hb hX hbl hbA hPW.2.2.2.2 (sin hi hLx 3 (by decide)) d_La_law_506 ?_
  refine lv_aload_n hx hb d_La_law_507 rfl (lv_at hl 1 rfl) ?_
  refine kL_w (As := [.ref (AD 9 0), .int (xs (nI i + 1).toNatClampNeg), .int (xs (nI i + 2).toNatClampNeg), .int (xs (nI i + 3).toNatClampNeg), .ref ao]) (rest := []) ⟨hx, hb, hml, hown, hG⟩ (c_La_fan hl0 (sa := sa) (sb := sb) (v := v) hCW) (vx_cwSW 5 hG (gH k330 k331 k0 k332) rfl rfl rfl hd_La_fan.2 ⟨Nat.le_of_ble_eq_true rfl, Nat.le_of_ble_eq_true rfl⟩) hK hE hNc hPW rfl hl.1 rfl (Nat.le_of_ble_eq_true rfl) hcap d_La_law_508 (fun r u H1 locs1 hp hPW => ?_)
  obtain ⟨hr1, hp0, hp1⟩ := hp
  subst hr1
  have h9 : u.1.1 9 0 = AD 9 0 := by
    by_cases k : (kdFan n I (xs (nI i + 1).toNatClampNeg) (xs (nI i + 2).toNatClampNeg) (xs (nI i + 3).toNatClampNeg)) = 0
    · exact (hp0 k).2.2
    · rw [hp1 k]
  refine lv_istore (lv' := [(5, .int (kdFan n I (xs (nI i + 1).toNatClampNeg) (xs (nI i + 2).toNatClampNeg) (xs (nI i + 3).toNatClampNeg))), (4, .int (nI i)), (3, .ref ao), (2, .ref (AM 100)), (1, .ref (AD 9 0)), (0, .ref b)]) hx hb d_La_law_511 hl (by decide) rfl (fun ls hl => ?_)
  refine lv_aload_n hx hb d_La_law_513 rfl (lv_at hl 3 rfl) ?_
  refine lv_aload_n hx hb d_La_law_514 rfl (lv_at hl 5 rfl) ?_
  refine lv_iload hx hb d_La_law_515 (lv_at hl 1 rfl) ?_
  refine lv_iconst (v := 1) hx hb d_La_law_517 (by decide) ?_
  refine lv_iadd hx hb d_La_law_518 ?_
  refine va_sld hx hb hX hbl hbA hPW.2.2.2.2 (sin hi hLx 1 (by decide)) d_La_law_519 ?_
  refine lv_aload_n hx hb d_La_law_520 rfl (lv_at hl 5 rfl) ?_
  refine lv_iload hx hb d_La_law_521 (lv_at hl 1 rfl) ?_
  refine lv_iconst (v := 2) hx hb d_La_law_523 (by decide) ?_
  refine lv_iadd hx hb d_La_law_524 ?_
  refine va_sld hx hb hX hbl hbA hPW.2.2.2.2 (sin hi hLx 2 (by decide)) d_La_law_525 ?_
  refine lv_aload_n hx hb d_La_law_526 rfl (lv_at hl 5 rfl) ?_
  refine lv_iload hx hb d_La_law_527 (lv_at hl 1 rfl) ?_
  refine lv_iconst (v := 3) hx hb d_La_law_529 (by decide) ?_
  refine lv_iadd hx hb d_La_law_530 ?_
  refine va_sld hx hb hX hbl hbA hPW.2.2.2.2 (sin hi hLx 3 (by decide)) d_La_law_531 ?_
  refine kL_mi (As := [.int (xs (nI i + 1).toNatClampNeg), .int (xs (nI i + 2).toNatClampNeg), .int (xs (nI i + 3).toNatClampNeg)]) (rest := []) ⟨hx, hb, hml, hown, hG⟩ (c_Mo_fan hM hSim.x27 (hSim.cap 3 (by decide))) (cwV 3 hG (gV k801 k802 k803 k2 k804) rfl rfl rfl hd_Mo_fan ⟨Nat.le_of_ble_eq_true rfl, Nat.le_of_ble_eq_true rfl⟩) hK hPW hM.1.1 hM.1.2 rfl rfl hl.1 rfl (Nat.le_of_ble_eq_true rfl) ⟨hcap.1, hcap.2⟩ d_La_law_532 (fun r f2 H1 locs1 hp hPW => ?_)
  obtain ⟨hr2, hM⟩ := hp
  subst hr2
  obtain ⟨s1, s2, s3⟩ := so_fan hCW hSim (xs (nI i + 1).toNatClampNeg) (xs (nI i + 2).toNatClampNeg) (xs (nI i + 3).toNatClampNeg)
  have hLI := s3 u.1 (fun k => (hp0 k).2.1) hp1
  obtain ⟨w, ew⟩ : ∃ w, w = vMfan X Y (xs (nI i + 1).toNatClampNeg) (xs (nI i + 2).toNatClampNeg) (xs (nI i + 3).toNatClampNeg) := ⟨_, rfl⟩
  rw [← ew]
  refine lv_istore (lv' := [(6, .int w), (5, .int (kdFan n I (xs (nI i + 1).toNatClampNeg) (xs (nI i + 2).toNatClampNeg) (xs (nI i + 3).toNatClampNeg))), (4, .int (nI i)), (3, .ref ao), (2, .ref (AM 100)), (1, .ref (AD 9 0)), (0, .ref b)]) hx hb d_La_law_535 hl (by decide) rfl (fun ls hl => ?_)
  refine lv_aload_n hx hb d_La_law_537 rfl (lv_at hl 4 rfl) ?_
  refine kL_th (As := []) (rest := []) ⟨hx, hb, hml, hown, hG⟩ (c_Mo_thrown hM) (cwV 0 hG (gV k765 k766 k767 k2 k768) rfl rfl rfl hd_Mo_thrown ⟨Nat.le_of_ble_eq_true rfl, Nat.le_of_ble_eq_true rfl⟩) hK hPW hM.1.1 hM.1.2 rfl rfl hl.1 rfl (Nat.le_of_ble_eq_true rfl) ⟨hcap.1, hcap.2⟩ d_La_law_538 (fun locs1 hPW => ?_)
  refine lv_iload hx hb d_La_law_541 (lv_at hl 1 rfl) ?_
  refine lv_icmp_eq (tgt := 548) hx hb d_La_law_543 (by decide) (fun c_1 => ?_) (fun c_1 => absurd s1 c_1)
  refine lv_iload hx hb d_La_law_548 (lv_at hl 1 rfl) ?_
  refine lv_if_ne (tgt := 565) hx hb d_La_law_550 (by decide) (fun c_2 => ?_) (fun c_2 => ?_)
  · exact lv_goto (tgt := 1120) hx hb d_La_law_565 (by decide) (kk _ _ _ ⟨u.1.1, u.1.2.1, u.1.2.2, AM, LM, f2, _, _, u.2, hLI, hM, h9, rfl, hPW⟩ (lv_sub hl [2, 3, 4, 5, 6] rfl))
  · refine lv_aload_n hx hb d_La_law_553 rfl (lv_at hl 3 rfl) ?_
    refine lv_iconst (v := 0) hx hb d_La_law_554 (by decide) ?_
    refine va_lald hx hb hK (cP hPW.2.2.1.1 (fun _ _ h => nomatch h : va_P D vwCl [] _)) 0 7 rfl rfl vin01 d_La_law_555 ?_
    refine lv_iload hx hb d_La_law_556 (lv_at hl 0 rfl) ?_
    refine lv_i2l hx hb d_La_law_558 rfl ?_
    refine lc_eq (tgt := 565) hx hb d_La_law_559 d_La_law_560 (by decide) (fun c_3 => ?_) (fun c_3 => absurd ?_ c_3)
    · exact lv_goto (tgt := 1120) hx hb d_La_law_565 (by decide) (kk _ _ _ ⟨u.1.1, u.1.2.1, u.1.2.2, AM, LM, f2, _, _, u.2, hLI, hM, h9, rfl, hPW⟩ (lv_sub hl [2, 3, 4, 5, 6] rfl))
    · rw [ew, s2 c_2]
      exact (hp0 c_2).1
set_option maxHeartbeats 4000000 in
set_option maxRecDepth 100000 in
theorem lk_steel {p : Program} {l : Launch} {e : Env} {s : State} {m : MethodId} {below : List Frame} {meth : Method} {c : Code} {H : Heap} {locs : List Loc} {cells slots : Nat} {Q : State → Prop} {D : va_G} {ct : Nat → ClassId} {b Lx : Nat} {xs : Nat → Int32} {sa sb ao x0 m0 i : Nat} {ls : Array Slot} (C : LC l D ct p s m meth c b Lx xs sa sb) (hw : LW D ct s ao x0 m0 H locs) (hi : i + 6 ≤ Lx) (hcap : cells + 12 ≤ 601024 ∧ slots + 100 ≤ 7293034) (hl : lv_has ls 8 [(4, .int (nI i)), (3, .ref ao), (2, .ref m0), (1, .ref x0), (0, .ref b)]) (kk : ∀ (H1 : Heap) (locs1 : List Loc) (ls1 : Array Slot), LW D ct s ao x0 m0 H1 locs1 → lv_has ls1 8 [(4, .int (nI i)), (3, .ref ao), (2, .ref m0), (1, .ref x0), (0, .ref b)] → W p l e room_1 s m #[Value.ref b] below meth c H1 locs1 (cells + 12) (slots + 100) Q (F0 m 1120 ls1 [])) : W p l e room_1 s m #[Value.ref b] below meth c H locs cells slots Q (F0 m 568 ls []) := by
  obtain ⟨⟨hx, hb, hr, hml, hown, hts, hX, hbl, hlocks, hgv⟩, hl0, hLx, hK, hE, hNc⟩ := C
  have hG : ∀ w ∈ GW, w.before #[Value.ref b] s = true := fun w h => hts w (List.mem_filter.mp h).1
  obtain ⟨AD, L, f, AM, LM, fM, X, Y, v, ⟨n, I, J, P, T, hCW, hSim⟩, hM, e9, e100, hPW⟩ := hw
  subst e9; subst e100
  have hbA : ¬ NA s b := Nat.not_le.mpr hbl
  refine lv_aload_n hx hb d_La_law_568 rfl (lv_at hl 3 rfl) ?_
  refine lv_aload_n hx hb d_La_law_569 rfl (lv_at hl 4 rfl) ?_
  refine lv_iload hx hb d_La_law_570 (lv_at hl 0 rfl) ?_
  refine lv_iconst (v := 1) hx hb d_La_law_572 (by decide) ?_
  refine lv_iadd hx hb d_La_law_573 ?_
  refine va_sld hx hb hX hbl hbA hPW.2.2.2.2 (sin hi hLx 1 (by decide)) d_La_law_574 ?_
  refine lv_aload_n hx hb d_La_law_575 rfl (lv_at hl 4 rfl) ?_
  refine lv_iload hx hb d_La_law_576 (lv_at hl 0 rfl) ?_
  refine lv_iconst (v := 2) hx hb d_La_law_578 (by decide) ?_
  refine lv_iadd hx hb d_La_law_579 ?_
  refine va_sld hx hb hX hbl hbA hPW.2.2.2.2 (sin hi hLx 2 (by decide)) d_La_law_580 ?_
  refine lv_aload_n hx hb d_La_law_581 rfl (lv_at hl 1 rfl) ?_
  refine kL_w (As := [.ref (AD 9 0), .int (xs (nI i + 1).toNatClampNeg), .int (xs (nI i + 2).toNatClampNeg), .ref ao]) (rest := []) ⟨hx, hb, hml, hown, hG⟩ (c_La_steel hl0 (sa := sa) (sb := sb) (v := v) hCW) (vx_cwSW 4 hG (gH k352 k353 k0 k354) rfl rfl rfl hd_La_steel.2 ⟨Nat.le_of_ble_eq_true rfl, Nat.le_of_ble_eq_true rfl⟩) hK hE hNc hPW rfl hl.1 rfl (Nat.le_of_ble_eq_true rfl) hcap d_La_law_582 (fun r u H1 locs1 hp hPW => ?_)
  obtain ⟨hr1, hp0, hp1⟩ := hp
  subst hr1
  have h9 : u.1.1 9 0 = AD 9 0 := by
    by_cases k : (kdSteel n (xs (nI i + 1).toNatClampNeg) (xs (nI i + 2).toNatClampNeg)) = 0
    · exact (hp0 k).2.2
    · rw [hp1 k]
  refine lv_istore (lv' := [(5, .int (kdSteel n (xs (nI i + 1).toNatClampNeg) (xs (nI i + 2).toNatClampNeg))), (4, .int (nI i)), (3, .ref ao), (2, .ref (AM 100)), (1, .ref (AD 9 0)), (0, .ref b)]) hx hb d_La_law_585 hl (by decide) rfl (fun ls hl => ?_)
  refine lv_aload_n hx hb d_La_law_587 rfl (lv_at hl 3 rfl) ?_
  refine lv_aload_n hx hb d_La_law_588 rfl (lv_at hl 5 rfl) ?_
  refine lv_iload hx hb d_La_law_589 (lv_at hl 1 rfl) ?_
  refine lv_iconst (v := 1) hx hb d_La_law_591 (by decide) ?_
  refine lv_iadd hx hb d_La_law_592 ?_
  refine va_sld hx hb hX hbl hbA hPW.2.2.2.2 (sin hi hLx 1 (by decide)) d_La_law_593 ?_
  refine lv_aload_n hx hb d_La_law_594 rfl (lv_at hl 5 rfl) ?_
  refine lv_iload hx hb d_La_law_595 (lv_at hl 1 rfl) ?_
  refine lv_iconst (v := 2) hx hb d_La_law_597 (by decide) ?_
  refine lv_iadd hx hb d_La_law_598 ?_
  refine va_sld hx hb hX hbl hbA hPW.2.2.2.2 (sin hi hLx 2 (by decide)) d_La_law_599 ?_
  refine kL_mi (As := [.int (xs (nI i + 1).toNatClampNeg), .int (xs (nI i + 2).toNatClampNeg)]) (rest := []) ⟨hx, hb, hml, hown, hG⟩ (c_Mo_steel hM hSim.x31 (hSim.cap 4 (by decide))) (cwV 2 hG (gV k805 k806 k807 k2 k808) rfl rfl rfl hd_Mo_steel ⟨Nat.le_of_ble_eq_true rfl, Nat.le_of_ble_eq_true rfl⟩) hK hPW hM.1.1 hM.1.2 rfl rfl hl.1 rfl (Nat.le_of_ble_eq_true rfl) ⟨hcap.1, hcap.2⟩ d_La_law_600 (fun r f2 H1 locs1 hp hPW => ?_)
  obtain ⟨hr2, hM⟩ := hp
  subst hr2
  obtain ⟨s1, s2, s3⟩ := so_steel hCW hSim (xs (nI i + 1).toNatClampNeg) (xs (nI i + 2).toNatClampNeg)
  have hLI := s3 u.1 (fun k => (hp0 k).2.1) hp1
  obtain ⟨w, ew⟩ : ∃ w, w = vMsteel X Y (xs (nI i + 1).toNatClampNeg) (xs (nI i + 2).toNatClampNeg) := ⟨_, rfl⟩
  rw [← ew]
  refine lv_istore (lv' := [(6, .int w), (5, .int (kdSteel n (xs (nI i + 1).toNatClampNeg) (xs (nI i + 2).toNatClampNeg))), (4, .int (nI i)), (3, .ref ao), (2, .ref (AM 100)), (1, .ref (AD 9 0)), (0, .ref b)]) hx hb d_La_law_603 hl (by decide) rfl (fun ls hl => ?_)
  refine lv_aload_n hx hb d_La_law_605 rfl (lv_at hl 4 rfl) ?_
  refine kL_th (As := []) (rest := []) ⟨hx, hb, hml, hown, hG⟩ (c_Mo_thrown hM) (cwV 0 hG (gV k765 k766 k767 k2 k768) rfl rfl rfl hd_Mo_thrown ⟨Nat.le_of_ble_eq_true rfl, Nat.le_of_ble_eq_true rfl⟩) hK hPW hM.1.1 hM.1.2 rfl rfl hl.1 rfl (Nat.le_of_ble_eq_true rfl) ⟨hcap.1, hcap.2⟩ d_La_law_606 (fun locs1 hPW => ?_)
  refine lv_iload hx hb d_La_law_609 (lv_at hl 1 rfl) ?_
  refine lv_icmp_eq (tgt := 616) hx hb d_La_law_611 (by decide) (fun c_1 => ?_) (fun c_1 => absurd s1 c_1)
  refine lv_iload hx hb d_La_law_616 (lv_at hl 1 rfl) ?_
  refine lv_if_ne (tgt := 633) hx hb d_La_law_618 (by decide) (fun c_2 => ?_) (fun c_2 => ?_)
  · exact lv_goto (tgt := 1120) hx hb d_La_law_633 (by decide) (kk _ _ _ ⟨u.1.1, u.1.2.1, u.1.2.2, AM, LM, f2, _, _, u.2, hLI, hM, h9, rfl, hPW⟩ (lv_sub hl [2, 3, 4, 5, 6] rfl))
  · refine lv_aload_n hx hb d_La_law_621 rfl (lv_at hl 3 rfl) ?_
    refine lv_iconst (v := 0) hx hb d_La_law_622 (by decide) ?_
    refine va_lald hx hb hK (cP hPW.2.2.1.1 (fun _ _ h => nomatch h : va_P D vwCl [] _)) 0 7 rfl rfl vin01 d_La_law_623 ?_
    refine lv_iload hx hb d_La_law_624 (lv_at hl 0 rfl) ?_
    refine lv_i2l hx hb d_La_law_626 rfl ?_
    refine lc_eq (tgt := 633) hx hb d_La_law_627 d_La_law_628 (by decide) (fun c_3 => ?_) (fun c_3 => absurd ?_ c_3)
    · exact lv_goto (tgt := 1120) hx hb d_La_law_633 (by decide) (kk _ _ _ ⟨u.1.1, u.1.2.1, u.1.2.2, AM, LM, f2, _, _, u.2, hLI, hM, h9, rfl, hPW⟩ (lv_sub hl [2, 3, 4, 5, 6] rfl))
    · rw [ew, s2 c_2]
      exact (hp0 c_2).1
set_option maxHeartbeats 4000000 in
set_option maxRecDepth 100000 in
theorem lk_person {p : Program} {l : Launch} {e : Env} {s : State} {m : MethodId} {below : List Frame} {meth : Method} {c : Code} {H : Heap} {locs : List Loc} {cells slots : Nat} {Q : State → Prop} {D : va_G} {ct : Nat → ClassId} {b Lx : Nat} {xs : Nat → Int32} {sa sb ao x0 m0 i : Nat} {ls : Array Slot} (C : LC l D ct p s m meth c b Lx xs sa sb) (hw : LW D ct s ao x0 m0 H locs) (hi : i + 6 ≤ Lx) (hcap : cells + 12 ≤ 601024 ∧ slots + 100 ≤ 7293034) (hl : lv_has ls 8 [(4, .int (nI i)), (3, .ref ao), (2, .ref m0), (1, .ref x0), (0, .ref b)]) (kk : ∀ (H1 : Heap) (locs1 : List Loc) (ls1 : Array Slot), LW D ct s ao x0 m0 H1 locs1 → lv_has ls1 8 [(4, .int (nI i)), (3, .ref ao), (2, .ref m0), (1, .ref x0), (0, .ref b)] → W p l e room_1 s m #[Value.ref b] below meth c H1 locs1 (cells + 12) (slots + 100) Q (F0 m 1120 ls1 [])) : W p l e room_1 s m #[Value.ref b] below meth c H locs cells slots Q (F0 m 636 ls []) := by
  obtain ⟨⟨hx, hb, hr, hml, hown, hts, hX, hbl, hlocks, hgv⟩, hl0, hLx, hK, hE, hNc⟩ := C
  have hG : ∀ w ∈ GW, w.before #[Value.ref b] s = true := fun w h => hts w (List.mem_filter.mp h).1
  obtain ⟨AD, L, f, AM, LM, fM, X, Y, v, ⟨n, I, J, P, T, hCW, hSim⟩, hM, e9, e100, hPW⟩ := hw
  subst e9; subst e100
  have hbA : ¬ NA s b := Nat.not_le.mpr hbl
  refine lv_aload_n hx hb d_La_law_636 rfl (lv_at hl 3 rfl) ?_
  refine lv_aload_n hx hb d_La_law_637 rfl (lv_at hl 4 rfl) ?_
  refine lv_iload hx hb d_La_law_638 (lv_at hl 0 rfl) ?_
  refine lv_iconst (v := 1) hx hb d_La_law_640 (by decide) ?_
  refine lv_iadd hx hb d_La_law_641 ?_
  refine va_sld hx hb hX hbl hbA hPW.2.2.2.2 (sin hi hLx 1 (by decide)) d_La_law_642 ?_
  refine lv_aload_n hx hb d_La_law_643 rfl (lv_at hl 1 rfl) ?_
  refine kL_w (As := [.ref (AD 9 0), .int (xs (nI i + 1).toNatClampNeg), .ref ao]) (rest := []) ⟨hx, hb, hml, hown, hG⟩ (c_La_person hl0 (sa := sa) (sb := sb) (v := v) hCW) (vx_cwSW 3 hG (gH k375 k376 k0 k377) rfl rfl rfl hd_La_person.2 ⟨Nat.le_of_ble_eq_true rfl, Nat.le_of_ble_eq_true rfl⟩) hK hE hNc hPW rfl hl.1 rfl (Nat.le_of_ble_eq_true rfl) hcap d_La_law_644 (fun r u H1 locs1 hp hPW => ?_)
  obtain ⟨hr1, hp0, hp1⟩ := hp
  subst hr1
  have h9 : u.1.1 9 0 = AD 9 0 := by
    by_cases k : (kdPers n (xs (nI i + 1).toNatClampNeg)) = 0
    · exact (hp0 k).2.2
    · rw [hp1 k]
  refine lv_istore (lv' := [(5, .int (kdPers n (xs (nI i + 1).toNatClampNeg))), (4, .int (nI i)), (3, .ref ao), (2, .ref (AM 100)), (1, .ref (AD 9 0)), (0, .ref b)]) hx hb d_La_law_647 hl (by decide) rfl (fun ls hl => ?_)
  refine lv_aload_n hx hb d_La_law_649 rfl (lv_at hl 3 rfl) ?_
  refine lv_aload_n hx hb d_La_law_650 rfl (lv_at hl 5 rfl) ?_
  refine lv_iload hx hb d_La_law_651 (lv_at hl 1 rfl) ?_
  refine lv_iconst (v := 1) hx hb d_La_law_653 (by decide) ?_
  refine lv_iadd hx hb d_La_law_654 ?_
  refine va_sld hx hb hX hbl hbA hPW.2.2.2.2 (sin hi hLx 1 (by decide)) d_La_law_655 ?_
  refine kL_mi (As := [.int (xs (nI i + 1).toNatClampNeg)]) (rest := []) ⟨hx, hb, hml, hown, hG⟩ (c_Mo_person hM hSim.x35 (hSim.cap 5 (by decide))) (cwV 1 hG (gV k809 k810 k811 k2 k812) rfl rfl rfl hd_Mo_person ⟨Nat.le_of_ble_eq_true rfl, Nat.le_of_ble_eq_true rfl⟩) hK hPW hM.1.1 hM.1.2 rfl rfl hl.1 rfl (Nat.le_of_ble_eq_true rfl) ⟨hcap.1, hcap.2⟩ d_La_law_656 (fun r f2 H1 locs1 hp hPW => ?_)
  obtain ⟨hr2, hM⟩ := hp
  subst hr2
  obtain ⟨s1, s2, s3⟩ := so_pers hCW hSim (xs (nI i + 1).toNatClampNeg)
  have hLI := s3 u.1 (fun k => (hp0 k).2.1) hp1
  obtain ⟨w, ew⟩ : ∃ w, w = vMpers X Y (xs (nI i + 1).toNatClampNeg) := ⟨_, rfl⟩
  rw [← ew]
  refine lv_istore (lv' := [(6, .int w), (5, .int (kdPers n (xs (nI i + 1).toNatClampNeg))), (4, .int (nI i)), (3, .ref ao), (2, .ref (AM 100)), (1, .ref (AD 9 0)), (0, .ref b)]) hx hb d_La_law_659 hl (by decide) rfl (fun ls hl => ?_)
  refine lv_aload_n hx hb d_La_law_661 rfl (lv_at hl 4 rfl) ?_
  refine kL_th (As := []) (rest := []) ⟨hx, hb, hml, hown, hG⟩ (c_Mo_thrown hM) (cwV 0 hG (gV k765 k766 k767 k2 k768) rfl rfl rfl hd_Mo_thrown ⟨Nat.le_of_ble_eq_true rfl, Nat.le_of_ble_eq_true rfl⟩) hK hPW hM.1.1 hM.1.2 rfl rfl hl.1 rfl (Nat.le_of_ble_eq_true rfl) ⟨hcap.1, hcap.2⟩ d_La_law_662 (fun locs1 hPW => ?_)
  refine lv_iload hx hb d_La_law_665 (lv_at hl 1 rfl) ?_
  refine lv_icmp_eq (tgt := 672) hx hb d_La_law_667 (by decide) (fun c_1 => ?_) (fun c_1 => absurd s1 c_1)
  refine lv_iload hx hb d_La_law_672 (lv_at hl 1 rfl) ?_
  refine lv_if_ne (tgt := 689) hx hb d_La_law_674 (by decide) (fun c_2 => ?_) (fun c_2 => ?_)
  · exact lv_goto (tgt := 1120) hx hb d_La_law_689 (by decide) (kk _ _ _ ⟨u.1.1, u.1.2.1, u.1.2.2, AM, LM, f2, _, _, u.2, hLI, hM, h9, rfl, hPW⟩ (lv_sub hl [2, 3, 4, 5, 6] rfl))
  · refine lv_aload_n hx hb d_La_law_677 rfl (lv_at hl 3 rfl) ?_
    refine lv_iconst (v := 0) hx hb d_La_law_678 (by decide) ?_
    refine va_lald hx hb hK (cP hPW.2.2.1.1 (fun _ _ h => nomatch h : va_P D vwCl [] _)) 0 7 rfl rfl vin01 d_La_law_679 ?_
    refine lv_iload hx hb d_La_law_680 (lv_at hl 0 rfl) ?_
    refine lv_i2l hx hb d_La_law_682 rfl ?_
    refine lc_eq (tgt := 689) hx hb d_La_law_683 d_La_law_684 (by decide) (fun c_3 => ?_) (fun c_3 => absurd ?_ c_3)
    · exact lv_goto (tgt := 1120) hx hb d_La_law_689 (by decide) (kk _ _ _ ⟨u.1.1, u.1.2.1, u.1.2.2, AM, LM, f2, _, _, u.2, hLI, hM, h9, rfl, hPW⟩ (lv_sub hl [2, 3, 4, 5, 6] rfl))
    · rw [ew, s2 c_2]
      exact (hp0 c_2).1
set_option maxHeartbeats 4000000 in
set_option maxRecDepth 100000 in
theorem lk_go {p : Program} {l : Launch} {e : Env} {s : State} {m : MethodId} {below : List Frame} {meth : Method} {c : Code} {H : Heap} {locs : List Loc} {cells slots : Nat} {Q : State → Prop} {D : va_G} {ct : Nat → ClassId} {b Lx : Nat} {xs : Nat → Int32} {sa sb ao x0 m0 i : Nat} {ls : Array Slot} (C : LC l D ct p s m meth c b Lx xs sa sb) (hw : LW D ct s ao x0 m0 H locs) (hi : i + 6 ≤ Lx) (hcap : cells + 12 ≤ 601024 ∧ slots + 100 ≤ 7293034) (hl : lv_has ls 8 [(4, .int (nI i)), (3, .ref ao), (2, .ref m0), (1, .ref x0), (0, .ref b)]) (kk : ∀ (H1 : Heap) (locs1 : List Loc) (ls1 : Array Slot), LW D ct s ao x0 m0 H1 locs1 → lv_has ls1 8 [(4, .int (nI i)), (3, .ref ao), (2, .ref m0), (1, .ref x0), (0, .ref b)] → W p l e room_1 s m #[Value.ref b] below meth c H1 locs1 (cells + 12) (slots + 100) Q (F0 m 1120 ls1 [])) : W p l e room_1 s m #[Value.ref b] below meth c H locs cells slots Q (F0 m 692 ls []) := by
  obtain ⟨⟨hx, hb, hr, hml, hown, hts, hX, hbl, hlocks, hgv⟩, hl0, hLx, hK, hE, hNc⟩ := C
  have hG : ∀ w ∈ GW, w.before #[Value.ref b] s = true := fun w h => hts w (List.mem_filter.mp h).1
  obtain ⟨AD, L, f, AM, LM, fM, X, Y, v, ⟨n, I, J, P, T, hCW, hSim⟩, hM, e9, e100, hPW⟩ := hw
  subst e9; subst e100
  have hbA : ¬ NA s b := Nat.not_le.mpr hbl
  have hgo : ∀ r, r < n 5 → ∃ c, c ≤ 20 ∧ X 39 r = nI c := fun r hr => ⟨P 6 r, (hSim.2.2.2.1.2.2.2.2.2 r hr).1, hSim.2.1.2.2.2.2.2.1.2.1 r⟩
  refine lv_aload_n hx hb d_La_law_692 rfl (lv_at hl 3 rfl) ?_
  refine lv_aload_n hx hb d_La_law_693 rfl (lv_at hl 4 rfl) ?_
  refine lv_iload hx hb d_La_law_694 (lv_at hl 0 rfl) ?_
  refine lv_iconst (v := 1) hx hb d_La_law_696 (by decide) ?_
  refine lv_iadd hx hb d_La_law_697 ?_
  refine va_sld hx hb hX hbl hbA hPW.2.2.2.2 (sin hi hLx 1 (by decide)) d_La_law_698 ?_
  refine lv_aload_n hx hb d_La_law_699 rfl (lv_at hl 4 rfl) ?_
  refine lv_iload hx hb d_La_law_700 (lv_at hl 0 rfl) ?_
  refine lv_iconst (v := 2) hx hb d_La_law_702 (by decide) ?_
  refine lv_iadd hx hb d_La_law_703 ?_
  refine va_sld hx hb hX hbl hbA hPW.2.2.2.2 (sin hi hLx 2 (by decide)) d_La_law_704 ?_
  refine lv_aload_n hx hb d_La_law_705 rfl (lv_at hl 4 rfl) ?_
  refine lv_iload hx hb d_La_law_706 (lv_at hl 0 rfl) ?_
  refine lv_iconst (v := 3) hx hb d_La_law_708 (by decide) ?_
  refine lv_iadd hx hb d_La_law_709 ?_
  refine va_sld hx hb hX hbl hbA hPW.2.2.2.2 (sin hi hLx 3 (by decide)) d_La_law_710 ?_
  refine kL_w (As := [.ref (AD 9 0), .int (xs (nI i + 1).toNatClampNeg), .int (xs (nI i + 2).toNatClampNeg), .int (xs (nI i + 3).toNatClampNeg)]) (rest := []) ⟨hx, hb, hml, hown, hG⟩ (c_La_go hl0 (sa := sa) (sb := sb) (v := v) hCW) (vx_cwSW 4 hG (gH k416 k417 k0 k418) rfl rfl rfl hd_La_go.2 ⟨Nat.le_of_ble_eq_true rfl, Nat.le_of_ble_eq_true rfl⟩) hK hE hNc hPW rfl hl.1 rfl (Nat.le_of_ble_eq_true rfl) hcap d_La_law_711 (fun r u H1 locs1 hp hPW => ?_)
  obtain ⟨hr1, hp0, hp1⟩ := hp
  subst hr1
  have h9 : u.1.1 9 0 = AD 9 0 := by
    by_cases k : (kdGo n I P (xs (nI i + 1).toNatClampNeg) (xs (nI i + 2).toNatClampNeg) (xs (nI i + 3).toNatClampNeg)) = 0
    · exact (hp0 k).2
    · rw [hp1 k]
  refine lv_istore (lv' := [(5, .int (kdGo n I P (xs (nI i + 1).toNatClampNeg) (xs (nI i + 2).toNatClampNeg) (xs (nI i + 3).toNatClampNeg))), (4, .int (nI i)), (3, .ref ao), (2, .ref (AM 100)), (1, .ref (AD 9 0)), (0, .ref b)]) hx hb d_La_law_714 hl (by decide) rfl (fun ls hl => ?_)
  refine lv_aload_n hx hb d_La_law_716 rfl (lv_at hl 3 rfl) ?_
  refine lv_aload_n hx hb d_La_law_717 rfl (lv_at hl 5 rfl) ?_
  refine lv_iload hx hb d_La_law_718 (lv_at hl 1 rfl) ?_
  refine lv_iconst (v := 1) hx hb d_La_law_720 (by decide) ?_
  refine lv_iadd hx hb d_La_law_721 ?_
  refine va_sld hx hb hX hbl hbA hPW.2.2.2.2 (sin hi hLx 1 (by decide)) d_La_law_722 ?_
  refine lv_aload_n hx hb d_La_law_723 rfl (lv_at hl 5 rfl) ?_
  refine lv_iload hx hb d_La_law_724 (lv_at hl 1 rfl) ?_
  refine lv_iconst (v := 2) hx hb d_La_law_726 (by decide) ?_
  refine lv_iadd hx hb d_La_law_727 ?_
  refine va_sld hx hb hX hbl hbA hPW.2.2.2.2 (sin hi hLx 2 (by decide)) d_La_law_728 ?_
  refine lv_aload_n hx hb d_La_law_729 rfl (lv_at hl 5 rfl) ?_
  refine lv_iload hx hb d_La_law_730 (lv_at hl 1 rfl) ?_
  refine lv_iconst (v := 3) hx hb d_La_law_732 (by decide) ?_
  refine lv_iadd hx hb d_La_law_733 ?_
  refine va_sld hx hb hX hbl hbA hPW.2.2.2.2 (sin hi hLx 3 (by decide)) d_La_law_734 ?_
  refine kL_mv (As := [.int (xs (nI i + 1).toNatClampNeg), .int (xs (nI i + 2).toNatClampNeg), .int (xs (nI i + 3).toNatClampNeg)]) (rest := []) ⟨hx, hb, hml, hown, hG⟩ (c_Mo_go hM hSim.x35 (hSim.cap 5 (by decide)) hgo) (cwV 3 hG (gV k813 k814 k815 k2 k816) rfl rfl rfl hd_Mo_go ⟨Nat.le_of_ble_eq_true rfl, Nat.le_of_ble_eq_true rfl⟩) hK hPW hM.1.1 hM.1.2 rfl rfl hl.1 rfl (Nat.le_of_ble_eq_true rfl) ⟨hcap.1, hcap.2⟩ d_La_law_735 (fun f2 H1 locs1 hp hPW => ?_)
  have hM := hp
  obtain ⟨s1, s3⟩ := so_go hCW hSim (xs (nI i + 1).toNatClampNeg) (xs (nI i + 2).toNatClampNeg) (xs (nI i + 3).toNatClampNeg)
  have hLI := s3 u.1 (fun k => (hp0 k).1) hp1
  refine lv_aload_n hx hb d_La_law_738 rfl (lv_at hl 3 rfl) ?_
  refine kL_th (As := []) (rest := []) ⟨hx, hb, hml, hown, hG⟩ (c_Mo_thrown hM) (cwV 0 hG (gV k765 k766 k767 k2 k768) rfl rfl rfl hd_Mo_thrown ⟨Nat.le_of_ble_eq_true rfl, Nat.le_of_ble_eq_true rfl⟩) hK hPW hM.1.1 hM.1.2 rfl rfl hl.1 rfl (Nat.le_of_ble_eq_true rfl) ⟨hcap.1, hcap.2⟩ d_La_law_739 (fun locs1 hPW => ?_)
  refine lv_iload hx hb d_La_law_742 (lv_at hl 0 rfl) ?_
  refine lv_icmp_eq (tgt := 749) hx hb d_La_law_744 (by decide) (fun c_1 => ?_) (fun c_1 => absurd s1 c_1)
  exact lv_goto (tgt := 1120) hx hb d_La_law_749 (by decide) (kk _ _ _ ⟨u.1.1, u.1.2.1, u.1.2.2, AM, LM, f2, _, _, u.2, hLI, hM, h9, rfl, hPW⟩ (lv_sub hl [1, 2, 3, 4, 5] rfl))
set_option maxHeartbeats 4000000 in
set_option maxRecDepth 100000 in
theorem lk_run {p : Program} {l : Launch} {e : Env} {s : State} {m : MethodId} {below : List Frame} {meth : Method} {c : Code} {H : Heap} {locs : List Loc} {cells slots : Nat} {Q : State → Prop} {D : va_G} {ct : Nat → ClassId} {b Lx : Nat} {xs : Nat → Int32} {sa sb ao x0 m0 i : Nat} {ls : Array Slot} (C : LC l D ct p s m meth c b Lx xs sa sb) (hw : LW D ct s ao x0 m0 H locs) (hi : i + 6 ≤ Lx) (hcap : cells + 12 ≤ 601024 ∧ slots + 100 ≤ 7293034) (hl : lv_has ls 8 [(4, .int (nI i)), (3, .ref ao), (2, .ref m0), (1, .ref x0), (0, .ref b)]) (kk : ∀ (H1 : Heap) (locs1 : List Loc) (ls1 : Array Slot), LW D ct s ao x0 m0 H1 locs1 → lv_has ls1 8 [(4, .int (nI i)), (3, .ref ao), (2, .ref m0), (1, .ref x0), (0, .ref b)] → W p l e room_1 s m #[Value.ref b] below meth c H1 locs1 (cells + 12) (slots + 100) Q (F0 m 1120 ls1 [])) : W p l e room_1 s m #[Value.ref b] below meth c H locs cells slots Q (F0 m 752 ls []) := by
  obtain ⟨⟨hx, hb, hr, hml, hown, hts, hX, hbl, hlocks, hgv⟩, hl0, hLx, hK, hE, hNc⟩ := C
  have hG : ∀ w ∈ GW, w.before #[Value.ref b] s = true := fun w h => hts w (List.mem_filter.mp h).1
  obtain ⟨AD, L, f, AM, LM, fM, X, Y, v, ⟨n, I, J, P, T, hCW, hSim⟩, hM, e9, e100, hPW⟩ := hw
  subst e9; subst e100
  have hbA : ¬ NA s b := Nat.not_le.mpr hbl
  refine lv_aload_n hx hb d_La_law_752 rfl (lv_at hl 3 rfl) ?_
  refine lv_aload_n hx hb d_La_law_753 rfl (lv_at hl 4 rfl) ?_
  refine lv_iload hx hb d_La_law_754 (lv_at hl 0 rfl) ?_
  refine lv_iconst (v := 1) hx hb d_La_law_756 (by decide) ?_
  refine lv_iadd hx hb d_La_law_757 ?_
  refine va_sld hx hb hX hbl hbA hPW.2.2.2.2 (sin hi hLx 1 (by decide)) d_La_law_758 ?_
  refine lv_aload_n hx hb d_La_law_759 rfl (lv_at hl 1 rfl) ?_
  refine kL_w (As := [.ref (AD 9 0), .int (xs (nI i + 1).toNatClampNeg), .ref ao]) (rest := []) ⟨hx, hb, hml, hown, hG⟩ (c_La_run hl0 (sa := sa) (sb := sb) (v := v) hCW) (vx_cwSW 3 hG (gH k427 k428 k0 k429) rfl rfl rfl hd_La_run.2 ⟨Nat.le_of_ble_eq_true rfl, Nat.le_of_ble_eq_true rfl⟩) hK hE hNc hPW rfl hl.1 rfl (Nat.le_of_ble_eq_true rfl) hcap d_La_law_760 (fun r u H1 locs1 hp hPW => ?_)
  obtain ⟨hr1, hp0, hp1⟩ := hp
  subst hr1
  have h9 : u.1.1 9 0 = AD 9 0 := by
    by_cases k : kdRun I (xs (nI i + 1).toNatClampNeg) = 0
    · exact (hp0 k).2.2
    · rw [hp1 k]
  refine lv_istore (lv' := [(5, .int (kdRun I (xs (nI i + 1).toNatClampNeg))), (4, .int (nI i)), (3, .ref ao), (2, .ref (AM 100)), (1, .ref (AD 9 0)), (0, .ref b)]) hx hb d_La_law_763 hl (by decide) rfl (fun ls hl => ?_)
  refine lv_aload_n hx hb d_La_law_765 rfl (lv_at hl 3 rfl) ?_
  refine lv_aload_n hx hb d_La_law_766 rfl (lv_at hl 5 rfl) ?_
  refine lv_iload hx hb d_La_law_767 (lv_at hl 1 rfl) ?_
  refine lv_iconst (v := 1) hx hb d_La_law_769 (by decide) ?_
  refine lv_iadd hx hb d_La_law_770 ?_
  refine va_sld hx hb hX hbl hbA hPW.2.2.2.2 (sin hi hLx 1 (by decide)) d_La_law_771 ?_
  refine kL_mi (As := [.int (xs (nI i + 1).toNatClampNeg)]) (rest := []) ⟨hx, hb, hml, hown, hG⟩ (c_Mo_run hM (n := n) (so_run0 hSim _)) (cwV 1 hG (gV k817 k818 k819 k2 k820) rfl rfl rfl hd_Mo_run ⟨Nat.le_of_ble_eq_true rfl, Nat.le_of_ble_eq_true rfl⟩) hK hPW hM.1.1 hM.1.2 rfl rfl hl.1 rfl (Nat.le_of_ble_eq_true rfl) ⟨hcap.1, hcap.2⟩ d_La_law_772 (fun r f2 H1 locs1 hp hPW => ?_)
  obtain ⟨hr2, hM⟩ := hp
  subst hr2
  obtain ⟨s1, s2, s3⟩ := so_run hCW hSim (xs (nI i + 1).toNatClampNeg)
  have hLI := s3 u.1 (fun k => (hp0 k).2.1) hp1
  obtain ⟨w, ew⟩ : ∃ w, w = vMrun n X Y (xs (nI i + 1).toNatClampNeg) := ⟨_, rfl⟩
  rw [← ew]
  refine lv_istore (lv' := [(6, .int w), (5, .int (kdRun I (xs (nI i + 1).toNatClampNeg))), (4, .int (nI i)), (3, .ref ao), (2, .ref (AM 100)), (1, .ref (AD 9 0)), (0, .ref b)]) hx hb d_La_law_775 hl (by decide) rfl (fun ls hl => ?_)
  refine lv_aload_n hx hb d_La_law_777 rfl (lv_at hl 4 rfl) ?_
  refine kL_th (As := []) (rest := []) ⟨hx, hb, hml, hown, hG⟩ (c_Mo_thrown hM) (cwV 0 hG (gV k765 k766 k767 k2 k768) rfl rfl rfl hd_Mo_thrown ⟨Nat.le_of_ble_eq_true rfl, Nat.le_of_ble_eq_true rfl⟩) hK hPW hM.1.1 hM.1.2 rfl rfl hl.1 rfl (Nat.le_of_ble_eq_true rfl) ⟨hcap.1, hcap.2⟩ d_La_law_778 (fun locs1 hPW => ?_)
  refine lv_iload hx hb d_La_law_781 (lv_at hl 1 rfl) ?_
  refine lv_icmp_eq (tgt := 788) hx hb d_La_law_783 (by decide) (fun c_1 => ?_) (fun c_1 => absurd s1 c_1)
  refine lv_iload hx hb d_La_law_788 (lv_at hl 1 rfl) ?_
  refine lv_if_ne (tgt := 805) hx hb d_La_law_790 (by decide) (fun c_2 => ?_) (fun c_2 => ?_)
  · exact lv_goto (tgt := 1120) hx hb d_La_law_805 (by decide) (kk _ _ _ ⟨u.1.1, u.1.2.1, u.1.2.2, AM, LM, f2, _, _, u.2, hLI, hM, h9, rfl, hPW⟩ (lv_sub hl [2, 3, 4, 5, 6] rfl))
  · refine lv_aload_n hx hb d_La_law_793 rfl (lv_at hl 3 rfl) ?_
    refine lv_iconst (v := 0) hx hb d_La_law_794 (by decide) ?_
    refine va_lald hx hb hK (cP hPW.2.2.1.1 (fun _ _ h => nomatch h : va_P D vwCl [] _)) 0 7 rfl rfl vin01 d_La_law_795 ?_
    refine lv_iload hx hb d_La_law_796 (lv_at hl 0 rfl) ?_
    refine lv_i2l hx hb d_La_law_798 rfl ?_
    refine lc_eq (tgt := 805) hx hb d_La_law_799 d_La_law_800 (by decide) (fun c_3 => ?_) (fun c_3 => absurd ?_ c_3)
    · exact lv_goto (tgt := 1120) hx hb d_La_law_805 (by decide) (kk _ _ _ ⟨u.1.1, u.1.2.1, u.1.2.2, AM, LM, f2, _, _, u.2, hLI, hM, h9, rfl, hPW⟩ (lv_sub hl [2, 3, 4, 5, 6] rfl))
    · rw [ew, s2 c_2]
      exact (hp0 c_2).1
set_option maxHeartbeats 4000000 in
set_option maxRecDepth 100000 in
theorem lk_roomAt {p : Program} {l : Launch} {e : Env} {s : State} {m : MethodId} {below : List Frame} {meth : Method} {c : Code} {H : Heap} {locs : List Loc} {cells slots : Nat} {Q : State → Prop} {D : va_G} {ct : Nat → ClassId} {b Lx : Nat} {xs : Nat → Int32} {sa sb ao x0 m0 i : Nat} {ls : Array Slot} (C : LC l D ct p s m meth c b Lx xs sa sb) (hw : LW D ct s ao x0 m0 H locs) (hi : i + 6 ≤ Lx) (hcap : cells + 12 ≤ 601024 ∧ slots + 100 ≤ 7293034) (hl : lv_has ls 8 [(4, .int (nI i)), (3, .ref ao), (2, .ref m0), (1, .ref x0), (0, .ref b)]) (kk : ∀ (H1 : Heap) (locs1 : List Loc) (ls1 : Array Slot), LW D ct s ao x0 m0 H1 locs1 → lv_has ls1 8 [(4, .int (nI i)), (3, .ref ao), (2, .ref m0), (1, .ref x0), (0, .ref b)] → W p l e room_1 s m #[Value.ref b] below meth c H1 locs1 (cells + 12) (slots + 100) Q (F0 m 1120 ls1 [])) : W p l e room_1 s m #[Value.ref b] below meth c H locs cells slots Q (F0 m 808 ls []) := by
  obtain ⟨⟨hx, hb, hr, hml, hown, hts, hX, hbl, hlocks, hgv⟩, hl0, hLx, hK, hE, hNc⟩ := C
  have hG : ∀ w ∈ GW, w.before #[Value.ref b] s = true := fun w h => hts w (List.mem_filter.mp h).1
  obtain ⟨AD, L, f, AM, LM, fM, X, Y, v, ⟨n, I, J, P, T, hCW, hSim⟩, hM, e9, e100, hPW⟩ := hw
  subst e9; subst e100
  have hbA : ¬ NA s b := Nat.not_le.mpr hbl
  refine lv_aload_n hx hb d_La_law_808 rfl (lv_at hl 3 rfl) ?_
  refine lv_aload_n hx hb d_La_law_809 rfl (lv_at hl 4 rfl) ?_
  refine lv_iload hx hb d_La_law_810 (lv_at hl 0 rfl) ?_
  refine lv_iconst (v := 1) hx hb d_La_law_812 (by decide) ?_
  refine lv_iadd hx hb d_La_law_813 ?_
  refine va_sld hx hb hX hbl hbA hPW.2.2.2.2 (sin hi hLx 1 (by decide)) d_La_law_814 ?_
  refine lv_aload_n hx hb d_La_law_815 rfl (lv_at hl 4 rfl) ?_
  refine lv_iload hx hb d_La_law_816 (lv_at hl 0 rfl) ?_
  refine lv_iconst (v := 2) hx hb d_La_law_818 (by decide) ?_
  refine lv_iadd hx hb d_La_law_819 ?_
  refine va_sld hx hb hX hbl hbA hPW.2.2.2.2 (sin hi hLx 2 (by decide)) d_La_law_820 ?_
  refine lv_aload_n hx hb d_La_law_821 rfl (lv_at hl 1 rfl) ?_
  refine kL_w (As := [.ref (AD 9 0), .int (xs (nI i + 1).toNatClampNeg), .int (xs (nI i + 2).toNatClampNeg), .ref ao]) (rest := []) ⟨hx, hb, hml, hown, hG⟩ (c_La_roomAt hl0 (sa := sa) (sb := sb) (v := v) hCW) (vx_cwSW 4 hG (gH k572 k573 k0 k574) rfl rfl rfl hd_La_roomAt.2 ⟨Nat.le_of_ble_eq_true rfl, Nat.le_of_ble_eq_true rfl⟩) hK hE hNc hPW rfl hl.1 rfl (Nat.le_of_ble_eq_true rfl) hcap d_La_law_822 (fun r u H1 locs1 hp hPW => ?_)
  obtain ⟨hr1, hp0, hp1⟩ := hp
  subst hr1
  have h9 : u.1.1 9 0 = AD 9 0 := by
    by_cases k : (kdNB (n 0) (xs (nI i + 1).toNatClampNeg) (xs (nI i + 2).toNatClampNeg) 6) = 0
    · exact (hp0 k).2.2
    · rw [hp1 k]
  refine lv_istore (lv' := [(5, .int (kdNB (n 0) (xs (nI i + 1).toNatClampNeg) (xs (nI i + 2).toNatClampNeg) 6)), (4, .int (nI i)), (3, .ref ao), (2, .ref (AM 100)), (1, .ref (AD 9 0)), (0, .ref b)]) hx hb d_La_law_825 hl (by decide) rfl (fun ls hl => ?_)
  refine lv_aload_n hx hb d_La_law_827 rfl (lv_at hl 3 rfl) ?_
  refine lv_aload_n hx hb d_La_law_828 rfl (lv_at hl 5 rfl) ?_
  refine lv_iload hx hb d_La_law_829 (lv_at hl 1 rfl) ?_
  refine lv_iconst (v := 1) hx hb d_La_law_831 (by decide) ?_
  refine lv_iadd hx hb d_La_law_832 ?_
  refine va_sld hx hb hX hbl hbA hPW.2.2.2.2 (sin hi hLx 1 (by decide)) d_La_law_833 ?_
  refine lv_aload_n hx hb d_La_law_834 rfl (lv_at hl 5 rfl) ?_
  refine lv_iload hx hb d_La_law_835 (lv_at hl 1 rfl) ?_
  refine lv_iconst (v := 2) hx hb d_La_law_837 (by decide) ?_
  refine lv_iadd hx hb d_La_law_838 ?_
  refine va_sld hx hb hX hbl hbA hPW.2.2.2.2 (sin hi hLx 2 (by decide)) d_La_law_839 ?_
  refine kL_ml (As := [.int (xs (nI i + 1).toNatClampNeg), .int (xs (nI i + 2).toNatClampNeg)]) (rest := []) ⟨hx, hb, hml, hown, hG⟩ (c_Mo_roomAt hM hSim.x2 (hSim.cap 0 (by decide)) hSim.mi.2.2.1) (cwV 2 hG (gV k865 k866 k867 k2 k868) rfl rfl rfl hd_Mo_roomAt ⟨Nat.le_of_ble_eq_true rfl, Nat.le_of_ble_eq_true rfl⟩) hK hPW hM.1.1 hM.1.2 rfl rfl hl.1 rfl (Nat.le_of_ble_eq_true rfl) ⟨hcap.1, hcap.2⟩ d_La_law_840 (fun r f2 H1 locs1 hp hPW => ?_)
  obtain ⟨hr2, hM⟩ := hp
  subst hr2
  obtain ⟨s1, s2, s3⟩ := so_roomAt hCW hSim (xs (nI i + 1).toNatClampNeg) (xs (nI i + 2).toNatClampNeg)
  have hLI := s3 u.1 (fun k => (hp0 k).2.1) hp1
  obtain ⟨w, ew⟩ : ∃ w, w = vMroomAt X Y (xs (nI i + 1).toNatClampNeg) (xs (nI i + 2).toNatClampNeg) := ⟨_, rfl⟩
  rw [← ew]
  refine lv_lstore (lv' := [(6, .long w), (5, .int (kdNB (n 0) (xs (nI i + 1).toNatClampNeg) (xs (nI i + 2).toNatClampNeg) 6)), (4, .int (nI i)), (3, .ref ao), (2, .ref (AM 100)), (1, .ref (AD 9 0)), (0, .ref b)]) hx hb d_La_law_843 hl (by decide) rfl (fun ls hl => ?_)
  refine lv_aload_n hx hb d_La_law_845 rfl (lv_at hl 4 rfl) ?_
  refine kL_th (As := []) (rest := []) ⟨hx, hb, hml, hown, hG⟩ (c_Mo_thrown hM) (cwV 0 hG (gV k765 k766 k767 k2 k768) rfl rfl rfl hd_Mo_thrown ⟨Nat.le_of_ble_eq_true rfl, Nat.le_of_ble_eq_true rfl⟩) hK hPW hM.1.1 hM.1.2 rfl rfl hl.1 rfl (Nat.le_of_ble_eq_true rfl) ⟨hcap.1, hcap.2⟩ d_La_law_846 (fun locs1 hPW => ?_)
  refine lv_iload hx hb d_La_law_849 (lv_at hl 1 rfl) ?_
  refine lv_icmp_eq (tgt := 856) hx hb d_La_law_851 (by decide) (fun c_1 => ?_) (fun c_1 => absurd s1 c_1)
  refine lv_iload hx hb d_La_law_856 (lv_at hl 1 rfl) ?_
  refine lv_if_ne (tgt := 872) hx hb d_La_law_858 (by decide) (fun c_2 => ?_) (fun c_2 => ?_)
  · exact lv_goto (tgt := 1120) hx hb d_La_law_872 (by decide) (kk _ _ _ ⟨u.1.1, u.1.2.1, u.1.2.2, AM, LM, f2, _, _, u.2, hLI, hM, h9, rfl, hPW⟩ (lv_sub hl [2, 3, 4, 5, 6] rfl))
  · refine lv_aload_n hx hb d_La_law_861 rfl (lv_at hl 3 rfl) ?_
    refine lv_iconst (v := 0) hx hb d_La_law_862 (by decide) ?_
    refine va_lald hx hb hK (cP hPW.2.2.1.1 (fun _ _ h => nomatch h : va_P D vwCl [] _)) 0 7 rfl rfl vin01 d_La_law_863 ?_
    refine lv_lload hx hb d_La_law_864 (lv_at hl 0 rfl) ?_
    refine lc_eq (tgt := 872) hx hb d_La_law_866 d_La_law_867 (by decide) (fun c_3 => ?_) (fun c_3 => absurd ?_ c_3)
    · exact lv_goto (tgt := 1120) hx hb d_La_law_872 (by decide) (kk _ _ _ ⟨u.1.1, u.1.2.1, u.1.2.2, AM, LM, f2, _, _, u.2, hLI, hM, h9, rfl, hPW⟩ (lv_sub hl [2, 3, 4, 5, 6] rfl))
    · rw [ew, s2 c_2]
      exact (hp0 c_2).1
set_option maxHeartbeats 4000000 in
set_option maxRecDepth 100000 in
theorem lk_openingAt {p : Program} {l : Launch} {e : Env} {s : State} {m : MethodId} {below : List Frame} {meth : Method} {c : Code} {H : Heap} {locs : List Loc} {cells slots : Nat} {Q : State → Prop} {D : va_G} {ct : Nat → ClassId} {b Lx : Nat} {xs : Nat → Int32} {sa sb ao x0 m0 i : Nat} {ls : Array Slot} (C : LC l D ct p s m meth c b Lx xs sa sb) (hw : LW D ct s ao x0 m0 H locs) (hi : i + 6 ≤ Lx) (hcap : cells + 12 ≤ 601024 ∧ slots + 100 ≤ 7293034) (hl : lv_has ls 8 [(4, .int (nI i)), (3, .ref ao), (2, .ref m0), (1, .ref x0), (0, .ref b)]) (kk : ∀ (H1 : Heap) (locs1 : List Loc) (ls1 : Array Slot), LW D ct s ao x0 m0 H1 locs1 → lv_has ls1 8 [(4, .int (nI i)), (3, .ref ao), (2, .ref m0), (1, .ref x0), (0, .ref b)] → W p l e room_1 s m #[Value.ref b] below meth c H1 locs1 (cells + 12) (slots + 100) Q (F0 m 1120 ls1 [])) : W p l e room_1 s m #[Value.ref b] below meth c H locs cells slots Q (F0 m 875 ls []) := by
  obtain ⟨⟨hx, hb, hr, hml, hown, hts, hX, hbl, hlocks, hgv⟩, hl0, hLx, hK, hE, hNc⟩ := C
  have hG : ∀ w ∈ GW, w.before #[Value.ref b] s = true := fun w h => hts w (List.mem_filter.mp h).1
  obtain ⟨AD, L, f, AM, LM, fM, X, Y, v, ⟨n, I, J, P, T, hCW, hSim⟩, hM, e9, e100, hPW⟩ := hw
  subst e9; subst e100
  have hbA : ¬ NA s b := Nat.not_le.mpr hbl
  refine lv_aload_n hx hb d_La_law_875 rfl (lv_at hl 3 rfl) ?_
  refine lv_aload_n hx hb d_La_law_876 rfl (lv_at hl 4 rfl) ?_
  refine lv_iload hx hb d_La_law_877 (lv_at hl 0 rfl) ?_
  refine lv_iconst (v := 1) hx hb d_La_law_879 (by decide) ?_
  refine lv_iadd hx hb d_La_law_880 ?_
  refine va_sld hx hb hX hbl hbA hPW.2.2.2.2 (sin hi hLx 1 (by decide)) d_La_law_881 ?_
  refine lv_aload_n hx hb d_La_law_882 rfl (lv_at hl 4 rfl) ?_
  refine lv_iload hx hb d_La_law_883 (lv_at hl 0 rfl) ?_
  refine lv_iconst (v := 2) hx hb d_La_law_885 (by decide) ?_
  refine lv_iadd hx hb d_La_law_886 ?_
  refine va_sld hx hb hX hbl hbA hPW.2.2.2.2 (sin hi hLx 2 (by decide)) d_La_law_887 ?_
  refine lv_aload_n hx hb d_La_law_888 rfl (lv_at hl 1 rfl) ?_
  refine kL_w (As := [.ref (AD 9 0), .int (xs (nI i + 1).toNatClampNeg), .int (xs (nI i + 2).toNatClampNeg), .ref ao]) (rest := []) ⟨hx, hb, hml, hown, hG⟩ (c_La_openingAt hl0 (sa := sa) (sb := sb) (v := v) hCW) (vx_cwSW 4 hG (gH k582 k583 k0 k584) rfl rfl rfl hd_La_openingAt.2 ⟨Nat.le_of_ble_eq_true rfl, Nat.le_of_ble_eq_true rfl⟩) hK hE hNc hPW rfl hl.1 rfl (Nat.le_of_ble_eq_true rfl) hcap d_La_law_889 (fun r u H1 locs1 hp hPW => ?_)
  obtain ⟨hr1, hp0, hp1⟩ := hp
  subst hr1
  have h9 : u.1.1 9 0 = AD 9 0 := by
    by_cases k : (kdNB (n 1) (xs (nI i + 1).toNatClampNeg) (xs (nI i + 2).toNatClampNeg) 2) = 0
    · exact (hp0 k).2.2
    · rw [hp1 k]
  refine lv_istore (lv' := [(5, .int (kdNB (n 1) (xs (nI i + 1).toNatClampNeg) (xs (nI i + 2).toNatClampNeg) 2)), (4, .int (nI i)), (3, .ref ao), (2, .ref (AM 100)), (1, .ref (AD 9 0)), (0, .ref b)]) hx hb d_La_law_892 hl (by decide) rfl (fun ls hl => ?_)
  refine lv_aload_n hx hb d_La_law_894 rfl (lv_at hl 3 rfl) ?_
  refine lv_aload_n hx hb d_La_law_895 rfl (lv_at hl 5 rfl) ?_
  refine lv_iload hx hb d_La_law_896 (lv_at hl 1 rfl) ?_
  refine lv_iconst (v := 1) hx hb d_La_law_898 (by decide) ?_
  refine lv_iadd hx hb d_La_law_899 ?_
  refine va_sld hx hb hX hbl hbA hPW.2.2.2.2 (sin hi hLx 1 (by decide)) d_La_law_900 ?_
  refine lv_aload_n hx hb d_La_law_901 rfl (lv_at hl 5 rfl) ?_
  refine lv_iload hx hb d_La_law_902 (lv_at hl 1 rfl) ?_
  refine lv_iconst (v := 2) hx hb d_La_law_904 (by decide) ?_
  refine lv_iadd hx hb d_La_law_905 ?_
  refine va_sld hx hb hX hbl hbA hPW.2.2.2.2 (sin hi hLx 2 (by decide)) d_La_law_906 ?_
  refine kL_ml (As := [.int (xs (nI i + 1).toNatClampNeg), .int (xs (nI i + 2).toNatClampNeg)]) (rest := []) ⟨hx, hb, hml, hown, hG⟩ (c_Mo_openingAt hM hSim.x10 (hSim.cap 1 (by decide))) (cwV 2 hG (gV k869 k870 k871 k2 k872) rfl rfl rfl hd_Mo_openingAt ⟨Nat.le_of_ble_eq_true rfl, Nat.le_of_ble_eq_true rfl⟩) hK hPW hM.1.1 hM.1.2 rfl rfl hl.1 rfl (Nat.le_of_ble_eq_true rfl) ⟨hcap.1, hcap.2⟩ d_La_law_907 (fun r f2 H1 locs1 hp hPW => ?_)
  obtain ⟨hr2, hM⟩ := hp
  subst hr2
  obtain ⟨s1, s2, s3⟩ := so_openAt hCW hSim (xs (nI i + 1).toNatClampNeg) (xs (nI i + 2).toNatClampNeg)
  have hLI := s3 u.1 (fun k => (hp0 k).2.1) hp1
  obtain ⟨w, ew⟩ : ∃ w, w = vMopenAt X Y (xs (nI i + 1).toNatClampNeg) (xs (nI i + 2).toNatClampNeg) := ⟨_, rfl⟩
  rw [← ew]
  refine lv_lstore (lv' := [(6, .long w), (5, .int (kdNB (n 1) (xs (nI i + 1).toNatClampNeg) (xs (nI i + 2).toNatClampNeg) 2)), (4, .int (nI i)), (3, .ref ao), (2, .ref (AM 100)), (1, .ref (AD 9 0)), (0, .ref b)]) hx hb d_La_law_910 hl (by decide) rfl (fun ls hl => ?_)
  refine lv_aload_n hx hb d_La_law_912 rfl (lv_at hl 4 rfl) ?_
  refine kL_th (As := []) (rest := []) ⟨hx, hb, hml, hown, hG⟩ (c_Mo_thrown hM) (cwV 0 hG (gV k765 k766 k767 k2 k768) rfl rfl rfl hd_Mo_thrown ⟨Nat.le_of_ble_eq_true rfl, Nat.le_of_ble_eq_true rfl⟩) hK hPW hM.1.1 hM.1.2 rfl rfl hl.1 rfl (Nat.le_of_ble_eq_true rfl) ⟨hcap.1, hcap.2⟩ d_La_law_913 (fun locs1 hPW => ?_)
  refine lv_iload hx hb d_La_law_916 (lv_at hl 1 rfl) ?_
  refine lv_icmp_eq (tgt := 923) hx hb d_La_law_918 (by decide) (fun c_1 => ?_) (fun c_1 => absurd s1 c_1)
  refine lv_iload hx hb d_La_law_923 (lv_at hl 1 rfl) ?_
  refine lv_if_ne (tgt := 939) hx hb d_La_law_925 (by decide) (fun c_2 => ?_) (fun c_2 => ?_)
  · exact lv_goto (tgt := 1120) hx hb d_La_law_939 (by decide) (kk _ _ _ ⟨u.1.1, u.1.2.1, u.1.2.2, AM, LM, f2, _, _, u.2, hLI, hM, h9, rfl, hPW⟩ (lv_sub hl [2, 3, 4, 5, 6] rfl))
  · refine lv_aload_n hx hb d_La_law_928 rfl (lv_at hl 3 rfl) ?_
    refine lv_iconst (v := 0) hx hb d_La_law_929 (by decide) ?_
    refine va_lald hx hb hK (cP hPW.2.2.1.1 (fun _ _ h => nomatch h : va_P D vwCl [] _)) 0 7 rfl rfl vin01 d_La_law_930 ?_
    refine lv_lload hx hb d_La_law_931 (lv_at hl 0 rfl) ?_
    refine lc_eq (tgt := 939) hx hb d_La_law_933 d_La_law_934 (by decide) (fun c_3 => ?_) (fun c_3 => absurd ?_ c_3)
    · exact lv_goto (tgt := 1120) hx hb d_La_law_939 (by decide) (kk _ _ _ ⟨u.1.1, u.1.2.1, u.1.2.2, AM, LM, f2, _, _, u.2, hLI, hM, h9, rfl, hPW⟩ (lv_sub hl [2, 3, 4, 5, 6] rfl))
    · rw [ew, s2 c_2]
      exact (hp0 c_2).1
set_option maxHeartbeats 4000000 in
set_option maxRecDepth 100000 in
theorem lk_personAt {p : Program} {l : Launch} {e : Env} {s : State} {m : MethodId} {below : List Frame} {meth : Method} {c : Code} {H : Heap} {locs : List Loc} {cells slots : Nat} {Q : State → Prop} {D : va_G} {ct : Nat → ClassId} {b Lx : Nat} {xs : Nat → Int32} {sa sb ao x0 m0 i : Nat} {ls : Array Slot} (C : LC l D ct p s m meth c b Lx xs sa sb) (hw : LW D ct s ao x0 m0 H locs) (hi : i + 6 ≤ Lx) (hcap : cells + 12 ≤ 601024 ∧ slots + 100 ≤ 7293034) (hl : lv_has ls 8 [(4, .int (nI i)), (3, .ref ao), (2, .ref m0), (1, .ref x0), (0, .ref b)]) (kk : ∀ (H1 : Heap) (locs1 : List Loc) (ls1 : Array Slot), LW D ct s ao x0 m0 H1 locs1 → lv_has ls1 8 [(4, .int (nI i)), (3, .ref ao), (2, .ref m0), (1, .ref x0), (0, .ref b)] → W p l e room_1 s m #[Value.ref b] below meth c H1 locs1 (cells + 12) (slots + 100) Q (F0 m 1120 ls1 [])) : W p l e room_1 s m #[Value.ref b] below meth c H locs cells slots Q (F0 m 942 ls []) := by
  obtain ⟨⟨hx, hb, hr, hml, hown, hts, hX, hbl, hlocks, hgv⟩, hl0, hLx, hK, hE, hNc⟩ := C
  have hG : ∀ w ∈ GW, w.before #[Value.ref b] s = true := fun w h => hts w (List.mem_filter.mp h).1
  obtain ⟨AD, L, f, AM, LM, fM, X, Y, v, ⟨n, I, J, P, T, hCW, hSim⟩, hM, e9, e100, hPW⟩ := hw
  subst e9; subst e100
  have hbA : ¬ NA s b := Nat.not_le.mpr hbl
  refine lv_aload_n hx hb d_La_law_942 rfl (lv_at hl 3 rfl) ?_
  refine lv_aload_n hx hb d_La_law_943 rfl (lv_at hl 4 rfl) ?_
  refine lv_iload hx hb d_La_law_944 (lv_at hl 0 rfl) ?_
  refine lv_iconst (v := 1) hx hb d_La_law_946 (by decide) ?_
  refine lv_iadd hx hb d_La_law_947 ?_
  refine va_sld hx hb hX hbl hbA hPW.2.2.2.2 (sin hi hLx 1 (by decide)) d_La_law_948 ?_
  refine lv_aload_n hx hb d_La_law_949 rfl (lv_at hl 4 rfl) ?_
  refine lv_iload hx hb d_La_law_950 (lv_at hl 0 rfl) ?_
  refine lv_iconst (v := 2) hx hb d_La_law_952 (by decide) ?_
  refine lv_iadd hx hb d_La_law_953 ?_
  refine va_sld hx hb hX hbl hbA hPW.2.2.2.2 (sin hi hLx 2 (by decide)) d_La_law_954 ?_
  refine lv_aload_n hx hb d_La_law_955 rfl (lv_at hl 1 rfl) ?_
  refine kL_w (As := [.ref (AD 9 0), .int (xs (nI i + 1).toNatClampNeg), .int (xs (nI i + 2).toNatClampNeg), .ref ao]) (rest := []) ⟨hx, hb, hml, hown, hG⟩ (c_La_personAt hl0 (sa := sa) (sb := sb) (v := v) hCW) (vx_cwSW 4 hG (gH k590 k591 k0 k592) rfl rfl rfl hd_La_personAt.2 ⟨Nat.le_of_ble_eq_true rfl, Nat.le_of_ble_eq_true rfl⟩) hK hE hNc hPW rfl hl.1 rfl (Nat.le_of_ble_eq_true rfl) hcap d_La_law_956 (fun r u H1 locs1 hp hPW => ?_)
  obtain ⟨hr1, hp0, hp1⟩ := hp
  subst hr1
  have h9 : u.1.1 9 0 = AD 9 0 := by
    by_cases k : (kdNB (n 5) (xs (nI i + 1).toNatClampNeg) (xs (nI i + 2).toNatClampNeg) 2) = 0
    · exact (hp0 k).2.2
    · rw [hp1 k]
  refine lv_istore (lv' := [(5, .int (kdNB (n 5) (xs (nI i + 1).toNatClampNeg) (xs (nI i + 2).toNatClampNeg) 2)), (4, .int (nI i)), (3, .ref ao), (2, .ref (AM 100)), (1, .ref (AD 9 0)), (0, .ref b)]) hx hb d_La_law_959 hl (by decide) rfl (fun ls hl => ?_)
  refine lv_aload_n hx hb d_La_law_961 rfl (lv_at hl 3 rfl) ?_
  refine lv_aload_n hx hb d_La_law_962 rfl (lv_at hl 5 rfl) ?_
  refine lv_iload hx hb d_La_law_963 (lv_at hl 1 rfl) ?_
  refine lv_iconst (v := 1) hx hb d_La_law_965 (by decide) ?_
  refine lv_iadd hx hb d_La_law_966 ?_
  refine va_sld hx hb hX hbl hbA hPW.2.2.2.2 (sin hi hLx 1 (by decide)) d_La_law_967 ?_
  refine lv_aload_n hx hb d_La_law_968 rfl (lv_at hl 5 rfl) ?_
  refine lv_iload hx hb d_La_law_969 (lv_at hl 1 rfl) ?_
  refine lv_iconst (v := 2) hx hb d_La_law_971 (by decide) ?_
  refine lv_iadd hx hb d_La_law_972 ?_
  refine va_sld hx hb hX hbl hbA hPW.2.2.2.2 (sin hi hLx 2 (by decide)) d_La_law_973 ?_
  refine kL_ml (As := [.int (xs (nI i + 1).toNatClampNeg), .int (xs (nI i + 2).toNatClampNeg)]) (rest := []) ⟨hx, hb, hml, hown, hG⟩ (c_Mo_personAt hM hSim.x35 (hSim.cap 5 (by decide))) (cwV 2 hG (gV k873 k874 k875 k2 k876) rfl rfl rfl hd_Mo_personAt ⟨Nat.le_of_ble_eq_true rfl, Nat.le_of_ble_eq_true rfl⟩) hK hPW hM.1.1 hM.1.2 rfl rfl hl.1 rfl (Nat.le_of_ble_eq_true rfl) ⟨hcap.1, hcap.2⟩ d_La_law_974 (fun r f2 H1 locs1 hp hPW => ?_)
  obtain ⟨hr2, hM⟩ := hp
  subst hr2
  obtain ⟨s1, s2, s3⟩ := so_persAt hCW hSim (xs (nI i + 1).toNatClampNeg) (xs (nI i + 2).toNatClampNeg)
  have hLI := s3 u.1 (fun k => (hp0 k).2.1) hp1
  obtain ⟨w, ew⟩ : ∃ w, w = vMpersAt X Y (xs (nI i + 1).toNatClampNeg) (xs (nI i + 2).toNatClampNeg) := ⟨_, rfl⟩
  rw [← ew]
  refine lv_lstore (lv' := [(6, .long w), (5, .int (kdNB (n 5) (xs (nI i + 1).toNatClampNeg) (xs (nI i + 2).toNatClampNeg) 2)), (4, .int (nI i)), (3, .ref ao), (2, .ref (AM 100)), (1, .ref (AD 9 0)), (0, .ref b)]) hx hb d_La_law_977 hl (by decide) rfl (fun ls hl => ?_)
  refine lv_aload_n hx hb d_La_law_979 rfl (lv_at hl 4 rfl) ?_
  refine kL_th (As := []) (rest := []) ⟨hx, hb, hml, hown, hG⟩ (c_Mo_thrown hM) (cwV 0 hG (gV k765 k766 k767 k2 k768) rfl rfl rfl hd_Mo_thrown ⟨Nat.le_of_ble_eq_true rfl, Nat.le_of_ble_eq_true rfl⟩) hK hPW hM.1.1 hM.1.2 rfl rfl hl.1 rfl (Nat.le_of_ble_eq_true rfl) ⟨hcap.1, hcap.2⟩ d_La_law_980 (fun locs1 hPW => ?_)
  refine lv_iload hx hb d_La_law_983 (lv_at hl 1 rfl) ?_
  refine lv_icmp_eq (tgt := 990) hx hb d_La_law_985 (by decide) (fun c_1 => ?_) (fun c_1 => absurd s1 c_1)
  refine lv_iload hx hb d_La_law_990 (lv_at hl 1 rfl) ?_
  refine lv_if_ne (tgt := 1006) hx hb d_La_law_992 (by decide) (fun c_2 => ?_) (fun c_2 => ?_)
  · exact lv_goto (tgt := 1120) hx hb d_La_law_1006 (by decide) (kk _ _ _ ⟨u.1.1, u.1.2.1, u.1.2.2, AM, LM, f2, _, _, u.2, hLI, hM, h9, rfl, hPW⟩ (lv_sub hl [2, 3, 4, 5, 6] rfl))
  · refine lv_aload_n hx hb d_La_law_995 rfl (lv_at hl 3 rfl) ?_
    refine lv_iconst (v := 0) hx hb d_La_law_996 (by decide) ?_
    refine va_lald hx hb hK (cP hPW.2.2.1.1 (fun _ _ h => nomatch h : va_P D vwCl [] _)) 0 7 rfl rfl vin01 d_La_law_997 ?_
    refine lv_lload hx hb d_La_law_998 (lv_at hl 0 rfl) ?_
    refine lc_eq (tgt := 1006) hx hb d_La_law_1000 d_La_law_1001 (by decide) (fun c_3 => ?_) (fun c_3 => absurd ?_ c_3)
    · exact lv_goto (tgt := 1120) hx hb d_La_law_1006 (by decide) (kk _ _ _ ⟨u.1.1, u.1.2.1, u.1.2.2, AM, LM, f2, _, _, u.2, hLI, hM, h9, rfl, hPW⟩ (lv_sub hl [2, 3, 4, 5, 6] rfl))
    · rw [ew, s2 c_2]
      exact (hp0 c_2).1
set_option maxHeartbeats 4000000 in
set_option maxRecDepth 100000 in
theorem lk_steelAt {p : Program} {l : Launch} {e : Env} {s : State} {m : MethodId} {below : List Frame} {meth : Method} {c : Code} {H : Heap} {locs : List Loc} {cells slots : Nat} {Q : State → Prop} {D : va_G} {ct : Nat → ClassId} {b Lx : Nat} {xs : Nat → Int32} {sa sb ao x0 m0 i : Nat} {ls : Array Slot} (C : LC l D ct p s m meth c b Lx xs sa sb) (hw : LW D ct s ao x0 m0 H locs) (hi : i + 6 ≤ Lx) (hcap : cells + 12 ≤ 601024 ∧ slots + 100 ≤ 7293034) (hl : lv_has ls 8 [(4, .int (nI i)), (3, .ref ao), (2, .ref m0), (1, .ref x0), (0, .ref b)]) (kk : ∀ (H1 : Heap) (locs1 : List Loc) (ls1 : Array Slot), LW D ct s ao x0 m0 H1 locs1 → lv_has ls1 8 [(4, .int (nI i)), (3, .ref ao), (2, .ref m0), (1, .ref x0), (0, .ref b)] → W p l e room_1 s m #[Value.ref b] below meth c H1 locs1 (cells + 12) (slots + 100) Q (F0 m 1120 ls1 [])) : W p l e room_1 s m #[Value.ref b] below meth c H locs cells slots Q (F0 m 1009 ls []) := by
  obtain ⟨⟨hx, hb, hr, hml, hown, hts, hX, hbl, hlocks, hgv⟩, hl0, hLx, hK, hE, hNc⟩ := C
  have hG : ∀ w ∈ GW, w.before #[Value.ref b] s = true := fun w h => hts w (List.mem_filter.mp h).1
  obtain ⟨AD, L, f, AM, LM, fM, X, Y, v, ⟨n, I, J, P, T, hCW, hSim⟩, hM, e9, e100, hPW⟩ := hw
  subst e9; subst e100
  have hbA : ¬ NA s b := Nat.not_le.mpr hbl
  refine lv_aload_n hx hb d_La_law_1009 rfl (lv_at hl 3 rfl) ?_
  refine lv_aload_n hx hb d_La_law_1010 rfl (lv_at hl 4 rfl) ?_
  refine lv_iload hx hb d_La_law_1011 (lv_at hl 0 rfl) ?_
  refine lv_iconst (v := 1) hx hb d_La_law_1013 (by decide) ?_
  refine lv_iadd hx hb d_La_law_1014 ?_
  refine va_sld hx hb hX hbl hbA hPW.2.2.2.2 (sin hi hLx 1 (by decide)) d_La_law_1015 ?_
  refine lv_aload_n hx hb d_La_law_1016 rfl (lv_at hl 1 rfl) ?_
  refine kL_w (As := [.ref (AD 9 0), .int (xs (nI i + 1).toNatClampNeg), .ref ao]) (rest := []) ⟨hx, hb, hml, hown, hG⟩ (c_La_steelAt hl0 (sa := sa) (sb := sb) (v := v) hCW) (vx_cwSW 3 hG (gH k597 k598 k0 k599) rfl rfl rfl hd_La_steelAt.2 ⟨Nat.le_of_ble_eq_true rfl, Nat.le_of_ble_eq_true rfl⟩) hK hE hNc hPW rfl hl.1 rfl (Nat.le_of_ble_eq_true rfl) hcap d_La_law_1017 (fun r u H1 locs1 hp hPW => ?_)
  obtain ⟨hr1, hp0, hp1⟩ := hp
  subst hr1
  have h9 : u.1.1 9 0 = AD 9 0 := by
    by_cases k : (kdN (n 4) (xs (nI i + 1).toNatClampNeg)) = 0
    · exact (hp0 k).2.2
    · rw [hp1 k]
  refine lv_istore (lv' := [(5, .int (kdN (n 4) (xs (nI i + 1).toNatClampNeg))), (4, .int (nI i)), (3, .ref ao), (2, .ref (AM 100)), (1, .ref (AD 9 0)), (0, .ref b)]) hx hb d_La_law_1020 hl (by decide) rfl (fun ls hl => ?_)
  refine lv_aload_n hx hb d_La_law_1022 rfl (lv_at hl 3 rfl) ?_
  refine lv_aload_n hx hb d_La_law_1023 rfl (lv_at hl 5 rfl) ?_
  refine lv_iload hx hb d_La_law_1024 (lv_at hl 1 rfl) ?_
  refine lv_iconst (v := 1) hx hb d_La_law_1026 (by decide) ?_
  refine lv_iadd hx hb d_La_law_1027 ?_
  refine va_sld hx hb hX hbl hbA hPW.2.2.2.2 (sin hi hLx 1 (by decide)) d_La_law_1028 ?_
  refine kL_mi (As := [.int (xs (nI i + 1).toNatClampNeg)]) (rest := []) ⟨hx, hb, hml, hown, hG⟩ (c_Mo_steelAt hM hSim.x31 (hSim.cap 4 (by decide))) (cwV 1 hG (gV k877 k878 k879 k2 k880) rfl rfl rfl hd_Mo_steelAt ⟨Nat.le_of_ble_eq_true rfl, Nat.le_of_ble_eq_true rfl⟩) hK hPW hM.1.1 hM.1.2 rfl rfl hl.1 rfl (Nat.le_of_ble_eq_true rfl) ⟨hcap.1, hcap.2⟩ d_La_law_1029 (fun r f2 H1 locs1 hp hPW => ?_)
  obtain ⟨hr2, hM⟩ := hp
  subst hr2
  obtain ⟨s1, s2, s3⟩ := so_steelAt hCW hSim (xs (nI i + 1).toNatClampNeg)
  have hLI := s3 u.1 (fun k => (hp0 k).2.1) hp1
  obtain ⟨w, ew⟩ : ∃ w, w = vMsteelAt X Y (xs (nI i + 1).toNatClampNeg) := ⟨_, rfl⟩
  rw [← ew]
  refine lv_istore (lv' := [(6, .int w), (5, .int (kdN (n 4) (xs (nI i + 1).toNatClampNeg))), (4, .int (nI i)), (3, .ref ao), (2, .ref (AM 100)), (1, .ref (AD 9 0)), (0, .ref b)]) hx hb d_La_law_1032 hl (by decide) rfl (fun ls hl => ?_)
  refine lv_aload_n hx hb d_La_law_1034 rfl (lv_at hl 4 rfl) ?_
  refine kL_th (As := []) (rest := []) ⟨hx, hb, hml, hown, hG⟩ (c_Mo_thrown hM) (cwV 0 hG (gV k765 k766 k767 k2 k768) rfl rfl rfl hd_Mo_thrown ⟨Nat.le_of_ble_eq_true rfl, Nat.le_of_ble_eq_true rfl⟩) hK hPW hM.1.1 hM.1.2 rfl rfl hl.1 rfl (Nat.le_of_ble_eq_true rfl) ⟨hcap.1, hcap.2⟩ d_La_law_1035 (fun locs1 hPW => ?_)
  refine lv_iload hx hb d_La_law_1038 (lv_at hl 1 rfl) ?_
  refine lv_icmp_eq (tgt := 1045) hx hb d_La_law_1040 (by decide) (fun c_1 => ?_) (fun c_1 => absurd s1 c_1)
  refine lv_iload hx hb d_La_law_1045 (lv_at hl 1 rfl) ?_
  refine lv_if_ne (tgt := 1062) hx hb d_La_law_1047 (by decide) (fun c_2 => ?_) (fun c_2 => ?_)
  · exact lv_goto (tgt := 1120) hx hb d_La_law_1062 (by decide) (kk _ _ _ ⟨u.1.1, u.1.2.1, u.1.2.2, AM, LM, f2, _, _, u.2, hLI, hM, h9, rfl, hPW⟩ (lv_sub hl [2, 3, 4, 5, 6] rfl))
  · refine lv_aload_n hx hb d_La_law_1050 rfl (lv_at hl 3 rfl) ?_
    refine lv_iconst (v := 0) hx hb d_La_law_1051 (by decide) ?_
    refine va_lald hx hb hK (cP hPW.2.2.1.1 (fun _ _ h => nomatch h : va_P D vwCl [] _)) 0 7 rfl rfl vin01 d_La_law_1052 ?_
    refine lv_iload hx hb d_La_law_1053 (lv_at hl 0 rfl) ?_
    refine lv_i2l hx hb d_La_law_1055 rfl ?_
    refine lc_eq (tgt := 1062) hx hb d_La_law_1056 d_La_law_1057 (by decide) (fun c_3 => ?_) (fun c_3 => absurd ?_ c_3)
    · exact lv_goto (tgt := 1120) hx hb d_La_law_1062 (by decide) (kk _ _ _ ⟨u.1.1, u.1.2.1, u.1.2.2, AM, LM, f2, _, _, u.2, hLI, hM, h9, rfl, hPW⟩ (lv_sub hl [2, 3, 4, 5, 6] rfl))
    · rw [ew, s2 c_2]
      exact (hp0 c_2).1
set_option maxHeartbeats 4000000 in
set_option maxRecDepth 100000 in
theorem lk_balance {p : Program} {l : Launch} {e : Env} {s : State} {m : MethodId} {below : List Frame} {meth : Method} {c : Code} {H : Heap} {locs : List Loc} {cells slots : Nat} {Q : State → Prop} {D : va_G} {ct : Nat → ClassId} {b Lx : Nat} {xs : Nat → Int32} {sa sb ao x0 m0 i : Nat} {ls : Array Slot} (C : LC l D ct p s m meth c b Lx xs sa sb) (hw : LW D ct s ao x0 m0 H locs) (hi : i + 6 ≤ Lx) (hcap : cells + 12 ≤ 601024 ∧ slots + 100 ≤ 7293034) (hl : lv_has ls 8 [(4, .int (nI i)), (3, .ref ao), (2, .ref m0), (1, .ref x0), (0, .ref b)]) (kk : ∀ (H1 : Heap) (locs1 : List Loc) (ls1 : Array Slot), LW D ct s ao x0 m0 H1 locs1 → lv_has ls1 8 [(4, .int (nI i)), (3, .ref ao), (2, .ref m0), (1, .ref x0), (0, .ref b)] → W p l e room_1 s m #[Value.ref b] below meth c H1 locs1 (cells + 12) (slots + 100) Q (F0 m 1120 ls1 [])) : W p l e room_1 s m #[Value.ref b] below meth c H locs cells slots Q (F0 m 1065 ls []) := by
  obtain ⟨⟨hx, hb, hr, hml, hown, hts, hX, hbl, hlocks, hgv⟩, hl0, hLx, hK, hE, hNc⟩ := C
  have hG : ∀ w ∈ GW, w.before #[Value.ref b] s = true := fun w h => hts w (List.mem_filter.mp h).1
  obtain ⟨AD, L, f, AM, LM, fM, X, Y, v, ⟨n, I, J, P, T, hCW, hSim⟩, hM, e9, e100, hPW⟩ := hw
  subst e9; subst e100
  have hbA : ¬ NA s b := Nat.not_le.mpr hbl
  refine lv_aload_n hx hb d_La_law_1065 rfl (lv_at hl 3 rfl) ?_
  refine lv_aload_n hx hb d_La_law_1066 rfl (lv_at hl 4 rfl) ?_
  refine lv_iload hx hb d_La_law_1067 (lv_at hl 0 rfl) ?_
  refine lv_iconst (v := 1) hx hb d_La_law_1069 (by decide) ?_
  refine lv_iadd hx hb d_La_law_1070 ?_
  refine va_sld hx hb hX hbl hbA hPW.2.2.2.2 (sin hi hLx 1 (by decide)) d_La_law_1071 ?_
  refine lv_aload_n hx hb d_La_law_1072 rfl (lv_at hl 1 rfl) ?_
  refine kL_w (As := [.ref (AD 9 0), .int (xs (nI i + 1).toNatClampNeg), .ref ao]) (rest := []) ⟨hx, hb, hml, hown, hG⟩ (c_La_balance hl0 (sa := sa) (sb := sb) (v := v) hCW) (vx_cwSW 3 hG (gH k604 k605 k0 k606) rfl rfl rfl hd_La_balance.2 ⟨Nat.le_of_ble_eq_true rfl, Nat.le_of_ble_eq_true rfl⟩) hK hE hNc hPW rfl hl.1 rfl (Nat.le_of_ble_eq_true rfl) hcap d_La_law_1073 (fun r u H1 locs1 hp hPW => ?_)
  obtain ⟨hr1, hp0, hp1⟩ := hp
  subst hr1
  have h9 : u.1.1 9 0 = AD 9 0 := by
    by_cases k : (kdB (xs (nI i + 1).toNatClampNeg) 4) = 0
    · exact (hp0 k).2.2
    · rw [hp1 k]
  refine lv_istore (lv' := [(5, .int (kdB (xs (nI i + 1).toNatClampNeg) 4)), (4, .int (nI i)), (3, .ref ao), (2, .ref (AM 100)), (1, .ref (AD 9 0)), (0, .ref b)]) hx hb d_La_law_1076 hl (by decide) rfl (fun ls hl => ?_)
  refine lv_aload_n hx hb d_La_law_1078 rfl (lv_at hl 3 rfl) ?_
  refine lv_aload_n hx hb d_La_law_1079 rfl (lv_at hl 5 rfl) ?_
  refine lv_iload hx hb d_La_law_1080 (lv_at hl 1 rfl) ?_
  refine lv_iconst (v := 1) hx hb d_La_law_1082 (by decide) ?_
  refine lv_iadd hx hb d_La_law_1083 ?_
  refine va_sld hx hb hX hbl hbA hPW.2.2.2.2 (sin hi hLx 1 (by decide)) d_La_law_1084 ?_
  refine kL_ml (As := [.int (xs (nI i + 1).toNatClampNeg)]) (rest := []) ⟨hx, hb, hml, hown, hG⟩ (c_Mo_balance hM (n := n) hSim.x2 (hSim.cap 0 (by decide))) (cwV 1 hG (gV k881 k882 k883 k2 k884) rfl rfl rfl hd_Mo_balance ⟨Nat.le_of_ble_eq_true rfl, Nat.le_of_ble_eq_true rfl⟩) hK hPW hM.1.1 hM.1.2 rfl rfl hl.1 rfl (Nat.le_of_ble_eq_true rfl) ⟨hcap.1, hcap.2⟩ d_La_law_1085 (fun r f2 H1 locs1 hp hPW => ?_)
  obtain ⟨hr2, hM⟩ := hp
  subst hr2
  obtain ⟨s1, s2, s3⟩ := so_bal hCW hSim (xs (nI i + 1).toNatClampNeg)
  have hLI := s3 u.1 (fun k => (hp0 k).2.1) hp1
  obtain ⟨w, ew⟩ : ∃ w, w = vMbal n X Y (xs (nI i + 1).toNatClampNeg) := ⟨_, rfl⟩
  rw [← ew]
  refine lv_lstore (lv' := [(6, .long w), (5, .int (kdB (xs (nI i + 1).toNatClampNeg) 4)), (4, .int (nI i)), (3, .ref ao), (2, .ref (AM 100)), (1, .ref (AD 9 0)), (0, .ref b)]) hx hb d_La_law_1088 hl (by decide) rfl (fun ls hl => ?_)
  refine lv_aload_n hx hb d_La_law_1090 rfl (lv_at hl 4 rfl) ?_
  refine kL_th (As := []) (rest := []) ⟨hx, hb, hml, hown, hG⟩ (c_Mo_thrown hM) (cwV 0 hG (gV k765 k766 k767 k2 k768) rfl rfl rfl hd_Mo_thrown ⟨Nat.le_of_ble_eq_true rfl, Nat.le_of_ble_eq_true rfl⟩) hK hPW hM.1.1 hM.1.2 rfl rfl hl.1 rfl (Nat.le_of_ble_eq_true rfl) ⟨hcap.1, hcap.2⟩ d_La_law_1091 (fun locs1 hPW => ?_)
  refine lv_iload hx hb d_La_law_1094 (lv_at hl 1 rfl) ?_
  refine lv_icmp_eq (tgt := 1101) hx hb d_La_law_1096 (by decide) (fun c_1 => ?_) (fun c_1 => absurd s1 c_1)
  refine lv_iload hx hb d_La_law_1101 (lv_at hl 1 rfl) ?_
  refine lv_if_ne (tgt := 1117) hx hb d_La_law_1103 (by decide) (fun c_2 => ?_) (fun c_2 => ?_)
  · exact lv_goto (tgt := 1120) hx hb d_La_law_1117 (by decide) (kk _ _ _ ⟨u.1.1, u.1.2.1, u.1.2.2, AM, LM, f2, _, _, u.2, hLI, hM, h9, rfl, hPW⟩ (lv_sub hl [2, 3, 4, 5, 6] rfl))
  · refine lv_aload_n hx hb d_La_law_1106 rfl (lv_at hl 3 rfl) ?_
    refine lv_iconst (v := 0) hx hb d_La_law_1107 (by decide) ?_
    refine va_lald hx hb hK (cP hPW.2.2.1.1 (fun _ _ h => nomatch h : va_P D vwCl [] _)) 0 7 rfl rfl vin01 d_La_law_1108 ?_
    refine lv_lload hx hb d_La_law_1109 (lv_at hl 0 rfl) ?_
    refine lc_eq (tgt := 1117) hx hb d_La_law_1111 d_La_law_1112 (by decide) (fun c_3 => ?_) (fun c_3 => absurd ?_ c_3)
    · exact lv_goto (tgt := 1120) hx hb d_La_law_1117 (by decide) (kk _ _ _ ⟨u.1.1, u.1.2.1, u.1.2.2, AM, LM, f2, _, _, u.2, hLI, hM, h9, rfl, hPW⟩ (lv_sub hl [2, 3, 4, 5, 6] rfl))
    · rw [ew, s2 c_2]
      exact (hp0 c_2).1
