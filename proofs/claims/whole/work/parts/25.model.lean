/-! the model: one object and its arrays; X j the ints of field j (a scalar: X j 0), Y j the longs; AM j the address of field j's array, AM 100 the object -/
abbrev moF (AM : Nat → Nat) (X : I2) (Y : J2) : List Value := [.int (X 0 0), .int (X 1 0), .int (X 2 0), .ref (AM 3), .ref (AM 4), .ref (AM 5), .ref (AM 6), .ref (AM 7), .ref (AM 8), .ref (AM 9), .int (X 10 0), .ref (AM 11), .ref (AM 12), .ref (AM 13), .ref (AM 14), .ref (AM 15), .ref (AM 16), .ref (AM 17), .ref (AM 18), .ref (AM 19), .ref (AM 20), .int (X 21 0), .ref (AM 22), .ref (AM 23), .ref (AM 24), .ref (AM 25), .ref (AM 26), .int (X 27 0), .ref (AM 28), .ref (AM 29), .ref (AM 30), .int (X 31 0), .ref (AM 32), .ref (AM 33), .ref (AM 34), .int (X 35 0), .ref (AM 36), .ref (AM 37), .ref (AM 38), .ref (AM 39), .ref (AM 40), .ref (AM 41), .ref (AM 42), .long (Y 43 0), .long (Y 44 0), .long (Y 45 0), .long (Y 46 0)]
def mlen (j : Nat) : Nat := match j with
  | 3 => 10
  | 4 => 10
  | 5 => 10
  | 6 => 10
  | 7 => 10
  | 8 => 10
  | 9 => 10
  | 11 => 15
  | 12 => 15
  | 13 => 15
  | 14 => 15
  | 15 => 15
  | 16 => 15
  | 17 => 15
  | 18 => 15
  | 19 => 15
  | 20 => 15
  | 22 => 5
  | 23 => 5
  | 24 => 5
  | 25 => 5
  | 26 => 5
  | 28 => 9
  | 29 => 9
  | 30 => 9
  | 32 => 9
  | 33 => 9
  | 34 => 9
  | 36 => 9
  | 37 => 9
  | 38 => 9
  | 39 => 9
  | 40 => 9
  | 41 => 180
  | 42 => 180
  | _ => 0
/-- 0 an array of ints, 1 of longs, 2 of booleans, 3 no array -/
def mty (j : Nat) : Nat := match j with
  | 3 => 0
  | 4 => 0
  | 5 => 1
  | 6 => 1
  | 7 => 0
  | 8 => 2
  | 9 => 0
  | 11 => 0
  | 12 => 0
  | 13 => 0
  | 14 => 0
  | 15 => 0
  | 16 => 0
  | 17 => 2
  | 18 => 1
  | 19 => 1
  | 20 => 1
  | 22 => 0
  | 23 => 0
  | 24 => 0
  | 25 => 0
  | 26 => 0
  | 28 => 0
  | 29 => 0
  | 30 => 0
  | 32 => 0
  | 33 => 0
  | 34 => 1
  | 36 => 0
  | 37 => 1
  | 38 => 0
  | 39 => 0
  | 40 => 0
  | 41 => 0
  | 42 => 0
  | _ => 3
def mcell (ct : Nat → ClassId) (X : I2) (Y : J2) (j : Nat) : va_E := match mty j with
  | 0 => .inl (ct 6, mlen j, .inl (X j))
  | 1 => .inl (ct 7, mlen j, .inr (.inl (Y j)))
  | 2 => .inl (ct 8, mlen j, .inl (X j))
  | _ => .inl (ct 6, 0, .inl (X j))
def MW (ct : Nat → ClassId) (AM : Nat → Nat) (L : List Nat) (X : I2) (Y : J2) (f : Nat → va_E) : Prop :=
  (AM 100 ∈ L ∧ f (AM 100) = .inr (7, moF AM X Y)) ∧ (∀ j, mty j < 3 → AM j ∈ L ∧ f (AM j) = mcell ct X Y j) ∧ (∀ j k, mty j < 3 → mty k < 3 → AM j = AM k → j = k)
section MWS
variable {ct : Nat → ClassId} {AM : Nat → Nat} {L : List Nat} {X : I2} {Y : J2} {f : Nat → va_E}
theorem MW.ne0 (h : MW ct AM L X Y f) {j : Nat} (hj : mty j < 3) : AM j ≠ AM 100 := fun e => by
  have a := (h.2.1 j hj).2
  rw [e, h.1.2] at a
  unfold mcell at a
  split at a <;> cases a
theorem MW.ai (h : MW ct AM L X Y f) (j : Nat) (hj : mty j = 0) : AM j ∈ L ∧ f (AM j) = .inl (ct 6, mlen j, .inl (X j)) := by
  obtain ⟨a, b⟩ := h.2.1 j (by omega)
  exact ⟨a, by rw [b, mcell, hj]; rfl⟩
theorem MW.al (h : MW ct AM L X Y f) (j : Nat) (hj : mty j = 1) : AM j ∈ L ∧ f (AM j) = .inl (ct 7, mlen j, .inr (.inl (Y j))) := by
  obtain ⟨a, b⟩ := h.2.1 j (by omega)
  exact ⟨a, by rw [b, mcell, hj]; rfl⟩
theorem MW.az (h : MW ct AM L X Y f) (j : Nat) (hj : mty j = 2) : AM j ∈ L ∧ f (AM j) = .inl (ct 8, mlen j, .inl (X j)) := by
  obtain ⟨a, b⟩ := h.2.1 j (by omega)
  exact ⟨a, by rw [b, mcell, hj]; rfl⟩
theorem upX_row {X : I2} {j i : Nat} {v : Int32} : up2 X j i v j = upd (X j) i v := by
  funext b
  simp [up2, upd]
theorem upY_row {Y : J2} {j i : Nat} {v : Int64} : up2 Y j i v j = vp_updL (Y j) i v := by
  funext b
  simp [up2, vp_updL]
theorem up2_oth {α : Type} {g : Nat → Nat → α} {j i k : Nat} {v : α} (h : k ≠ j) : up2 g j i v k = g k := funext fun b => up2_ne _ _ _ _ (fun e => h e.1)
theorem mcellX {j i k : Nat} {v : Int32} (h : k ≠ j) : mcell ct (up2 X j i v) Y k = mcell ct X Y k := by
  unfold mcell
  rw [up2_oth h]
theorem mcellY {j i k : Nat} {v : Int64} (h : k ≠ j) : mcell ct X (up2 Y j i v) k = mcell ct X Y k := by
  unfold mcell
  rw [up2_oth h]
theorem moF_arrX {j i : Nat} {v : Int32} (hj : mty j = 0 ∨ mty j = 2) : moF AM (up2 X j i v) Y = moF AM X Y := by
  have h : ∀ k, k ∈ ([0, 1, 2, 10, 21, 27, 31, 35] : List Nat) → k ≠ j := fun k hk e => by
    subst e
    simp only [List.mem_cons, List.not_mem_nil, or_false] at hk
    rcases hk with rfl | rfl | rfl | rfl | rfl | rfl | rfl | rfl <;> simp [mty] at hj
  simp only [moF]
  rw [up2_oth (h 0 (by decide)), up2_oth (h 1 (by decide)), up2_oth (h 2 (by decide)), up2_oth (h 10 (by decide)), up2_oth (h 21 (by decide)), up2_oth (h 27 (by decide)), up2_oth (h 31 (by decide)), up2_oth (h 35 (by decide))]
theorem moF_arrY {j i : Nat} {v : Int64} (hj : mty j = 1) : moF AM X (up2 Y j i v) = moF AM X Y := by
  have h : ∀ k, k ∈ ([43, 44, 45, 46] : List Nat) → k ≠ j := fun k hk e => by
    subst e
    simp only [List.mem_cons, List.not_mem_nil, or_false] at hk
    rcases hk with rfl | rfl | rfl | rfl <;> simp [mty] at hj
  simp only [moF]
  rw [up2_oth (h 43 (by decide)), up2_oth (h 44 (by decide)), up2_oth (h 45 (by decide)), up2_oth (h 46 (by decide))]
theorem moF_0 {v : Int32} : moF AM (up2 X 0 0 v) Y = (moF AM X Y).set 0 (.int v) := by simp [moF, up2]
theorem moF_1 {v : Int32} : moF AM (up2 X 1 0 v) Y = (moF AM X Y).set 1 (.int v) := by simp [moF, up2]
theorem moF_2 {v : Int32} : moF AM (up2 X 2 0 v) Y = (moF AM X Y).set 2 (.int v) := by simp [moF, up2]
theorem moF_10 {v : Int32} : moF AM (up2 X 10 0 v) Y = (moF AM X Y).set 10 (.int v) := by simp [moF, up2]
theorem moF_21 {v : Int32} : moF AM (up2 X 21 0 v) Y = (moF AM X Y).set 21 (.int v) := by simp [moF, up2]
theorem moF_27 {v : Int32} : moF AM (up2 X 27 0 v) Y = (moF AM X Y).set 27 (.int v) := by simp [moF, up2]
theorem moF_31 {v : Int32} : moF AM (up2 X 31 0 v) Y = (moF AM X Y).set 31 (.int v) := by simp [moF, up2]
theorem moF_35 {v : Int32} : moF AM (up2 X 35 0 v) Y = (moF AM X Y).set 35 (.int v) := by simp [moF, up2]
theorem moF_43 {v : Int64} : moF AM X (up2 Y 43 0 v) = (moF AM X Y).set 43 (.long v) := by simp [moF, up2]
theorem moF_44 {v : Int64} : moF AM X (up2 Y 44 0 v) = (moF AM X Y).set 44 (.long v) := by simp [moF, up2]
theorem moF_45 {v : Int64} : moF AM X (up2 Y 45 0 v) = (moF AM X Y).set 45 (.long v) := by simp [moF, up2]
theorem moF_46 {v : Int64} : moF AM X (up2 Y 46 0 v) = (moF AM X Y).set 46 (.long v) := by simp [moF, up2]
theorem MW.setX (h : MW ct AM L X Y f) {j i : Nat} {v : Int32} (hj : mty j = 0 ∨ mty j = 2) : MW ct AM L (up2 X j i v) Y (va_up f (AM j) (mcell ct (up2 X j i v) Y j)) := by
  have hj3 : mty j < 3 := by omega
  refine ⟨⟨h.1.1, ?_⟩, fun k hk => ⟨(h.2.1 k hk).1, ?_⟩, h.2.2⟩
  · rw [va_up_ne _ _ (fun e => h.ne0 hj3 e.symm), h.1.2, moF_arrX hj]
  · by_cases e : k = j
    · subst e; exact va_up_self _ _ _
    · rw [va_up_ne _ _ (fun q => e (h.2.2 k j hk hj3 q)), (h.2.1 k hk).2, mcellX e]
theorem MW.setY (h : MW ct AM L X Y f) {j i : Nat} {v : Int64} (hj : mty j = 1) : MW ct AM L X (up2 Y j i v) (va_up f (AM j) (mcell ct X (up2 Y j i v) j)) := by
  have hj3 : mty j < 3 := by omega
  refine ⟨⟨h.1.1, ?_⟩, fun k hk => ⟨(h.2.1 k hk).1, ?_⟩, h.2.2⟩
  · rw [va_up_ne _ _ (fun e => h.ne0 hj3 e.symm), h.1.2, moF_arrY hj]
  · by_cases e : k = j
    · subst e; exact va_up_self _ _ _
    · rw [va_up_ne _ _ (fun q => e (h.2.2 k j hk hj3 q)), (h.2.1 k hk).2, mcellY e]
theorem MW.putX (h : MW ct AM L X Y f) {j : Nat} {v : Int32} (hj : mty j = 3) (hm : moF AM (up2 X j 0 v) Y = (moF AM X Y).set j (.int v)) : MW ct AM L (up2 X j 0 v) Y (va_up f (AM 100) (.inr (7, (moF AM X Y).set j (.int v)))) := by
  refine ⟨⟨h.1.1, by rw [va_up_self, hm]⟩, fun k hk => ⟨(h.2.1 k hk).1, ?_⟩, h.2.2⟩
  rw [va_up_ne _ _ (h.ne0 hk), (h.2.1 k hk).2, mcellX (fun e => by subst e; omega)]
theorem MW.putY (h : MW ct AM L X Y f) {j : Nat} {v : Int64} (hj : mty j = 3) (hm : moF AM X (up2 Y j 0 v) = (moF AM X Y).set j (.long v)) : MW ct AM L X (up2 Y j 0 v) (va_up f (AM 100) (.inr (7, (moF AM X Y).set j (.long v)))) := by
  refine ⟨⟨h.1.1, by rw [va_up_self, hm]⟩, fun k hk => ⟨(h.2.1 k hk).1, ?_⟩, h.2.2⟩
  rw [va_up_ne _ _ (h.ne0 hk), (h.2.1 k hk).2, mcellY (fun e => by subst e; omega)]
theorem mcell_i {j : Nat} (hj : mty j = 0) : mcell ct X Y j = .inl (ct 6, mlen j, .inl (X j)) := by rw [mcell, hj]; rfl
theorem mcell_l {j : Nat} (hj : mty j = 1) : mcell ct X Y j = .inl (ct 7, mlen j, .inr (.inl (Y j))) := by rw [mcell, hj]; rfl
theorem mcell_z {j : Nat} (hj : mty j = 2) : mcell ct X Y j = .inl (ct 8, mlen j, .inl (X j)) := by rw [mcell, hj]; rfl
end MWS
section MWR
variable {p : Program} {l : Launch} {e : Env} {R : Room} {s : State} {m : MethodId} {args : Array Value} {below : List Frame} {meth : Method} {c : Code} {H H0 : Heap} {locs : List Loc} {cells slots : Nat} {Q : State → Prop} {A : Nat → Prop} {D : va_G} {ct : Nat → ClassId} {AM : Nat → Nat} {L : List Nat} {X : I2} {Y : J2} {f : Nat → va_E} {cc : ByteArray} {pc : Nat} {ls : Array Slot} {rest : List Value}
theorem mw_iald (hx : p.tables.exec = Jvm.exec) (hb : c.code = cc) (hK : va_K D vwCl (TYS ct) s) (hP : va_P D vwCl (va_pl L f) H) (hM : MW ct AM L X Y f) {j : Nat} (hj : mty j = 0) {i : Int32} (hin : vp_in i (mlen j)) (hdg : decode cc pc = .ok (.iaload, 1)) (kk : W p l e R s m args below meth c H locs cells slots Q (F0 m (pc + 1) ls (.int (X j i.toNatClampNeg) :: rest))) : W p l e R s m args below meth c H locs cells slots Q (F0 m pc ls (.int i :: .ref (AM j) :: rest)) :=
  pg_iald hx hb hK hP 6 (hM.ai j hj).1 (hM.ai j hj).2 rfl hin hdg kk
theorem mw_lald (hx : p.tables.exec = Jvm.exec) (hb : c.code = cc) (hK : va_K D vwCl (TYS ct) s) (hP : va_P D vwCl (va_pl L f) H) (hM : MW ct AM L X Y f) {j : Nat} (hj : mty j = 1) {i : Int32} (hin : vp_in i (mlen j)) (hdg : decode cc pc = .ok (.laload, 1)) (kk : W p l e R s m args below meth c H locs cells slots Q (F0 m (pc + 1) ls (.long (Y j i.toNatClampNeg) :: rest))) : W p l e R s m args below meth c H locs cells slots Q (F0 m pc ls (.int i :: .ref (AM j) :: rest)) :=
  pg_lald hx hb hK hP 7 (hM.al j hj).1 (hM.al j hj).2 rfl hin hdg kk
theorem mw_zald (hx : p.tables.exec = Jvm.exec) (hb : c.code = cc) (hK : va_K D vwCl (TYS ct) s) (hP : va_P D vwCl (va_pl L f) H) (hM : MW ct AM L X Y f) {j : Nat} (hj : mty j = 2) {i : Int32} (hin : vp_in i (mlen j)) (hdg : decode cc pc = .ok (.baload, 1)) (kk : W p l e R s m args below meth c H locs cells slots Q (F0 m (pc + 1) ls (.int (X j i.toNatClampNeg) :: rest))) : W p l e R s m args below meth c H locs cells slots Q (F0 m pc ls (.int i :: .ref (AM j) :: rest)) :=
  pg_zald hx hb hK hP 8 (hM.az j hj).1 (hM.az j hj).2 rfl hin hdg kk
theorem mw_iast (hx : p.tables.exec = Jvm.exec) (hb : c.code = cc) (hK : va_K D vwCl (TYS ct) s) (hP : va_P D vwCl (va_pl L f) H) (hD : va_D A (va_pl L f)) (hS : va_S A H0 H locs) (hM : MW ct AM L X Y f) {j : Nat} (hj : mty j = 0) {i x : Int32} (hin : vp_in i (mlen j)) (hdg : decode cc pc = .ok (.iastore, 1))
    (kk : ∀ (f1 : Nat → va_E) (H1 : Heap) (locs1 : List Loc), MW ct AM L (up2 X j i.toNatClampNeg x) Y f1 → va_P D vwCl (va_pl L f1) H1 → va_D A (va_pl L f1) → va_S A H0 H1 locs1 → W p l e R s m args below meth c H1 locs1 cells slots Q (F0 m (pc + 1) ls rest)) : W p l e R s m args below meth c H locs cells slots Q (F0 m pc ls (.int x :: .int i :: .ref (AM j) :: rest)) :=
  pg_iast hx hb hK hP hD hS 6 (hM.ai j hj).1 (hM.ai j hj).2 rfl hin hdg (fun H1 locs1 h1 h2 h3 => kk _ H1 locs1 (by have h := hM.setX (i := i.toNatClampNeg) (v := x) (Or.inl hj); rw [mcell_i hj, upX_row] at h; exact h) h1 h2 h3)
theorem mw_last (hx : p.tables.exec = Jvm.exec) (hb : c.code = cc) (hK : va_K D vwCl (TYS ct) s) (hP : va_P D vwCl (va_pl L f) H) (hD : va_D A (va_pl L f)) (hS : va_S A H0 H locs) (hM : MW ct AM L X Y f) {j : Nat} (hj : mty j = 1) {i : Int32} {x : Int64} (hin : vp_in i (mlen j)) (hdg : decode cc pc = .ok (.lastore, 1))
    (kk : ∀ (f1 : Nat → va_E) (H1 : Heap) (locs1 : List Loc), MW ct AM L X (up2 Y j i.toNatClampNeg x) f1 → va_P D vwCl (va_pl L f1) H1 → va_D A (va_pl L f1) → va_S A H0 H1 locs1 → W p l e R s m args below meth c H1 locs1 cells slots Q (F0 m (pc + 1) ls rest)) : W p l e R s m args below meth c H locs cells slots Q (F0 m pc ls (.long x :: .int i :: .ref (AM j) :: rest)) :=
  pg_last hx hb hK hP hD hS 7 (hM.al j hj).1 (hM.al j hj).2 rfl hin hdg (fun H1 locs1 h1 h2 h3 => kk _ H1 locs1 (by have h := hM.setY (i := i.toNatClampNeg) (v := x) hj; rw [mcell_l hj, upY_row] at h; exact h) h1 h2 h3)
theorem mw_zast (hx : p.tables.exec = Jvm.exec) (hb : c.code = cc) (hK : va_K D vwCl (TYS ct) s) (hP : va_P D vwCl (va_pl L f) H) (hD : va_D A (va_pl L f)) (hS : va_S A H0 H locs) (hM : MW ct AM L X Y f) {j : Nat} (hj : mty j = 2) {i x : Int32} (hin : vp_in i (mlen j)) (hz : vp_nar .boolean x = x) (hdg : decode cc pc = .ok (.bastore, 1))
    (kk : ∀ (f1 : Nat → va_E) (H1 : Heap) (locs1 : List Loc), MW ct AM L (up2 X j i.toNatClampNeg x) Y f1 → va_P D vwCl (va_pl L f1) H1 → va_D A (va_pl L f1) → va_S A H0 H1 locs1 → W p l e R s m args below meth c H1 locs1 cells slots Q (F0 m (pc + 1) ls rest)) : W p l e R s m args below meth c H locs cells slots Q (F0 m pc ls (.int x :: .int i :: .ref (AM j) :: rest)) :=
  pg_zast hx hb hK hP hD hS 8 (hM.az j hj).1 (hM.az j hj).2 rfl hin hz hdg (fun H1 locs1 h1 h2 h3 => kk _ H1 locs1 (by have h := hM.setX (i := i.toNatClampNeg) (v := x) (Or.inr hj); rw [mcell_z hj, upX_row] at h; exact h) h1 h2 h3)
end MWR
