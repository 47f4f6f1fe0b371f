/-! the world of a SmokeZones object: n counts, I ints, J longs, P places (numbers of rooms, told, walked), AD addresses -/
def up2 {α : Type} (g : Nat → Nat → α) (k i : Nat) (v : α) : Nat → Nat → α := fun a b => if a = k ∧ b = i then v else g a b
theorem up2_at {α : Type} (g : Nat → Nat → α) (k i : Nat) (v : α) : up2 g k i v k i = v := if_pos ⟨rfl, rfl⟩
theorem up2_ne {α : Type} (g : Nat → Nat → α) (k i : Nat) (v : α) {a b : Nat} (h : ¬ (a = k ∧ b = i)) : up2 g k i v a b = g a b := if_neg h
def farV (AD : Nat → Nat → Nat) (k : Nat) : Value := match k with
  | 0 => .null
  | k + 1 => .ref (AD 0 k)
def cap (k : Nat) : Nat := match k with
  | 0 => 10
  | 1 => 15
  | 2 => 5
  | _ => 9
def live (n : Nat → Nat) (k i : Nat) : Prop := (k ≤ 5 ∧ i < n k) ∨ (k = 6 ∧ i < n 5) ∨ (k = 7 ∧ i < n 5) ∨ (k = 8 ∧ i < 6) ∨ (k = 9 ∧ i = 0)
def cellOf (ct : Nat → ClassId) (AD : Nat → Nat → Nat) (n : Nat → Nat) (I : Nat → Nat → Int32) (J : Nat → Nat → Int64) (P : Nat → Nat → Nat) (k i : Nat) : va_E := match k with
  | 0 => roomE (I 0 i) (I 1 i) (J 0 i) (J 1 i) (J 2 i) (I 2 i) (I 3 i) (I 4 i)
  | 1 => openE (AD 0 (P 1 i)) (farV AD (P 2 i)) (I 12 i) (I 13 i) (I 14 i) (I 15 i) (I 16 i) (J 10 i) (J 11 i) (J 12 i)
  | 2 => fireE (AD 0 (P 3 i)) (I 21 i) (I 22 i) (I 23 i) (I 24 i)
  | 3 => fanE (AD 0 (P 4 i)) (I 31 i) (I 32 i)
  | 4 => steelE (AD 0 (P 5 i)) (I 41 i) (I 42 i)
  | 5 => personE (I 50 i) (J 50 i) (J 51 i) (AD 6 i) (AD 7 i) (nI (P 6 i)) (I 52 i) (nI (P 7 i))
  | 6 => .inl (ct 6, 20, .inl (I (100 + i)))
  | 7 => .inl (ct 6, 20, .inl (I (200 + i)))
  | 8 => .inl (ct i, cap i, .inr (.inr (.inr (.inr (fun j => if j < n i then some (AD i j) else none)))))
  | _ => mainE AD n I J
def CInv (n : Nat → Nat) (P : Nat → Nat → Nat) : Prop := (∀ k, k ≤ 5 → n k ≤ cap k) ∧ (∀ j, j < n 1 → P 1 j < n 0 ∧ P 2 j ≤ n 0 ∧ P 2 j ≠ P 1 j + 1) ∧ (∀ j, j < n 2 → P 3 j < n 0) ∧ (∀ j, j < n 3 → P 4 j < n 0) ∧ (∀ j, j < n 4 → P 5 j < n 0) ∧ (∀ j, j < n 5 → P 6 j ≤ 20 ∧ P 7 j ≤ P 6 j)
def CW (ct : Nat → ClassId) (AD : Nat → Nat → Nat) (L : List Nat) (n : Nat → Nat) (I : Nat → Nat → Int32) (J : Nat → Nat → Int64) (P : Nat → Nat → Nat) (f : Nat → va_E) : Prop :=
  (∀ k i, live n k i → AD k i ∈ L ∧ f (AD k i) = cellOf ct AD n I J P k i) ∧ (∀ k i k' i', live n k i → live n k' i' → AD k i = AD k' i' → k = k' ∧ i = i') ∧ CInv n P
section CWS
variable {ct : Nat → ClassId} {AD : Nat → Nat → Nat} {L : List Nat} {n : Nat → Nat} {I I' : Nat → Nat → Int32} {J J' : Nat → Nat → Int64} {P P' : Nat → Nat → Nat} {f : Nat → va_E}
theorem CW.ne (h : CW ct AD L n I J P f) {k i k' i' : Nat} (h1 : live n k i) (h2 : live n k' i') (hne : ¬ (k = k' ∧ i = i')) : AD k i ≠ AD k' i' := fun q => hne (h.2.1 k i k' i' h1 h2 q)
theorem lv0 {k i : Nat} (hk : k ≤ 5) (h : i < n k) : live n k i := Or.inl ⟨hk, h⟩
theorem lv6 {i : Nat} (h : i < n 5) : live n 6 i := Or.inr (Or.inl ⟨rfl, h⟩)
theorem lv7 {i : Nat} (h : i < n 5) : live n 7 i := Or.inr (Or.inr (Or.inl ⟨rfl, h⟩))
theorem lv8 {i : Nat} (h : i < 6) : live n 8 i := Or.inr (Or.inr (Or.inr (Or.inl ⟨rfl, h⟩)))
theorem lv9 : live n 9 0 := Or.inr (Or.inr (Or.inr (Or.inr ⟨rfl, rfl⟩)))
theorem CW.ro (h : CW ct AD L n I J P f) {i : Nat} (hi : i < n 0) : AD 0 i ∈ L ∧ f (AD 0 i) = roomE (I 0 i) (I 1 i) (J 0 i) (J 1 i) (J 2 i) (I 2 i) (I 3 i) (I 4 i) := h.1 0 i (lv0 (by decide) hi)
theorem CW.op (h : CW ct AD L n I J P f) {i : Nat} (hi : i < n 1) : AD 1 i ∈ L ∧ f (AD 1 i) = openE (AD 0 (P 1 i)) (farV AD (P 2 i)) (I 12 i) (I 13 i) (I 14 i) (I 15 i) (I 16 i) (J 10 i) (J 11 i) (J 12 i) := h.1 1 i (lv0 (by decide) hi)
theorem CW.fi (h : CW ct AD L n I J P f) {i : Nat} (hi : i < n 2) : AD 2 i ∈ L ∧ f (AD 2 i) = fireE (AD 0 (P 3 i)) (I 21 i) (I 22 i) (I 23 i) (I 24 i) := h.1 2 i (lv0 (by decide) hi)
theorem CW.fa (h : CW ct AD L n I J P f) {i : Nat} (hi : i < n 3) : AD 3 i ∈ L ∧ f (AD 3 i) = fanE (AD 0 (P 4 i)) (I 31 i) (I 32 i) := h.1 3 i (lv0 (by decide) hi)
theorem CW.st (h : CW ct AD L n I J P f) {i : Nat} (hi : i < n 4) : AD 4 i ∈ L ∧ f (AD 4 i) = steelE (AD 0 (P 5 i)) (I 41 i) (I 42 i) := h.1 4 i (lv0 (by decide) hi)
theorem CW.pe (h : CW ct AD L n I J P f) {i : Nat} (hi : i < n 5) : AD 5 i ∈ L ∧ f (AD 5 i) = personE (I 50 i) (J 50 i) (J 51 i) (AD 6 i) (AD 7 i) (nI (P 6 i)) (I 52 i) (nI (P 7 i)) := h.1 5 i (lv0 (by decide) hi)
theorem CW.w1 (h : CW ct AD L n I J P f) {i : Nat} (hi : i < n 5) : AD 6 i ∈ L ∧ f (AD 6 i) = .inl (ct 6, 20, .inl (I (100 + i))) := h.1 6 i (lv6 hi)
theorem CW.w2 (h : CW ct AD L n I J P f) {i : Nat} (hi : i < n 5) : AD 7 i ∈ L ∧ f (AD 7 i) = .inl (ct 6, 20, .inl (I (200 + i))) := h.1 7 i (lv7 hi)
theorem CW.ma (h : CW ct AD L n I J P f) : AD 9 0 ∈ L ∧ f (AD 9 0) = mainE AD n I J := h.1 9 0 lv9
theorem CW.a0 (h : CW ct AD L n I J P f) : AD 8 0 ∈ L ∧ f (AD 8 0) = .inl (ct 0, 10, .inr (.inr (.inr (.inr (fun j => if j < n 0 then some (AD 0 j) else none))))) := h.1 8 0 (lv8 (by decide))
theorem CW.a1 (h : CW ct AD L n I J P f) : AD 8 1 ∈ L ∧ f (AD 8 1) = .inl (ct 1, 15, .inr (.inr (.inr (.inr (fun j => if j < n 1 then some (AD 1 j) else none))))) := h.1 8 1 (lv8 (by decide))
theorem CW.a2 (h : CW ct AD L n I J P f) : AD 8 2 ∈ L ∧ f (AD 8 2) = .inl (ct 2, 5, .inr (.inr (.inr (.inr (fun j => if j < n 2 then some (AD 2 j) else none))))) := h.1 8 2 (lv8 (by decide))
theorem CW.a3 (h : CW ct AD L n I J P f) : AD 8 3 ∈ L ∧ f (AD 8 3) = .inl (ct 3, 9, .inr (.inr (.inr (.inr (fun j => if j < n 3 then some (AD 3 j) else none))))) := h.1 8 3 (lv8 (by decide))
theorem CW.a4 (h : CW ct AD L n I J P f) : AD 8 4 ∈ L ∧ f (AD 8 4) = .inl (ct 4, 9, .inr (.inr (.inr (.inr (fun j => if j < n 4 then some (AD 4 j) else none))))) := h.1 8 4 (lv8 (by decide))
theorem CW.a5 (h : CW ct AD L n I J P f) : AD 8 5 ∈ L ∧ f (AD 8 5) = .inl (ct 5, 9, .inr (.inr (.inr (.inr (fun j => if j < n 5 then some (AD 5 j) else none))))) := h.1 8 5 (lv8 (by decide))
theorem CW.cap0 (h : CW ct AD L n I J P f) : n 0 ≤ 10 := h.2.2.1 0 (by decide)
theorem CW.cap1 (h : CW ct AD L n I J P f) : n 1 ≤ 15 := h.2.2.1 1 (by decide)
theorem CW.cap2 (h : CW ct AD L n I J P f) : n 2 ≤ 5 := h.2.2.1 2 (by decide)
theorem CW.cap3 (h : CW ct AD L n I J P f) : n 3 ≤ 9 := h.2.2.1 3 (by decide)
theorem CW.cap4 (h : CW ct AD L n I J P f) : n 4 ≤ 9 := h.2.2.1 4 (by decide)
theorem CW.cap5 (h : CW ct AD L n I J P f) : n 5 ≤ 9 := h.2.2.1 5 (by decide)
theorem CW.set (h : CW ct AD L n I J P f) {k i : Nat} (hl : live n k i) (hc : ∀ k' i', live n k' i' → ¬ (k' = k ∧ i' = i) → cellOf ct AD n I' J' P' k' i' = cellOf ct AD n I J P k' i') (hI : CInv n P') : CW ct AD L n I' J' P' (va_up f (AD k i) (cellOf ct AD n I' J' P' k i)) := by
  refine ⟨fun k' i' h1 => ⟨(h.1 k' i' h1).1, ?_⟩, h.2.1, hI⟩
  by_cases hq : k' = k ∧ i' = i
  · obtain ⟨rfl, rfl⟩ := hq
    exact va_up_self _ _ _
  · rw [va_up_ne _ _ (h.ne h1 hl hq), (h.1 k' i' h1).2, hc k' i' h1 hq]
/-- what each kind of cell hangs on -/
theorem co_ro {r : Nat} (hI : ∀ a i, ¬ (a ≤ 4 ∧ i = r) → I' a i = I a i) (hJ : ∀ a i, ¬ (a ≤ 2 ∧ i = r) → J' a i = J a i) : ∀ k i, live n k i → ¬ (k = 0 ∧ i = r) → cellOf ct AD n I' J' P k i = cellOf ct AD n I J P k i := by
  intro k i _ h
  have f1 : ∀ b, 100 ≤ b → I' b = I b := fun b hb => funext fun j => hI b j (by omega)
  match k with
  | 0 => simp only [cellOf]; rw [hI 0 i (by omega), hI 1 i (by omega), hI 2 i (by omega), hI 3 i (by omega), hI 4 i (by omega), hJ 0 i (by omega), hJ 1 i (by omega), hJ 2 i (by omega)]
  | 1 => simp only [cellOf]; rw [hI 12 i (by omega), hI 13 i (by omega), hI 14 i (by omega), hI 15 i (by omega), hI 16 i (by omega), hJ 10 i (by omega), hJ 11 i (by omega), hJ 12 i (by omega)]
  | 2 => simp only [cellOf]; rw [hI 21 i (by omega), hI 22 i (by omega), hI 23 i (by omega), hI 24 i (by omega)]
  | 3 => simp only [cellOf]; rw [hI 31 i (by omega), hI 32 i (by omega)]
  | 4 => simp only [cellOf]; rw [hI 41 i (by omega), hI 42 i (by omega)]
  | 5 => simp only [cellOf]; rw [hI 50 i (by omega), hI 52 i (by omega), hJ 50 i (by omega), hJ 51 i (by omega)]
  | 6 => simp only [cellOf]; rw [f1 _ (by omega)]
  | 7 => simp only [cellOf]; rw [f1 _ (by omega)]
  | 8 => rfl
  | k + 9 => simp only [cellOf, mainE]; rw [hI 99 0 (by omega), hJ 99 0 (by omega), hJ 99 1 (by omega), hJ 99 2 (by omega), hJ 99 3 (by omega)]
theorem co_op {r : Nat} (hI : ∀ a i, ¬ (12 ≤ a ∧ a ≤ 16 ∧ i = r) → I' a i = I a i) (hJ : ∀ a i, ¬ (10 ≤ a ∧ a ≤ 12 ∧ i = r) → J' a i = J a i) : ∀ k i, live n k i → ¬ (k = 1 ∧ i = r) → cellOf ct AD n I' J' P k i = cellOf ct AD n I J P k i := by
  intro k i _ h
  have f1 : ∀ b, 100 ≤ b → I' b = I b := fun b hb => funext fun j => hI b j (by omega)
  match k with
  | 0 => simp only [cellOf]; rw [hI 0 i (by omega), hI 1 i (by omega), hI 2 i (by omega), hI 3 i (by omega), hI 4 i (by omega), hJ 0 i (by omega), hJ 1 i (by omega), hJ 2 i (by omega)]
  | 1 => simp only [cellOf]; rw [hI 12 i (by omega), hI 13 i (by omega), hI 14 i (by omega), hI 15 i (by omega), hI 16 i (by omega), hJ 10 i (by omega), hJ 11 i (by omega), hJ 12 i (by omega)]
  | 2 => simp only [cellOf]; rw [hI 21 i (by omega), hI 22 i (by omega), hI 23 i (by omega), hI 24 i (by omega)]
  | 3 => simp only [cellOf]; rw [hI 31 i (by omega), hI 32 i (by omega)]
  | 4 => simp only [cellOf]; rw [hI 41 i (by omega), hI 42 i (by omega)]
  | 5 => simp only [cellOf]; rw [hI 50 i (by omega), hI 52 i (by omega), hJ 50 i (by omega), hJ 51 i (by omega)]
  | 6 => simp only [cellOf]; rw [f1 _ (by omega)]
  | 7 => simp only [cellOf]; rw [f1 _ (by omega)]
  | 8 => rfl
  | k + 9 => simp only [cellOf, mainE]; rw [hI 99 0 (by omega), hJ 99 0 (by omega), hJ 99 1 (by omega), hJ 99 2 (by omega), hJ 99 3 (by omega)]
theorem co_st {r : Nat} (hI : ∀ a i, ¬ (a = 42 ∧ i = r) → I' a i = I a i) : ∀ k i, live n k i → ¬ (k = 4 ∧ i = r) → cellOf ct AD n I' J P k i = cellOf ct AD n I J P k i := by
  intro k i _ h
  have f1 : ∀ b, 100 ≤ b → I' b = I b := fun b hb => funext fun j => hI b j (by omega)
  match k with
  | 0 => simp only [cellOf]; rw [hI 0 i (by omega), hI 1 i (by omega), hI 2 i (by omega), hI 3 i (by omega), hI 4 i (by omega)]
  | 1 => simp only [cellOf]; rw [hI 12 i (by omega), hI 13 i (by omega), hI 14 i (by omega), hI 15 i (by omega), hI 16 i (by omega)]
  | 2 => simp only [cellOf]; rw [hI 21 i (by omega), hI 22 i (by omega), hI 23 i (by omega), hI 24 i (by omega)]
  | 3 => simp only [cellOf]; rw [hI 31 i (by omega), hI 32 i (by omega)]
  | 4 => simp only [cellOf]; rw [hI 41 i (by omega), hI 42 i (by omega)]
  | 5 => simp only [cellOf]; rw [hI 50 i (by omega), hI 52 i (by omega)]
  | 6 => simp only [cellOf]; rw [f1 _ (by omega)]
  | 7 => simp only [cellOf]; rw [f1 _ (by omega)]
  | 8 => rfl
  | k + 9 => simp only [cellOf, mainE]; rw [hI 99 0 (by omega)]
theorem co_pe {r : Nat} (hI : ∀ a i, ¬ (50 ≤ a ∧ a ≤ 52 ∧ i = r) → I' a i = I a i) (hJ : ∀ a i, ¬ (50 ≤ a ∧ a ≤ 51 ∧ i = r) → J' a i = J a i) (hP : ∀ a i, ¬ (6 ≤ a ∧ a ≤ 7 ∧ i = r) → P' a i = P a i) : ∀ k i, live n k i → ¬ (k = 5 ∧ i = r) → cellOf ct AD n I' J' P' k i = cellOf ct AD n I J P k i := by
  intro k i _ h
  have f1 : ∀ b, 100 ≤ b → I' b = I b := fun b hb => funext fun j => hI b j (by omega)
  match k with
  | 0 => simp only [cellOf]; rw [hI 0 i (by omega), hI 1 i (by omega), hI 2 i (by omega), hI 3 i (by omega), hI 4 i (by omega), hJ 0 i (by omega), hJ 1 i (by omega), hJ 2 i (by omega)]
  | 1 => simp only [cellOf]; rw [hI 12 i (by omega), hI 13 i (by omega), hI 14 i (by omega), hI 15 i (by omega), hI 16 i (by omega), hJ 10 i (by omega), hJ 11 i (by omega), hJ 12 i (by omega), hP 1 i (by omega), hP 2 i (by omega)]
  | 2 => simp only [cellOf]; rw [hI 21 i (by omega), hI 22 i (by omega), hI 23 i (by omega), hI 24 i (by omega), hP 3 i (by omega)]
  | 3 => simp only [cellOf]; rw [hI 31 i (by omega), hI 32 i (by omega), hP 4 i (by omega)]
  | 4 => simp only [cellOf]; rw [hI 41 i (by omega), hI 42 i (by omega), hP 5 i (by omega)]
  | 5 => simp only [cellOf]; rw [hI 50 i (by omega), hI 52 i (by omega), hJ 50 i (by omega), hJ 51 i (by omega), hP 6 i (by omega), hP 7 i (by omega)]
  | 6 => simp only [cellOf]; rw [f1 _ (by omega)]
  | 7 => simp only [cellOf]; rw [f1 _ (by omega)]
  | 8 => rfl
  | k + 9 => simp only [cellOf, mainE]; rw [hI 99 0 (by omega), hJ 99 0 (by omega), hJ 99 1 (by omega), hJ 99 2 (by omega), hJ 99 3 (by omega)]
theorem co_ma (hI : ∀ a i, ¬ (a = 99) → I' a i = I a i) (hJ : ∀ a i, ¬ (a = 99) → J' a i = J a i) : ∀ k i, live n k i → ¬ (k = 9 ∧ i = 0) → cellOf ct AD n I' J' P k i = cellOf ct AD n I J P k i := by
  intro k i hl h
  have f1 : ∀ b, 100 ≤ b → I' b = I b := fun b hb => funext fun j => hI b j (by omega)
  match k with
  | 0 => simp only [cellOf]; rw [hI 0 i (by omega), hI 1 i (by omega), hI 2 i (by omega), hI 3 i (by omega), hI 4 i (by omega), hJ 0 i (by omega), hJ 1 i (by omega), hJ 2 i (by omega)]
  | 1 => simp only [cellOf]; rw [hI 12 i (by omega), hI 13 i (by omega), hI 14 i (by omega), hI 15 i (by omega), hI 16 i (by omega), hJ 10 i (by omega), hJ 11 i (by omega), hJ 12 i (by omega)]
  | 2 => simp only [cellOf]; rw [hI 21 i (by omega), hI 22 i (by omega), hI 23 i (by omega), hI 24 i (by omega)]
  | 3 => simp only [cellOf]; rw [hI 31 i (by omega), hI 32 i (by omega)]
  | 4 => simp only [cellOf]; rw [hI 41 i (by omega), hI 42 i (by omega)]
  | 5 => simp only [cellOf]; rw [hI 50 i (by omega), hI 52 i (by omega), hJ 50 i (by omega), hJ 51 i (by omega)]
  | 6 => simp only [cellOf]; rw [f1 _ (by omega)]
  | 7 => simp only [cellOf]; rw [f1 _ (by omega)]
  | 8 => rfl
  | k + 9 =>
    rcases hl with ⟨q, _⟩ | ⟨q, _⟩ | ⟨q, _⟩ | ⟨q, _⟩ | ⟨q, q2⟩
    · omega
    · omega
    · omega
    · omega
    · exact absurd ⟨q, q2⟩ h
end CWS
theorem rf_at {n i : Nat} {a : Nat → Nat} (hi : i < n) (hn : n ≤ 100) : (fun j => if j < n then some (a j) else none) (nI i).toNatClampNeg = some (a i) := by
  show (if (nI i).toNatClampNeg < n then some (a (nI i).toNatClampNeg) else none) = some (a i)
  rw [nI_clamp (by omega), if_pos hi]
theorem ge_no {i n : Nat} (h : i < n) (hn : n ≤ 100) (c : nI n ≤ nI i) : False := nI_ge h (by omega) c
theorem ge_yes {i n : Nat} (h : n ≤ i) (hn : i ≤ 100) (c : ¬ nI n ≤ nI i) : False := c (nI_le h (by omega))
/-- a writer that leaves some pool of the same addresses -/
abbrev Xs (D : va_G) (TY : List (ClassId × FieldType)) (L : List Nat) (A : Nat → Prop) (post : (Nat → va_E) → Prop) : Array Value → State → Outcome → State → Prop := va_Qv post (fun f' t => WQ D TY L f' A t) A
section KWS
variable {p : Program} {l : Launch} {e : Env} {R : Room} {s : State} {m : MethodId} {args : Array Value} {below : List Frame} {meth : Method} {c : Code} {H H0 : Heap} {locs : List Loc} {cells slots : Nat} {Q : State → Prop} {A : Nat → Prop} {D : va_G} {TY : List (ClassId × FieldType)} {L : List Nat} {f : Nat → va_E} {pc : Nat} {ls : Array Slot} {rest st0 : List Value} {post : (Nat → va_E) → Prop}
variable {y : MethodName} {bytes cc : ByteArray} {maxL nL n index : Nat} {ret : Option FieldType} {ws : List Cond} {rm : Room} {Ts : List Cond} {own C : String} {b : Addr} {As : List Value}
theorem kV_ws {ci : Nat} {fs : List Value} {T : u_T} {N : Nat} (S : CallFix p m c cc nL s args Ts own) (hM : Met l y ws rm (va_Pc (.ref b :: As) (WP D TY L f H.size)) (Xs D TY L (AA L f H.size) post) 0 0 (AA L f H.size)) (cw : CallW R s args own C index y bytes maxL ret ws rm 0 0 n) (hK : va_K D vwCl TY s) (hP : va_P D vwCl (va_pl L f) H) (hD : va_D A (va_pl L f)) (hS : va_S A H0 H locs) (hA : ∀ q, H0.size ≤ q → A q) (hbL : b ∈ L) (he : f b = .inr (ci, fs)) (hc : vwCl[ci]? = some (C, T, N)) (hn : As.length = n) (hsize : ls.size = nL) (hst : st0 = As.reverse ++ .ref b :: rest) (hW : (rest.map fun v => v.category).sum ≤ 8) (hf : cells ≤ R.cells ∧ slots ≤ R.slots) (hdg : decode cc pc = .ok (.invokevirtual index, 3))
    (kk : ∀ f' H1 locs1, post f' → va_P D vwCl (va_pl L f') H1 → va_D A (va_pl L f') → va_S A H0 H1 locs1 → W p l e R s m args below meth c H1 locs1 cells slots Q (F0 m (pc + 3) ls rest)) : W p l e R s m args below meth c H locs cells slots Q (F0 m pc ls st0) := by
  have hFc := pc_free hD hS hA
  refine va_callv (va_runV S hM cw ⟨WP.blind _, pc_recv hK hP hbL he hc, fun U hU hW => ⟨rfl, by rw [hU], by rw [hU]; exact hP, va_K.moved hW.alike hK, hD.weaken (fun _ _ _ _ => trivial)⟩⟩ rfl hn hsize hst (lv_room hW) hdg hf) hS (fun q _ h => hFc q h) hFc (fun u t H1 locs1 ht hvm hp hB hz hk hS1 => ?_)
  obtain ⟨h1, h2, h3⟩ := hB
  exact kk u H1 locs1 hp (by rw [← ht]; exact h1) (h3.weaken (fun _ q _ h => hFc q.1 h)) hS1
end KWS
