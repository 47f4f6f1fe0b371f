/-! one thing more: what the other cells keep -/
def pk (a : Nat) : Nat := match a with
  | 1 => 1
  | 2 => 1
  | 3 => 2
  | 4 => 3
  | 5 => 4
  | 6 => 5
  | 7 => 5
  | _ => 99
section GROW
variable {ct : Nat → ClassId} {AD : Nat → Nat → Nat} {L : List Nat} {n : Nat → Nat} {I I' : Nat → Nat → Int32} {J J' : Nat → Nat → Int64} {P P' : Nat → Nat → Nat} {f f' : Nat → va_E}
theorem farV_up {k q g : Nat} (h : ∀ x, g = x + 1 → up2 AD k (n k) q 0 x = AD 0 x) : farV (up2 AD k (n k) q) g = farV AD g := by
  cases g with
  | zero => rfl
  | succ x => simp only [farV]; rw [h x rfl]
theorem co_grow (hC : CInv n P) {k q : Nat} (hk : k ≤ 4) (hI : ∀ a i, ¬ (10 * k ≤ a ∧ a < 10 * k + 10 ∧ i = n k) → I' a i = I a i) (hJ : ∀ a i, ¬ (10 * k ≤ a ∧ a < 10 * k + 10 ∧ i = n k) → J' a i = J a i) (hP : ∀ a i, ¬ (i = n k ∧ pk a = k) → P' a i = P a i) :
    ∀ k' i', k' ≤ 7 → live n k' i' → cellOf ct (up2 AD k (n k) q) (va_up n k (n k + 1)) I' J' P' k' i' = cellOf ct AD n I J P k' i' := by
  intro k' i h7 hl
  have f1 : ∀ b, 100 ≤ b → I' b = I b := fun b hb => funext fun j => hI b j (by omega)
  have hlt : k' ≤ 5 → i < n k' := fun h5 => by
    rcases hl with ⟨_, b⟩ | ⟨a, _⟩ | ⟨a, _⟩ | ⟨a, _⟩ | ⟨a, _⟩
    · exact b
    · omega
    · omega
    · omega
    · omega
  have hr : ∀ x, x < n 0 → up2 AD k (n k) q 0 x = AD 0 x := fun x hx => up2_ne _ _ _ _ (fun e => by
    obtain ⟨rfl, rfl⟩ := e
    omega)
  have hne : k' = k → i ≠ n k := fun e he => by
    subst e
    have := hlt (by omega)
    omega
  match k' with
  | 0 => simp only [cellOf]; rw [hI 0 i (by omega), hI 1 i (by omega), hI 2 i (by omega), hI 3 i (by omega), hI 4 i (by omega), hJ 0 i (by omega), hJ 1 i (by omega), hJ 2 i (by omega)]
  | 1 =>
    have hi := hlt (by decide)
    obtain ⟨a1, a2, _⟩ := hC.2.1 i hi
    have hpk : ¬ (i = n k ∧ 1 = k) := fun e => by obtain ⟨e1, rfl⟩ := e; omega
    simp only [cellOf]
    rw [hP 1 i hpk, hP 2 i hpk, hr _ a1, farV_up (fun x e => hr x (by omega))]
    rw [hI 12 i (by omega), hI 13 i (by omega), hI 14 i (by omega), hI 15 i (by omega), hI 16 i (by omega), hJ 10 i (by omega), hJ 11 i (by omega), hJ 12 i (by omega)]
  | 2 =>
    have hi := hlt (by decide)
    have hpk : ¬ (i = n k ∧ 2 = k) := fun e => by obtain ⟨e1, rfl⟩ := e; omega
    simp only [cellOf]
    rw [hP 3 i hpk, hr _ (hC.2.2.1 i hi), hI 21 i (by omega), hI 22 i (by omega), hI 23 i (by omega), hI 24 i (by omega)]
  | 3 =>
    have hi := hlt (by decide)
    have hpk : ¬ (i = n k ∧ 3 = k) := fun e => by obtain ⟨e1, rfl⟩ := e; omega
    simp only [cellOf]
    rw [hP 4 i hpk, hr _ (hC.2.2.2.1 i hi), hI 31 i (by omega), hI 32 i (by omega)]
  | 4 =>
    have hi := hlt (by decide)
    have hpk : ¬ (i = n k ∧ 4 = k) := fun e => by obtain ⟨e1, rfl⟩ := e; omega
    simp only [cellOf]
    rw [hP 5 i hpk, hr _ (hC.2.2.2.2.1 i hi), hI 41 i (by omega), hI 42 i (by omega)]
  | 5 =>
    have hpk : ¬ (i = n k ∧ 5 = k) := fun e => by omega
    simp only [cellOf]
    rw [hP 6 i hpk, hP 7 i hpk, hI 50 i (by omega), hI 52 i (by omega), hJ 50 i (by omega), hJ 51 i (by omega), up2_ne AD k (n k) q (a := 6) (b := i) (by omega), up2_ne AD k (n k) q (a := 7) (b := i) (by omega)]
  | 6 => simp only [cellOf]; rw [f1 _ (by omega)]
  | 7 => simp only [cellOf]; rw [f1 _ (by omega)]
theorem inv_grow (hC : CInv n P) {k : Nat} (hk : k ≤ 4) (hcap : n k < cap k) (hP : ∀ a i, ¬ (i = n k ∧ pk a = k) → P' a i = P a i) (h1 : k = 1 → P' 1 (n 1) < n 0 ∧ P' 2 (n 1) ≤ n 0 ∧ P' 2 (n 1) ≠ P' 1 (n 1) + 1) (h2 : k = 2 → P' 3 (n 2) < n 0) (h3 : k = 3 → P' 4 (n 3) < n 0) (h4 : k = 4 → P' 5 (n 4) < n 0) : CInv (va_up n k (n k + 1)) P' := by
  have n0 : n 0 ≤ va_up n k (n k + 1) 0 := by
    by_cases e : k = 0
    · subst e; rw [va_up_self]; omega
    · rw [va_up_ne _ _ (fun q => e q.symm)]; exact Nat.le_refl _
  have old : ∀ c j, j < va_up n k (n k + 1) c → (c = k ∧ j = n k) ∨ j < n c := fun c j hj => by
    by_cases e : c = k
    · subst e
      rw [va_up_self] at hj
      by_cases e2 : j = n c
      · exact Or.inl ⟨rfl, e2⟩
      · exact Or.inr (by omega)
    · rw [va_up_ne _ _ e] at hj
      exact Or.inr hj
  refine ⟨fun c hc => ?_, fun j hj => ?_, fun j hj => ?_, fun j hj => ?_, fun j hj => ?_, fun j hj => ?_⟩
  · by_cases e : c = k
    · subst e; rw [va_up_self]; exact hcap
    · rw [va_up_ne _ _ e]; exact hC.1 c hc
  · rcases old 1 j hj with ⟨rfl, rfl⟩ | h
    · obtain ⟨a, b, c⟩ := h1 rfl
      exact ⟨by omega, by omega, c⟩
    · have hpk : ¬ (j = n k ∧ 1 = k) := fun e => by obtain ⟨e1, rfl⟩ := e; omega
      rw [hP 1 j hpk, hP 2 j hpk]
      obtain ⟨a, b, c⟩ := hC.2.1 j h
      exact ⟨by omega, by omega, c⟩
  · rcases old 2 j hj with ⟨rfl, rfl⟩ | h
    · exact Nat.lt_of_lt_of_le (h2 rfl) n0
    · have hpk : ¬ (j = n k ∧ 2 = k) := fun e => by obtain ⟨e1, rfl⟩ := e; omega
      rw [hP 3 j hpk]; exact Nat.lt_of_lt_of_le (hC.2.2.1 j h) n0
  · rcases old 3 j hj with ⟨rfl, rfl⟩ | h
    · exact Nat.lt_of_lt_of_le (h3 rfl) n0
    · have hpk : ¬ (j = n k ∧ 3 = k) := fun e => by obtain ⟨e1, rfl⟩ := e; omega
      rw [hP 4 j hpk]; exact Nat.lt_of_lt_of_le (hC.2.2.2.1 j h) n0
  · rcases old 4 j hj with ⟨rfl, rfl⟩ | h
    · exact Nat.lt_of_lt_of_le (h4 rfl) n0
    · have hpk : ¬ (j = n k ∧ 4 = k) := fun e => by obtain ⟨e1, rfl⟩ := e; omega
      rw [hP 5 j hpk]; exact Nat.lt_of_lt_of_le (hC.2.2.2.2.1 j h) n0
  · rcases old 5 j hj with ⟨rfl, rfl⟩ | h
    · omega
    · have hpk : ¬ (j = n k ∧ 5 = k) := fun e => by omega
      rw [hP 6 j hpk, hP 7 j hpk]; exact hC.2.2.2.2.2 j h
end GROW
