/-! the public methods: their contracts' form; a new thing in the class's world -/
def MP (D : va_G) (ct : Nat → ClassId) (L : List Nat) (f : Nat → va_E) (sa sb sz : Nat) (U : State) : Prop := U.heap.size = sz ∧ va_P D vwCl (va_pl L f) U.heap ∧ va_K D vwCl (TYS ct) U ∧ va_D (fun _ => True) (va_pl L f) ∧ EX (AA L f sz) sa sb U U.heap
abbrev CSt : Type := (Nat → Nat → Nat) × List Nat × (Nat → va_E)
abbrev XE (D : va_G) (ct : Nat → ClassId) (L : List Nat) (f : Nat → va_E) (A : Nat → Prop) (kd : Int32) : String → State → State → Prop := vx_X (fun _ : Unit => True) (fun E _ t => ((kd = 1 ∧ E = IAE) ∨ (kd = 2 ∧ E = ISE)) ∧ WQ D (TYS ct) L f A t) A
theorem P_keep {D : va_G} {cl : List vw_C} {ws : va_W} {H H1 : Heap} (hP : va_P D cl ws H) (hk : ∀ q : Nat, q < H.size → H1[q]? = H[q]?) : va_P D cl ws H1 := hP.kept (fun k q hq => hk q.1 (hP k q hq).lt)
theorem num_of {v : Int32} {n : Nat} (h : 0 ≤ v ∧ v < nI n) (hn : n ≤ 100) : ∃ r, r < n ∧ v = nI r := by
  obtain ⟨r, hr, q⟩ := nI_of (Int32.not_lt.mpr h.1)
  subst q
  refine ⟨r, ?_, rfl⟩
  rcases Nat.lt_or_ge r n with g | g
  · exact g
  · exact absurd h.2 (Int32.not_lt.mpr (nI_le g hr))
theorem btw_of {v : Int32} {k : Nat} (hk : k ≤ 1000000) (h : 0 ≤ v ∧ v ≤ nI k) : ∃ r, r < k + 1 ∧ v = nI r := by
  obtain ⟨r, hr, q⟩ := nI_of (Int32.not_lt.mpr h.1)
  subst q
  refine ⟨r, ?_, rfl⟩
  rcases Nat.lt_or_ge r (k + 1) with g | g
  · exact g
  · exact absurd h.2 (Int32.not_le.mpr (nI_lt g hr))
theorem nI_lt_of {a b : Nat} (ha : a ≤ 100) (hb : b ≤ 100) (h : nI a < nI b) : a < b := (nI_ltI (by omega) (by omega)).mp h
section PUSH
variable {ct : Nat → ClassId} {AD : Nat → Nat → Nat} {L : List Nat} {n : Nat → Nat} {I I' : Nat → Nat → Int32} {J J' : Nat → Nat → Int64} {P P' : Nat → Nat → Nat} {f f' : Nat → va_E}
theorem rf_push {n k q : Nat} {a : Nat → Nat} (hn : n ≤ 100) : va_up (fun j => if j < n then some (a j) else none) (nI n).toNatClampNeg (some q) = (fun j => if j < n + 1 then some (va_up a n q j) else none) := by
  rw [nI_clamp (by omega)]
  funext j
  by_cases h : j = n
  · subst h
    simp [va_up]
  · by_cases h2 : j < n
    · simp [va_up, h, h2, Nat.lt_succ_of_lt h2]
    · have h3 : ¬ j < n + 1 := by omega
      simp [va_up, h, h2, h3]
theorem CW.push (h : CW ct AD L n I J P f) {k q : Nat} (hk : k ≤ 4) (hq : q ∉ L)
    (hold : ∀ k' i', k' ≤ 7 → live n k' i' → cellOf ct (up2 AD k (n k) q) (va_up n k (n k + 1)) I' J' P' k' i' = cellOf ct AD n I J P k' i')
    (hnew : f' q = cellOf ct (up2 AD k (n k) q) (va_up n k (n k + 1)) I' J' P' k (n k))
    (harr : f' (AD 8 k) = cellOf ct (up2 AD k (n k) q) (va_up n k (n k + 1)) I' J' P' 8 k)
    (hmain : f' (AD 9 0) = cellOf ct (up2 AD k (n k) q) (va_up n k (n k + 1)) I' J' P' 9 0)
    (hoth : ∀ a, a ≠ q → a ≠ AD 8 k → a ≠ AD 9 0 → f' a = f a) (hI : CInv (va_up n k (n k + 1)) P') :
    CW ct (up2 AD k (n k) q) (L ++ [q]) (va_up n k (n k + 1)) I' J' P' f' := by
  have hAD : ∀ k' i', live n k' i' → up2 AD k (n k) q k' i' = AD k' i' := fun k' i' hl => up2_ne _ _ _ _ (fun e => by
    obtain ⟨rfl, rfl⟩ := e
    rcases hl with ⟨_, h1⟩ | ⟨h1, _⟩ | ⟨h1, _⟩ | ⟨h1, _⟩ | ⟨h1, _⟩ <;> omega)
  have hlive : ∀ k' i', live (va_up n k (n k + 1)) k' i' → (k' = k ∧ i' = n k) ∨ live n k' i' := by
    intro k' i' hl
    have h5 : va_up n k (n k + 1) 5 = n 5 := va_up_ne _ _ (by omega)
    rcases hl with ⟨h1, h2⟩ | ⟨h1, h2⟩ | ⟨h1, h2⟩ | h2 | h2
    · by_cases e : k' = k
      · subst e
        rw [va_up_self] at h2
        by_cases e2 : i' = n k'
        · exact Or.inl ⟨rfl, e2⟩
        · exact Or.inr (Or.inl ⟨h1, by omega⟩)
      · rw [va_up_ne _ _ e] at h2
        exact Or.inr (Or.inl ⟨h1, h2⟩)
    · rw [h5] at h2; exact Or.inr (Or.inr (Or.inl ⟨h1, h2⟩))
    · rw [h5] at h2; exact Or.inr (Or.inr (Or.inr (Or.inl ⟨h1, h2⟩)))
    · exact Or.inr (Or.inr (Or.inr (Or.inr (Or.inl h2))))
    · exact Or.inr (Or.inr (Or.inr (Or.inr (Or.inr h2))))
  have hne : ∀ k' i', live n k' i' → AD k' i' ≠ q := fun k' i' hl e => hq (e ▸ (h.1 k' i' hl).1)
  refine ⟨fun k' i' hl => ?_, fun k1 i1 k2 i2 l1 l2 e => ?_, hI⟩
  · rcases hlive k' i' hl with ⟨rfl, rfl⟩ | hl0
    · rw [up2_at]
      exact ⟨List.mem_append_right _ (List.mem_singleton.mpr rfl), hnew⟩
    · rw [hAD k' i' hl0]
      refine ⟨List.mem_append_left _ (h.1 k' i' hl0).1, ?_⟩
      by_cases e8 : k' = 8 ∧ i' = k
      · obtain ⟨rfl, rfl⟩ := e8
        exact harr
      · by_cases e9 : k' = 9
        · have e0 : i' = 0 := by rcases hl0 with ⟨a, _⟩ | ⟨a, _⟩ | ⟨a, _⟩ | ⟨a, _⟩ | ⟨_, b⟩ <;> omega
          subst e9; subst e0
          exact hmain
        · rw [hoth _ (hne k' i' hl0) (h.ne hl0 (lv8 (by omega)) e8) (h.ne hl0 lv9 (by omega)), (h.1 k' i' hl0).2]
          by_cases e8b : k' = 8
          · subst e8b
            have hik : i' ≠ k := fun e => e8 ⟨rfl, e⟩
            simp only [cellOf]
            rw [va_up_ne _ _ hik]
            have : up2 AD k (n k) q i' = AD i' := funext fun j => up2_ne _ _ _ _ (by omega)
            rw [this]
          · have h7 : k' ≤ 7 := by rcases hl0 with ⟨a, _⟩ | ⟨a, _⟩ | ⟨a, _⟩ | ⟨a, _⟩ | ⟨a, _⟩ <;> omega
            exact (hold k' i' h7 hl0).symm
  · rcases hlive k1 i1 l1 with ⟨rfl, rfl⟩ | m1 <;> rcases hlive k2 i2 l2 with ⟨rfl, rfl⟩ | m2
    · exact ⟨rfl, rfl⟩
    · rw [up2_at, hAD k2 i2 m2] at e; exact absurd e.symm (hne k2 i2 m2)
    · rw [up2_at, hAD k1 i1 m1] at e; exact absurd e (hne k1 i1 m1)
    · rw [hAD k1 i1 m1, hAD k2 i2 m2] at e; exact h.2.1 k1 i1 k2 i2 m1 m2 e
end PUSH
