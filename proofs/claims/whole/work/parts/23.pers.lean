/-! a new person: three cells more -/
def nwPeI (I : I2) (m : Nat) (p : Int32) : I2 := fun a i => if a = 100 + m ∨ a = 200 + m then 0 else up2 (up2 I 50 m p) 52 m (-1) a i
def nwPeJ (J : J2) (m : Nat) : J2 := up2 (up2 J 50 m 0) 51 m 0
def nwPeP (P : P2) (m : Nat) : P2 := up2 (up2 P 6 m 0) 7 m 0
def adPe (AD : P2) (m q a1 a2 : Nat) : P2 := up2 (up2 (up2 AD 5 m q) 6 m a1) 7 m a2
def kdPers (n : Nat → Nat) (p : Int32) : Int32 := if p = (-1) ∨ ¬ m_isR (n 0) p = 0 then (if nI (n 5) < 9 then 0 else 2) else 1
section PUSHP
variable {ct : Nat → ClassId} {AD : Nat → Nat → Nat} {L : List Nat} {n : Nat → Nat} {I : I2} {J : J2} {P : P2} {f f' : Nat → va_E}
theorem adPe_ne {m q a1 a2 k i : Nat} (h : ¬ (k = 5 ∧ i = m)) (h2 : ¬ (k = 6 ∧ i = m)) (h3 : ¬ (k = 7 ∧ i = m)) : adPe AD m q a1 a2 k i = AD k i := by
  unfold adPe
  rw [up2_ne _ _ _ _ h3, up2_ne _ _ _ _ h2, up2_ne _ _ _ _ h]
theorem nwPeI_ne {m a i : Nat} {p : Int32} (h1 : a ≠ 100 + m) (h2 : a ≠ 200 + m) (h3 : ¬ (a = 50 ∧ i = m)) (h4 : ¬ (a = 52 ∧ i = m)) : nwPeI I m p a i = I a i := by
  unfold nwPeI
  rw [if_neg (fun e => e.elim h1 h2), up2_ne _ _ _ _ h4, up2_ne _ _ _ _ h3]
theorem peP_inv (h : CInv n P) (hcap : n 5 < 9) : CInv (va_up n 5 (n 5 + 1)) (nwPeP P (n 5)) := by
  obtain ⟨h1, h2, h3, h4, h5, h6⟩ := h
  have e : ∀ a j, a ≠ 6 → a ≠ 7 → nwPeP P (n 5) a j = P a j := fun a j ha hb => by
    unfold nwPeP; rw [up2_ne _ _ _ _ (by omega), up2_ne _ _ _ _ (by omega)]
  have n' : ∀ c, c ≠ 5 → va_up n 5 (n 5 + 1) c = n c := fun c hc => va_up_ne _ _ hc
  refine ⟨fun c hc => ?_, fun j hj => ?_, fun j hj => ?_, fun j hj => ?_, fun j hj => ?_, fun j hj => ?_⟩
  · by_cases q : c = 5
    · subst q; rw [va_up_self]; exact hcap
    · rw [n' c q]; exact h1 c hc
  · rw [n' 1 (by decide)] at hj; rw [e 1 j (by decide) (by decide), e 2 j (by decide) (by decide), n' 0 (by decide)]; exact h2 j hj
  · rw [n' 2 (by decide)] at hj; rw [e 3 j (by decide) (by decide), n' 0 (by decide)]; exact h3 j hj
  · rw [n' 3 (by decide)] at hj; rw [e 4 j (by decide) (by decide), n' 0 (by decide)]; exact h4 j hj
  · rw [n' 4 (by decide)] at hj; rw [e 5 j (by decide) (by decide), n' 0 (by decide)]; exact h5 j hj
  · rw [va_up_self] at hj
    by_cases q : j = n 5
    · subst q
      simp [nwPeP, up2]
    · have : j < n 5 := by omega
      have e6 : nwPeP P (n 5) 6 j = P 6 j := by unfold nwPeP; rw [up2_ne _ _ _ _ (by omega), up2_ne _ _ _ _ (by omega)]
      have e7 : nwPeP P (n 5) 7 j = P 7 j := by unfold nwPeP; rw [up2_ne _ _ _ _ (by omega), up2_ne _ _ _ _ (by omega)]
      rw [e6, e7]; exact h6 j this
theorem co_pers (hC : CInv n P) {q a1 a2 : Nat} {p : Int32} (hm : n 5 < 9) : ∀ k' i', k' ≤ 7 → live n k' i' → cellOf ct (adPe AD (n 5) q a1 a2) (va_up n 5 (n 5 + 1)) (nwPeI I (n 5) p) (nwPeJ J (n 5)) (nwPeP P (n 5)) k' i' = cellOf ct AD n I J P k' i' := by
  intro k' i h7 hl
  have hAr : ∀ x, adPe AD (n 5) q a1 a2 0 x = AD 0 x := fun x => adPe_ne (by omega) (by omega) (by omega)
  have hI : ∀ a, a < 50 → nwPeI I (n 5) p a i = I a i := fun a ha => nwPeI_ne (by omega) (by omega) (by omega) (by omega)
  have hP : ∀ a, a ≤ 5 → nwPeP P (n 5) a i = P a i := fun a ha => by unfold nwPeP; rw [up2_ne _ _ _ _ (by omega), up2_ne _ _ _ _ (by omega)]
  have hJ : ∀ a, a < 50 → nwPeJ J (n 5) a i = J a i := fun a ha => by unfold nwPeJ; rw [up2_ne _ _ _ _ (by omega), up2_ne _ _ _ _ (by omega)]
  have hi5 : k' = 5 ∨ k' = 6 ∨ k' = 7 → i < n 5 := fun h => by
    rcases hl with ⟨_, b⟩ | ⟨_, b⟩ | ⟨_, b⟩ | ⟨a, _⟩ | ⟨a, _⟩
    · rcases h with rfl | rfl | rfl
      · exact b
      · omega
      · omega
    · exact b
    · exact b
    · omega
    · omega
  match k' with
  | 0 => simp only [cellOf]; rw [hI 0 (by omega), hI 1 (by omega), hI 2 (by omega), hI 3 (by omega), hI 4 (by omega), hJ 0 (by omega), hJ 1 (by omega), hJ 2 (by omega)]
  | 1 =>
    have hf : ∀ g, farV (adPe AD (n 5) q a1 a2) g = farV AD g := fun g => by cases g with
      | zero => rfl
      | succ x => simp only [farV]; rw [hAr]
    simp only [cellOf]; rw [hP 1 (by omega), hP 2 (by omega), hAr, hf, hI 12 (by omega), hI 13 (by omega), hI 14 (by omega), hI 15 (by omega), hI 16 (by omega), hJ 10 (by omega), hJ 11 (by omega), hJ 12 (by omega)]
  | 2 => simp only [cellOf]; rw [hP 3 (by omega), hAr, hI 21 (by omega), hI 22 (by omega), hI 23 (by omega), hI 24 (by omega)]
  | 3 => simp only [cellOf]; rw [hP 4 (by omega), hAr, hI 31 (by omega), hI 32 (by omega)]
  | 4 => simp only [cellOf]; rw [hP 5 (by omega), hAr, hI 41 (by omega), hI 42 (by omega)]
  | 5 =>
    have hi := hi5 (Or.inl rfl)
    have e50 : nwPeI I (n 5) p 50 i = I 50 i := nwPeI_ne (by omega) (by omega) (by omega) (by omega)
    have e52 : nwPeI I (n 5) p 52 i = I 52 i := nwPeI_ne (by omega) (by omega) (by omega) (by omega)
    have j50 : nwPeJ J (n 5) 50 i = J 50 i := by unfold nwPeJ; rw [up2_ne _ _ _ _ (by omega), up2_ne _ _ _ _ (by omega)]
    have j51 : nwPeJ J (n 5) 51 i = J 51 i := by unfold nwPeJ; rw [up2_ne _ _ _ _ (by omega), up2_ne _ _ _ _ (by omega)]
    have p6 : nwPeP P (n 5) 6 i = P 6 i := by unfold nwPeP; rw [up2_ne _ _ _ _ (by omega), up2_ne _ _ _ _ (by omega)]
    have p7 : nwPeP P (n 5) 7 i = P 7 i := by unfold nwPeP; rw [up2_ne _ _ _ _ (by omega), up2_ne _ _ _ _ (by omega)]
    simp only [cellOf]; rw [e50, e52, j50, j51, p6, p7, adPe_ne (k := 6) (i := i) (by omega) (by omega) (by omega), adPe_ne (k := 7) (i := i) (by omega) (by omega) (by omega)]
  | 6 =>
    have hi := hi5 (Or.inr (Or.inl rfl))
    simp only [cellOf]; rw [show nwPeI I (n 5) p (100 + i) = I (100 + i) from funext fun j => nwPeI_ne (by omega) (by omega) (by omega) (by omega)]
  | 7 =>
    have hi := hi5 (Or.inr (Or.inr rfl))
    simp only [cellOf]; rw [show nwPeI I (n 5) p (200 + i) = I (200 + i) from funext fun j => nwPeI_ne (by omega) (by omega) (by omega) (by omega)]
theorem CW.pushP (h : CW ct AD L n I J P f) {q a1 a2 : Nat} {p : Int32} (hm : n 5 < 9) (hq : q ∉ L) (h1 : a1 ∉ L ++ [q]) (h2 : a2 ∉ L ++ [q] ++ [a1])
    (h5 : f' q = personE p 0 0 a1 a2 0 (-1) 0) (h6 : f' a1 = .inl (ct 6, 20, .inl (fun _ => 0))) (h7 : f' a2 = .inl (ct 6, 20, .inl (fun _ => 0)))
    (harr : f' (AD 8 5) = .inl (ct 5, 9, .inr (.inr (.inr (.inr (fun j => if j < n 5 + 1 then some (va_up (AD 5) (n 5) q j) else none))))))
    (hmain : f' (AD 9 0) = cellOf ct (adPe AD (n 5) q a1 a2) (va_up n 5 (n 5 + 1)) (nwPeI I (n 5) p) (nwPeJ J (n 5)) (nwPeP P (n 5)) 9 0)
    (hoth : ∀ a, a ≠ q → a ≠ a1 → a ≠ a2 → a ≠ AD 8 5 → a ≠ AD 9 0 → f' a = f a) :
    CW ct (adPe AD (n 5) q a1 a2) (L ++ [q] ++ [a1] ++ [a2]) (va_up n 5 (n 5 + 1)) (nwPeI I (n 5) p) (nwPeJ J (n 5)) (nwPeP P (n 5)) f' := by
  have b1 : a1 ∉ L := fun e => h1 (List.mem_append_left _ e)
  have b2 : a1 ≠ q := fun e => h1 (List.mem_append_right _ (List.mem_singleton.mpr e))
  have b3 : a2 ∉ L := fun e => h2 (List.mem_append_left _ (List.mem_append_left _ e))
  have b4 : a2 ≠ q := fun e => h2 (List.mem_append_left _ (List.mem_append_right _ (List.mem_singleton.mpr e)))
  have b5 : a2 ≠ a1 := fun e => h2 (List.mem_append_right _ (List.mem_singleton.mpr e))
  have hlive : ∀ k' i', live (va_up n 5 (n 5 + 1)) k' i' → ((k' = 5 ∨ k' = 6 ∨ k' = 7) ∧ i' = n 5) ∨ live n k' i' := by
    intro k' i' hl
    rcases hl with ⟨c1, c2⟩ | ⟨c1, c2⟩ | ⟨c1, c2⟩ | c2 | c2
    · by_cases e : k' = 5
      · subst e
        rw [va_up_self] at c2
        by_cases e2 : i' = n 5
        · exact Or.inl ⟨Or.inl rfl, e2⟩
        · exact Or.inr (Or.inl ⟨c1, by omega⟩)
      · rw [va_up_ne _ _ e] at c2
        exact Or.inr (Or.inl ⟨c1, c2⟩)
    · rw [va_up_self] at c2
      by_cases e2 : i' = n 5
      · exact Or.inl ⟨Or.inr (Or.inl c1), e2⟩
      · exact Or.inr (Or.inr (Or.inl ⟨c1, by omega⟩))
    · rw [va_up_self] at c2
      by_cases e2 : i' = n 5
      · exact Or.inl ⟨Or.inr (Or.inr c1), e2⟩
      · exact Or.inr (Or.inr (Or.inr (Or.inl ⟨c1, by omega⟩)))
    · exact Or.inr (Or.inr (Or.inr (Or.inr (Or.inl c2))))
    · exact Or.inr (Or.inr (Or.inr (Or.inr (Or.inr c2))))
  have hlt5 : ∀ k' i', live n k' i' → (k' = 5 ∨ k' = 6 ∨ k' = 7) → i' < n 5 := fun k' i' hl hk => by
    rcases hl with ⟨_, b⟩ | ⟨_, b⟩ | ⟨_, b⟩ | ⟨a, _⟩ | ⟨a, _⟩
    · rcases hk with rfl | rfl | rfl
      · exact b
      · omega
      · omega
    · exact b
    · exact b
    · omega
    · omega
  have hAD : ∀ k' i', live n k' i' → adPe AD (n 5) q a1 a2 k' i' = AD k' i' := fun k' i' hl => adPe_ne
    (fun e => by have := hlt5 k' i' hl (Or.inl e.1); omega) (fun e => by have := hlt5 k' i' hl (Or.inr (Or.inl e.1)); omega) (fun e => by have := hlt5 k' i' hl (Or.inr (Or.inr e.1)); omega)
  have A5 : adPe AD (n 5) q a1 a2 5 (n 5) = q := by unfold adPe; rw [up2_ne _ _ _ _ (by omega), up2_ne _ _ _ _ (by omega), up2_at]
  have A6 : adPe AD (n 5) q a1 a2 6 (n 5) = a1 := by unfold adPe; rw [up2_ne _ _ _ _ (by omega), up2_at]
  have A7 : adPe AD (n 5) q a1 a2 7 (n 5) = a2 := by unfold adPe; rw [up2_at]
  have inL : ∀ k' i', live n k' i' → AD k' i' ∈ L := fun k' i' hl => (h.1 k' i' hl).1
  refine ⟨fun k' i' hl => ?_, fun k1 i1 k2 i2 l1 l2 e => ?_, peP_inv h.2.2 hm⟩
  · rcases hlive k' i' hl with ⟨hk, rfl⟩ | hl0
    · rcases hk with rfl | rfl | rfl
      · rw [A5]
        refine ⟨by simp, ?_⟩
        have e50 : nwPeI I (n 5) p 50 (n 5) = p := by unfold nwPeI; rw [if_neg (by omega), up2_ne _ _ _ _ (by omega), up2_at]
        have e52 : nwPeI I (n 5) p 52 (n 5) = -1 := by unfold nwPeI; rw [if_neg (by omega), up2_at]
        have j50 : nwPeJ J (n 5) 50 (n 5) = 0 := by simp [nwPeJ, up2]
        have j51 : nwPeJ J (n 5) 51 (n 5) = 0 := by simp [nwPeJ, up2]
        have p6 : nwPeP P (n 5) 6 (n 5) = 0 := by simp [nwPeP, up2]
        have p7 : nwPeP P (n 5) 7 (n 5) = 0 := by simp [nwPeP, up2]
        rw [h5]; simp only [cellOf]; rw [A6, A7, e50, e52, j50, j51, p6, p7]; rfl
      · rw [A6]
        refine ⟨by simp, ?_⟩
        rw [h6]; simp only [cellOf]
        rw [show nwPeI I (n 5) p (100 + n 5) = (fun _ => 0) from funext fun j => by simp [nwPeI]]
      · rw [A7]
        refine ⟨by simp, ?_⟩
        rw [h7]; simp only [cellOf]
        rw [show nwPeI I (n 5) p (200 + n 5) = (fun _ => 0) from funext fun j => by simp [nwPeI]]
    · rw [hAD k' i' hl0]
      refine ⟨List.mem_append_left _ (List.mem_append_left _ (List.mem_append_left _ (inL k' i' hl0))), ?_⟩
      by_cases e8 : k' = 8 ∧ i' = 5
      · obtain ⟨rfl, rfl⟩ := e8
        rw [harr]; simp only [cellOf, cap]; rw [va_up_self]
        rw [show adPe AD (n 5) q a1 a2 5 = va_up (AD 5) (n 5) q from funext fun j => by
          unfold adPe; rw [up2_ne _ _ _ _ (by omega), up2_ne _ _ _ _ (by omega)]; simp [up2, va_up]]
      · by_cases e9 : k' = 9
        · have e0 : i' = 0 := by rcases hl0 with ⟨a, _⟩ | ⟨a, _⟩ | ⟨a, _⟩ | ⟨a, _⟩ | ⟨_, b⟩ <;> omega
          subst e9; subst e0
          exact hmain
        · have c1 := inL k' i' hl0
          rw [hoth _ (fun e => hq (e ▸ c1)) (fun e => b1 (e ▸ c1)) (fun e => b3 (e ▸ c1)) (h.ne hl0 (lv8 (by omega)) e8) (h.ne hl0 lv9 (by omega)), (h.1 k' i' hl0).2]
          by_cases e8b : k' = 8
          · subst e8b
            have hik : i' ≠ 5 := fun e => e8 ⟨rfl, e⟩
            have hi6 : i' < 6 := by rcases hl0 with ⟨a, _⟩ | ⟨a, _⟩ | ⟨a, _⟩ | ⟨_, b⟩ | ⟨a, _⟩ <;> omega
            simp only [cellOf]
            rw [va_up_ne _ _ hik, show adPe AD (n 5) q a1 a2 i' = AD i' from funext fun j => adPe_ne (by omega) (by omega) (by omega)]
          · have h7 : k' ≤ 7 := by rcases hl0 with ⟨a, _⟩ | ⟨a, _⟩ | ⟨a, _⟩ | ⟨a, _⟩ | ⟨a, _⟩ <;> omega
            exact (co_pers h.2.2 hm k' i' h7 hl0).symm
  · have key : ∀ k' i', live n k' i' → AD k' i' ≠ q ∧ AD k' i' ≠ a1 ∧ AD k' i' ≠ a2 := fun k' i' hl => ⟨fun z => hq (z ▸ inL k' i' hl), fun z => b1 (z ▸ inL k' i' hl), fun z => b3 (z ▸ inL k' i' hl)⟩
    rcases hlive k1 i1 l1 with ⟨hk1, rfl⟩ | m1 <;> rcases hlive k2 i2 l2 with ⟨hk2, rfl⟩ | m2
    · rcases hk1 with rfl | rfl | rfl <;> rcases hk2 with rfl | rfl | rfl <;> simp only [A5, A6, A7] at e
      · exact ⟨rfl, rfl⟩
      · exact absurd e.symm b2
      · exact absurd e.symm b4
      · exact absurd e b2
      · exact ⟨rfl, rfl⟩
      · exact absurd e.symm b5
      · exact absurd e b4
      · exact absurd e b5
      · exact ⟨rfl, rfl⟩
    · rw [hAD k2 i2 m2] at e
      obtain ⟨z1, z2, z3⟩ := key k2 i2 m2
      rcases hk1 with rfl | rfl | rfl <;> simp only [A5, A6, A7] at e
      · exact absurd e.symm z1
      · exact absurd e.symm z2
      · exact absurd e.symm z3
    · rw [hAD k1 i1 m1] at e
      obtain ⟨z1, z2, z3⟩ := key k1 i1 m1
      rcases hk2 with rfl | rfl | rfl <;> simp only [A5, A6, A7] at e
      · exact absurd e z1
      · exact absurd e z2
      · exact absurd e z3
    · rw [hAD k1 i1 m1, hAD k2 i2 m2] at e; exact h.2.1 k1 i1 k2 i2 m1 m2 e
end PUSHP
