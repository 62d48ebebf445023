/-! ===== pure: keep, goBack (own work) ===== -/
theorem bitsK {p q i : Nat} (hp : p ≤ 1) (hq : q ≤ 1) (hi : i < 2) : nI (p + 2 * q) ||| (1 <<< (nI i &&& 31)) = (if i = 0 then nI (1 + 2 * q) else nI (p + 2 * 1)) := by
  rcases (show p = 0 ∨ p = 1 by omega) with rfl | rfl <;> rcases (show q = 0 ∨ q = 1 by omega) with rfl | rfl <;> rcases (show i = 0 ∨ i = 1 by omega) with rfl | rfl <;> decide +kernel
theorem bitsG {p q i : Nat} (hp : p ≤ 1) (hq : q ≤ 1) (hi : i < 2) : ((nI (p + 2 * q) >>> (nI i &&& 31)) &&& 1) = (if i = 0 then nI p else nI q) := by
  rcases (show p = 0 ∨ p = 1 by omega) with rfl | rfl <;> rcases (show q = 0 ∨ q = 1 by omega) with rfl | rfl <;> rcases (show i = 0 ∨ i = 1 by omega) with rfl | rfl <;> decide +kernel
theorem in01 (x : Int32) (σ : St) : (x < 0 ∧ f_X8_in x.toInt64 0 1 σ = some (0, σ)) ∨ (¬ x < 0 ∧ ¬ x < 2 ∧ f_X8_in x.toInt64 0 1 σ = some (0, σ)) ∨ ∃ i, i < 2 ∧ x = nI i ∧ ¬ nI i < 0 ∧ nI i < 2 ∧ f_X8_in (nI i).toInt64 0 1 σ = some (1, σ) := by
  by_cases h1 : x < 0
  · exact Or.inl ⟨h1, in_0 (a := 0) (b := 1) (by decide) (by decide) σ (fun q => Int32.not_le.mpr h1 q.1)⟩
  · by_cases h2 : x < 2
    · have h2' : x ≤ 1 := by rw [lt_toInt] at h2; rw [le_toInt]; have a : x.toInt < 2 := h2; show x.toInt ≤ 1; omega
      obtain ⟨j, hj, rfl⟩ := nI_of2 (n := 1) (M := 1) rfl h1 h2'
      exact Or.inr (Or.inr ⟨j, by omega, rfl, h1, h2, in_1 (a := 0) (b := 1) (by decide) (by decide) σ ⟨Int32.not_lt.mp h1, h2'⟩⟩)
    · refine Or.inr (Or.inl ⟨h1, h2, in_0 (a := 0) (b := 1) (by decide) (by decide) σ (fun q => h2 ?_)⟩)
      have q2 := le_toInt.mp q.2
      rw [lt_toInt]
      have a : x.toInt ≤ 1 := q2
      show x.toInt < 2
      omega
theorem imgAt {i : Nat} (hi : i < 2) (σ : St) : ∃ c, (c = 30 + 11 * i) ∧ f_X7_imageAt (nI i) σ = some (c, σ) ∧ decide (is_X0 c) = true := by
  unfold f_X7_imageAt
  rcases (show i = 0 ∨ i = 1 by omega) with rfl | rfl
  · exact ⟨30, rfl, by rw [if_pos (show nI 0 = 0 from rfl)], by decide⟩
  · exact ⟨41, rfl, by rw [if_neg (show ¬ nI 1 = 0 from i10)], by decide⟩
