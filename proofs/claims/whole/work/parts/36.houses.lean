/-! ===== pure: the odds of houses (own work) ===== -/
def osm (f : Nat → Nat) (b : Nat → Bool) : Nat → Nat → Nat
  | 0, _ => 0
  | d + 1, i => (if b i = true then f i else 0) + osm f b d (i + 1)
def btv (x : Int32) (v : Nat → Nat → Nat) (i : Nat) : Bool := decide (¬ ((x >>> (nI (v 3 i) &&& 31)) &&& 1) = 0)
theorem bit01 (y : Int32) : (y &&& 1 = 0) ∨ (y &&& 1 = 1) := by
  obtain ⟨j, hj, e⟩ := pk_andE y (m := 1) 1 (by decide)
  rcases (show j = 0 ∨ j = 1 by omega) with rfl | rfl
  · exact Or.inl e
  · exact Or.inr e
def ohN (l a : Nat) (σ : St) (S : Nat) (v : Nat → Nat → Nat) (x : Int32) : Nat := osm (odN l (fI a σ) (lI a σ) (rI a σ) S) (btv x v) S 0
theorem ohC {H S a l : Nat} {v : Nat → Nat → Nat} {σ : St} (B : VB H S v) (C : VC H S v σ) (ho : ∀ s, s < S → f_X1_oddsOf a (nI s) σ = some (nI (odN l (fI a σ) (lI a σ) (rI a σ) S s), σ)) (x : Int32) : f_X1_oddsOfHouses a x σ = some (nI (ohN l a σ S v x), σ) := by
  have hS := B.2.1
  unfold f_X1_oddsOfHouses f_X1_oddsOfHouses_4 ohN
  refine lp_m (fun d q o => ∃ i A, i + d = S ∧ q = (x, nI A, nI i, σ) ∧ o = (nI (A + osm (odN l (fI a σ) (lI a σ) (rI a σ) S) (btv x v) d i), σ)) ?_ 100000 S _ _ (by omega) ⟨0, 0, by omega, rfl, by rw [Nat.zero_add]⟩
  rintro d rec _ _ ⟨i, A, hi, rfl, rfl⟩ ih
  show b_X1_oddsOfHouses_4 a rec x (nI A) (nI i) σ = _
  unfold b_X1_oddsOfHouses_4 f_X1_oddsOfHouses_39
  rw [C.2.1]
  cases d with
  | zero => rw [if_pos (nI_le (by omega) (by omega)), osm]; rfl
  | succ d =>
    rw [if_neg (nI_ge (by omega) (by omega)), rd_n (by omega) (by omega), (C.2.2.2 i (by omega)).1]
    by_cases h : ((x >>> (nI (v 3 i) &&& 31)) &&& 1) = 0
    · rw [if_pos h, nI_1]
      refine ih d _ (by omega) ⟨i + 1, A, by omega, rfl, ?_⟩
      rw [osm, if_neg (by unfold btv; rw [decide_eq_true_iff]; exact fun q => q h), Nat.zero_add]
    · rw [if_neg h, ho i (by omega), bd_s, nm_d, nI_add, nI_1]
      refine ih d _ (by omega) ⟨i + 1, _, by omega, rfl, ?_⟩
      rw [osm, if_pos (by unfold btv; rw [decide_eq_true_iff]; exact h), Nat.add_assoc]
theorem ohM {H S a l : Nat} {v : Nat → Nat → Nat} {σ σc : St} (B : VB H S v) (M : VM H S v σ) (ho : ∀ s, s < S → f_X8_oddsOf (nI s) σ = some (nI (odN l (fI a σc) (lI a σc) (rI a σc) S s), σ)) (x : Int32) : f_X8_oddsOfHouses x σ = some (nI (ohN l a σc S v x), σ) := by
  have hS := B.2.1
  unfold f_X8_oddsOfHouses f_X8_oddsOfHouses_4 ohN
  refine lp_m (fun d q o => ∃ i A, i + d = S ∧ q = (x, nI A, nI i, σ) ∧ o = (nI (A + osm (odN l (fI a σc) (lI a σc) (rI a σc) S) (btv x v) d i), σ)) ?_ 100000 S _ _ (by omega) ⟨0, 0, by omega, rfl, by rw [Nat.zero_add]⟩
  rintro d rec _ _ ⟨i, A, hi, rfl, rfl⟩ ih
  show b_X8_oddsOfHouses_4 rec x (nI A) (nI i) σ = _
  unfold b_X8_oddsOfHouses_4 f_X8_oddsOfHouses_35 f_X8_has
  rw [M.2.1]
  cases d with
  | zero => rw [if_pos (nI_le (by omega) (by omega)), osm]; rfl
  | succ d =>
    rw [if_neg (nI_ge (by omega) (by omega)), rd_n (by omega) (by omega), (M.2.2.2 i (by omega)).1]
    rcases bit01 (x >>> (nI (v 3 i) &&& 31)) with h | h
    · rw [if_neg (by rw [h]; decide), bd_s, if_pos rfl, nm_d, show nI A + 0 = nI A from by rw [show (0 : Int32) = nI 0 from rfl, nI_add, Nat.add_zero], nI_1]
      refine ih d _ (by omega) ⟨i + 1, A, by omega, rfl, ?_⟩
      rw [osm, if_neg (by unfold btv; rw [decide_eq_true_iff]; exact fun q => q h), Nat.zero_add]
    · rw [if_pos h, bd_s, if_neg i10, ho i (by omega), bd_s, nm_d, nI_add, nI_1]
      refine ih d _ (by omega) ⟨i + 1, _, by omega, rfl, ?_⟩
      rw [osm, if_pos (by unfold btv; rw [decide_eq_true_iff, h]; exact i10), Nat.add_assoc]
theorem oh2 {H S a l : Nat} {v : Nat → Nat → Nat} {σc σm : St} (B : VB H S v) (C : VC H S v σc) (M : VM H S v σm) (N : NR H S a σc σm) (el : σm.1 0 13 = nI l) (hl : l ≤ 2) (x : Int32) : f_X1_oddsOfHouses a x σc = some (nI (ohN l a σc S v x), σc) ∧ f_X8_oddsOfHouses x σm = some (nI (ohN l a σc S v x), σm) :=
  ⟨ohC B C (fun s hs => (odds2 B C M N hs el hl).1) x, ohM B M (fun s hs => (odds2 B C M N hs el hl).2) x⟩
theorem ok_odds {σc σm : St} (I : Inv σc σm) (x1 : Int32) : ∃ (r : Int32) (σc1 σm1 : St), f_X7_odds x1 σc = some (r, σc1) ∧ f_X8_odds x1 σm = some (r, σm1) ∧ Inv σc1 σm1 := by
  obtain ⟨H, S, v, hI⟩ := id I
  obtain ⟨B, C, M, R, ld, T, F, W, J⟩ := id hI
  have hS := B.2.1
  unfold f_X7_odds f_X8_odds
  rcases ix3 x1 (n := S) (by omega) with h | ⟨s, hs, rfl⟩
  · rw [hasS_no C.2.1 h, isS_no (by omega) M.2.1 h]
    exact ⟨_, σc, σm, rfl, rfl, I⟩
  rw [hasS_yes (by omega) C.2.1 hs, isS_yes (by omega) M.2.1 hs]
  obtain ⟨l, -, hl, el⟩ := R.2.2.2.1.2
  have h := odds2 B C M hI.nr hs el hl
  simp only [bd_s, if_neg i10, h.1, h.2]
  exact ⟨_, σc, σm, rfl, rfl, I⟩
theorem pow_sh {H : Nat} (h : H ≤ 5) : ((1 : Int32) <<< (nI H &&& 31)) = nI (2 ^ H) ∧ (nI (2 ^ H) - 1) = nI (2 ^ H - 1) ∧ 2 ^ H ≤ 32 := by
  rcases (show H = 0 ∨ H = 1 ∨ H = 2 ∨ H = 3 ∨ H = 4 ∨ H = 5 by omega) with rfl | rfl | rfl | rfl | rfl | rfl <;> decide
theorem ok_together {σc σm : St} (I : Inv σc σm) (x1 : Int32) : ∃ (r : Int32) (σc1 σm1 : St), f_X7_together x1 σc = some (r, σc1) ∧ f_X8_together x1 σm = some (r, σm1) ∧ Inv σc1 σm1 := by
  obtain ⟨H, S, v, hI⟩ := id I
  obtain ⟨B, C, M, R, ld, T, F, W, J⟩ := id hI
  obtain ⟨p1, p2, p3⟩ := pow_sh B.1
  obtain ⟨l, -, hl, el⟩ := R.2.2.2.1.2
  have h := oh2 B C M hI.nr el hl x1
  have pp : 0 < 2 ^ H := Nat.two_pow_pos H
  unfold f_X7_together f_X8_together f_X7_together_21 f_X7_together_22
  rw [C.1, M.1, p1]
  by_cases h1 : x1 < 0
  · rw [in_0 (a := 0) (b := nI (2 ^ H) - 1) (by decide) rfl σm (fun q => Int32.not_le.mpr h1 q.1)]
    simp only [if_pos h1, bd_s, if_true]
    exact ⟨_, σc, σm, rfl, rfl, I⟩
  by_cases h2 : nI (2 ^ H) ≤ x1
  · rw [in_0 (a := 0) (b := nI (2 ^ H) - 1) (by decide) rfl σm (fun q => by
      have q2 := q.2
      rw [p2, le_toInt, nI_toInt (by omega)] at q2
      rw [le_toInt, nI_toInt (by omega)] at h2
      omega)]
    simp only [if_neg h1, if_pos h2, bd_s, if_true]
    exact ⟨_, σc, σm, rfl, rfl, I⟩
  · rw [in_1 (a := 0) (b := nI (2 ^ H) - 1) (by decide) rfl σm ⟨Int32.not_lt.mp h1, by
      rw [p2, le_toInt, nI_toInt (by omega)]
      rw [le_toInt, nI_toInt (by omega)] at h2
      omega⟩]
    simp only [if_neg h1, if_neg h2, bd_s, if_neg i10, h.1, h.2]
    exact ⟨_, σc, σm, rfl, rfl, I⟩
