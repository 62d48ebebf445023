/-! ===== pure: the easy calls (own work) ===== -/
def sof (f : Nat → Nat) (h : Nat) : Nat → Nat → Int32 → Int32
  | 0, _, acc => acc
  | d + 1, i, acc => sof f h d (i + 1) (if f i = h then acc ||| ((1 : Int32) <<< (nI i &&& 31)) else acc)
theorem or0 (x : Int32) : x ||| 0 = x := by
  apply Int32.toBitVec_inj.mp
  simp
theorem sofC {H S : Nat} {v : Nat → Nat → Nat} {σ : St} (B : VB H S v) (V : VC H S v σ) {h : Nat} (hh : h < H) : f_X5_sleepersOf (nI h) σ = some (sof (v 3) h S 0 0, σ) := by
  have hS := B.2.1
  have hH := B.1
  unfold f_X5_sleepersOf f_X5_sleepersOf_4
  refine lp_m (fun d a o => ∃ i acc, i + d = S ∧ a = (nI h, acc, nI i, σ) ∧ o = (sof (v 3) h d i acc, σ)) ?_ 100000 S _ _ (by omega) ⟨0, 0, by omega, rfl, rfl⟩
  rintro d rec _ _ ⟨i, acc, hi, rfl, rfl⟩ ih
  show b_X5_sleepersOf_4 rec (nI h) acc (nI i) σ = _
  unfold b_X5_sleepersOf_4 f_X5_sleepersOf_28
  rw [V.2.1]
  cases d with
  | zero => rw [if_pos (nI_le (by omega) (by omega))]; rfl
  | succ d =>
    have hv := B.2.2.2 i (by omega)
    rw [if_neg (nI_ge (by omega) (by omega)), rd_n (by omega) (by omega), (V.2.2.2 i (by omega)).1]
    by_cases e : v 3 i = h
    · rw [if_pos (by rw [e]), nm_d, nI_1]; exact ih d _ (by omega) ⟨i + 1, _, by omega, rfl, by rw [sof, if_pos e]⟩
    · rw [if_neg (fun q => e ((nI_eq (by omega) (by omega)).mp q)), nI_1]; exact ih d _ (by omega) ⟨i + 1, _, by omega, rfl, by rw [sof, if_neg e]⟩
theorem sofM {H S : Nat} {v : Nat → Nat → Nat} {σ : St} (B : VB H S v) (V : VM H S v σ) {h : Nat} (hh : h < H) : f_X8_sleepersOf (nI h) σ = some (sof (v 3) h S 0 0, σ) := by
  have hS := B.2.1
  have hH := B.1
  unfold f_X8_sleepersOf f_X8_sleepersOf_4
  refine lp_m (fun d a o => ∃ i acc, i + d = S ∧ a = (nI h, acc, nI i, σ) ∧ o = (sof (v 3) h d i acc, σ)) ?_ 100000 S _ _ (by omega) ⟨0, 0, by omega, rfl, rfl⟩
  rintro d rec _ _ ⟨i, acc, hi, rfl, rfl⟩ ih
  show b_X8_sleepersOf_4 rec (nI h) acc (nI i) σ = _
  unfold b_X8_sleepersOf_4 f_X8_sleepersOf_30
  rw [V.2.1]
  cases d with
  | zero => rw [if_pos (nI_le (by omega) (by omega))]; rfl
  | succ d =>
    have hv := B.2.2.2 i (by omega)
    rw [if_neg (nI_ge (by omega) (by omega)), rd_n (by omega) (by omega), (V.2.2.2 i (by omega)).1]
    by_cases e : v 3 i = h
    · rw [if_pos (by rw [e]), nm_d, nI_1]; exact ih d _ (by omega) ⟨i + 1, _, by omega, rfl, by rw [sof, if_pos e]⟩
    · rw [if_neg (fun q => e ((nI_eq (by omega) (by omega)).mp q)), nm_d, or0, nI_1]; exact ih d _ (by omega) ⟨i + 1, _, by omega, rfl, by rw [sof, if_neg e]⟩
theorem ok_fault {σc σm : St} (I : Inv σc σm) : ∃ (r : Int32) (σc1 σm1 : St), f_X7_fault σc = some (r, σc1) ∧ f_X8_fault σm = some (r, σm1) ∧ Inv σc1 σm1 := by
  obtain ⟨H, S, v, hI⟩ := id I
  exact ⟨_, σc, σm, rfl, by rw [hI.2.2.2.2.2.2.1]; rfl, I⟩
theorem ok_told {σc σm : St} (I : Inv σc σm) (x1 : Int32) : ∃ (r : Int32) (σc1 σm1 : St), f_X7_told x1 σc = some (r, σc1) ∧ f_X8_told x1 σm = some (r, σm1) ∧ Inv σc1 σm1 := by
  obtain ⟨H, S, v, B, C, M, R, ld, T, F, W, J⟩ := id I
  obtain ⟨n, -, t1, t2, -⟩ := T
  obtain ⟨n2, -, w1, w2, -⟩ := W
  obtain ⟨-, -, r3, r4, r5, r6, ⟨k, -, r7, r8, -⟩, -⟩ := R
  have r31 : σc.1 20 3 = σm.1 0 10 := r3.1
  have r32 : σc.1 20 4 = σm.1 0 11 := r3.2.1
  have r33 : σc.1 20 2 = σm.1 0 12 := r3.2.2.1
  have r41 : σc.1 20 5 = σm.1 0 13 := r4.1
  have r51 : σc.1 19 2 = σm.1 0 14 := r5
  have r61 : σc.1 19 5 = σm.1 0 17 := r6
  have r81 : σm.1 0 18 = nI k := r8
  unfold f_X7_told f_X8_told
  rw [C.1, C.2.1, M.1, M.2.1, t1, t2, w1, w2, r31, r32, r33, r41, r51, r61, r7, r81]
  by_cases h0 : x1 = 0
  · simp only [if_pos h0]; exact ⟨_, σc, σm, rfl, rfl, I⟩
  simp only [if_neg h0]
  by_cases h1 : x1 = 1
  · simp only [if_pos h1]; exact ⟨_, σc, σm, rfl, rfl, I⟩
  simp only [if_neg h1]
  by_cases h2 : x1 = 2
  · simp only [if_pos h2]; exact ⟨_, σc, σm, rfl, rfl, I⟩
  simp only [if_neg h2]
  by_cases h3 : x1 = 3
  · simp only [if_pos h3]; exact ⟨_, σc, σm, rfl, rfl, I⟩
  simp only [if_neg h3]
  by_cases h4 : x1 = 4
  · simp only [if_pos h4]; exact ⟨_, σc, σm, rfl, rfl, I⟩
  simp only [if_neg h4]
  by_cases h5 : x1 = 5
  · simp only [if_pos h5]; exact ⟨_, σc, σm, rfl, rfl, I⟩
  simp only [if_neg h5]
  by_cases h6 : x1 = 6
  · simp only [if_pos h6]; exact ⟨_, σc, σm, rfl, rfl, I⟩
  simp only [if_neg h6]
  by_cases h7 : x1 = 7
  · simp only [if_pos h7]; exact ⟨_, σc, σm, rfl, rfl, I⟩
  simp only [if_neg h7]
  by_cases h8 : x1 = 8
  · simp only [if_pos h8]; exact ⟨_, σc, σm, rfl, rfl, I⟩
  simp only [if_neg h8]
  by_cases h9 : x1 = 9
  · simp only [if_pos h9]; exact ⟨_, σc, σm, rfl, rfl, I⟩
  simp only [if_neg h9]
  by_cases h10 : x1 = 10
  · simp only [if_pos h10]; exact ⟨_, σc, σm, rfl, rfl, I⟩
  simp only [if_neg h10]
  exact ⟨_, σc, σm, rfl, rfl, I⟩
theorem ok_house {σc σm : St} (I : Inv σc σm) (x1 x2 : Int32) : ∃ (r : Int32) (σc1 σm1 : St), f_X7_house x1 x2 σc = some (r, σc1) ∧ f_X8_house x1 x2 σm = some (r, σm1) ∧ Inv σc1 σm1 := by
  obtain ⟨H, S, v, B, C, M, R, ld, T, F, W, J⟩ := id I
  have hH := B.1
  unfold f_X7_house f_X8_house
  rcases ix3 x1 (n := H) (by omega) with h | ⟨h, hh, rfl⟩
  · rw [hasH_no C.1 h, isH_no (by omega) M.1 h]
    exact ⟨_, σc, σm, rfl, rfl, I⟩
  · rw [hasH_yes (by omega) C.1 hh, isH_yes (by omega) M.1 hh]
    simp only [bd_s, if_neg (show ¬ (1 : Int32) = 0 by decide), rd_n (show h < 5 by omega) (show 5 < 2 ^ 31 by omega)]
    have c1 := C.2.2.1 h hh
    have m1 := M.2.2.1 h hh
    have r2 := R.2.1 h hh
    have r21 : σc.1 25 h = σm.1 9 h := r2.1
    have r22 : σc.1 26 h = σm.1 10 h := r2.2.2
    rw [c1.1, c1.2.1, c1.2.2, m1.1, m1.2.1, m1.2.2, r21, r22, sofC B C hh, sofM B M hh]
    simp only [bd_s]
    by_cases h0 : x2 = 0
    · simp only [if_pos h0]; exact ⟨_, σc, σm, rfl, rfl, I⟩
    simp only [if_neg h0]
    by_cases h1 : x2 = 1
    · simp only [if_pos h1]; exact ⟨_, σc, σm, rfl, rfl, I⟩
    simp only [if_neg h1]
    by_cases h2 : x2 = 2
    · simp only [if_pos h2]; exact ⟨_, σc, σm, rfl, rfl, I⟩
    simp only [if_neg h2]
    by_cases h3 : x2 = 3
    · simp only [if_pos h3]; exact ⟨_, σc, σm, rfl, rfl, I⟩
    simp only [if_neg h3]
    by_cases h4 : x2 = 4
    · simp only [if_pos h4]; exact ⟨_, σc, σm, rfl, rfl, I⟩
    simp only [if_neg h4]
    by_cases h5 : x2 = 5
    · simp only [if_pos h5]; exact ⟨_, σc, σm, rfl, rfl, I⟩
    simp only [if_neg h5]
    exact ⟨_, σc, σm, rfl, rfl, I⟩
/-! what a change of some rows leaves as it was -/
theorem VC.cg {H S : Nat} {v : Nat → Nat → Nat} {σ σ' : St} (C : VC H S v σ) (h : ∀ k, 3 ≤ k → k ≤ 10 → σ'.1 k = σ.1 k) : VC H S v σ' := by
  unfold VC
  rw [h 3 (by omega) (by omega), h 4 (by omega) (by omega), h 5 (by omega) (by omega), h 6 (by omega) (by omega), h 7 (by omega) (by omega), h 8 (by omega) (by omega), h 9 (by omega) (by omega), h 10 (by omega) (by omega)]
  exact C
theorem VM.cg {H S : Nat} {v : Nat → Nat → Nat} {σ σ' : St} (C : VM H S v σ) (h0 : σ'.1 0 0 = σ.1 0 0) (h4 : σ'.1 0 4 = σ.1 0 4) (h : ∀ k, 1 ≤ k → k ≤ 7 → σ'.1 k = σ.1 k) : VM H S v σ' := by
  unfold VM
  rw [h0, h4, h 1 (by omega) (by omega), h 2 (by omega) (by omega), h 3 (by omega) (by omega), h 4 (by omega) (by omega), h 5 (by omega) (by omega), h 6 (by omega) (by omega), h 7 (by omega) (by omega)]
  exact C
theorem CR.cg {H S : Nat} {v : Nat → Nat → Nat} {c : Nat} {σ σ' : St} {sh oe dn ru mi : Nat → Int32} {na nl nf lw dy hd kp sd : Int32} (C : CR H S v c σ sh oe dn na nl nf lw dy hd kp sd ru mi) (h : ∀ k, c ≤ k → k ≤ c + 9 → σ'.1 k = σ.1 k) : CR H S v c σ' sh oe dn na nl nf lw dy hd kp sd ru mi := by
  unfold CR
  rw [h c (by omega) (by omega), h (c + 1) (by omega) (by omega), h (c + 2) (by omega) (by omega), h (c + 6) (by omega) (by omega), h (c + 7) (by omega) (by omega), h (c + 8) (by omega) (by omega), h (c + 9) (by omega) (by omega)]
  exact C
theorem laid.cg {S a : Nat} {σ σ' : St} (L : laid S a σ) (h : ∀ k, 7 ≤ k → k ≤ 10 → σ'.1 k = σ.1 k) (h1 : ∀ k, a + 1 ≤ k → k ≤ a + 4 → σ'.1 k = σ.1 k) (h2 : σ'.1 a 2 = σ.1 a 2) (h3 : σ'.1 a 3 = σ.1 a 3) (h4 : σ'.1 a 4 = σ.1 a 4) : laid S a σ' := by
  unfold laid rf
  rw [h2, h3, h4, h 7 (by omega) (by omega), h 8 (by omega) (by omega), h 9 (by omega) (by omega), h 10 (by omega) (by omega), h1 (a + 1) (by omega) (by omega), h1 (a + 2) (by omega) (by omega), h1 (a + 3) (by omega) (by omega), h1 (a + 4) (by omega) (by omega)]
  exact L
theorem Tx.cg {σc σm σc' σm' : St} (T : Tx σc σm) (h1 : σc'.1 1 1 = σc.1 1 1) (h2 : σc'.1 2 = σc.1 2) (h3 : σm'.1 0 23 = σm.1 0 23) (h4 : σm'.1 13 = σm.1 13) : Tx σc' σm' := by
  unfold Tx; rw [h1, h2, h3, h4]; exact T
theorem Wd.cg {S : Nat} {σc σm σc' σm' : St} (T : Wd S σc σm) (h1 : σc'.1 52 0 = σc.1 52 0) (h2 : σc'.1 53 = σc.1 53) (h3 : σc'.1 54 = σc.1 54) (h4 : σm'.1 0 44 = σm.1 0 44) (h5 : σm'.1 25 = σm.1 25) (h6 : σm'.1 26 = σm.1 26) : Wd S σc' σm' := by
  unfold Wd; rw [h1, h2, h3, h4, h5, h6]; exact T
theorem Im.cg {H S : Nat} {v : Nat → Nat → Nat} {σc σm σc' σm' : St} (T : Im H S v σc σm) (h1 : σc'.1 0 5 = σc.1 0 5) (h2 : ∀ k, 30 ≤ k → k ≤ 50 → ¬ k = 40 → σc'.1 k = σc.1 k) (h3 : σm'.1 28 = σm.1 28) (h4 : σm'.1 27 = σm.1 27) : Im H S v σc' σm' := by
  obtain ⟨p, q, a1, a2, a3, a4, a5, a6, a7⟩ := T
  refine ⟨p, q, a1, a2, by rw [h1]; exact a3, by rw [h3]; exact a4, by rw [h3]; exact a5, fun e => ?_, fun e => ?_⟩
  · unfold CG; rw [h4]; exact (a6 e).cg (fun k k1 k2 => h2 k (by omega) (by omega) (by omega))
  · unfold CG; rw [h4]; exact (a7 e).cg (fun k k1 k2 => h2 k (by omega) (by omega) (by omega))
theorem CM.cg {H S : Nat} {v : Nat → Nat → Nat} {σc σm σc' σm' : St} (R : CM H S v σc σm) (hc : ∀ k, 19 ≤ k → k ≤ 28 → σc'.1 k = σc.1 k) (h : ∀ k, 8 ≤ k → k ≤ 12 → σm'.1 k = σm.1 k) (h0 : ∀ j, (10 ≤ j ∧ j ≤ 14) ∨ (17 ≤ j ∧ j ≤ 18) ∨ j = 21 → σm'.1 0 j = σm.1 0 j) : CM H S v σc' σm' := by
  unfold CM
  rw [h 8 (by omega) (by omega), h 9 (by omega) (by omega), h 10 (by omega) (by omega), h 11 (by omega) (by omega), h 12 (by omega) (by omega), h0 10 (by omega), h0 11 (by omega), h0 12 (by omega), h0 13 (by omega), h0 14 (by omega), h0 17 (by omega), h0 18 (by omega), h0 21 (by omega)]
  exact CR.cg R hc
theorem InvV.cg {H S : Nat} {v : Nat → Nat → Nat} {σc σm σc' σm' : St} (I : InvV H S v σc σm) (hc : ∀ k, k ≤ 10 ∨ (19 ≤ k ∧ k ≤ 28) ∨ (30 ≤ k ∧ k ≤ 39) ∨ (41 ≤ k ∧ k ≤ 50) ∨ (52 ≤ k ∧ k ≤ 54) → σc'.1 k = σc.1 k) (hm : ∀ k, (1 ≤ k ∧ k ≤ 13) ∨ (25 ≤ k ∧ k ≤ 28) → σm'.1 k = σm.1 k) (h0 : ∀ j, j = 0 ∨ j = 4 ∨ (10 ≤ j ∧ j ≤ 14) ∨ (17 ≤ j ∧ j ≤ 18) ∨ j = 21 ∨ j = 23 ∨ j = 24 ∨ j = 44 → σm'.1 0 j = σm.1 0 j) : InvV H S v σc' σm' := by
  obtain ⟨B, C, M, R, ld, T, F, W, J⟩ := I
  refine ⟨B, C.cg (fun k _ _ => hc k (by omega)), M.cg (h0 0 (by omega)) (h0 4 (by omega)) (fun k _ _ => hm k (by omega)), CM.cg R (fun k _ _ => hc k (by omega)) (fun k _ _ => hm k (by omega)) (fun j _ => h0 j (by omega)), ld.cg (fun k _ _ => hc k (by omega)) (fun k _ _ => hc k (by omega)) ?_ ?_ ?_, T.cg ?_ (hc 2 (by omega)) (h0 23 (by omega)) (hm 13 (by omega)), ?_, W.cg ?_ (hc 53 (by omega)) (hc 54 (by omega)) (h0 44 (by omega)) (hm 25 (by omega)) (hm 26 (by omega)), J.cg ?_ (fun k _ _ _ => hc k (by omega)) (hm 28 (by omega)) (hm 27 (by omega))⟩
  · rw [hc 20 (by omega)]
  · rw [hc 20 (by omega)]
  · rw [hc 20 (by omega)]
  · rw [hc 1 (by omega)]
  · rw [hc 1 (by omega), h0 24 (by omega)]; exact F
  · rw [hc 52 (by omega)]
  · rw [hc 0 (by omega)]
theorem ok_law {σc σm : St} (I : Inv σc σm) (x1 : Int32) : ∃ (r : Int32) (σc1 σm1 : St), f_X7_law x1 σc = some (r, σc1) ∧ f_X8_law x1 σm = some (r, σm1) ∧ Inv σc1 σm1 := by
  obtain ⟨H, S, v, B, C, M, R, ld, T, F, W, J⟩ := id I
  obtain ⟨r1, r2, r3, ⟨r4, r42⟩, r5, r6, r7, r8⟩ := R
  have r41 : σc.1 20 5 = σm.1 0 13 := r4
  unfold f_X7_law f_X8_law
  by_cases h1 : x1 < 0
  · rw [in_0 (a := 0) (b := 2) (by decide) (by decide) σm (fun q => Int32.not_le.mpr h1 q.1)]
    simp only [if_pos h1, bd_s]
    exact ⟨_, σc, σm, rfl, rfl, I⟩
  · by_cases h2 : x1 ≤ 2
    · rw [in_1 (a := 0) (b := 2) (by decide) (by decide) σm ⟨Int32.not_lt.mp h1, h2⟩]
      simp only [if_neg h1, if_pos h2, bd_s, nm_d, if_neg i10, r41]
      refine ⟨_, _, _, rfl, rfl, H, S, v, B, C.cg (fun k _ _ => sR_ne _ _ (by omega)), M.cg rfl rfl (fun k _ _ => sR_ne _ _ (by omega)), ⟨r1, r2, r3, ⟨rfl, ?_⟩, r5, r6, r7, r8⟩, ld.cg (fun k _ _ => sR_ne _ _ (by omega)) (fun k _ _ => sR_ne _ _ (by omega)) rfl rfl rfl, T, F, W, J.cg rfl (fun k _ _ _ => sR_ne _ _ (by omega)) rfl rfl⟩
      obtain ⟨j, hj, e⟩ := nI_of2 (n := 2) (M := 2) rfl h1 h2
      exact ⟨j, by omega, hj, e⟩
    · rw [in_0 (a := 0) (b := 2) (by decide) (by decide) σm (fun q => h2 q.2)]
      simp only [if_neg h1, if_neg h2, bd_s]
      exact ⟨_, σc, σm, rfl, rfl, I⟩
theorem ok_seed {σc σm : St} (I : Inv σc σm) (x1 : Int32) : ∃ (r : Int32) (σc1 σm1 : St), f_X7_seed x1 σc = some (r, σc1) ∧ f_X8_seed x1 σm = some (r, σm1) ∧ Inv σc1 σm1 := by
  obtain ⟨H, S, v, B, C, M, R, ld, T, F, W, J⟩ := id I
  obtain ⟨r1, r2, r3, r4, r5, r6, r7, ⟨r8, r9⟩⟩ := R
  have r81 : σc.1 19 9 = σm.1 0 21 := r8
  unfold f_X7_seed f_X8_seed
  simp only [nm_d]
  by_cases h1 : 0 ≤ x1
  · rw [if_pos h1, if_pos h1, r81]
    refine ⟨_, _, _, rfl, rfl, H, S, v, B, C.cg (fun k _ _ => sR_ne _ _ (by omega)), M.cg rfl rfl (fun k _ _ => sR_ne _ _ (by omega)), ⟨r1, r2, r3, r4, r5, r6, r7, rfl, ?_⟩, ld.cg (fun k _ _ => sR_ne _ _ (by omega)) (fun k _ _ => sR_ne _ _ (by omega)) rfl rfl rfl, T, F, W, J.cg rfl (fun k _ _ _ => sR_ne _ _ (by omega)) rfl rfl⟩
    exact nI_of (Int32.not_lt.mpr h1)
  · rw [if_neg h1, if_neg h1]
    exact ⟨_, σc, σm, rfl, rfl, I⟩
theorem ok_forget {σc σm : St} (I : Inv σc σm) : ∃ (r : Int32) (σc1 σm1 : St), f_X7_forget σc = some (r, σc1) ∧ f_X8_forget σm = some (r, σm1) ∧ Inv σc1 σm1 := by
  obtain ⟨H, S, v, B, C, M, R, ld, T, F, W, J⟩ := id I
  obtain ⟨n, w0, w1, w2, w3⟩ := W
  unfold f_X7_forget f_X8_forget
  simp only [nm_d]
  rw [w1, w2]
  exact ⟨_, _, _, rfl, rfl, H, S, v, B, C.cg (fun k _ _ => sR_ne _ _ (by omega)), M.cg rfl rfl (fun k _ _ => sR_ne _ _ (by omega)), R, ld, T, F, ⟨0, by omega, rfl, rfl, fun i hi => by omega⟩, J⟩
theorem rul_no {x : Int32} {k : Nat} (hk : k ≤ 200) (h : x < 0 ∨ nI k ≤ x) : ¬ (0 ≤ x ∧ x ≤ nI k - 1) := by
  rintro ⟨g1, g2⟩
  rw [le_toInt] at g1 g2
  have e1 : (nI k - 1).toInt = (k : Int) - 1 := pk_sub_toInt (a := k) (b := 1) (by omega) (by omega)
  rw [e1] at g2
  have e0 : (0 : Int32).toInt = 0 := rfl
  rw [e0] at g1
  rcases h with h | h
  · rw [lt_toInt, e0] at h; omega
  · rw [le_toInt, nI_toInt (by omega)] at h; omega
theorem rul_yes {i k : Nat} (hk : k ≤ 200) (hi : i < k) : 0 ≤ nI i ∧ nI i ≤ nI k - 1 := by
  refine ⟨nI_pos' (by omega), ?_⟩
  have e1 : (nI k - 1).toInt = (k : Int) - 1 := pk_sub_toInt (a := k) (b := 1) (by omega) (by omega)
  rw [le_toInt, e1, nI_toInt (by omega)]; omega
theorem ok_ruler {σc σm : St} (I : Inv σc σm) (x1 x2 : Int32) : ∃ (r : Int32) (σc1 σm1 : St), f_X7_ruler x1 x2 σc = some (r, σc1) ∧ f_X8_ruler x1 x2 σm = some (r, σm1) ∧ Inv σc1 σm1 := by
  obtain ⟨H, S, v, B, C, M, R, ld, T, F, W, J⟩ := id I
  obtain ⟨k, k1, k2, k3, k4⟩ := R.2.2.2.2.2.2.1
  unfold f_X7_ruler f_X8_ruler
  by_cases h1 : x2 < 0
  · rw [in_0 (a := 0) (b := 1) (by decide) (by decide) σm (fun q => Int32.not_le.mpr h1 q.1)]
    simp only [if_pos h1, bd_s]
    exact ⟨_, σc, σm, rfl, rfl, I⟩
  by_cases h2 : x2 ≤ 1
  · rw [in_1 (a := 0) (b := 1) (by decide) (by decide) σm ⟨Int32.not_lt.mp h1, h2⟩]
    simp only [if_neg h1, if_pos h2, bd_s, if_neg i10, k2]
    rcases ix3 x1 (n := k) (by omega) with h | ⟨i, hi, rfl⟩
    · rw [in_0 (a := 0) (b := σm.1 0 18 - 1) (by decide) rfl σm (by rw [k3]; exact rul_no k1 h)]
      simp only [bd_s]
      by_cases h3 : x1 < 0
      · simp only [if_pos h3]; exact ⟨_, σc, σm, rfl, rfl, I⟩
      · simp only [if_neg h3, if_neg (Int32.not_lt.mpr (h.resolve_left h3))]; exact ⟨_, σc, σm, rfl, rfl, I⟩
    · rw [in_1 (a := 0) (b := σm.1 0 18 - 1) (by decide) rfl σm (by rw [k3]; exact rul_yes k1 hi)]
      have g := k4 i hi
      have g1 : σc.1 27 i = σm.1 11 i := g.1
      have g2 : σc.1 28 i = σm.1 12 i := g.2
      simp only [bd_s, if_neg i10, if_neg (nI_pos (show i < 2 ^ 31 by omega)), if_pos (nI_lt hi (by omega)), rd_n (show i < 200 by omega) (show 200 < 2 ^ 31 by omega), g1, g2]
      by_cases h3 : x2 = 0
      · simp only [if_pos h3]; exact ⟨_, σc, σm, rfl, rfl, I⟩
      · simp only [if_neg h3]; exact ⟨_, σc, σm, rfl, rfl, I⟩
  · rw [in_0 (a := 0) (b := 1) (by decide) (by decide) σm (fun q => h2 q.2)]
    simp only [if_neg h1, if_neg h2, bd_s]
    exact ⟨_, σc, σm, rfl, rfl, I⟩
theorem ok_tell {σc σm : St} (I : Inv σc σm) (x1 x2 : Int32) : ∃ (r : Int32) (σc1 σm1 : St), f_X7_tell x1 x2 σc = some (r, σc1) ∧ f_X8_tell x1 x2 σm = some (r, σm1) ∧ Inv σc1 σm1 := by
  obtain ⟨H, S, v, B, C, M, R, ld, T, F, W, J⟩ := id I
  obtain ⟨n, w0, w1, w2, w3⟩ := W
  have hS := B.2.1
  unfold f_X7_tell f_X8_tell f_X6_add
  rcases ix3 x1 (n := S) (by omega) with h | ⟨s, hs, rfl⟩
  · rw [hasS_no C.2.1 h, isS_no (by omega) M.2.1 h]
    exact ⟨_, σc, σm, rfl, rfl, I⟩
  rw [hasS_yes (by omega) C.2.1 hs, isS_yes (by omega) M.2.1 hs]
  simp only [bd_s, if_neg i10]
  by_cases h1 : x2 < 0
  · rw [in_0 (a := 0) (b := 999) (by decide) (by decide) σm (fun q => Int32.not_le.mpr h1 q.1)]
    simp only [if_pos h1, bd_s]
    exact ⟨_, σc, σm, rfl, rfl, I⟩
  by_cases h2 : x2 ≤ 999
  · rw [in_1 (a := 0) (b := 999) (by decide) (by decide) σm ⟨Int32.not_lt.mp h1, h2⟩]
    simp only [if_neg h1, if_pos h2, bd_s, if_neg i10, w1, w2]
    obtain ⟨t, ht, rfl⟩ := nI_of2 (n := 999) (M := 999) rfl h1 h2
    by_cases h3 : n = 40
    · subst h3
      simp only [show nI 40 = (40 : Int32) from rfl, if_pos (show (40 : Int32) = 40 from rfl), if_neg (show ¬ (40 : Int32) < 40 by decide), bd_s]
      exact ⟨_, σc, σm, rfl, rfl, I⟩
    · have e1 : nI n < 40 := nI_lt (b := 40) (by omega) (by omega)
      have e2 : ¬ nI n = 40 := fun e => h3 ((nI_eq (b := 40) (by omega) (by omega)).mp e)
      simp only [if_pos e1, if_neg e2, ck_n (show n < 40 by omega) (show 40 < 2 ^ 31 by omega), nm_d, nI_clamp (show n < 2 ^ 31 by omega)]
      have a1 : (sI σc 53 n (nI s)).1 52 0 = nI n := w1
      have a2 : (sI σm 25 n (nI s)).1 0 44 = nI n := w2
      have a3 : (sI (sI σc 53 n (nI s)) 54 n (nI t)).1 52 0 = nI n := w1
      have a4 : (sI (sI σm 25 n (nI s)) 26 n (nI t)).1 0 44 = nI n := w2
      simp only [a1, a2, a3, a4, ck_n (show n < 40 by omega) (show 40 < 2 ^ 31 by omega), nm_d, nI_clamp (show n < 2 ^ 31 by omega), bd_s, if_neg i10, nI_1]
      refine ⟨_, _, _, rfl, rfl, H, S, v, B, C.cg (fun k _ _ => ?_), M.cg rfl rfl (fun k _ _ => ?_), R, ld, T, F, ⟨n + 1, by omega, rfl, rfl, fun i hi => ?_⟩, J⟩
      · rw [sR_ne _ _ (by omega), sR_ne _ _ (by omega), sR_ne _ _ (by omega)]
      · rw [sR_ne _ _ (by omega), sR_ne _ _ (by omega), sR_ne _ _ (by omega)]
      · show upd (σc.1 53) n (nI s) i = upd (σm.1 25) n (nI s) i ∧ upd (σc.1 54) n (nI t) i = upd (σm.1 26) n (nI t) i ∧ (∃ s', s' < S ∧ upd (σm.1 25) n (nI s) i = nI s') ∧ rg (upd (σm.1 26) n (nI t) i) 0 999
        by_cases e : i = n
        · subst e
          simp only [pk_us]
          exact ⟨trivial, trivial, ⟨s, hs, rfl⟩, ⟨t, by omega, ht, rfl⟩⟩
        · simp only [pk_un e]
          exact w3 i (by omega)
  · rw [in_0 (a := 0) (b := 999) (by decide) (by decide) σm (fun q => h2 q.2)]
    simp only [if_neg h1, if_neg h2, bd_s]
    exact ⟨_, σc, σm, rfl, rfl, I⟩
