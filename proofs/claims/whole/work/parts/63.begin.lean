/-! ===== pure: a new valley taken over by the class; valley (own work) ===== -/
theorem cp5 {f g : Nat → Int32} {j : Nat} (h : j < 5) : va_cpy f g (0 : Int32).toNatClampNeg (0 : Int32).toNatClampNeg (5 : Int32).toNatClampNeg j = f j := cpy8 h
theorem cp8 {f g : Nat → Int32} {j : Nat} (h : j < 8) : va_cpy f g (0 : Int32).toNatClampNeg (0 : Int32).toNatClampNeg (8 : Int32).toNatClampNeg j = f j := cpy8 h
theorem cpV (s : St) : ∃ s', f_X5_copyFrom s = some s' ∧ (∀ k, k < 3 ∨ 10 < k → s'.1 k = s.1 k) ∧ s'.1 3 0 = s.1 11 0 ∧ s'.1 3 4 = s.1 11 4 ∧ (∀ j, j < 5 → s'.1 4 j = s.1 12 j ∧ s'.1 5 j = s.1 13 j ∧ s'.1 6 j = s.1 14 j) ∧ ∀ j, j < 8 → s'.1 7 j = s.1 15 j ∧ s'.1 8 j = s.1 16 j ∧ s'.1 9 j = s.1 17 j ∧ s'.1 10 j = s.1 18 j := by
  unfold f_X5_copyFrom
  simp only [show decide ((¬ (0 : Int32) < 0) ∧ (¬ (0 : Int32) < 0) ∧ (¬ (8 : Int32) < 0) ∧ (0 : Int32).toNatClampNeg + (8 : Int32).toNatClampNeg ≤ 8 ∧ (0 : Int32).toNatClampNeg + (8 : Int32).toNatClampNeg ≤ 8) = true by decide, show decide ((¬ (0 : Int32) < 0) ∧ (¬ (0 : Int32) < 0) ∧ (¬ (5 : Int32) < 0) ∧ (0 : Int32).toNatClampNeg + (5 : Int32).toNatClampNeg ≤ 5 ∧ (0 : Int32).toNatClampNeg + (5 : Int32).toNatClampNeg ≤ 5) = true by decide, ck_t]
  generalize hF5 : (fun (f g : Nat → Int32) => va_cpy f g (0 : Int32).toNatClampNeg (0 : Int32).toNatClampNeg (5 : Int32).toNatClampNeg) = F5
  generalize hF8 : (fun (f g : Nat → Int32) => va_cpy f g (0 : Int32).toNatClampNeg (0 : Int32).toNatClampNeg (8 : Int32).toNatClampNeg) = F8
  have c5 : ∀ f g, va_cpy f g (0 : Int32).toNatClampNeg (0 : Int32).toNatClampNeg (5 : Int32).toNatClampNeg = F5 f g := fun f g => by rw [← hF5]
  have c8 : ∀ f g, va_cpy f g (0 : Int32).toNatClampNeg (0 : Int32).toNatClampNeg (8 : Int32).toNatClampNeg = F8 f g := fun f g => by rw [← hF8]
  have k5 : ∀ f g j, j < 5 → F5 f g j = f j := fun f g j hj => by rw [← hF5]; exact cp5 hj
  have k8 : ∀ f g j, j < 8 → F8 f g j = f j := fun f g j hj => by rw [← hF8]; exact cp8 hj
  simp only [c5, c8]
  clear hF5 hF8 c5 c8
  rw [nm_d, nm_d]
  generalize h1 : sI s 3 0 (s.1 11 0) = s1
  have e1 : ∀ k, k ≠ 3 → s1.1 k = s.1 k := fun k hk => by rw [← h1]; exact sR_ne _ _ hk
  have e1a : s1.1 3 0 = s.1 11 0 := by rw [← h1, sR_at, pk_us]
  generalize h2 : sR s1 4 (F5 (s1.1 12) (s1.1 4)) = s2
  have e2 : ∀ k, k ≠ 4 → s2.1 k = s1.1 k := fun k hk => by rw [← h2]; exact sR_ne _ _ hk
  have e2a : ∀ j, j < 5 → s2.1 4 j = s.1 12 j := fun j hj => by rw [← h2, sR_at, k5 _ _ j hj, e1 12 (by omega)]
  rw [nm_d]
  generalize h3 : sR s2 5 (F5 (s2.1 13) (s2.1 5)) = s3
  have e3 : ∀ k, k ≠ 5 → s3.1 k = s2.1 k := fun k hk => by rw [← h3]; exact sR_ne _ _ hk
  have e3a : ∀ j, j < 5 → s3.1 5 j = s.1 13 j := fun j hj => by rw [← h3, sR_at, k5 _ _ j hj, e2 13 (by omega), e1 13 (by omega)]
  rw [nm_d]
  generalize h4 : sR s3 6 (F5 (s3.1 14) (s3.1 6)) = s4
  have e4 : ∀ k, k ≠ 6 → s4.1 k = s3.1 k := fun k hk => by rw [← h4]; exact sR_ne _ _ hk
  have e4a : ∀ j, j < 5 → s4.1 6 j = s.1 14 j := fun j hj => by rw [← h4, sR_at, k5 _ _ j hj, e3 14 (by omega), e2 14 (by omega), e1 14 (by omega)]
  rw [nm_d]
  generalize h5 : sI s4 3 4 (s4.1 11 4) = s5
  have e5 : ∀ k, k ≠ 3 → s5.1 k = s4.1 k := fun k hk => by rw [← h5]; exact sR_ne _ _ hk
  have e5a : s5.1 3 4 = s.1 11 4 := by rw [← h5, sR_at, pk_us, e4 11 (by omega), e3 11 (by omega), e2 11 (by omega), e1 11 (by omega)]
  have e5b : s5.1 3 0 = s.1 11 0 := by rw [← h5, sR_at, pk_un (by omega), e4 3 (by omega), e3 3 (by omega), e2 3 (by omega)]; exact e1a
  have q5 : ∀ k, k ≠ 3 → k ≠ 4 → k ≠ 5 → k ≠ 6 → s5.1 k = s.1 k := fun k a b c d => by rw [e5 k a, e4 k d, e3 k c, e2 k b, e1 k a]
  rw [nm_d]
  generalize h6 : sR s5 7 (F8 (s5.1 15) (s5.1 7)) = s6
  have e6 : ∀ k, k ≠ 7 → s6.1 k = s5.1 k := fun k hk => by rw [← h6]; exact sR_ne _ _ hk
  have e6a : ∀ j, j < 8 → s6.1 7 j = s.1 15 j := fun j hj => by rw [← h6, sR_at, k8 _ _ j hj, q5 15 (by omega) (by omega) (by omega) (by omega)]
  rw [nm_d]
  generalize h7 : sR s6 8 (F8 (s6.1 16) (s6.1 8)) = s7
  have e7 : ∀ k, k ≠ 8 → s7.1 k = s6.1 k := fun k hk => by rw [← h7]; exact sR_ne _ _ hk
  have e7a : ∀ j, j < 8 → s7.1 8 j = s.1 16 j := fun j hj => by rw [← h7, sR_at, k8 _ _ j hj, e6 16 (by omega), q5 16 (by omega) (by omega) (by omega) (by omega)]
  rw [nm_d]
  generalize h8 : sR s7 9 (F8 (s7.1 17) (s7.1 9)) = s8
  have e8 : ∀ k, k ≠ 9 → s8.1 k = s7.1 k := fun k hk => by rw [← h8]; exact sR_ne _ _ hk
  have e8a : ∀ j, j < 8 → s8.1 9 j = s.1 17 j := fun j hj => by rw [← h8, sR_at, k8 _ _ j hj, e7 17 (by omega), e6 17 (by omega), q5 17 (by omega) (by omega) (by omega) (by omega)]
  rw [nm_d]
  generalize h9 : sR s8 10 (F8 (s8.1 18) (s8.1 10)) = s9
  have e9 : ∀ k, k ≠ 10 → s9.1 k = s8.1 k := fun k hk => by rw [← h9]; exact sR_ne _ _ hk
  have e9a : ∀ j, j < 8 → s9.1 10 j = s.1 18 j := fun j hj => by rw [← h9, sR_at, k8 _ _ j hj, e8 18 (by omega), e7 18 (by omega), e6 18 (by omega), q5 18 (by omega) (by omega) (by omega) (by omega)]
  have q9 : ∀ k, k ≠ 7 → k ≠ 8 → k ≠ 9 → k ≠ 10 → s9.1 k = s5.1 k := fun k a b c d => by rw [e9 k d, e8 k c, e7 k b, e6 k a]
  refine ⟨s9, rfl, fun k hk => ?_, ?_, ?_, fun j hj => ⟨?_, ?_, ?_⟩, fun j hj => ⟨?_, ?_, ?_, e9a j hj⟩⟩
  · rw [q9 k (by omega) (by omega) (by omega) (by omega), q5 k (by omega) (by omega) (by omega) (by omega)]
  · rw [q9 3 (by omega) (by omega) (by omega) (by omega)]; exact e5b
  · rw [q9 3 (by omega) (by omega) (by omega) (by omega)]; exact e5a
  · rw [q9 4 (by omega) (by omega) (by omega) (by omega), e5 4 (by omega), e4 4 (by omega), e3 4 (by omega)]; exact e2a j hj
  · rw [q9 5 (by omega) (by omega) (by omega) (by omega), e5 5 (by omega), e4 5 (by omega)]; exact e3a j hj
  · rw [q9 6 (by omega) (by omega) (by omega) (by omega), e5 6 (by omega)]; exact e4a j hj
  · rw [e9 7 (by omega), e8 7 (by omega), e7 7 (by omega)]; exact e6a j hj
  · rw [e9 8 (by omega), e8 8 (by omega)]; exact e7a j hj
  · rw [e9 9 (by omega)]; exact e8a j hj
theorem bgC {S : Nat} {s : St} (hS : S ≤ 8) (hs : s.1 3 4 = nI S) : ∃ s', f_X0_beginAnew s = some s' ∧ (∀ k, k < 19 ∨ 26 < k → s'.1 k = s.1 k) ∧ (∀ j, j ≠ 2 → j ≠ 5 → j ≠ 6 → s'.1 19 j = s.1 19 j) ∧ s'.1 19 2 = 0 ∧ s'.1 19 5 = 0 ∧ s'.1 19 6 = 0 ∧ (∀ j, j < 8 → s'.1 21 j = 0) ∧ (∀ j, j < 5 → s'.1 25 j = 0 ∧ s'.1 26 j = 0) ∧ s'.1 20 2 = -1 ∧ s'.1 20 3 = -1 ∧ s'.1 20 4 = -1 ∧ s'.1 20 5 = 0 ∧ laid S 20 s' := by
  unfold f_X0_beginAnew f_X1_beginAnew
  obtain ⟨s1, a1, -, a2, a3, -⟩ := fillI (r := 20 + 1) (n := 8) (by omega) 0 s
  rw [a1, bv_s, nm_d]
  obtain ⟨s2, b1, L⟩ := mkN (a := 20) (by omega) hS (σ := sI s1 20 5 0) (by rw [sR_ne _ _ (by omega), a2 3 (by omega)]; exact hs) (-1) (-1) (-1)
  rw [b1, bv_s, bv_s, nm_d]
  have ld := L.laid (by omega)
  have g : ∀ k, k ≠ 20 → k ≠ 21 → k ≠ 22 → k ≠ 23 → k ≠ 24 → s2.1 k = s.1 k := fun k k0 k1 k2 k3 k4 => by rw [L.1 k k2 k3 k4, sR_ne _ _ k0, sR_ne _ _ k0, sR_ne _ _ k0, sR_ne _ _ k0, a2 k k1]
  have g20 : s2.1 20 = upd (upd (upd (upd (s.1 20) 5 0) 2 (-1)) 3 (-1)) 4 (-1) := by
    rw [L.1 20 (by omega) (by omega) (by omega), sR_at, sR_at, sR_at, sR_at, a2 20 (by omega)]
  have g21 : ∀ j, j < 8 → s2.1 21 j = 0 := fun j hj => by
    rw [L.1 21 (by omega) (by omega) (by omega), sR_ne _ _ (by omega), sR_ne _ _ (by omega), sR_ne _ _ (by omega), sR_ne _ _ (by omega)]; exact a3 j hj
  obtain ⟨s3, c1, -, c2, c3, -⟩ := fillI (r := 25) (n := 5) (by omega) 0 (sI s2 19 2 0)
  rw [c1, bv_s]
  obtain ⟨s4, d1, -, d2, d3, -⟩ := fillI (r := 26) (n := 5) (by omega) 0 s3
  rw [d1, bv_s, nm_d, nm_d]
  have h : ∀ k, k ≠ 19 → k ≠ 25 → k ≠ 26 → (sI (sI s4 19 5 0) 19 6 0).1 k = s2.1 k := fun k k0 k1 k2 => by rw [sR_ne _ _ k0, sR_ne _ _ k0, d2 k k2, c2 k k1, sR_ne _ _ k0]
  have h19 : (sI (sI s4 19 5 0) 19 6 0).1 19 = upd (upd (upd (s.1 19) 2 0) 5 0) 6 0 := by rw [sR_at, sR_at, d2 19 (by omega), c2 19 (by omega), sR_at, g 19 (by omega) (by omega) (by omega) (by omega) (by omega)]
  have h20 := h 20 (by omega) (by omega) (by omega)
  refine ⟨_, rfl, fun k hk => ?_, fun j j1 j2 j3 => ?_, by rw [h19]; rfl, by rw [h19]; rfl, by rw [h19]; rfl, fun j hj => by rw [h 21 (by omega) (by omega) (by omega)]; exact g21 j hj, fun j hj => ⟨?_, ?_⟩, by rw [h20, g20]; rfl, by rw [h20, g20]; rfl, by rw [h20, g20]; rfl, by rw [h20, g20]; rfl, ld.cg (fun k k1 k2 => h k (by omega) (by omega) (by omega)) (fun k k1 k2 => h k (by omega) (by omega) (by omega)) (by rw [h20]) (by rw [h20]) (by rw [h20])⟩
  · rw [h k (by omega) (by omega) (by omega), g k (by omega) (by omega) (by omega) (by omega) (by omega)]
  · rw [h19, pk_un j3, pk_un j2, pk_un j1]
  · rw [sR_ne _ _ (by omega), sR_ne _ _ (by omega), d2 25 (by omega)]; exact c3 j hj
  · rw [sR_ne _ _ (by omega), sR_ne _ _ (by omega)]; exact d3 j hj
