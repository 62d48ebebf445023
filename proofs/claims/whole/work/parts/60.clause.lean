/-! ===== pure: a clause, both sides (own work) ===== -/
theorem codeM (a b c : Int32) (K : Int64) (h : ((27 * (((27 * (a.toInt64 - 96)) + b.toInt64) - 96)) + c.toInt64) - 96 = K) (σ : St) : f_X8_code a b c σ = some (K, σ) := by
  unfold f_X8_code; rw [h]
theorem longM (x : Int64) (b c : Int32) (K : Int64) (h : ((27 * (((27 * x) + b.toInt64) - 96)) + c.toInt64) - 96 = K) (σ : St) : f_X8_longer x b c σ = some (K, σ) := by
  unfold f_X8_longer; rw [h]
theorem clauseM {n p c e : Nat} {T : Nat → Nat} {s t : St} (X : TT n T s t) (hp : p < n) (hb : ¬ T p = 32) (e2 : t.1 0 25 = nI p) (he : ltr T (n - p) p = e) (hc : wc T p (e - p) = c) (hcb : c < 2 ^ 63) : (c = 4562600 → f_X8_takeClause t = f_X8_takeClause_79 1 (W2 t c e)) ∧ (c = 7535943612 → f_X8_takeClause t = f_X8_takeClause_79 0 (W2 t c e)) ∧ (¬ c = 4562600 → ¬ c = 7535943612 → f_X8_takeClause t = some (1, sI (W2 t c e) 0 24 (nI p))) := by
  unfold f_X8_takeClause
  rw [wordM X hp hb e2, he, hc, bv_s, codeM 104 111 117 (lN 6258) (by decide +kernel), bd_s, longM (lN 6258) 115 101 (lN 4562600) (by decide +kernel), bd_s, W2_26]
  unfold f_X8_takeClause_33
  rw [if_neg i10, if_pos rfl, codeM 115 108 101 (lN 14180) (by decide +kernel), bd_s, longM (lN 14180) 101 112 (lN 10337371) (by decide +kernel), bd_s, longM (lN 10337371) 101 114 (lN 7535943612) (by decide +kernel), bd_s, W2_26]
  have k1 : lg_cmp (lN c) (lN 4562600) = 0 ↔ c = 4562600 := by rw [lg_cmp_eq]; exact pk_lEQ hcb (by omega)
  have k2 : lg_cmp (lN c) (lN 7535943612) = 0 ↔ c = 7535943612 := by rw [lg_cmp_eq]; exact pk_lEQ hcb (by omega)
  refine ⟨fun h => ?_, fun h => ?_, fun h h2 => ?_⟩
  · rw [if_pos (k1.mpr h)]
  · rw [if_neg (fun w => by have := k1.mp w; omega), if_pos (k2.mpr h)]
  · rw [if_neg (fun w => h (k1.mp w)), if_neg (fun w => h2 (k2.mp w))]
    unfold f_X8_fails
    rw [W2_0 _ _ _ (by omega), e2, nm_d, bd_s]
theorem W2_fm (t : St) (c e : Nat) : FM t (W2 t c e) := ⟨fun k a _ => W2_1 t c e a, fun j a => W2_0 t c e (by omega)⟩
theorem clause2 {n p H S : Nat} {T : Nat → Nat} {v : Nat → Nat → Nat} {s t : St} (X : RR n T p s t) (hp : p < n) (hb : ¬ T p = 32) (D : DR H S v s t) : ∃ (s' : St) (f : Nat) (t' : St), f_X4_readClause s = some s' ∧ f_X8_takeClause t = some (nI f, t') ∧ RES n T p s t f s' t' := by
  obtain ⟨X1, -, e, e2, e4⟩ := X
  have hn := X1.1
  have hB := D.1
  obtain ⟨l1, l2, l3⟩ := ltr_b T (n - p) p
  obtain ⟨E, hE⟩ : ∃ E, ltr T (n - p) p = E := ⟨_, rfl⟩
  obtain ⟨c, hc⟩ : ∃ c, wc T p (E - p) = c := ⟨_, rfl⟩
  rw [hE] at l1 l2 l3
  have hcb : c < 2 ^ 63 := by
    have := wc_b (T := T) (p := p) (E - p) (fun j hj => l3 (p + j) (by omega) (by omega))
    omega
  obtain ⟨M1, M2, M3⟩ := clauseM X1 hp hb e2 hE hc hcb
  obtain ⟨w0, w1⟩ := wrd_code (T := T) l1 l3
  rw [hc] at w0 w1
  rw [wordC X1 (by omega) e, hE]
  have fC : FC s (sI s 1 3 (nI E)) := FC.of (gC.st s (by omega) _)
  have s3 : (sI s 1 3 (nI E)).1 1 3 = nI E := by rw [sR_at, pk_us]
  have s4 : (sI s 1 3 (nI E)).1 1 4 = 0 := by rw [sR_at, pk_un (by omega)]; exact e4
  have s5 : (sI s 1 3 (nI E)).1 1 5 = s.1 1 5 := by rw [sR_at, pk_un (by omega)]
  have s11 : ∀ k, k ≠ 1 → (sI s 1 3 (nI E)).1 k = s.1 k := fun k hk => sR_ne _ _ hk
  generalize sI s 1 3 (nI E) = s1 at fC s3 s4 s5 s11
  have fM := W2_fm t c E
  have t24 : (W2 t c E).1 0 24 = t.1 0 24 := W2_0 _ _ _ (by omega)
  have t25 : (W2 t c E).1 0 25 = nI p := by rw [W2_0 _ _ _ (by omega)]; exact e2
  have t27 : (W2 t c E).1 0 27 = nI E := W2_27 _ _ _
  have t30 : (W2 t c E).1 0 30 = nI H := by rw [W2_0 _ _ _ (by omega)]; exact D.2.2.2.1
  have t34 : (W2 t c E).1 0 34 = nI S := by rw [W2_0 _ _ _ (by omega)]; exact D.2.2.2.2.1
  have t1k : ∀ k, k ≠ 0 → (W2 t c E).1 k = t.1 k := fun k hk => W2_1 _ _ _ hk
  generalize W2 t c E = t1 at fM t24 t25 t27 t30 t34 t1k M1 M2 M3
  have XE := X1.fr fC fM
  unfold f_X4_readClause_57
  -- the state behind the word, on both sides
  have fM2 : FM t (sI t1 0 25 (nI E)) := fM.tr (FM.s0 t1 (by omega) _)
  have R2 : RR n T E s1 (sI t1 0 25 (nI E)) := ⟨X1.fr fC fM2, by omega, s3, by rw [sR_at, pk_us], s4⟩
  have D2 : DR H S v s1 (sI t1 0 25 (nI E)) := D.cg (fun k k1 k2 => s11 k (by omega)) (fun k k1 k2 => by rw [sR_ne _ _ (by omega)]; exact t1k k (by omega)) (by rw [sR_at, pk_un (by omega), t30]; exact D.2.2.2.1.symm) (by rw [sR_at, pk_un (by omega), t34]; exact D.2.2.2.2.1.symm)
  have t24' : (sI t1 0 25 (nI E)).1 0 24 = t.1 0 24 := by rw [sR_at, pk_un (by omega)]; exact t24
  -- too many
  have many : ∃ s', f_X4_note 3 (nI p) s1 = some s' ∧ RES n T p s t 3 s' (sI t1 0 24 (nI p)) := by
    obtain ⟨s', n1, n2⟩ := noteC (n := n) (f := 3) (b := p) (s0 := s) (by omega) fC (show E ≤ n by omega) s3
    exact ⟨s', n1, Or.inr ⟨p, n2, by rw [sR_at, pk_us], fM.tr (FM.s0 t1 (by omega) _)⟩⟩
  rcases isW (i := 0) XE (by omega) l1 (by omega) s3 with ⟨i1, i2⟩ | ⟨i1, i2⟩
  · rw [i2, bd_s, if_neg i10, M1 (w0.mp i1)]
    unfold f_X8_takeClause_79
    rw [if_neg i10, t30]
    by_cases hH : H < 5
    · obtain ⟨s', f, t', h1, h2, h3⟩ := house2 R2 D2 hH (nI p)
      rw [h1, bv_s, if_neg (show ¬ nI H = 5 from fun w => by have := (nI_eq (b := 5) (by omega) (by omega)).mp w; omega)]
      unfold f_X8_takeClause_113
      rw [nm_d, if_neg i10, t27]
      exact ⟨s', f, t', rfl, h2, h3.from l1 fC fM2 s5 t24'⟩
    · have : H = 5 := by have := hB.1; omega
      subst this
      obtain ⟨s', n1, n2⟩ := many
      unfold f_X4_readHouse f_X8_takeClause_103 f_X8_fails
      rw [nm_d, s11 11 (by omega), D.2.1, if_neg (show ¬ nI 5 < 5 from nI_nlt (b := 5) (by omega) (by omega)), n1, bv_s, bv_s, if_pos (show nI 5 = (5 : Int32) from rfl), t25, nm_d, bd_s]
      exact ⟨s', 3, _, rfl, rfl, n2⟩
  · rw [i2, bd_s, if_pos rfl]
    rcases isW (i := 1) XE (by omega) l1 (by omega) s3 with ⟨j1, j2⟩ | ⟨j1, j2⟩
    · rw [j2, bd_s, if_neg i10, M2 (w1.mp j1)]
      unfold f_X8_takeClause_79
      rw [if_pos rfl, t34]
      by_cases hS : S < 8
      · obtain ⟨s', f, t', h1, h2, h3⟩ := sleeper2 R2 D2 hS (nI p)
        rw [h1, bv_s, if_neg (show ¬ nI S = 8 from fun w => by have := (nI_eq (b := 8) (by omega) (by omega)).mp w; omega)]
        unfold f_X8_takeClause_113
        rw [nm_d, if_pos rfl, t27]
        exact ⟨s', f, t', rfl, h2, h3.from l1 fC fM2 s5 t24'⟩
      · have : S = 8 := by have := hB.2.1; omega
        subst this
        obtain ⟨s', n1, n2⟩ := many
        unfold f_X4_readSleeper f_X8_takeClause_103 f_X8_fails
        rw [nm_d, s11 11 (by omega), D.2.2.1, if_neg (show ¬ nI 8 < 8 from nI_nlt (b := 8) (by omega) (by omega)), n1, bv_s, bv_s, if_pos (show nI 8 = (8 : Int32) from rfl), t25, nm_d, bd_s]
        exact ⟨s', 3, _, rfl, rfl, n2⟩
    · rw [j2, bd_s, if_pos rfl, M3 (fun w => i1 (w0.mpr w)) (fun w => j1 (w1.mpr w))]
      obtain ⟨s', n1, n2⟩ := noteC (n := n) (f := 1) (b := p) (s0 := s) (by omega) fC (show E ≤ n by omega) s3
      have n1' : f_X4_note 1 (nI p) s1 = some s' := n1
      rw [n1', bv_s]
      exact ⟨s', 1, _, rfl, rfl, Or.inr ⟨p, n2, by rw [sR_at, pk_us], fM.tr (FM.s0 t1 (by omega) _)⟩⟩
