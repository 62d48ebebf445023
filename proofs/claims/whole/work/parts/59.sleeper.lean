/-! ===== pure: a sleeper, both sides (own work) ===== -/
theorem sleeper2 {n p H S : Nat} {T : Nat → Nat} {v : Nat → Nat → Nat} {s t : St} (X : RR n T p s t) (D : DR H S v s t) (hS : S < 8) (x1 : Int32) : ∃ (s' : St) (f : Nat) (t' : St), f_X4_readSleeper x1 s = some s' ∧ bd (f_X8_takeSleeper t) (fun r σ => f_X8_takeClause_136 r σ) = some (nI f, t') ∧ RES n T p s t f s' t' := by
  obtain ⟨B, d1, d2, d3, d4, d5, d6⟩ := D
  have hH := B.1
  have m30 : (sI t 0 34 (nI (S + 1))).1 0 30 = nI H := by rw [sR_at, pk_un (by omega)]; exact d3
  unfold f_X4_readSleeper f_X8_takeSleeper f_X8_takeSleeper_54 f_X8_takeSleeper_75
  simp only [nm_d, d1, d2, d4, ck_n hS (show 8 < 2 ^ 31 by omega), nI_clamp (show S < 2 ^ 31 by omega), nI_1, m30]
  rw [if_pos (show nI S < 8 from nI_lt (b := 8) hS (by omega))]
  generalize ht0 : sI t 0 34 (nI (S + 1)) = t0
  have m0 : FM t t0 := by rw [← ht0]; exact FM.s0 t (by omega) _
  have m1 : ∀ k, k ≠ 0 → t0.1 k = t.1 k := fun k hk => by rw [← ht0]; exact sR_ne _ _ hk
  have m2 : ∀ j, j ≠ 34 → t0.1 0 j = t.1 0 j := fun j hj => by rw [← ht0, sR_at, pk_un hj]
  have m3 : t0.1 0 34 = nI (S + 1) := by rw [← ht0, sR_at, pk_us]
  have X0 : RR n T p s t0 := ⟨X.1.fr (FC.rf s) m0, X.2.1, X.2.2.1, by rw [m2 25 (by omega)]; exact X.2.2.2.1, X.2.2.2.2⟩
  rcases fld X0 0 (nI H - 1) (kc := 15) (km := 17) (N := 8) (z := S) (by omega) (by omega) hS (by omega) with ⟨v3, q1, s1, t1, a1, a2, a3, a4, a5, a6, X1, F1, G1⟩ | ⟨x, f, b, s1, t1, a1, a2, a3, a4, a5⟩
  · rw [a1, bd_s, a2, bd_s, if_pos le00]
    rcases fld X1 60 600 (kc := 16) (km := 18) (N := 8) (z := S) (by omega) (by omega) hS (by omega) with ⟨v4, q2, s2, t2, b1, b2, b3, b4, b5, b6, X2, F2, G2⟩ | ⟨x, f, b, s2, t2, b1, b2, b3, b4, b5⟩
    · rw [b1, bd_s, b2, bd_s, if_pos le00]
      rcases fld X2 0 59 (kc := 17) (km := 19) (N := 8) (z := S) (by omega) (by omega) hS (by omega) with ⟨v5, q3, s3, t3, c1, c2, c3, c4, c5, c6, X3, F3, G3⟩ | ⟨x, f, b, s3, t3, c1, c2, c3, c4, c5⟩
      · rw [c1, bd_s, c2, bd_s, if_pos le00]
        rcases fld X3 0 9 (kc := 18) (km := 20) (N := 8) (z := S) (by omega) (by omega) hS (by omega) with ⟨v6, q4, s4, t4, k1, k2, k3, k4, k5, k6, X4, F4, G4⟩ | ⟨x, f, b, s4, t4, k1, k2, k3, k4, k5⟩
        · rw [k1, bd_s, k2, bd_s, bd_s]
          have fC : FC s (sI s4 18 S (nI v6)) := (((F1.fc (by omega)).tr (F2.fc (by omega))).tr (F3.fc (by omega))).tr (F4.fc (by omega))
          have fM : FM t t4 := (((m0.tr (G1.fm (by omega))).tr (G2.fm (by omega))).tr (G3.fm (by omega))).tr (G4.fm (by omega))
          rcases end2 X4 with ⟨q, s5, t5, e1, e2, e3, X5, e5, e6, e7, e8⟩ | ⟨f, b, s5, t5, e1, e2, e3, e4, e5⟩
          · rw [e1, bv_s]
            obtain ⟨w, w3, w4, w5, w6, wr⟩ := ext4 v S v3 v4 v5 v6
            refine ⟨_, 0, t5, rfl, e2, Or.inl ⟨rfl, q, H, S + 1, w, by omega, ⟨X5.1.fr (FC.st s5 (by omega) _ _) (FM.rf t5), X5.2.1, ?_, X5.2.2.2.1, ?_⟩, ⟨⟨B.1, by omega, fun h hh => ?_, fun i hi => ?_⟩, ?_, ?_, ?_, ?_, fun h hh => ?_, fun i hi => ?_⟩, (fC.tr ⟨fun k k1 _ => e5 k k1, fun j j1 _ _ => e6 j j1⟩).tr (FC.st s5 (by omega) _ _), fM.tr ⟨fun k k1 _ => e7 k k1, fun j j1 => e8 j (by omega)⟩, ?_, ?_⟩⟩
            · rw [sR_ne _ _ (by omega)]; exact X5.2.2.1
            · rw [sR_ne _ _ (by omega)]; exact X5.2.2.2.2
            · rw [wr 0 h (by omega), wr 1 h (by omega), wr 2 h (by omega)]
              exact B.2.2.1 h hh
            · by_cases z : i = S
              · subst z
                rw [w3, w4, w5, w6]
                refine ⟨?_, (nI_leI (a := 60) (by omega) (by omega)).mp b3, (nI_leI (b := 600) (by omega) (by omega)).mp b4, (nI_leI (b := 59) (by omega) (by omega)).mp c4, (nI_leI (b := 9) (by omega) (by omega)).mp k4⟩
                rw [le_toInt, show (nI H - 1 : Int32) = nI H - nI 1 from rfl, pk_sub_toInt (by omega) (by omega), nI_toInt (by omega)] at a4
                omega
              · rw [wr 3 i (Or.inl z), wr 4 i (Or.inl z), wr 5 i (Or.inl z), wr 6 i (Or.inl z)]; exact B.2.2.2 i (by omega)
            · rw [sR_at, pk_un (by omega), e5 11 (by omega), F4.2.1 11 (by omega) (by omega), F3.2.1 11 (by omega) (by omega), F2.2.1 11 (by omega) (by omega), F1.2.1 11 (by omega) (by omega)]; exact d1
            · rw [sR_at, pk_us]
            · rw [e8 30 (by omega), G4.2.2 30 (by omega), G3.2.2 30 (by omega), G2.2.2 30 (by omega), G1.2.2 30 (by omega), m2 30 (by omega)]; exact d3
            · rw [e8 34 (by omega), G4.2.2 34 (by omega), G3.2.2 34 (by omega), G2.2.2 34 (by omega), G1.2.2 34 (by omega)]; exact m3
            · rw [wr 0 h (by omega), wr 1 h (by omega), wr 2 h (by omega)]
              have fr : ∀ k, 11 < k → k < 15 → (sI s5 11 4 (nI (S + 1))).1 k = s.1 k := fun k hk hk2 => by rw [sR_ne _ _ (by omega), e5 k (by omega), F4.2.1 k (by omega) (by omega), F3.2.1 k (by omega) (by omega), F2.2.1 k (by omega) (by omega), F1.2.1 k (by omega) (by omega)]
              have fr2 : ∀ k, 0 < k → k < 17 → t5.1 k = t.1 k := fun k hk hk2 => by rw [e7 k (by omega), G4.2.1 k (by omega) (by omega), G3.2.1 k (by omega) (by omega), G2.2.1 k (by omega) (by omega), G1.2.1 k (by omega) (by omega), m1 k (by omega)]
              rw [fr 12 (by omega) (by omega), fr 13 (by omega) (by omega), fr 14 (by omega) (by omega), fr2 14 (by omega) (by omega), fr2 15 (by omega) (by omega), fr2 16 (by omega) (by omega)]
              exact d5 h hh
            · have r15 : (sI s5 11 4 (nI (S + 1))).1 15 = upd (s.1 15) S (nI v3) := by rw [sR_ne _ _ (by omega), e5 15 (by omega), F4.2.1 15 (by omega) (by omega), F3.2.1 15 (by omega) (by omega), F2.2.1 15 (by omega) (by omega), F1.1]
              have r16 : (sI s5 11 4 (nI (S + 1))).1 16 = upd (s.1 16) S (nI v4) := by rw [sR_ne _ _ (by omega), e5 16 (by omega), F4.2.1 16 (by omega) (by omega), F3.2.1 16 (by omega) (by omega), F2.1, F1.2.1 16 (by omega) (by omega)]
              have r17 : (sI s5 11 4 (nI (S + 1))).1 17 = upd (s.1 17) S (nI v5) := by rw [sR_ne _ _ (by omega), e5 17 (by omega), F4.2.1 17 (by omega) (by omega), F3.1, F2.2.1 17 (by omega) (by omega), F1.2.1 17 (by omega) (by omega)]
              have r18 : (sI s5 11 4 (nI (S + 1))).1 18 = upd (s.1 18) S (nI v6) := by rw [sR_ne _ _ (by omega), e5 18 (by omega), F4.1, F3.2.1 18 (by omega) (by omega), F2.2.1 18 (by omega) (by omega), F1.2.1 18 (by omega) (by omega)]
              have u17 : t5.1 17 = upd (t.1 17) S (nI v3) := by rw [e7 17 (by omega), G4.2.1 17 (by omega) (by omega), G3.2.1 17 (by omega) (by omega), G2.2.1 17 (by omega) (by omega), G1.1, m1 17 (by omega)]
              have u18 : t5.1 18 = upd (t.1 18) S (nI v4) := by rw [e7 18 (by omega), G4.2.1 18 (by omega) (by omega), G3.2.1 18 (by omega) (by omega), G2.1, G1.2.1 18 (by omega) (by omega), m1 18 (by omega)]
              have u19 : t5.1 19 = upd (t.1 19) S (nI v5) := by rw [e7 19 (by omega), G4.2.1 19 (by omega) (by omega), G3.1, G2.2.1 19 (by omega) (by omega), G1.2.1 19 (by omega) (by omega), m1 19 (by omega)]
              have u20 : t5.1 20 = upd (t.1 20) S (nI v6) := by rw [e7 20 (by omega), G4.1, G3.2.1 20 (by omega) (by omega), G2.2.1 20 (by omega) (by omega), G1.2.1 20 (by omega) (by omega), m1 20 (by omega)]
              rw [r15, r16, r17, r18, u17, u18, u19, u20]
              by_cases z : i = S
              · subst z
                rw [w3, w4, w5, w6]
                simp only [pk_us]
                exact ⟨trivial, trivial, trivial, trivial, trivial, trivial, trivial, trivial⟩
              · rw [wr 3 i (Or.inl z), wr 4 i (Or.inl z), wr 5 i (Or.inl z), wr 6 i (Or.inl z)]
                simp only [pk_un z]
                exact d6 i (by omega)
            · rw [sR_ne _ _ (by omega), e6 5 (by omega), F4.2.2 5 (by omega) (by omega), F3.2.2 5 (by omega) (by omega), F2.2.2 5 (by omega) (by omega), F1.2.2 5 (by omega) (by omega)]
            · rw [e8 24 (by omega), G4.2.2 24 (by omega), G3.2.2 24 (by omega), G2.2.2 24 (by omega), G1.2.2 24 (by omega), m2 24 (by omega)]
          · rw [e1, bv_s]
            exact ⟨_, f, t5, rfl, e2, Or.inr ⟨b, (BD.from fC e3).st (k := 11) (by omega) 4 _, e4, fM.tr e5⟩⟩
        · have g1 := ((k3).st (k := 18) (by omega) S x)
          rw [k1, bd_s, g1.re, bv_s, k2, bd_s, bd_s]
          obtain ⟨w1, w2⟩ := bad2 (p := p) (T := T) (t := t) ((BD.from (((F1.fc (by omega)).tr (F2.fc (by omega))).tr (F3.fc (by omega))) g1).st (k := 11) (by omega) 4 (nI (S + 1))) k4 ((((m0.tr (G1.fm (by omega))).tr (G2.fm (by omega))).tr (G3.fm (by omega))).tr k5)
          exact ⟨_, f, _, rfl, w1, w2⟩
      · have g1 := ((c3).st (k := 17) (by omega) S x)
        have g2 := (g1.st (k := 18) (by omega) S 0)
        have hf := c3.1
        rw [c1, bd_s, g1.rn, bd_s, g2.re, bv_s, c2, bd_s, if_neg (nI_nle (by omega) (by omega)), bd_s]
        obtain ⟨w1, w2⟩ := bad2 (p := p) (T := T) (t := t) ((BD.from ((F1.fc (by omega)).tr (F2.fc (by omega))) g2).st (k := 11) (by omega) 4 (nI (S + 1))) c4 ((((m0.tr (G1.fm (by omega))).tr (G2.fm (by omega))).tr c5))
        exact ⟨_, f, _, rfl, w1, w2⟩
    · have g1 := ((b3).st (k := 16) (by omega) S x)
      have g2 := (g1.st (k := 17) (by omega) S 0)
      have g3 := (g2.st (k := 18) (by omega) S 0)
      have hf := b3.1
      rw [b1, bd_s, g1.rn, bd_s, g2.rn, bd_s, g3.re, bv_s, b2, bd_s, if_neg (nI_nle (by omega) (by omega)), if_neg (nI_nle (by omega) (by omega)), bd_s]
      obtain ⟨w1, w2⟩ := bad2 (p := p) (T := T) (t := t) ((BD.from (F1.fc (by omega)) g3).st (k := 11) (by omega) 4 (nI (S + 1))) b4 ((m0.tr (G1.fm (by omega))).tr b5)
      exact ⟨_, f, _, rfl, w1, w2⟩
  · have g1 := (a3.st (k := 15) (by omega) S x)
    have g2 := (g1.st (k := 16) (by omega) S 0)
    have g3 := (g2.st (k := 17) (by omega) S 0)
    have g4 := (g3.st (k := 18) (by omega) S 0)
    have hf := a3.1
    rw [a1, bd_s, g1.rn, bd_s, g2.rn, bd_s, g3.rn, bd_s, g4.re, bv_s, a2, bd_s, if_neg (nI_nle (by omega) (by omega)), if_neg (nI_nle (by omega) (by omega)), if_neg (nI_nle (by omega) (by omega)), bd_s]
    obtain ⟨w1, w2⟩ := bad2 (p := p) (T := T) (t := t) (g4.st (k := 11) (by omega) 4 (nI (S + 1))) a4 (m0.tr a5)
    exact ⟨_, f, _, rfl, w1, w2⟩
