/-! ===== pure: a house and a sleeper, both sides (own work) ===== -/
def DR (H S : Nat) (v : Nat → Nat → Nat) (s t : St) : Prop := VB H S v ∧ s.1 11 0 = nI H ∧ s.1 11 4 = nI S ∧ t.1 0 30 = nI H ∧ t.1 0 34 = nI S ∧ (∀ h, h < H → s.1 12 h = nI (v 0 h) ∧ s.1 13 h = nI (v 1 h) ∧ s.1 14 h = nI (v 2 h) ∧ t.1 14 h = nI (v 0 h) ∧ t.1 15 h = nI (v 1 h) ∧ t.1 16 h = nI (v 2 h)) ∧ ∀ i, i < S → s.1 15 i = nI (v 3 i) ∧ s.1 16 i = nI (v 4 i) ∧ s.1 17 i = nI (v 5 i) ∧ s.1 18 i = nI (v 6 i) ∧ t.1 17 i = nI (v 3 i) ∧ t.1 18 i = nI (v 4 i) ∧ t.1 19 i = nI (v 5 i) ∧ t.1 20 i = nI (v 6 i)
theorem DR.cg {H S : Nat} {v : Nat → Nat → Nat} {s t s' t' : St} (D : DR H S v s t) (h : ∀ k, 11 ≤ k → k ≤ 18 → s'.1 k = s.1 k) (g : ∀ k, 14 ≤ k → k ≤ 20 → t'.1 k = t.1 k) (g1 : t'.1 0 30 = t.1 0 30) (g2 : t'.1 0 34 = t.1 0 34) : DR H S v s' t' := by
  unfold DR
  rw [h 11 (by omega) (by omega), h 12 (by omega) (by omega), h 13 (by omega) (by omega), h 14 (by omega) (by omega), h 15 (by omega) (by omega), h 16 (by omega) (by omega), h 17 (by omega) (by omega), h 18 (by omega) (by omega), g 14 (by omega) (by omega), g 15 (by omega) (by omega), g 16 (by omega) (by omega), g 17 (by omega) (by omega), g 18 (by omega) (by omega), g 19 (by omega) (by omega), g 20 (by omega) (by omega), g1, g2]
  exact D
def RES (n : Nat) (T : Nat → Nat) (p : Nat) (s t : St) (f : Nat) (s' t' : St) : Prop := (f = 0 ∧ ∃ q H S v, p < q ∧ RR n T q s' t' ∧ DR H S v s' t' ∧ FC s s' ∧ FM t t' ∧ s'.1 1 5 = s.1 1 5 ∧ t'.1 0 24 = t.1 0 24) ∨ ∃ b, BD n f b s s' ∧ t'.1 0 24 = nI b ∧ FM t t'
theorem RES.from {n p e f : Nat} {T : Nat → Nat} {s0 t0 s t s' t' : St} (R : RES n T e s t f s' t') (hp : p ≤ e) (h : FC s0 s) (g : FM t0 t) (h5 : s.1 1 5 = s0.1 1 5) (g4 : t.1 0 24 = t0.1 0 24) : RES n T p s0 t0 f s' t' := by
  rcases R with ⟨a, q, H, S, v, a1, a2, a3, a4, a5, a6, a7⟩ | ⟨b, a1, a2, a3⟩
  · exact Or.inl ⟨a, q, H, S, v, by omega, a2, a3, h.tr a4, g.tr a5, a6.trans h5, a7.trans g4⟩
  · exact Or.inr ⟨b, BD.from h a1, a2, g.tr a3⟩
theorem bad2 {n p f b : Nat} {T : Nat → Nat} {s t s' t1 : St} (h : BD n f b s s') (a4 : t1.1 0 24 = nI b) (a5 : FM t t1) : f_X8_takeClause_136 (nI f) t1 = some (nI f, sI t1 0 25 (t1.1 0 25 + 1)) ∧ RES n T p s t f s' (sI t1 0 25 (t1.1 0 25 + 1)) := by
  have hf := h.1
  constructor
  · unfold f_X8_takeClause_136 f_X8_takeClause_160
    rw [if_neg (nI_ne0 (by omega) (by omega)), nm_d]
  · exact Or.inr ⟨b, h, by rw [sR_at, pk_un (by omega)]; exact a4, a5.tr (FM.s0 t1 (by omega) _)⟩
theorem ext3 (v : Nat → Nat → Nat) (H v0 v1 v2 : Nat) : ∃ w : Nat → Nat → Nat, w 0 H = v0 ∧ w 1 H = v1 ∧ w 2 H = v2 ∧ ∀ a h, h ≠ H ∨ 3 ≤ a → w a h = v a h := ⟨fun a h => if h = H ∧ a < 3 then (if a = 0 then v0 else if a = 1 then v1 else v2) else v a h, by simp, by simp, by simp, fun a h hh => if_neg (by omega)⟩
theorem ext4 (v : Nat → Nat → Nat) (S v3 v4 v5 v6 : Nat) : ∃ w : Nat → Nat → Nat, w 3 S = v3 ∧ w 4 S = v4 ∧ w 5 S = v5 ∧ w 6 S = v6 ∧ ∀ a h, h ≠ S ∨ a < 3 → w a h = v a h := ⟨fun a h => if h = S ∧ 3 ≤ a then (if a = 3 then v3 else if a = 4 then v4 else if a = 5 then v5 else v6) else v a h, by simp, by simp, by simp, by simp, fun a h hh => if_neg (by omega)⟩
theorem le00 : (0 : Int32) ≤ 0 := by decide
theorem house2 {n p H S : Nat} {T : Nat → Nat} {v : Nat → Nat → Nat} {s t : St} (X : RR n T p s t) (D : DR H S v s t) (hH : H < 5) (x1 : Int32) : ∃ (s' : St) (f : Nat) (t' : St), f_X4_readHouse x1 s = some s' ∧ bd (f_X8_takeHouse t) (fun r σ => f_X8_takeClause_136 r σ) = some (nI f, t') ∧ RES n T p s t f s' t' := by
  obtain ⟨B, d1, d2, d3, d4, d5, d6⟩ := D
  unfold f_X4_readHouse f_X8_takeHouse f_X8_takeHouse_49
  simp only [nm_d, d1, d3, ck_n hH (show 5 < 2 ^ 31 by omega), nI_clamp (show H < 2 ^ 31 by omega), nI_1]
  rw [if_pos (show nI H < 5 from nI_lt (b := 5) hH (by omega))]
  generalize ht0 : sI t 0 30 (nI (H + 1)) = t0
  have m0 : FM t t0 := by rw [← ht0]; exact FM.s0 t (by omega) _
  have m1 : ∀ k, k ≠ 0 → t0.1 k = t.1 k := fun k hk => by rw [← ht0]; exact sR_ne _ _ hk
  have m2 : ∀ j, j ≠ 30 → t0.1 0 j = t.1 0 j := fun j hj => by rw [← ht0, sR_at, pk_un hj]
  have m3 : t0.1 0 30 = nI (H + 1) := by rw [← ht0, sR_at, pk_us]
  have X0 : RR n T p s t0 := ⟨X.1.fr (FC.rf s) m0, X.2.1, X.2.2.1, by rw [m2 25 (by omega)]; exact X.2.2.2.1, X.2.2.2.2⟩
  rcases fld X0 1 7 (kc := 12) (km := 14) (N := 5) (z := H) (by omega) (by omega) hH (by omega) with ⟨v0, q1, s1, t1, a1, a2, a3, a4, a5, a6, X1, F1, G1⟩ | ⟨x, f, b, s1, t1, a1, a2, a3, a4, a5⟩
  · rw [a1, bd_s, a2, bd_s, if_pos le00]
    rcases fld X1 0 999 (kc := 13) (km := 15) (N := 5) (z := H) (by omega) (by omega) hH (by omega) with ⟨v1, q2, s2, t2, b1, b2, b3, b4, b5, b6, X2, F2, G2⟩ | ⟨x, f, b, s2, t2, b1, b2, b3, b4, b5⟩
    · rw [b1, bd_s, b2, bd_s, if_pos le00]
      rcases fld X2 0 60 (kc := 14) (km := 16) (N := 5) (z := H) (by omega) (by omega) hH (by omega) with ⟨v2, q3, s3, t3, c1, c2, c3, c4, c5, c6, X3, F3, G3⟩ | ⟨x, f, b, s3, t3, c1, c2, c3, c4, c5⟩
      · rw [c1, bd_s, c2, bd_s, bd_s]
        have fC : FC s (sI s3 14 H (nI v2)) := ((F1.fc (by omega)).tr (F2.fc (by omega))).tr (F3.fc (by omega))
        have fM : FM t t3 := ((m0.tr (G1.fm (by omega))).tr (G2.fm (by omega))).tr (G3.fm (by omega))
        rcases end2 X3 with ⟨q, s4, t4, e1, e2, e3, X4, e5, e6, e7, e8⟩ | ⟨f, b, s4, t4, e1, e2, e3, e4, e5⟩
        · rw [e1, bv_s]
          obtain ⟨w, w0, w1, w2, wr⟩ := ext3 v H v0 v1 v2
          refine ⟨_, 0, t4, rfl, e2, Or.inl ⟨rfl, q, H + 1, S, w, by omega, ⟨X4.1.fr (FC.st s4 (by omega) _ _) (FM.rf t4), X4.2.1, ?_, X4.2.2.2.1, ?_⟩, ⟨⟨by omega, B.2.1, fun h hh => ?_, fun i hi => ?_⟩, ?_, ?_, ?_, ?_, fun h hh => ?_, fun i hi => ?_⟩, (fC.tr ⟨fun k k1 _ => e5 k k1, fun j j1 _ _ => e6 j j1⟩).tr (FC.st s4 (by omega) _ _), fM.tr ⟨fun k k1 _ => e7 k k1, fun j j1 => e8 j (by omega)⟩, ?_, ?_⟩⟩
          · rw [sR_ne _ _ (by omega)]; exact X4.2.2.1
          · rw [sR_ne _ _ (by omega)]; exact X4.2.2.2.2
          · by_cases z : h = H
            · subst z
              rw [w0, w1, w2]
              exact ⟨(nI_leI (a := 1) (by omega) (by omega)).mp a3, (nI_leI (b := 7) (by omega) (by omega)).mp a4, b5, (nI_leI (b := 60) (by omega) (by omega)).mp c4⟩
            · rw [wr 0 h (Or.inl z), wr 1 h (Or.inl z), wr 2 h (Or.inl z)]; exact B.2.2.1 h (by omega)
          · have := B.2.2.2 i hi
            rw [wr 3 i (by omega), wr 4 i (by omega), wr 5 i (by omega), wr 6 i (by omega)]
            exact ⟨by omega, this.2⟩
          · rw [sR_at, pk_us]
          · rw [sR_at, pk_un (by omega), e5 11 (by omega), F3.2.1 11 (by omega) (by omega), F2.2.1 11 (by omega) (by omega), F1.2.1 11 (by omega) (by omega)]; exact d2
          · rw [e8 30 (by omega), G3.2.2 30 (by omega), G2.2.2 30 (by omega), G1.2.2 30 (by omega)]; exact m3
          · rw [e8 34 (by omega), G3.2.2 34 (by omega), G2.2.2 34 (by omega), G1.2.2 34 (by omega), m2 34 (by omega)]; exact d4
          · rw [sR_ne _ _ (show 12 ≠ 11 by omega), sR_ne _ _ (show 13 ≠ 11 by omega), sR_ne _ _ (show 14 ≠ 11 by omega), e5 12 (by omega), e5 13 (by omega), e5 14 (by omega), F3.2.1 12 (by omega) (by omega), F3.2.1 13 (by omega) (by omega), F3.1, F2.2.1 12 (by omega) (by omega), F2.1, F2.2.1 14 (by omega) (by omega), F1.1, F1.2.1 13 (by omega) (by omega), F1.2.1 14 (by omega) (by omega)]
            rw [e7 14 (by omega), e7 15 (by omega), e7 16 (by omega), G3.2.1 14 (by omega) (by omega), G3.2.1 15 (by omega) (by omega), G3.1, G2.2.1 14 (by omega) (by omega), G2.1, G2.2.1 16 (by omega) (by omega), G1.1, G1.2.1 15 (by omega) (by omega), G1.2.1 16 (by omega) (by omega), m1 14 (by omega), m1 15 (by omega), m1 16 (by omega)]
            by_cases z : h = H
            · subst z
              rw [w0, w1, w2]
              simp only [pk_us]
              exact ⟨trivial, trivial, trivial, trivial, trivial, trivial⟩
            · rw [wr 0 h (Or.inl z), wr 1 h (Or.inl z), wr 2 h (Or.inl z)]
              simp only [pk_un z]
              exact d5 h (by omega)
          · rw [wr 3 i (by omega), wr 4 i (by omega), wr 5 i (by omega), wr 6 i (by omega)]
            have fr : ∀ k, 15 ≤ k → (sI s4 11 0 (nI (H + 1))).1 k = s.1 k := fun k hk => by rw [sR_ne _ _ (by omega), e5 k (by omega), F3.2.1 k (by omega) (by omega), F2.2.1 k (by omega) (by omega), F1.2.1 k (by omega) (by omega)]
            have fr2 : ∀ k, 17 ≤ k → t4.1 k = t.1 k := fun k hk => by rw [e7 k (by omega), G3.2.1 k (by omega) (by omega), G2.2.1 k (by omega) (by omega), G1.2.1 k (by omega) (by omega), m1 k (by omega)]
            rw [fr 15 (by omega), fr 16 (by omega), fr 17 (by omega), fr 18 (by omega), fr2 17 (by omega), fr2 18 (by omega), fr2 19 (by omega), fr2 20 (by omega)]
            exact d6 i hi
          · rw [sR_ne _ _ (by omega), e6 5 (by omega), F3.2.2 5 (by omega) (by omega), F2.2.2 5 (by omega) (by omega), F1.2.2 5 (by omega) (by omega)]
          · rw [e8 24 (by omega), G3.2.2 24 (by omega), G2.2.2 24 (by omega), G1.2.2 24 (by omega), m2 24 (by omega)]
        · rw [e1, bv_s]
          exact ⟨_, f, t4, rfl, e2, Or.inr ⟨b, (BD.from fC e3).st (k := 11) (by omega) 0 _, e4, fM.tr e5⟩⟩
      · have g1 := ((c3).st (k := 14) (by omega) H x)
        rw [c1, bd_s, g1.re, bv_s, c2, bd_s, bd_s]
        obtain ⟨w1, w2⟩ := bad2 (p := p) (T := T) (t := t) ((BD.from ((F1.fc (by omega)).tr (F2.fc (by omega))) g1).st (k := 11) (by omega) 0 (nI (H + 1))) c4 ((((m0.tr (G1.fm (by omega))).tr (G2.fm (by omega))).tr c5))
        exact ⟨_, f, _, rfl, w1, w2⟩
    · have g1 := ((b3).st (k := 13) (by omega) H x)
      have g2 := (g1.st (k := 14) (by omega) H 0)
      have hf := b3.1
      rw [b1, bd_s, g1.rn, bd_s, g2.re, bv_s, b2, bd_s, if_neg (nI_nle (by omega) (by omega)), bd_s]
      obtain ⟨w1, w2⟩ := bad2 (p := p) (T := T) (t := t) ((BD.from (F1.fc (by omega)) g2).st (k := 11) (by omega) 0 (nI (H + 1))) b4 ((m0.tr (G1.fm (by omega))).tr b5)
      exact ⟨_, f, _, rfl, w1, w2⟩
  · have g1 := (a3.st (k := 12) (by omega) H x)
    have g2 := (g1.st (k := 13) (by omega) H 0)
    have g3 := (g2.st (k := 14) (by omega) H 0)
    have hf := a3.1
    rw [a1, bd_s, g1.rn, bd_s, g2.rn, bd_s, g3.re, bv_s, a2, bd_s, if_neg (nI_nle (by omega) (by omega)), if_neg (nI_nle (by omega) (by omega)), bd_s]
    obtain ⟨w1, w2⟩ := bad2 (p := p) (T := T) (t := t) (g3.st (k := 11) (by omega) 0 (nI (H + 1))) a4 (m0.tr a5)
    exact ⟨_, f, _, rfl, w1, w2⟩
