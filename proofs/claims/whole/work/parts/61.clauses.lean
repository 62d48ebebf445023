/-! ===== pure: all clauses, both sides (own work) ===== -/
theorem rd76 (n f b : Nat) (s0 s : St) (h : BD n f b s0 s) (rec : Int32 × St → Option (Int32 × St)) (x : Int32) : b_X4_readAll_37 rec x s = f_X4_readAll_76 s := by
  unfold b_X4_readAll_37
  have hf := h.1
  by_cases z : (400 : Int32) ≤ x
  · rw [if_pos z]
  · rw [if_neg z]
    by_cases w : s.1 1 1 ≤ s.1 1 3
    · rw [if_pos w]
    · rw [if_neg w, h.2.1, if_neg (nI_ne0 (by omega) (by omega))]
def GD (n : Nat) (T : Nat → Nat) (s0 t0 : St) (d : Nat) (a : Int32 × St) (b : Int32 × St) : Prop := ∃ c p p0 H S v, a.1 = nI c ∧ b.1 = 0 ∧ p + d = n + 1 ∧ c ≤ p ∧ p ≤ n ∧ TT n T a.2 b.2 ∧ a.2.1 1 3 = nI p ∧ p0 ≤ n ∧ b.2.1 0 25 = nI p0 ∧ skp T (n - p0) p0 = p ∧ a.2.1 1 4 = 0 ∧ DR H S v a.2 b.2 ∧ FC s0 a.2 ∧ FM t0 b.2 ∧ a.2.1 1 5 = s0.1 1 5 ∧ b.2.1 0 24 = t0.1 0 24
def ED (n : Nat) (s0 t0 : St) (z : St) (w : Int32 × St) : Prop := (w.1 = 0 ∧ z.1 1 4 = 0 ∧ ∃ H S v, DR H S v z w.2 ∧ FC s0 z ∧ FM t0 w.2 ∧ z.1 1 5 = s0.1 1 5 ∧ w.2.1 0 24 = t0.1 0 24) ∨ ∃ f b, w.1 = nI f ∧ BD n f b s0 z ∧ w.2.1 0 24 = nI b ∧ FM t0 w.2
theorem reads {n : Nat} {T : Nat → Nat} {s0 t0 s t : St} (A0 : GD n T s0 t0 (n + 1 - skp T n 0) (0, s) (0, t)) (hn : n ≤ 400) : ∃ (z : St) (w : Int32 × St), f_X4_readAll_37 0 s = f_X4_readAll_76 z ∧ f_X8_valley_22 0 t = f_X8_valley_41 w.1 w.2 ∧ ED n s0 t0 z w := by
  unfold f_X4_readAll_37 f_X8_valley_22
  refine lp_2x (fun d a b => GD n T s0 t0 d a b ∨ (∃ f c, b.1 = nI f ∧ BD n f c s0 a.2 ∧ b.2.1 0 24 = nI c ∧ FM t0 b.2)) (fun (z : St) => f_X4_readAll_76 z) (fun (w : Int32 × St) => f_X8_valley_41 w.1 w.2) (ED n s0 t0) ?_ 100000 (n + 1 - skp T n 0) _ _ (by omega) (Or.inl A0)
  rintro d rec rec2 ⟨x, s⟩ ⟨y, t⟩ hA ih
  show ∃ z w, b_X4_readAll_37 rec x s = _ ∧ b_X8_valley_22 rec2 y t = _ ∧ _
  rcases hA with ⟨c, p, p0, H, S, v, g1, g2, g3, g4, g5, g6, g7, g8, g9, g10, g11, g12, g13, g14, g15, g16⟩ | ⟨f, c, g1, g2, g3, g4⟩
  · have g1' : x = nI c := g1
    have g2' : y = 0 := g2
    subst g1'; subst g2'
    have e6 : TT n T s t := g6
    have e7 : s.1 1 3 = nI p := g7
    have e9 : t.1 0 25 = nI p0 := g9
    have e11 : s.1 1 4 = 0 := g11
    have e12 : DR H S v s t := g12
    have e13 : FC s0 s := g13
    have e14 : FM t0 t := g14
    have e15 : s.1 1 5 = s0.1 1 5 := g15
    have e16 : t.1 0 24 = t0.1 0 24 := g16
    unfold b_X4_readAll_37 b_X8_valley_22
    rw [if_pos rfl, hereM e6 g8 e9, bd_s, g10, e6.2.1, e7, e11, if_pos rfl, show (400 : Int32) = nI 400 from rfl]
    have m1 : FM t (sI t 0 25 (nI p)) := FM.s0 t (by omega) _
    have D1 : DR H S v s (sI t 0 25 (nI p)) := e12.cg (fun _ _ _ => rfl) (fun k k1 k2 => sR_ne _ _ (by omega)) (by rw [sR_at, pk_un (by omega)]) (by rw [sR_at, pk_un (by omega)])
    have t24 : (sI t 0 25 (nI p)).1 0 24 = t0.1 0 24 := by rw [sR_at, pk_un (by omega)]; exact e16
    by_cases hp : p < n
    · have hb : ¬ T p = 32 := by
        have := skp_b T (n - p0) p0
        rw [g10] at this
        exact this.2.2 (by omega)
      have R1 : RR n T p s (sI t 0 25 (nI p)) := ⟨e6.fr (FC.rf s) m1, by omega, e7, by rw [sR_at, pk_us], e11⟩
      have hT := (e6.2.2.2 p hp).1
      rw [if_neg (nI_ge (a := c) (b := 400) (by omega) (by omega)), if_neg (nI_ge hp (by omega)), hch, if_pos hp, if_neg (nI_pos (by omega))]
      obtain ⟨s', f, t', h1, h2, h3⟩ := clause2 R1 hp hb D1
      rw [h1, bv_s, h2, bd_s]
      rcases h3 with ⟨h4, q, H', S', v', h5, h6, h7, h8, h9, h10, h11⟩ | ⟨b, h5, h6, h7⟩
      · subst h4
        have hk := skp_b T (n - q) q
        have hq := h6.2.1
        rw [skipC h6.1 h6.2.1 h6.2.2.1, bv_s, nI_1]
        refine ih (n + 1 - skp T (n - q) q) _ _ (by omega) (Or.inl ⟨c + 1, skp T (n - q) q, q, H', S', v', rfl, rfl, by omega, by omega, by omega, h6.1.fr (FC.of (gC.st s' (by omega) _)) (FM.rf t'), ?_, hq, h6.2.2.2.1, rfl, ?_, h7.cg (fun k k1 k2 => sR_ne _ _ (by omega)) (fun _ _ _ => rfl) rfl rfl, (e13.tr h8).tr (FC.of (gC.st s' (by omega) _)), (e14.tr m1).tr h9, ?_, ?_⟩)
        · show (sI s' 1 3 (nI (skp T (n - q) q))).1 1 3 = _
          rw [sR_at, pk_us]
        · show (sI s' 1 3 (nI (skp T (n - q) q))).1 1 4 = 0
          rw [sR_at, pk_un (by omega)]; exact h6.2.2.2.2
        · show (sI s' 1 3 (nI (skp T (n - q) q))).1 1 5 = _
          rw [sR_at, pk_un (by omega), h10]; exact e15
        · show t'.1 0 24 = _
          rw [h11]; exact t24
      · obtain ⟨hf, b2, b3, b4, q, hq, b5⟩ := h5
        have X2 := e6.fr b4 (m1.tr h7)
        have hk := skp_b T (n - q) q
        rw [skipC X2 hq b5, bv_s]
        refine ih 0 _ _ (by omega) (Or.inr ⟨f, b, rfl, ⟨hf, ?_, ?_, (e13.tr b4).tr (FC.of (gC.st s' (by omega) _)), skp T (n - q) q, by omega, ?_⟩, h6, (e14.tr m1).tr h7⟩)
        · show (sI s' 1 3 (nI (skp T (n - q) q))).1 1 4 = _
          rw [sR_at, pk_un (by omega)]; exact b2
        · show (sI s' 1 3 (nI (skp T (n - q) q))).1 1 5 = _
          rw [sR_at, pk_un (by omega)]; exact b3
        · show (sI s' 1 3 (nI (skp T (n - q) q))).1 1 3 = _
          rw [sR_at, pk_us]
    · rw [if_pos (nI_le (a := n) (b := p) (by omega) (by omega)), ite_self, hch, if_neg hp, if_pos m1_lt0]
      exact ⟨s, (0, sI t 0 25 (nI p)), rfl, rfl, Or.inl ⟨rfl, e11, H, S, v, D1, e13, e14.tr m1, e15, t24⟩⟩
  · have g1' : y = nI f := g1
    subst g1'
    have hf := g2.1
    have e2 : BD n f c s0 s := g2
    rw [rd76 n f c s0 s e2]
    unfold b_X8_valley_22
    rw [if_neg (nI_ne0 (by omega) (by omega))]
    exact ⟨s, (nI f, t), rfl, rfl, Or.inr ⟨f, c, rfl, e2, g3, g4⟩⟩
/-- the whole reading -/
theorem reading {n : Nat} {T : Nat → Nat} {s t : St} (X : TT n T s t) : ∃ (s0 t0 z : St) (w : Int32 × St), f_X4_readAll s = f_X4_readAll_76 z ∧ f_X8_valley t = f_X8_valley_41 w.1 w.2 ∧ ED n s0 t0 z w ∧ FC s s0 ∧ FM t t0 ∧ s0.1 1 5 = -1 ∧ t0.1 0 24 = -1 := by
  have hn := X.1
  unfold f_X4_readAll f_X8_valley
  simp only [nm_d]
  generalize hs : sI (sI (sI (sI (sI s 11 0 0) 11 4 0) 1 3 0) 1 4 0) 1 5 (-1) = s1
  generalize ht : sI (sI (sI (sI t 0 24 (-1)) 0 25 0) 0 30 0) 0 34 0 = t1
  have fC : FC s s1 := by
    rw [← hs]
    exact ((((FC.st s (by omega) 0 0).tr (FC.st _ (by omega) 4 0)).tr (FC.of (gC.st _ (by omega) 0))).tr (FC.of (gC.st _ (by omega) 0))).tr (FC.of (gC.st _ (by omega) (-1)))
  have fM : FM t t1 := by
    rw [← ht]
    exact (((FM.s0 t (by omega) (-1)).tr (FM.s0 _ (by omega) 0)).tr (FM.s0 _ (by omega) 0)).tr (FM.s0 _ (by omega) 0)
  have s3 : s1.1 1 3 = nI 0 := by rw [← hs]; rfl
  have s4 : s1.1 1 4 = 0 := by rw [← hs]; rfl
  have s5 : s1.1 1 5 = -1 := by rw [← hs]; rfl
  have s11 : s1.1 11 0 = nI 0 := by rw [← hs]; rfl
  have s114 : s1.1 11 4 = nI 0 := by rw [← hs]; rfl
  have t24 : t1.1 0 24 = -1 := by rw [← ht]; rfl
  have t25 : t1.1 0 25 = nI 0 := by rw [← ht]; rfl
  have t30 : t1.1 0 30 = nI 0 := by rw [← ht]; rfl
  have t34 : t1.1 0 34 = nI 0 := by rw [← ht]; rfl
  have X1 := X.fr fC fM
  have hk := skp_b T (n - 0) 0
  rw [skipC X1 (by omega) s3, bv_s]
  rw [Nat.sub_zero] at hk ⊢
  have fC2 : FC s (sI s1 1 3 (nI (skp T n 0))) := fC.tr (FC.of (gC.st s1 (by omega) _))
  obtain ⟨z, w, r1, r2, r3⟩ := reads (n := n) (T := T) (s0 := sI s1 1 3 (nI (skp T n 0))) (t0 := t1) (s := sI s1 1 3 (nI (skp T n 0))) (t := t1) ⟨0, skp T n 0, 0, 0, 0, fun _ _ => 0, rfl, rfl, by omega, by omega, by omega, X.fr fC2 fM, by rw [sR_at, pk_us], by omega, t25, by rw [Nat.sub_zero], by rw [sR_at, pk_un (by omega)]; exact s4, ⟨⟨by omega, by omega, fun h hh => by omega, fun i hi => by omega⟩, by rw [sR_ne _ _ (by omega)]; exact s11, by rw [sR_ne _ _ (by omega)]; exact s114, t30, t34, fun h hh => by omega, fun i hi => by omega⟩, FC.rf _, FM.rf _, rfl, rfl⟩ hn
  exact ⟨_, t1, z, w, r1, r2, r3, fC2, fM, by rw [sR_at, pk_un (by omega)]; exact s5, t24⟩
