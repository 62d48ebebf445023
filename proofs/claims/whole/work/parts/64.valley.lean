/-! ===== pure: valley (own work) ===== -/
theorem ok_valley {σc σm : St} (I : Inv σc σm) : ∃ (r : Int32) (σc1 σm1 : St), f_X7_valley σc = some (r, σc1) ∧ f_X8_valley σm = some (r, σm1) ∧ Inv σc1 σm1 := by
  obtain ⟨H, S, v, hI⟩ := id I
  obtain ⟨B, C, M, R, ld, ⟨n, n0, n1, n2, n3⟩, F, W, J⟩ := id hI
  have X : TT n (fun j => (σm.1 13 j).toNatClampNeg) σc σm := by
    refine ⟨n0, n1, n2, fun j hj => ?_⟩
    obtain ⟨k, k1, k2, k3⟩ := n3 j hj
    have e : (σm.1 13 j).toNatClampNeg = k := by rw [k2, nI_clamp (by omega)]
    show (σm.1 13 j).toNatClampNeg < 256 ∧ σm.1 13 j = nI (σm.1 13 j).toNatClampNeg ∧ σc.1 2 j = bc (σm.1 13 j).toNatClampNeg
    rw [e]; exact ⟨k1, k2, k3⟩
  obtain ⟨s0, t0, z, ⟨y, t⟩, r1, r2, r3, fC, fM, s5, t24⟩ := reading X
  unfold f_X7_valley
  rw [r1, r2]
  unfold f_X4_readAll_76 f_X8_valley_41
  rw [nm_d, bd_s, nm_d]
  rcases r3 with ⟨w1, z4, H', S', v', D, fC2, fM2, z5, w24⟩ | ⟨f, b, w1, bd, w24, fM2⟩
  · have w1' : y = 0 := w1
    subst w1'
    have D' : DR H' S' v' z t := D
    have fM' : FM t0 t := fM2
    have w24' : t.1 0 24 = t0.1 0 24 := w24
    obtain ⟨VB', d1, d2, d3, d4, d5, d6⟩ := D'
    have hH := VB'.1
    have hS := VB'.2.1
    have gC := fC.tr fC2
    have gM := fM.tr fM'
    have z14 : (sI z 1 1 0).1 1 4 = 0 := by rw [sR_at, pk_un (by omega)]; exact z4
    rw [z14, if_pos rfl, if_pos le00, nm_d, nm_d]
    have cz : ∀ k, k ≠ 1 → (sI z 1 1 0).1 k = z.1 k := fun k hk => sR_ne _ _ hk
    have cz5 : (sI z 1 1 0).1 1 5 = -1 := by rw [sR_at, pk_un (by omega), z5]; exact s5
    have cz1 : (sI z 1 1 0).1 1 1 = 0 := by rw [sR_at, pk_us]
    generalize sI z 1 1 0 = z1 at cz cz5 cz1
    obtain ⟨s1, a1, a2, a3, a4, a5, a6⟩ := cpV z1
    rw [a1, bv_s]
    have s34 : s1.1 3 4 = nI S' := by rw [a4, cz 11 (by omega)]; exact d2
    obtain ⟨s2, b1, b2, b3, b4, b5, b6, b7, b8, b9, b10, b11, b12, b13⟩ := bgC hS s34
    rw [b1, bv_s, nm_d, nm_d]
    have e0 : (sI t 0 23 0).1 0 30 = nI H' := by rw [sR_at, pk_un (by omega)]; exact d3
    rw [e0]
    have e1 : (sI (sI t 0 23 0) 0 0 (nI H')).1 0 34 = nI S' := by rw [sR_at, pk_un (by omega), sR_at, pk_un (by omega)]; exact d4
    rw [e1]
    have t2k : ∀ k, k ≠ 0 → (sI (sI (sI t 0 23 0) 0 0 (nI H')) 0 4 (nI S')).1 k = t.1 k := fun k hk => by rw [sR_ne _ _ hk, sR_ne _ _ hk, sR_ne _ _ hk]
    have t20 : (sI (sI (sI t 0 23 0) 0 0 (nI H')) 0 4 (nI S')).1 0 = upd (upd (upd (t.1 0) 23 0) 0 (nI H')) 4 (nI S') := by rw [sR_at, sR_at, sR_at]
    generalize sI (sI (sI t 0 23 0) 0 0 (nI H')) 0 4 (nI S') = t2 at t2k t20
    obtain ⟨t3, f1, f2, f3⟩ := v73 t2
    rw [f1]
    obtain ⟨t4, g1, g2, g3, g4, g5, g6, g7, g8, g9, g10, g11, g12, g13, g14, g15, g16⟩ := v122 t3
    rw [g1]
    have u0 : ∀ j, j < 10 ∨ 18 < j → j ≠ 44 → t4.1 0 j = upd (upd (upd (t.1 0) 23 0) 0 (nI H')) 4 (nI S') j := fun j j1 j2 => by rw [g16 j j1 j2, f2 0 (by omega) (by omega) (by omega), t20]
    have u04 : t4.1 0 4 = nI S' := by rw [u0 4 (by omega) (by omega), pk_us]
    have q : ∀ k, k ≠ 52 → k ≠ 0 → (sI (sI s2 52 0 0) 0 5 0).1 k = s2.1 k := fun k k1 k2 => by rw [sR_ne _ _ k2, sR_ne _ _ k1]
    have q2 : ∀ k, k ≠ 52 → k ≠ 0 → k < 19 ∨ 26 < k → (sI (sI s2 52 0 0) 0 5 0).1 k = s1.1 k := fun k k1 k2 k3 => by rw [q k k1 k2, b2 k k3]
    refine ⟨nI S', sI (sI s2 52 0 0) 0 5 0, t4, ?_, by rw [u04], H', S', v', VB', ⟨?_, ?_, fun h hh => ?_, fun i hi => ?_⟩, ⟨?_, u04, fun h hh => ?_, fun i hi => ?_⟩, ⟨fun i hi => ?_, fun h hh => ?_, ⟨?_, ?_, ?_, ?_⟩, ⟨?_, 0, by omega, by omega, ?_⟩, ?_, ?_, ⟨0, by omega, ?_, ?_, fun i hi => by omega⟩, ?_, ?_⟩, ?_, ⟨0, by omega, ?_, ?_, fun j hj => by omega⟩, ?_, ⟨0, by omega, ?_, g6, fun j hj => by omega⟩, ⟨0, 0, by omega, by omega, ?_, g4, g5, fun h => by omega, fun h => by omega⟩⟩
    · have : (sI (sI s2 52 0 0) 0 5 0).1 3 4 = nI S' := by rw [q2 3 (by omega) (by omega) (by omega)]; exact s34
      rw [this]
    · rw [q2 3 (by omega) (by omega) (by omega), a3, cz 11 (by omega)]; exact d1
    · rw [q2 3 (by omega) (by omega) (by omega)]; exact s34
    · have := a5 h (by omega)
      rw [q2 4 (by omega) (by omega) (by omega), q2 5 (by omega) (by omega) (by omega), q2 6 (by omega) (by omega) (by omega), this.1, this.2.1, this.2.2, cz 12 (by omega), cz 13 (by omega), cz 14 (by omega)]
      exact ⟨(d5 h hh).1, (d5 h hh).2.1, (d5 h hh).2.2.1⟩
    · have := a6 i (by omega)
      rw [q2 7 (by omega) (by omega) (by omega), q2 8 (by omega) (by omega) (by omega), q2 9 (by omega) (by omega) (by omega), q2 10 (by omega) (by omega) (by omega), this.1, this.2.1, this.2.2.1, this.2.2.2, cz 15 (by omega), cz 16 (by omega), cz 17 (by omega), cz 18 (by omega)]
      exact ⟨(d6 i hi).1, (d6 i hi).2.1, (d6 i hi).2.2.1, (d6 i hi).2.2.2.1⟩
    · rw [u0 0 (by omega) (by omega), pk_un (by omega), pk_us]
    · have k := f3 h (by omega)
      have e1 : t4.1 1 = t3.1 1 := by rcases g2 1 with a | a | a | a | a <;> first | exact a | omega
      have e2 : t4.1 2 = t3.1 2 := by rcases g2 2 with a | a | a | a | a <;> first | exact a | omega
      have e3 : t4.1 3 = t3.1 3 := by rcases g2 3 with a | a | a | a | a <;> first | exact a | omega
      rw [e1, e2, e3, k.1, k.2.1, k.2.2, t2k 14 (by omega), t2k 15 (by omega), t2k 16 (by omega)]
      exact (d5 h hh).2.2.2
    · have k := g3 i (by omega)
      rw [k.1, k.2.1, k.2.2.1, k.2.2.2, f2 17 (by omega) (by omega) (by omega), f2 18 (by omega) (by omega) (by omega), f2 19 (by omega) (by omega) (by omega), f2 20 (by omega) (by omega) (by omega), t2k 17 (by omega), t2k 18 (by omega), t2k 19 (by omega), t2k 20 (by omega)]
      exact (d6 i hi).2.2.2.2
    · show (sI (sI s2 52 0 0) 0 5 0).1 21 i = t4.1 8 i ∧ rg (t4.1 8 i) 0 60
      rw [q 21 (by omega) (by omega), b7 i (by omega), g7 i (by omega)]
      exact ⟨rfl, 0, by omega, by omega, rfl⟩
    · show (sI (sI s2 52 0 0) 0 5 0).1 25 h = t4.1 9 h ∧ (∃ k, k < v' 0 h ∧ t4.1 9 h = nI k) ∧ (sI (sI s2 52 0 0) 0 5 0).1 26 h = t4.1 10 h
      have k := VB'.2.2.1 h hh
      rw [q 25 (by omega) (by omega), q 26 (by omega) (by omega), (b8 h (by omega)).1, (b8 h (by omega)).2, (g8 h (by omega)).1, (g8 h (by omega)).2]
      exact ⟨rfl, ⟨0, by omega, rfl⟩, rfl⟩
    · show (sI (sI s2 52 0 0) 0 5 0).1 20 3 = t4.1 0 10
      rw [q 20 (by omega) (by omega), b10, g9]
    · show (sI (sI s2 52 0 0) 0 5 0).1 20 4 = t4.1 0 11
      rw [q 20 (by omega) (by omega), b11, g10]
    · show (sI (sI s2 52 0 0) 0 5 0).1 20 2 = t4.1 0 12
      rw [q 20 (by omega) (by omega), b9, g11]
    · rw [g9, g10, g11]; exact Or.inl ⟨rfl, rfl, rfl⟩
    · show (sI (sI s2 52 0 0) 0 5 0).1 20 5 = t4.1 0 13
      rw [q 20 (by omega) (by omega), b12, g12]
    · rw [g12]; rfl
    · show (sI (sI s2 52 0 0) 0 5 0).1 19 2 = t4.1 0 14
      rw [q 19 (by omega) (by omega), b4, g13]
    · show (sI (sI s2 52 0 0) 0 5 0).1 19 5 = t4.1 0 17
      rw [q 19 (by omega) (by omega), b5, g14]
    · show (sI (sI s2 52 0 0) 0 5 0).1 19 6 = nI 0
      rw [q 19 (by omega) (by omega), b6]; rfl
    · show t4.1 0 18 = nI 0
      rw [g15]; rfl
    · show (sI (sI s2 52 0 0) 0 5 0).1 19 9 = t4.1 0 21
      rw [q 19 (by omega) (by omega), b3 9 (by omega) (by omega) (by omega), a2 19 (by omega), cz 19 (by omega), gC.1 19 (by omega) (by omega), u0 21 (by omega) (by omega), pk_un (by omega), pk_un (by omega), pk_un (by omega), gM.2 21 (by omega)]
      exact R.2.2.2.2.2.2.2.1
    · show ∃ k, k < 2 ^ 31 ∧ t4.1 0 21 = nI k
      rw [u0 21 (by omega) (by omega), pk_un (by omega), pk_un (by omega), pk_un (by omega), gM.2 21 (by omega)]
      exact R.2.2.2.2.2.2.2.2
    · exact b13.cg (fun k k1 k2 => q k (by omega) (by omega)) (fun k k1 k2 => q k (by omega) (by omega)) (by rw [q 20 (by omega) (by omega)]) (by rw [q 20 (by omega) (by omega)]) (by rw [q 20 (by omega) (by omega)])
    · show (sI (sI s2 52 0 0) 0 5 0).1 1 1 = nI 0
      rw [q2 1 (by omega) (by omega) (by omega), a2 1 (by omega)]; exact cz1
    · show t4.1 0 23 = nI 0
      rw [u0 23 (by omega) (by omega), pk_un (by omega), pk_un (by omega), pk_us]; rfl
    · show (sI (sI s2 52 0 0) 0 5 0).1 1 5 = t4.1 0 24
      rw [q2 1 (by omega) (by omega) (by omega), a2 1 (by omega), cz5, u0 24 (by omega) (by omega), pk_un (by omega), pk_un (by omega), pk_un (by omega), w24', t24]
    · show (sI (sI s2 52 0 0) 0 5 0).1 52 0 = nI 0
      rw [sR_ne _ _ (by omega), sR_at, pk_us]; rfl
    · show (sI (sI s2 52 0 0) 0 5 0).1 0 5 = nI 0
      rw [sR_at, pk_us]; rfl
  · have w1' : y = nI f := w1
    subst w1'
    have w24' : t.1 0 24 = nI b := w24
    have fM' : FM t0 t := fM2
    obtain ⟨hf, z4, z5, fC2, -⟩ := bd
    have gC := fC.tr fC2
    have gM := fM.tr fM'
    have z14 : (sI z 1 1 0).1 1 4 = nI f := by rw [sR_at, pk_un (by omega)]; exact z4
    rw [z14, if_neg (nI_ne0 (by omega) (by omega)), if_neg (nI_nle (by omega) (by omega))]
    have c : ∀ k, k ≠ 1 → k < 11 ∨ 18 < k → (sI z 1 1 0).1 k = σc.1 k := fun k k1 k2 => by rw [sR_ne _ _ k1]; exact gC.1 k k1 k2
    have m : ∀ k, k ≠ 0 → k < 14 ∨ 20 < k → (sI t 0 23 0).1 k = σm.1 k := fun k k1 k2 => by rw [sR_ne _ _ k1]; exact gM.1 k k1 k2
    have m0 : ∀ j, j ≠ 23 → j < 24 ∨ 34 < j → (sI t 0 23 0).1 0 j = σm.1 0 j := fun j j1 j2 => by rw [sR_at, pk_un j1]; exact gM.2 j j2
    refine ⟨_, _, _, rfl, rfl, H, S, v, B, C.cg (fun k k1 k2 => c k (by omega) (by omega)), M.cg (m0 0 (by omega) (by omega)) (m0 4 (by omega) (by omega)) (fun k k1 k2 => m k (by omega) (by omega)), CM.cg R (fun k k1 k2 => c k (by omega) (by omega)) (fun k k1 k2 => m k (by omega) (by omega)) (fun j hj => m0 j (by omega) (by omega)), ld.cg (fun k k1 k2 => c k (by omega) (by omega)) (fun k k1 k2 => c k (by omega) (by omega)) (by rw [c 20 (by omega) (by omega)]) (by rw [c 20 (by omega) (by omega)]) (by rw [c 20 (by omega) (by omega)]), ⟨0, by omega, by rw [sR_at, pk_us]; rfl, by rw [sR_at, pk_us]; rfl, fun j hj => by omega⟩, ?_, W.cg (by rw [c 52 (by omega) (by omega)]) (c 53 (by omega) (by omega)) (c 54 (by omega) (by omega)) (m0 44 (by omega) (by omega)) (m 25 (by omega) (by omega)) (m 26 (by omega) (by omega)), J.cg (by rw [c 0 (by omega) (by omega)]) (fun k k1 k2 _ => c k (by omega) (by omega)) (m 28 (by omega) (by omega)) (m 27 (by omega) (by omega))⟩
    rw [sR_at, pk_un (by omega), sR_at, pk_un (by omega), w24']; exact z5
