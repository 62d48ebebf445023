/-! ===== pure: who must have lied, whose sleep they fit (own work) ===== -/
def alz (c : Nat → Nat) (s : Nat) : Nat → Nat → Bool
  | 0, _ => true
  | d + 1, i => if i = s then alz c s d (i + 1) else if c i = 0 then false else alz c s d (i + 1)
def b01 (b : Bool) : Int32 := if b = true then 1 else 0
theorem b01_t : b01 true = 1 := rfl
theorem b01_f : b01 false = 0 := rfl
def mrB (l : Nat) (F L R : Nat → Int) (S s : Nat) (t : Int) : Bool := if mn (F s) (R s) ≤ t ∧ t ≤ mn (L s) (R s) then alz (fun o => cN l F L R o s t) s S 0 else false
theorem mayC {H S a s l t : Nat} {v : Nat → Nat → Nat} {σ : St} (B : VB H S v) (C : VC H S v σ) (hs : s < S) (el : σ.1 a 5 = nI l) (hl : l ≤ 1) (nb : NB S (fI a σ) (lI a σ) (rI a σ)) (ht : t ≤ 999) : f_X1_mayRuleAt a (nI s) (nI t) σ = some (b01 (mrB l (fI a σ) (lI a σ) (rI a σ) S s t), σ) := by
  have h8 := B.2.1
  have e1 : f_X1_firstMinute a (nI s) σ = some (hrd (σ.1 (a + 4) s) (σ.1 (a + 2) s), σ) := by
    unfold f_X1_firstMinute; rw [rd_n (by omega) (by omega), heardC (by omega), bd_s]
  have e2 : f_X1_lastMinute a (nI s) σ = some (hrd (σ.1 (a + 4) s) (σ.1 (a + 3) s), σ) := by
    unfold f_X1_lastMinute; rw [rd_n (by omega) (by omega), heardC (by omega), bd_s]
  have tI : (nI t).toInt = (t : Int) := nI_toInt (by omega)
  have loop : f_X1_mayRuleAt_22 a (nI s) (nI t) 0 σ = some (b01 (alz (fun o => cN l (fI a σ) (lI a σ) (rI a σ) o s t) s S 0), σ) := by
    unfold f_X1_mayRuleAt_22
    refine lp_m (fun d q o => ∃ i, i + d = S ∧ q = (nI s, nI t, nI i, σ) ∧ o = (b01 (alz (fun o => cN l (fI a σ) (lI a σ) (rI a σ) o s t) s d i), σ)) ?_ 100000 S _ _ (by omega) ⟨0, by omega, rfl, rfl⟩
    rintro d rec _ _ ⟨i, hi, rfl, rfl⟩ ih
    show b_X1_mayRuleAt_22 a rec (nI s) (nI t) (nI i) σ = _
    unfold b_X1_mayRuleAt_22 f_X1_mayRuleAt_50
    rw [C.2.1]
    cases d with
    | zero => rw [if_pos (nI_le (by omega) (by omega)), alz, b01_t]
    | succ d =>
      rw [if_neg (nI_ge (by omega) (by omega)), nI_1]
      by_cases q : i = s
      · rw [if_pos (by rw [q])]
        exact ih d _ (by omega) ⟨i + 1, by omega, rfl, by rw [alz, if_pos q]⟩
      · rw [if_neg (fun z => q ((nI_eq (by omega) (by omega)).mp z)), letC h8 (show i < S by omega) (by omega) hl el nb (by rw [tI]; omega) (by rw [tI]; omega), bd_s, tI]
        have hle := cN_le (l := l) (R := rI a σ) (s := s) (t := (t : Int)) (nb i (by omega)).2.1
        have hal : aN (fI a σ) (lI a σ) i ≤ 901 := by have := nb i (by omega); unfold aN; omega
        by_cases z : cN l (fI a σ) (lI a σ) (rI a σ) i s t = 0
        · rw [if_pos (by rw [z]; rfl), alz, if_neg q, if_pos z, b01_f]
        · rw [if_neg (show ¬ nI (cN l (fI a σ) (lI a σ) (rI a σ) i s t) = 0 from nI_ne0 (by omega) (by omega))]
          exact ih d _ (by omega) ⟨i + 1, by omega, rfl, by rw [alz, if_neg q, if_neg z]⟩
  unfold f_X1_mayRuleAt mrB
  rw [e1, bd_s, e2, bd_s]
  have l1 : (nI t < hrd (σ.1 (a + 4) s) (σ.1 (a + 2) s)) ↔ (t : Int) < mn (fI a σ s) (rI a σ s) := by rw [lt_toInt, hrd_tI, tI]
  have l2 : (nI t ≤ hrd (σ.1 (a + 4) s) (σ.1 (a + 3) s)) ↔ (t : Int) ≤ mn (lI a σ s) (rI a σ s) := by rw [le_toInt, hrd_tI, tI]
  by_cases h1 : (t : Int) < mn (fI a σ s) (rI a σ s)
  · rw [if_pos (l1.mpr h1), if_neg (fun q => by omega), b01_f]
  · rw [if_neg (fun q => h1 (l1.mp q))]
    by_cases h2 : (t : Int) ≤ mn (lI a σ s) (rI a σ s)
    · rw [if_pos (l2.mpr h2), if_pos ⟨by omega, h2⟩, loop]
    · rw [if_neg (fun q => h2 (l2.mp q)), if_neg (fun q => h2 q.2), b01_f]
def n01 (b : Bool) : Int32 := if b = true then 0 else 1
theorem cut_eq {F L R t : Int} (h : F ≤ L) : (cGe F L R t).toNat = (cGe F L R (t + 1)).toNat ↔ ¬ (mn F R ≤ t ∧ t ≤ mn L R) := by
  have a1 := cGe_b (R := R) (y := t) h
  have a2 := cGe_b (R := R) (y := t + 1) h
  unfold mn
  constructor
  · intro e
    have e' : cGe F L R t = cGe F L R (t + 1) := by omega
    rintro ⟨b1, b2⟩
    have e3 : cGe F L R t = (if t ≤ F then L - F + 1 else L - t + 1) := by
      unfold cGe
      rw [if_neg (by split at b2 <;> omega), if_pos (by split at b2 <;> omega)]
    have e4 : cGe F L R (t + 1) < cGe F L R t := by
      rw [e3]
      unfold cGe
      by_cases h1 : R < t + 1
      · rw [if_pos h1]; split <;> (split at b2 <;> omega)
      · rw [if_neg h1]
        have h1' : t < F ∨ F ≤ t := by omega
        by_cases h2 : t + 1 ≤ L
        · rw [if_pos h2]
          split at b1 <;> split <;> split <;> omega
        · rw [if_neg h2]; split <;> (split at b2 <;> omega)
    omega
  · intro hn
    have : cGe F L R t = cGe F L R (t + 1) := by
      unfold cGe
      by_cases h0 : R < t
      · rw [if_pos h0, if_pos (by omega)]
      · rw [if_neg h0]
        by_cases h1 : R < t + 1
        · rw [if_pos h1]
          have hR : R = t := by omega
          by_cases h2 : t ≤ L
          · exfalso; apply hn
            subst hR
            refine ⟨?_, ?_⟩ <;> split <;> omega
          · rw [if_neg h2]
        · rw [if_neg h1]
          by_cases h2 : t ≤ L
          · have hF : t < F := by
              apply Classical.byContradiction
              intro hF
              apply hn
              refine ⟨?_, ?_⟩ <;> split <;> omega
            rw [if_pos h2, if_pos (by omega), if_pos (by omega), if_pos (by omega)]
          · rw [if_neg h2, if_neg (by omega)]
    rw [this]
theorem lieM {H S a s l t i : Nat} {v : Nat → Nat → Nat} {σc σm : St} (B : VB H S v) (C : VC H S v σc) (M : VM H S v σm) (N : NR H S a σc σm) (hs : s < S) (el : σm.1 0 13 = nI l) (hl : l ≤ 1) (hi : i < 40) (e25 : σm.1 25 i = nI s) (e26 : σm.1 26 i = nI t) (ht : t ≤ 999) : f_X8_isLie (nI i) σm = some (n01 (mrB l (fI a σc) (lI a σc) (rI a σc) S s t), σm) := by
  have h8 := B.2.1
  obtain ⟨nb, hk⟩ := nr_nb B C M N
  have tI : (nI t).toInt = (t : Int) := nI_toInt (by omega)
  have em : (nI t - 1).toInt = (t : Int) - 1 := by rw [m1_tI (by rw [tI]; omega) (by rw [tI]; omega), tI]
  have nbs := nb s hs
  have loop : ∀ x4 : Int32, (x4 = 0 ∨ x4 = 1) → f_X8_isLie_41 (nI s) (nI t) x4 0 σm = some (if x4 = 0 then n01 (alz (fun o => cN l (fI a σc) (lI a σc) (rI a σc) o s t) s S 0) else 1, σm) := by
    intro x40 hx40
    unfold f_X8_isLie_41
    refine lp_m (fun d q o => ∃ (i : Nat) (x4 : Int32), i + d = S ∧ (x4 = 0 ∨ x4 = 1) ∧ q = (nI s, nI t, x4, nI i, σm) ∧ o = (if x4 = 0 then n01 (alz (fun o => cN l (fI a σc) (lI a σc) (rI a σc) o s t) s d i) else 1, σm)) ?_ 100000 S _ _ (by omega) ⟨0, x40, by omega, hx40, rfl, rfl⟩
    rintro d rec _ o ⟨i, x4, hi, hx4, rfl, ho⟩ ih
    show b_X8_isLie_41 rec (nI s) (nI t) x4 (nI i) σm = _
    unfold b_X8_isLie_41 f_X8_isLie_76 f_X8_isLie_72 f_X8_isLie_77
    rw [M.2.1]
    cases d with
    | zero =>
      rw [if_pos (nI_le (by omega) (by omega)), ho, alz]
      rcases hx4 with rfl | rfl
      · rfl
      · rfl
    | succ d =>
      rw [if_neg (nI_ge (by omega) (by omega)), nI_1]
      rcases hx4 with rfl | rfl
      · rw [if_pos rfl]
        rw [if_pos rfl] at ho
        by_cases q : i = s
        · rw [if_pos (by rw [q])]
          exact ih d _ (by omega) ⟨i + 1, 0, by omega, Or.inl rfl, rfl, by rw [ho, if_pos rfl, alz, if_pos q]⟩
        · rw [if_neg (fun z => q ((nI_eq (by omega) (by omega)).mp z)), letM B C M N (show i < S by omega) (by omega) hl el (by rw [tI]; omega) (by rw [tI]; omega), bd_s, tI]
          have hle := cN_le (l := l) (R := rI a σc) (s := s) (t := (t : Int)) (nb i (by omega)).2.1
          have hal : aN (fI a σc) (lI a σc) i ≤ 901 := by have := nb i (by omega); unfold aN; omega
          by_cases z : cN l (fI a σc) (lI a σc) (rI a σc) i s t = 0
          · rw [if_pos (by rw [z]; rfl)]
            exact ih d _ (by omega) ⟨i + 1, 1, by omega, Or.inr rfl, rfl, by rw [ho, if_neg i10, alz, if_neg q, if_pos z]; rfl⟩
          · rw [if_neg (show ¬ nI (cN l (fI a σc) (lI a σc) (rI a σc) i s t) = 0 from nI_ne0 (by omega) (by omega))]
            exact ih d _ (by omega) ⟨i + 1, 0, by omega, Or.inl rfl, rfl, by rw [ho, if_pos rfl, alz, if_neg q, if_neg z]⟩
      · rw [if_neg i10]
        rw [if_neg i10] at ho
        exact ih d _ (by omega) ⟨i + 1, 1, by omega, Or.inr rfl, rfl, by rw [ho, if_neg i10]⟩
  unfold f_X8_isLie f_X8_isLie_36 mrB
  rw [rd_n hi (by omega), rd_n hi (by omega), e25, e26, lateM B C M N hs (by rw [em]; omega) (by rw [em]; omega), bd_s, lateM B C M N hs (by rw [tI]; omega) (by rw [tI]; omega), bd_s, em, tI, show (t : Int) - 1 + 1 = t by omega]
  have c1 := cGe_b (R := rI a σc s) (y := (t : Int)) nbs.2.1
  have c2 := cGe_b (R := rI a σc s) (y := (t : Int) + 1) nbs.2.1
  have ce := cut_eq (F := fI a σc s) (L := lI a σc s) (R := rI a σc s) (t := (t : Int)) nbs.2.1
  by_cases h : mn (fI a σc s) (rI a σc s) ≤ t ∧ (t : Int) ≤ mn (lI a σc s) (rI a σc s)
  · rw [if_neg (fun q => ce.mp ((nI_eq (by omega) (by omega)).mp q) h), if_pos h, loop 0 (Or.inl rfl), if_pos rfl]
  · rw [if_pos (by rw [ce.mpr h]), if_neg h, loop 1 (Or.inr rfl), if_neg i10]; rfl
theorem ok_lies {σc σm : St} (I : Inv σc σm) : ∃ (r : Int32) (σc1 σm1 : St), f_X7_lies σc = some (r, σc1) ∧ f_X8_lies σm = some (r, σm1) ∧ Inv σc1 σm1 := by
  obtain ⟨H, S, v, hI⟩ := id I
  obtain ⟨B, C, M, R, ld, T, F, W, J⟩ := id hI
  obtain ⟨l, -, hl, el⟩ := R.2.2.2.1.2
  have elc : σc.1 20 5 = σm.1 0 13 := R.2.2.2.1.1
  obtain ⟨n, w0, w1, w2, w3⟩ := W
  have N := hI.nr
  obtain ⟨nb, -⟩ := nr_nb B C M N
  unfold f_X7_lies f_X8_lies
  rw [elc, el]
  by_cases h2 : l = 2
  · subst h2
    rw [if_pos (show nI 2 = 2 from rfl), if_pos (show nI 2 = 2 from rfl)]
    exact ⟨_, σc, σm, rfl, rfl, I⟩
  have hn2 : ¬ nI l = 2 := fun q => h2 ((nI_eq (b := 2) (by omega) (by omega)).mp q)
  rw [if_neg hn2, if_neg hn2]
  unfold f_X6_firstLie f_X6_firstLie_2 f_X8_lies_14
  have key := lp_2 (B := fun (rec2 : Int32 × St → Option (Int32 × St)) (q : Int32 × St) => b_X6_firstLie_2 rec2 (q.1) (q.2)) (B2 := fun (rec14 : Int32 × St → Option (Int32 × St)) (q : Int32 × St) => b_X8_lies_14 rec14 (q.1) (q.2))
    (fun d a b => ∃ i, i + d = n ∧ a = (nI i, σc) ∧ b = (nI i, σm)) (fun _ _ o p => o.1 = p.1 ∧ o.2 = σc ∧ p.2 = σm) ?_ 100000 n (0, σc) (0, σm) (by omega) ⟨0, by omega, rfl, rfl⟩
  · obtain ⟨⟨o1, o2⟩, ⟨p1, p2⟩, k1, k2, k3, k4, k5⟩ := key
    have k3' : o1 = p1 := k3
    have k4' : o2 = σc := k4
    have k5' : p2 = σm := k5
    subst k3' k4' k5'
    rw [k1, bd_s, k2]
    exact ⟨_, _, _, rfl, rfl, I⟩
  rintro d rec rec2 _ _ ⟨i, hi, rfl, rfl⟩ ih
  show ∃ o p, b_X6_firstLie_2 rec (nI i) σc = some o ∧ b_X8_lies_14 rec2 (nI i) σm = some p ∧ _
  unfold b_X6_firstLie_2 b_X8_lies_14
  rw [w1, w2]
  cases d with
  | zero =>
    rw [if_pos (nI_le (by omega) (by omega)), if_pos (nI_le (by omega) (by omega))]
    exact ⟨_, _, rfl, rfl, rfl, rfl, rfl⟩
  | succ d =>
    obtain ⟨g1, g2, ⟨s, s1, s2⟩, ⟨t, -, t1, t2⟩⟩ := w3 i (by omega)
    rw [if_neg (nI_ge (by omega) (by omega)), if_neg (nI_ge (by omega) (by omega)), rd_n (by omega) (by omega), rd_n (by omega) (by omega), g1, g2, s2, t2, mayC B C s1 (by rw [elc]; exact el) (by omega) nb t1, lieM B C M N s1 el (by omega) (by omega) s2 t2 t1, bd_s, bd_s, nI_1]
    cases mrB l (fI 20 σc) (lI 20 σc) (rI 20 σc) S s t with
    | true =>
      rw [b01_t, if_neg i10, if_pos (show n01 true = 0 from rfl)]
      exact ih d _ _ (by omega) ⟨i + 1, by omega, rfl, rfl⟩
    | false =>
      rw [b01_f, if_pos rfl, if_neg (show ¬ n01 false = 0 from i10)]
      exact ⟨_, _, rfl, rfl, rfl, rfl, rfl⟩
def hz (f : Nat → Bool) : Nat → Nat → Bool
  | 0, _ => true
  | d + 1, i => if f i = true then hz f d (i + 1) else false
/-- all that a sleeper told, by a trial night of the class and by the reference -/
theorem hon2 {H S s l n : Nat} {v : Nat → Nat → Nat} {s1 s2 : St} (B : VB H S v) (C : VC H S v s1) (M : VM H S v s2) (N : NR H S 55 s1 s2) (hs : s < S) (el : s2.1 0 13 = nI l) (hl : l ≤ 1) (w0 : n ≤ 40) (w1 : s1.1 52 0 = nI n) (w2 : s2.1 0 44 = nI n) (w3 : ∀ i, i < n → s1.1 53 i = s2.1 25 i ∧ s1.1 54 i = s2.1 26 i ∧ (∃ s, s < S ∧ s2.1 25 i = nI s) ∧ rg (s2.1 26 i) 0 999) : ∃ b, f_X6_allTrueOf (nI s) s1 = some (b01 b, s1) ∧ f_X8_isHonest (nI s) s2 = some (b01 b, s2) := by
  have h8 := B.2.1
  obtain ⟨nb, -⟩ := nr_nb B C M N
  have elc : s1.1 55 5 = nI l := by rw [N.2.2.1.1]; exact el
  let f : Nat → Bool := fun i => if s2.1 25 i = nI s then mrB l (fI 55 s1) (lI 55 s1) (rI 55 s1) S s (s2.1 26 i).toInt else true
  have fd : ∀ i, f i = if s2.1 25 i = nI s then mrB l (fI 55 s1) (lI 55 s1) (rI 55 s1) S s (s2.1 26 i).toInt else true := fun _ => rfl
  clear_value f
  refine ⟨hz f n 0, ?_, ?_⟩
  · unfold f_X6_allTrueOf f_X6_allTrueOf_2
    refine lp_m (fun d q o => ∃ i, i + d = n ∧ q = (nI s, nI i, s1) ∧ o = (b01 (hz f d i), s1)) ?_ 100000 n _ _ (by omega) ⟨0, by omega, rfl, rfl⟩
    rintro d rec _ _ ⟨i, hi, rfl, rfl⟩ ih
    show b_X6_allTrueOf_2 rec (nI s) (nI i) s1 = _
    unfold b_X6_allTrueOf_2 f_X6_allTrueOf_39
    rw [w1]
    cases d with
    | zero => rw [if_pos (nI_le (by omega) (by omega)), hz, b01_t]
    | succ d =>
      obtain ⟨g1, g2, -, ⟨t, -, t1, t2⟩⟩ := w3 i (by omega)
      rw [if_neg (nI_ge (by omega) (by omega)), rd_n (by omega) (by omega), g1, nI_1]
      by_cases q : s2.1 25 i = nI s
      · have fi := fd i
        rw [if_pos q, t2, nI_toInt (show t < 2 ^ 31 by omega)] at fi
        rw [if_pos q, rd_n (by omega) (by omega), g2, t2, mayC B C hs elc hl nb t1, bd_s, ← fi]
        by_cases z : f i = true
        · rw [z, b01_t, if_neg i10]
          exact ih d _ (by omega) ⟨i + 1, by omega, rfl, by rw [hz, if_pos z]⟩
        · rw [hz, if_neg z, show f i = false by simpa using z, b01_f, if_pos rfl]
      · have fi := fd i
        rw [if_neg q] at fi
        rw [if_neg q]
        exact ih d _ (by omega) ⟨i + 1, by omega, rfl, by rw [hz, if_pos fi]⟩
  · unfold f_X8_isHonest f_X8_isHonest_4
    refine lp_m (fun d q o => ∃ (i : Nat) (x : Int32), i + d = n ∧ (x = 0 ∨ x = 1) ∧ q = (nI s, x, nI i, s2) ∧ o = (if x = 0 then 0 else b01 (hz f d i), s2)) ?_ 100000 n _ _ (by omega) ⟨0, 1, by omega, Or.inr rfl, rfl, by rw [if_neg i10]⟩
    rintro d rec _ o ⟨i, x, hi, hx, rfl, ho⟩ ih
    show b_X8_isHonest_4 rec (nI s) x (nI i) s2 = _
    unfold b_X8_isHonest_4 f_X8_isHonest_38 f_X8_isHonest_34 f_X8_isHonest_39
    rw [w2]
    cases d with
    | zero =>
      rw [if_pos (nI_le (by omega) (by omega)), ho, hz]
      rcases hx with rfl | rfl
      · rfl
      · rfl
    | succ d =>
      obtain ⟨g1, g2, -, ⟨t, -, t1, t2⟩⟩ := w3 i (by omega)
      rw [if_neg (nI_ge (by omega) (by omega)), nI_1]
      rcases hx with rfl | rfl
      · rw [if_pos rfl]
        rw [if_pos rfl] at ho
        exact ih d _ (by omega) ⟨i + 1, 0, by omega, Or.inl rfl, rfl, by rw [ho, if_pos rfl]⟩
      · rw [if_neg i10, rd_n (by omega) (by omega)]
        rw [if_neg i10] at ho
        by_cases q : s2.1 25 i = nI s
        · have fi := fd i
          rw [if_pos q, t2, nI_toInt (show t < 2 ^ 31 by omega)] at fi
          rw [if_pos q, lieM B C M N hs el hl (by omega) q t2 t1, bd_s, ← fi]
          by_cases z : f i = true
          · rw [z, if_pos (show n01 true = 0 from rfl)]
            exact ih d _ (by omega) ⟨i + 1, 1, by omega, Or.inr rfl, rfl, by rw [ho, if_neg i10, hz, if_pos z]⟩
          · rw [show f i = false by simpa using z, if_neg (show ¬ n01 false = 0 from i10)]
            exact ih d _ (by omega) ⟨i + 1, 0, by omega, Or.inl rfl, rfl, by rw [ho, if_pos rfl, hz, if_neg z]; rfl⟩
        · have fi := fd i
          rw [if_neg q] at fi
          rw [if_neg q]
          exact ih d _ (by omega) ⟨i + 1, 1, by omega, Or.inr rfl, rfl, by rw [ho, if_neg i10, hz, if_pos fi]⟩
def fitR (g : Nat → Bool) (cur w : Int32) : Nat → Nat → Int32 → Int32 → Int32
  | 0, _, x4, x5 => if w = -1 then x4 else x5
  | d + 1, k, x4, x5 => if nI k = cur then fitR g cur w d (k + 1) x4 x5 else if g k = true then (if x4 = w then fitR g cur w d (k + 1) (x4 + 1) (nI k) else fitR g cur w d (k + 1) (x4 + 1) x5) else fitR g cur w d (k + 1) x4 x5
def fitC (g : Nat → Bool) (cur w : Int32) : Nat → Nat → Int32 → Int32
  | 0, _, x4 => if w = -1 then x4 else -1
  | d + 1, k, x4 => if nI k = cur then fitC g cur w d (k + 1) x4 else if g k = true then (if x4 = w then nI k else fitC g cur w d (k + 1) (x4 + 1)) else fitC g cur w d (k + 1) x4
theorem fitR_hit {g : Nat → Bool} {cur : Int32} {p : Nat} (hp : p < 1000) : ∀ (d k c : Nat) (x5 : Int32), p < c → c + d < 2000 → fitR g cur (nI p) d k (nI c) x5 = x5 := by
  intro d
  induction d with
  | zero => intro k c x5 _ _; rw [fitR, if_neg (nI_ne_m1 (by omega))]
  | succ d ih =>
    intro k c x5 h1 h2
    rw [fitR, nI_1, ih (k + 1) c x5 h1 (by omega), ih (k + 1) (c + 1) x5 (by omega) (by omega), if_neg (show ¬ nI c = nI p from fun z => by have := (nI_eq (by omega) (by omega)).mp z; omega)]
    split
    · rfl
    · split <;> rfl
theorem fit_eq {g : Nat → Bool} {cur w : Int32} : ∀ (d k c : Nat), c + d < 1000 → fitR g cur w d k (nI c) (-1) = fitC g cur w d k (nI c) := by
  intro d
  induction d with
  | zero => intro k c _; rw [fitR, fitC]
  | succ d ih =>
    intro k c h
    rw [fitR, fitC, nI_1, ih (k + 1) c (by omega), ih (k + 1) (c + 1) (by omega)]
    by_cases q : nI c = w
    · rw [← q, fitR_hit (by omega) d (k + 1) (c + 1) (nI k) (by omega) (by omega)]
    · rw [if_neg q, if_neg q]
theorem upd_upd (f : Nat → Int32) (s : Nat) (x y : Int32) : upd (upd f s x) s y = upd f s y := by
  funext j
  by_cases q : j = s
  · subst q; rw [pk_us, pk_us]
  · rw [pk_un q, pk_un q, pk_un q]
theorem upd_id (f : Nat → Int32) (s : Nat) : upd f s (f s) = f := by
  funext j
  by_cases q : j = s
  · subst q; rw [pk_us]
  · rw [pk_un q]
theorem sI_sI (σ : St) (k s : Nat) (x y : Int32) : sI (sI σ k s x) k s y = sI σ k s y := by
  refine Prod.ext ?_ rfl
  funext j
  by_cases q : j = k
  · subst q; rw [sR_at, sR_at, sR_at, upd_upd]
  · rw [sR_ne _ _ q, sR_ne _ _ q, sR_ne _ _ q]
theorem sI_id (σ : St) (k s : Nat) : sI σ k s (σ.1 k s) = σ := by
  refine Prod.ext ?_ rfl
  funext j
  by_cases q : j = k
  · subst q; rw [sR_at, upd_id]
  · rw [sR_ne _ _ q]
theorem ok_fits {σc σm : St} (I : Inv σc σm) (x1 x2 : Int32) : ∃ (r : Int32) (σc1 σm1 : St), f_X7_fits x1 x2 σc = some (r, σc1) ∧ f_X8_fits x1 x2 σm = some (r, σm1) ∧ Inv σc1 σm1 := by
  obtain ⟨H, S, v, hI⟩ := id I
  obtain ⟨B, C, M, R, ld, T, F, W, J⟩ := id hI
  obtain ⟨l, -, hl, el⟩ := R.2.2.2.1.2
  have elc : σc.1 20 5 = σm.1 0 13 := R.2.2.2.1.1
  obtain ⟨n, w0, w1, w2, w3⟩ := W
  have N := hI.nr
  have h8 := B.2.1
  unfold f_X7_fits f_X8_fits
  rcases ix3 x1 (n := S) (by omega) with h | ⟨s, hs, rfl⟩
  · rw [hasS_no C.2.1 h, isS_no (by omega) M.2.1 h]
    exact ⟨_, σc, σm, rfl, rfl, I⟩
  rw [hasS_yes (by omega) C.2.1 hs, isS_yes (by omega) M.2.1 hs]
  simp only [bd_s, if_neg i10]
  rw [elc, el]
  by_cases h2 : l = 2
  · subst h2
    rw [if_pos (show nI 2 = 2 from rfl), if_pos (show nI 2 = 2 from rfl)]
    exact ⟨_, σc, σm, rfl, rfl, I⟩
  have hn2 : ¬ nI l = 2 := fun q => h2 ((nI_eq (b := 2) (by omega) (by omega)).mp q)
  rw [if_neg hn2, if_neg hn2, rd_n (by omega) (by omega)]
  obtain ⟨g, gd⟩ : ∃ g : Nat → Bool, ∀ k, g k = ((f_X8_isHonest (nI s) (sI σm 8 s (nI k))).map (fun p => decide (p.1 = 1))).getD false := ⟨_, fun _ => rfl⟩
  obtain ⟨σ1, c0, c1, c2, c3, c4, c5, c6, c7, c8⟩ := ncp (a := 55) (b := 20) (σ := σc) (by omega) (by omega) h8 C.2.1 (by omega)
  -- at each shift both say the same
  have both : ∀ (k : Nat) (s1 : St), k ≤ 60 → (∀ j, j < 55 → s1.1 j = σc.1 j) → s1.1 55 = σ1.1 55 → (∀ t, t < S → ¬ t = s → s1.1 56 t = σm.1 8 t) → s1.1 56 s = nI k → laid S 55 s1 → f_X6_allTrueOf (nI s) s1 = some (b01 (g k), s1) ∧ f_X8_isHonest (nI s) (sI σm 8 s (nI k)) = some (b01 (g k), sI σm 8 s (nI k)) := by
    intro k s1 hk f1 f2 f3 f4 ld1
    have C1 : VC H S v s1 := C.cg (fun j _ _ => f1 j (by omega))
    have M1 : VM H S v (sI σm 8 s (nI k)) := M.cg rfl rfl (fun j _ _ => sR_ne _ _ (by omega))
    have N1 : NR H S 55 s1 (sI σm 8 s (nI k)) := by
      refine ⟨fun t ht => ?_, ?_, ?_, ld1⟩
      · rw [sR_at]
        by_cases q : t = s
        · subst q; rw [pk_us]; exact ⟨f4, k, by omega, hk, rfl⟩
        · rw [pk_un q]; exact ⟨f3 t ht q, (N.1 t ht).2⟩
      · rw [f2, c4, c5, c6]; exact N.2.1
      · rw [f2, c7]; exact N.2.2.1
    obtain ⟨b, b1, b2⟩ := hon2 B C1 M1 N1 hs el (by omega) w0 (by rw [f1 52 (by omega)]; exact w1) w2 (fun i hi => by rw [f1 53 (by omega), f1 54 (by omega)]; exact w3 i hi)
    have e : g k = b := by
      rw [gd k, b2]
      cases b with
      | true => rfl
      | false => rfl
    rw [e]; exact ⟨b1, b2⟩
  have ref : f_X8_fits_39 (nI s) x2 (σm.1 8 s) 0 (-1) 0 σm = some (fitR g (σm.1 8 s) x2 61 0 0 (-1), σm) := by
    unfold f_X8_fits_39
    refine lp_m (fun d q o => ∃ (k : Nat) (x4 x5 : Int32) (t : St), k + d = 61 ∧ (∀ y, sI t 8 s y = sI σm 8 s y) ∧ q = (nI s, x2, σm.1 8 s, x4, x5, nI k, t) ∧ o = (fitR g (σm.1 8 s) x2 d k x4 x5, σm)) ?_ 100000 61 _ _ (by omega) ⟨0, 0, -1, σm, by omega, fun _ => rfl, rfl, rfl⟩
    rintro d rec _ o ⟨k, x4, x5, t, hk, ht, rfl, ho⟩ ih
    show b_X8_fits_39 rec (nI s) x2 (σm.1 8 s) x4 x5 (nI k) t = _
    unfold b_X8_fits_39 f_X8_fits_81 f_X8_fits_86
    rw [show (60 : Int32) = nI 60 from rfl, ck_n (by omega) (by omega), ck_n (by omega) (by omega), nm_d, nm_d, nI_clamp (by omega), ht, ht, sI_id, nI_1]
    cases d with
    | zero =>
      rw [if_pos (nI_lt (by omega) (by omega)), ho, fitR]
      by_cases q : x2 = -1
      · rw [if_pos q, if_pos q]
      · rw [if_neg q, if_neg q]
    | succ d =>
      rw [if_neg (nI_nlt (by omega) (by omega))]
      have go : ∀ (x4' x5' : Int32), o = (fitR g (σm.1 8 s) x2 d (k + 1) x4' x5', σm) → rec (nI s, x2, σm.1 8 s, x4', x5', nI (k + 1), sI σm 8 s (nI k)) = some o := fun x4' x5' h => ih d _ (by omega) ⟨k + 1, x4', x5', _, by omega, fun y => sI_sI _ _ _ _ _, rfl, h⟩
      by_cases q : nI k = σm.1 8 s
      · rw [if_pos q]
        exact go _ _ (by rw [ho, fitR, if_pos q])
      · rw [if_neg q]
        -- a class's state beside it
        obtain ⟨-, hh⟩ := both k (lay (sI σ1 56 s (nI k)) 55 s) (by omega) (fun j hj => by rw [lay_ne (by omega) (by omega) (by omega), sR_ne _ _ (by omega)]; exact c1 j (by omega)) (by rw [lay_ne (by omega) (by omega) (by omega), sR_ne _ _ (by omega)]) (fun t ht hne => by rw [lay_ne (by omega) (by omega) (by omega), sR_at, pk_un hne, c3 t (by omega)]; exact (N.1 t ht).1) (by rw [lay_ne (by omega) (by omega) (by omega), sR_at, pk_us]) (laid_shift (a := 55) (by omega) c8 (nI k))
        rw [hh, bd_s]
        by_cases z : g k = true
        · rw [z, b01_t, if_neg i10]
          by_cases w : x4 = x2
          · rw [if_pos w]
            exact go _ _ (by rw [ho, fitR, if_neg q, if_pos z, if_pos w])
          · rw [if_neg w]
            exact go _ _ (by rw [ho, fitR, if_neg q, if_pos z, if_neg w])
        · rw [show g k = false by simpa using z, b01_f, if_pos rfl]
          exact go _ _ (by rw [ho, fitR, if_neg q, if_neg z])
  have cls : ∃ z, f_X6_fitting_14 (nI s) x2 0 0 σ1 = some (fitC g (σm.1 8 s) x2 61 0 0, z) ∧ ∀ j, j < 55 ∨ 59 < j → z.1 j = σc.1 j := by
    unfold f_X6_fitting_14
    refine lp_x (fun d q => ∃ (k : Nat) (x4 : Int32) (t : St), k + d = 61 ∧ q = (nI s, x2, x4, nI k, t) ∧ (∀ j, j < 55 ∨ 59 < j → t.1 j = σc.1 j) ∧ t.1 55 = σ1.1 55 ∧ (∀ u, u < S → ¬ u = s → t.1 56 u = σm.1 8 u) ∧ laid S 55 t ∧ fitC g (σm.1 8 s) x2 61 0 0 = fitC g (σm.1 8 s) x2 d k x4) (fun (z : St) => some (fitC g (σm.1 8 s) x2 61 0 0, z)) (fun (z : St) => ∀ j, j < 55 ∨ 59 < j → z.1 j = σc.1 j) ?_ 100000 61 _ (by omega) ⟨0, 0, σ1, by omega, rfl, fun j hj => c1 j (by omega), rfl, fun u hu _ => by rw [c3 u (by omega)]; exact (N.1 u hu).1, c8, rfl⟩
    generalize fitC g (σm.1 8 s) x2 61 0 0 = r
    rintro d rec _ ⟨k, x4, t, hk, rfl, f1, f2, f3, f4, ho⟩ ih
    show ∃ z, b_X6_fitting_14 rec (nI s) x2 x4 (nI k) t = _ ∧ _
    have r21 : t.1 21 s = σm.1 8 s := by rw [f1 21 (by omega)]; exact (N.1 s hs).1
    unfold b_X6_fitting_14 f_X6_fitting_65
    rw [show (60 : Int32) = nI 60 from rfl]
    cases d with
    | zero =>
      rw [if_pos (nI_lt (by omega) (by omega)), ho, fitC]
      refine ⟨t, ?_, f1⟩
      by_cases q : x2 = -1
      · rw [if_pos q, if_pos q]
      · rw [if_neg q, if_neg q]
    | succ d =>
      rw [if_neg (nI_nlt (by omega) (by omega)), rd_n (by omega) (by omega), r21, nI_1]
      by_cases q : nI k = σm.1 8 s
      · rw [if_pos q]
        exact ih d _ (by omega) ⟨k + 1, x4, t, by omega, rfl, f1, f2, f3, f4, by rw [ho, fitC, if_pos q]⟩
      · rw [if_neg q, shO (by omega) (by omega), bv_s]
        have g1 : ∀ j, j < 55 ∨ 59 < j → (lay (sI t 56 s (nI k)) 55 s).1 j = σc.1 j := fun j hj => by rw [lay_ne (by omega) (by omega) (by omega), sR_ne _ _ (by omega)]; exact f1 j hj
        have g2 : (lay (sI t 56 s (nI k)) 55 s).1 55 = σ1.1 55 := by rw [lay_ne (by omega) (by omega) (by omega), sR_ne _ _ (by omega)]; exact f2
        have g3 : ∀ u, u < S → ¬ u = s → (lay (sI t 56 s (nI k)) 55 s).1 56 u = σm.1 8 u := fun u hu hne => by rw [lay_ne (by omega) (by omega) (by omega), sR_at, pk_un hne]; exact f3 u hu hne
        have g4 : laid S 55 (lay (sI t 56 s (nI k)) 55 s) := laid_shift (a := 55) (by omega) f4 (nI k)
        obtain ⟨hh, -⟩ := both k _ (by omega) (fun j hj => g1 j (by omega)) g2 g3 (by rw [lay_ne (by omega) (by omega) (by omega), sR_at, pk_us]) g4
        rw [hh, bd_s]
        by_cases z : g k = true
        · rw [z, b01_t, if_neg i10]
          by_cases w : x4 = x2
          · rw [if_pos w]
            exact ⟨_, by rw [ho, fitC, if_neg q, if_pos z, if_pos w], g1⟩
          · rw [if_neg w]
            exact ih d _ (by omega) ⟨k + 1, x4 + 1, _, by omega, rfl, g1, g2, g3, g4, by rw [ho, fitC, if_neg q, if_pos z, if_neg w]⟩
        · rw [show g k = false by simpa using z, b01_f, if_pos rfl]
          exact ih d _ (by omega) ⟨k + 1, x4, _, by omega, rfl, g1, g2, g3, g4, by rw [ho, fitC, if_neg q, if_neg z]⟩
  obtain ⟨z, z1, z2⟩ := cls
  unfold f_X6_fitting
  rw [c0, bv_s, z1, bd_s, ref, show (0 : Int32) = nI 0 from rfl, fit_eq 61 0 0 (by omega)]
  exact ⟨_, _, _, rfl, rfl, H, S, v, hI.cg (fun k hk => z2 k (by omega)) (fun _ _ => rfl) (fun _ _ => rfl)⟩
