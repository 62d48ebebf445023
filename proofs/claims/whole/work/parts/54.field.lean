/-! ===== pure: one number of a clause, both sides (own work) ===== -/
def gC (s s' : St) : Prop := (∀ k, k ≠ 1 → s'.1 k = s.1 k) ∧ ∀ j, j ≠ 3 → j ≠ 4 → j ≠ 5 → s'.1 1 j = s.1 1 j
def gM (t t' : St) : Prop := (∀ k, k ≠ 0 → t'.1 k = t.1 k) ∧ ∀ j, j < 24 ∨ 29 < j → t'.1 0 j = t.1 0 j
theorem gC.rfl' (s : St) : gC s s := ⟨fun _ _ => rfl, fun _ _ _ _ => rfl⟩
theorem gM.rfl' (t : St) : gM t t := ⟨fun _ _ => rfl, fun _ _ => rfl⟩
theorem gC.tr {s s' s'' : St} (h : gC s s') (g : gC s' s'') : gC s s'' := ⟨fun k hk => by rw [g.1 k hk, h.1 k hk], fun j a b c => by rw [g.2 j a b c, h.2 j a b c]⟩
theorem gM.tr {s s' s'' : St} (h : gM s s') (g : gM s' s'') : gM s s'' := ⟨fun k hk => by rw [g.1 k hk, h.1 k hk], fun j a => by rw [g.2 j a, h.2 j a]⟩
theorem gC.st (s : St) {j : Nat} (hj : j = 3 ∨ j = 4 ∨ j = 5) (x : Int32) : gC s (sI s 1 j x) := ⟨fun k hk => sR_ne _ _ hk, fun i a b c => by rw [sR_at, pk_un (by omega)]⟩
theorem gM.st (t : St) {j : Nat} (hj : 24 ≤ j ∧ j ≤ 29) (x : Int32) : gM t (sI t 0 j x) := ⟨fun k hk => sR_ne _ _ hk, fun i a => by rw [sR_at, pk_un (by omega)]⟩
theorem TT.cg {n : Nat} {T : Nat → Nat} {s s' t t' : St} (X : TT n T s t) (h : gC s s') (g : gM t t') : TT n T s' t' := by
  obtain ⟨a, b, c, d⟩ := X
  refine ⟨a, by rw [h.2 1 (by omega) (by omega) (by omega)]; exact b, by rw [g.2 23 (by omega)]; exact c, fun j hj => ?_⟩
  rw [g.1 13 (by omega), h.1 2 (by omega)]; exact d j hj
theorem N2_g (t : St) (x p : Nat) : gM t (N2 t x p) := ⟨fun k hk => N2_ne t x p hk, fun j hj => by rw [N2_get, if_neg (by omega), if_neg (by omega)]⟩
theorem N2_0 {t : St} {p : Nat} (e : t.1 0 25 = nI p) : sI t 0 28 0 = N2 t 0 p := by
  unfold N2
  refine Prod.ext ?_ rfl
  funext k
  by_cases z : k = 0
  · subst z
    rw [sR_at, sR_at]
    funext j
    by_cases j1 : j = 25
    · subst j1; rw [pk_un (by omega), pk_us]; exact e
    · rw [pk_un j1]; rfl
  · rw [sR_ne _ _ z, sR_ne _ _ z]
theorem num2 {n p : Nat} {T : Nat → Nat} {s t : St} (X : TT n T s t) (hp : p ≤ n) (e : s.1 1 3 = nI p) (e2 : t.1 0 25 = nI p) (e4 : s.1 1 4 = 0) (lo hi : Int32) : (∃ (v q : Nat) (s' t' : St), f_X4_readNumber lo hi s = some (nI v, s') ∧ f_X8_takeNumber lo hi t = some (0, t') ∧ lo ≤ nI v ∧ nI v ≤ hi ∧ v ≤ 999 ∧ p < q ∧ q ≤ n ∧ s'.1 1 3 = nI q ∧ t'.1 0 25 = nI q ∧ t'.1 0 28 = nI v ∧ gC s s' ∧ gM t t' ∧ s'.1 1 4 = 0 ∧ s'.1 1 5 = s.1 1 5 ∧ t'.1 0 24 = t.1 0 24) ∨
    (∃ (x : Int32) (f b : Nat) (s' t' : St), f_X4_readNumber lo hi s = some (x, s') ∧ f_X8_takeNumber lo hi t = some (nI f, t') ∧ (f = 1 ∨ f = 2) ∧ s'.1 1 4 = nI f ∧ s'.1 1 5 = nI b ∧ t'.1 0 24 = nI b ∧ gC s s' ∧ gM t t' ∧ ∃ q, q ≤ n ∧ s'.1 1 3 = nI q) := by
  have hn := X.1
  unfold f_X4_readNumber f_X8_takeNumber
  rw [e4, if_pos rfl, skipC X hp e, bv_s, nm_d, hereM X hp e2, bd_s]
  obtain ⟨k1, k2, k3⟩ := skp_b T (n - p) p
  generalize skp T (n - p) p = p' at k1 k2 k3
  have c1 : gC s (sI s 1 3 (nI p')) := gC.st s (by omega) _
  have m1 : gM t (sI t 0 25 (nI p')) := gM.st t (by omega) _
  have e3 : (sI s 1 3 (nI p')).1 1 3 = nI p' := by rw [sR_at, pk_us]
  rw [e3, numC (X.cg c1 m1) (by omega) e3, sI_sI]
  have hg := dgt_b T (n - p') p'
  have cE : gC s (sI s 1 3 (nI (dgt T (n - p') p'))) := gC.st s (by omega) _
  have s3 : (sI s 1 3 (nI (dgt T (n - p') p'))).1 1 3 = nI (dgt T (n - p') p') := by rw [sR_at, pk_us]
  have s4 : (sI s 1 3 (nI (dgt T (n - p') p'))).1 1 4 = 0 := by rw [sR_at, pk_un (by omega)]; exact e4
  have s5 : (sI s 1 3 (nI (dgt T (n - p') p'))).1 1 5 = s.1 1 5 := by rw [sR_at, pk_un (by omega)]
  unfold f_X4_readNumber_103 f_X4_readNumber_142
  rw [s3]
  -- a fault noted by the class
  have note : ∀ (f b : Nat) (s0 : St), gC s s0 → ∃ s', f_X4_note (nI f) (nI b) s0 = some s' ∧ s'.1 1 4 = nI f ∧ s'.1 1 5 = nI b ∧ gC s s' ∧ s'.1 1 3 = s0.1 1 3 := fun f b s0 h0 => by
    unfold f_X4_note
    rw [nm_d, nm_d]
    refine ⟨_, rfl, by rw [sR_at, pk_un (by omega), sR_at, pk_us], by rw [sR_at, pk_us], (h0.tr (gC.st s0 (by omega) _)).tr (gC.st _ (by omega) _), by rw [sR_at, pk_un (by omega), sR_at, pk_un (by omega)]⟩
  by_cases hd : p' < n ∧ (48 ≤ T p' ∧ T p' ≤ 57)
  · obtain ⟨d, hd'⟩ : ∃ d, n - p' = d + 1 := ⟨n - p' - 1, by omega⟩
    have hgt : p' < dgt T (n - p') p' := by
      rw [hd', dgt, if_pos hd.2]; have := dgt_b T d (p' + 1); omega
    have hch1 : hch n T p' = nI (T p') := by rw [hch, if_pos hd.1]
    rw [hch1, in_1 (a := 48) (b := 57) (by decide) (by decide) _ ⟨nI_le (a := 48) hd.2.1 (by omega), nI_le (b := 57) hd.2.2 (by omega)⟩, bd_s, if_neg i10, nm_d, nm_d]
    have t25 : (sI t 0 25 (nI p')).1 0 25 = nI p' := by rw [sR_at, pk_us]
    rw [t25]
    generalize ht1 : sI (sI t 0 25 (nI p')) 0 29 (nI p') = t1
    have m2 : gM t t1 := by rw [← ht1]; exact m1.tr (gM.st _ (by omega) _)
    have t125 : t1.1 0 25 = nI p' := by rw [← ht1, sR_at, pk_un (by omega)]; exact t25
    have t129 : t1.1 0 29 = nI p' := by rw [← ht1, sR_at, pk_us]
    have t124 : t1.1 0 24 = t.1 0 24 := by rw [← ht1, sR_at, pk_un (by omega), sR_at, pk_un (by omega)]
    rw [N2_0 t125, numM (X.cg c1 m2) (by omega)]
    generalize hE : dgt T (n - p') p' = E at *
    unfold f_X8_takeNumber_129 f_X8_takeNumber_157 f_X8_fails
    have u25 : ∀ x, (N2 t1 x E).1 0 25 = nI E := fun x => by rw [N2_get]; rfl
    have u29 : ∀ x, (N2 t1 x E).1 0 29 = nI p' := fun x => by rw [N2_get]; exact t129
    have u28 : ∀ x, (N2 t1 x E).1 0 28 = nI x := fun x => by rw [N2_get]; rfl
    have u24 : ∀ x, (N2 t1 x E).1 0 24 = t.1 0 24 := fun x => by rw [N2_get]; exact t124
    rw [u25, u29, u28, if_neg (show ¬ nI E = nI p' from fun z => by have := (nI_eq (by omega) (by omega)).mp z; omega), show (3 : Int32) = nI 3 from rfl, pk_sub (by omega)]
    simp only [nm_d, bd_s]
    -- a fault on both sides
    have flt : ∀ (V : Nat), (∃ (x : Int32) (f b : Nat) (s' t' : St), bv (f_X4_note 2 (nI p') (sI s 1 3 (nI E))) (fun σ20 => some (nI (cvl T p' (n - p') p' 0), σ20)) = some (x, s') ∧ some ((2 : Int32), sI (N2 t1 V E) 0 24 (nI p')) = some (nI f, t') ∧ (f = 1 ∨ f = 2) ∧ s'.1 1 4 = nI f ∧ s'.1 1 5 = nI b ∧ t'.1 0 24 = nI b ∧ gC s s' ∧ gM t t' ∧ ∃ q, q ≤ n ∧ s'.1 1 3 = nI q) := fun V => by
      obtain ⟨s', a1, a2, a3, a4, a5⟩ := note 2 p' _ cE
      have a1' : f_X4_note 2 (nI p') (sI s 1 3 (nI E)) = some s' := a1
      rw [a1', bv_s]
      exact ⟨_, 2, p', s', _, rfl, rfl, Or.inr rfl, a2, a3, by rw [sR_at, pk_us], a4, (m2.tr (N2_g t1 V E)).tr (gM.st _ (by omega) _), E, by omega, a5.trans s3⟩
    by_cases h3 : 3 < E - p'
    · rw [if_pos (nI_lt h3 (by omega)), if_pos (nI_lt h3 (by omega))]
      exact Or.inr (flt _)
    · rw [if_neg (nI_nlt (by omega) (by omega)), if_neg (nI_nlt (by omega) (by omega))]
      obtain ⟨v1, v2⟩ := vl_eq (T := T) (st := p') (n - p') p' 0 (by omega) (fun _ => rfl) (by omega) (by omega) (by omega) (by omega)
      rw [← v1]
      by_cases h4 : nI (cvl T p' (n - p') p' 0) < lo
      · rw [if_pos h4, in_0 (a := lo) (b := hi) rfl rfl _ (fun z => Int32.not_le.mpr h4 z.1)]
        simp only [bd_s, if_true, u29]
        exact Or.inr (flt _)
      · rw [if_neg h4]
        by_cases h5 : nI (cvl T p' (n - p') p' 0) ≤ hi
        · rw [if_pos h5, in_1 (a := lo) (b := hi) rfl rfl _ ⟨Int32.not_lt.mp h4, h5⟩]
          simp only [bd_s, if_neg i10]
          exact Or.inl ⟨_, E, _, _, rfl, rfl, Int32.not_lt.mp h4, h5, v2, by omega, by omega, s3, u25 _, u28 _, cE, m2.tr (N2_g t1 _ E), s4, s5, u24 _⟩
        · rw [if_neg h5, in_0 (a := lo) (b := hi) rfl rfl _ (fun z => h5 z.2)]
          simp only [bd_s, if_true, u29]
          exact Or.inr (flt _)
  · have hE : dgt T (n - p') p' = p' := by
      cases hh : n - p' with
      | zero => rw [dgt]
      | succ d => rw [dgt, if_neg (fun z => hd ⟨by omega, z⟩)]
    have hc : ¬ (48 ≤ hch n T p' ∧ hch n T p' ≤ 57) := by
      unfold hch
      by_cases z : p' < n
      · rw [if_pos z]
        have hT := (X.2.2.2 p' z).1
        exact fun w => hd ⟨z, (nI_leI (a := 48) (by omega) (by omega)).mp w.1, (nI_leI (b := 57) (by omega) (by omega)).mp w.2⟩
      · rw [if_neg z]; decide
    rw [hE] at s3 s4 s5 cE ⊢
    rw [in_0 (a := 48) (b := 57) (by decide) (by decide) _ hc, bd_s, if_pos rfl, if_pos rfl]
    unfold f_X8_fails
    have t25 : (sI t 0 25 (nI p')).1 0 25 = nI p' := by rw [sR_at, pk_us]
    rw [t25, nm_d, bd_s]
    obtain ⟨s', a1, a2, a3, a4, a5⟩ := note 1 p' _ cE
    have a1' : f_X4_note 1 (nI p') (sI s 1 3 (nI p')) = some s' := a1
    rw [a1', bv_s]
    exact Or.inr ⟨_, 1, p', s', _, rfl, rfl, Or.inl rfl, a2, a3, by rw [sR_at, pk_us], a4, m1.tr (gM.st _ (by omega) _), p', by omega, a5.trans s3⟩
