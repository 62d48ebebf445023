/-! ===== pure: fields of a clause and its end, both sides (own work) ===== -/
/-- both read at q, no fault yet -/
def RR (n : Nat) (T : Nat → Nat) (q : Nat) (s t : St) : Prop := TT n T s t ∧ q ≤ n ∧ s.1 1 3 = nI q ∧ t.1 0 25 = nI q ∧ s.1 1 4 = 0
def FC (s s' : St) : Prop := (∀ k, k ≠ 1 → k < 11 ∨ 18 < k → s'.1 k = s.1 k) ∧ ∀ j, j ≠ 3 → j ≠ 4 → j ≠ 5 → s'.1 1 j = s.1 1 j
def FM (t t' : St) : Prop := (∀ k, k ≠ 0 → k < 14 ∨ 20 < k → t'.1 k = t.1 k) ∧ ∀ j, j < 24 ∨ 34 < j → t'.1 0 j = t.1 0 j
theorem FC.rf (s : St) : FC s s := ⟨fun _ _ _ => rfl, fun _ _ _ _ => rfl⟩
theorem FM.rf (t : St) : FM t t := ⟨fun _ _ _ => rfl, fun _ _ => rfl⟩
theorem FC.tr {s s' s'' : St} (h : FC s s') (g : FC s' s'') : FC s s'' := ⟨fun k a b => by rw [g.1 k a b, h.1 k a b], fun j a b c => by rw [g.2 j a b c, h.2 j a b c]⟩
theorem FM.tr {t t' t'' : St} (h : FM t t') (g : FM t' t'') : FM t t'' := ⟨fun k a b => by rw [g.1 k a b, h.1 k a b], fun j a => by rw [g.2 j a, h.2 j a]⟩
theorem FC.of {s s' : St} (h : gC s s') : FC s s' := ⟨fun k a _ => h.1 k a, h.2⟩
theorem FM.of {t t' : St} (h : gM t t') : FM t t' := ⟨fun k a _ => h.1 k a, fun j a => h.2 j (by omega)⟩
theorem FC.st (s : St) {k : Nat} (hk : 11 ≤ k ∧ k ≤ 18) (j : Nat) (x : Int32) : FC s (sI s k j x) := ⟨fun i a b => sR_ne _ _ (by omega), fun i _ _ _ => by rw [sR_ne _ _ (by omega)]⟩
theorem FM.st (t : St) {k : Nat} (hk : 14 ≤ k ∧ k ≤ 20) (j : Nat) (x : Int32) : FM t (sI t k j x) := ⟨fun i a b => sR_ne _ _ (by omega), fun i _ => by rw [sR_ne _ _ (by omega)]⟩
theorem FM.s0 (t : St) {j : Nat} (hj : 24 ≤ j ∧ j ≤ 34) (x : Int32) : FM t (sI t 0 j x) := ⟨fun k a _ => sR_ne _ _ a, fun i a => by rw [sR_at, pk_un (by omega)]⟩
theorem TT.fr {n : Nat} {T : Nat → Nat} {s s' t t' : St} (X : TT n T s t) (h : FC s s') (g : FM t t') : TT n T s' t' := by
  obtain ⟨a, b, c, d⟩ := X
  refine ⟨a, by rw [h.2 1 (by omega) (by omega) (by omega)]; exact b, by rw [g.2 23 (by omega)]; exact c, fun j hj => ?_⟩
  rw [g.1 13 (by omega) (by omega), h.1 2 (by omega) (by omega)]; exact d j hj
/-- the class behind a fault -/
def BD (n f b : Nat) (s0 s : St) : Prop := (1 ≤ f ∧ f ≤ 3) ∧ s.1 1 4 = nI f ∧ s.1 1 5 = nI b ∧ FC s0 s ∧ ∃ q, q ≤ n ∧ s.1 1 3 = nI q
theorem BD.st {n f b : Nat} {s0 s : St} (h : BD n f b s0 s) {k : Nat} (hk : 11 ≤ k ∧ k ≤ 18) (j : Nat) (x : Int32) : BD n f b s0 (sI s k j x) := by
  obtain ⟨h1, h2, h3, h4, q, h5, h6⟩ := h
  have e : (sI s k j x).1 1 = s.1 1 := sR_ne _ _ (by omega)
  exact ⟨h1, by rw [e]; exact h2, by rw [e]; exact h3, h4.tr (FC.st s hk j x), q, h5, by rw [e]; exact h6⟩
theorem BD.from {n f b : Nat} {s0 s1 s : St} (g : FC s0 s1) (h : BD n f b s1 s) : BD n f b s0 s := ⟨h.1, h.2.1, h.2.2.1, g.tr h.2.2.2.1, h.2.2.2.2⟩
theorem BD.rn {n f b : Nat} {s0 s : St} (h : BD n f b s0 s) (lo hi : Int32) : f_X4_readNumber lo hi s = some (0, s) := by
  unfold f_X4_readNumber
  have := h.1
  rw [h.2.1, if_neg (nI_ne0 (by omega) (by omega))]
theorem BD.re {n f b : Nat} {s0 s : St} (h : BD n f b s0 s) : f_X4_readEnd s = some s := by
  unfold f_X4_readEnd
  have := h.1
  rw [h.2.1, if_neg (nI_ne0 (by omega) (by omega))]
/-- one number into a row -/
def FS (k z v : Nat) (s s' : St) : Prop := s'.1 k = upd (s.1 k) z (nI v) ∧ (∀ i, i ≠ 1 → i ≠ k → s'.1 i = s.1 i) ∧ ∀ j, j ≠ 3 → j ≠ 4 → s'.1 1 j = s.1 1 j
def FT (k z v : Nat) (t t' : St) : Prop := t'.1 k = upd (t.1 k) z (nI v) ∧ (∀ i, i ≠ 0 → i ≠ k → t'.1 i = t.1 i) ∧ ∀ j, j < 25 ∨ 29 < j → t'.1 0 j = t.1 0 j
theorem FS.fc {k z v : Nat} {s s' : St} (h : FS k z v s s') (hk : 11 ≤ k ∧ k ≤ 18) : FC s s' := ⟨fun i a b => h.2.1 i a (by omega), fun j a b _ => h.2.2 j a b⟩
theorem FT.fm {k z v : Nat} {t t' : St} (h : FT k z v t t') (hk : 14 ≤ k ∧ k ≤ 20) : FM t t' := ⟨fun i a b => h.2.1 i a (by omega), fun j a => h.2.2 j (by omega)⟩
theorem fld {n p : Nat} {T : Nat → Nat} {s t : St} (X : RR n T p s t) (lo hi : Int32) {kc km N z : Nat} (hc : 11 ≤ kc ∧ kc ≤ 18) (hm : 14 ≤ km ∧ km ≤ 20) (hz : z < N) (hN : N ≤ 8) :
    (∃ (v q : Nat) (s1 t' : St), f_X4_readNumber lo hi s = some (nI v, s1) ∧ f_X8_into km N (nI z) lo hi t = some (0, t') ∧ lo ≤ nI v ∧ nI v ≤ hi ∧ v ≤ 999 ∧ p < q ∧ RR n T q (sI s1 kc z (nI v)) t' ∧ FS kc z v s (sI s1 kc z (nI v)) ∧ FT km z v t t') ∨
    (∃ (x : Int32) (f b : Nat) (s1 t' : St), f_X4_readNumber lo hi s = some (x, s1) ∧ f_X8_into km N (nI z) lo hi t = some (nI f, t') ∧ BD n f b s s1 ∧ t'.1 0 24 = nI b ∧ FM t t') := by
  obtain ⟨X1, hp, e, e2, e4⟩ := X
  unfold f_X8_into
  rcases num2 X1 hp e e2 e4 lo hi with ⟨v, q, s1, t1, a1, a2, a3, a4, a5, a6, a7, a8, a9, a10, a11, a12, a13, a14, a15⟩ | ⟨x, f, b, s1, t1, a1, a2, a3, a4, a5, a6, a7, a8, a9⟩
  · refine Or.inl ⟨v, q, s1, sI t1 km z (nI v), a1, ?_, a3, a4, a5, a6, ⟨X1.fr ((FC.of a11).tr (FC.st s1 hc _ _)) ((FM.of a12).tr (FM.st t1 hm _ _)), a7, ?_, ?_, ?_⟩, ⟨?_, fun i i1 i2 => ?_, fun j j1 j2 => ?_⟩, ⟨?_, fun i i1 i2 => ?_, fun j j1 => ?_⟩⟩
    · rw [a2, bd_s, ck_n hz (by omega), nm_d, nI_clamp (by omega), a10]
    · rw [sR_ne _ _ (by omega)]; exact a8
    · rw [sR_ne _ _ (by omega)]; exact a9
    · rw [sR_ne _ _ (by omega)]; exact a13
    · rw [sR_at, a11.1 kc (by omega)]
    · rw [sR_ne _ _ i2]; exact a11.1 i i1
    · rw [sR_ne _ _ (by omega)]
      by_cases z : j = 5
      · subst z; exact a14
      · exact a11.2 j j1 j2 z
    · rw [sR_at, a12.1 km (by omega)]
    · rw [sR_ne _ _ i2]; exact a12.1 i i1
    · rw [sR_ne _ _ (by omega)]
      by_cases z : j = 24
      · subst z; exact a15
      · exact a12.2 j (by omega)
  · refine Or.inr ⟨x, f, b, s1, sI t1 km z (t1.1 0 28), a1, ?_, ⟨by omega, a4, a5, FC.of a7, a9⟩, ?_, (FM.of a8).tr (FM.st t1 hm _ _)⟩
    · rw [a2, bd_s, ck_n hz (by omega), nm_d, nI_clamp (by omega)]
    · rw [sR_ne _ _ (by omega)]; exact a6
theorem noteC {n f b q : Nat} {s0 s : St} (hf : 1 ≤ f ∧ f ≤ 3) (h : FC s0 s) (hq : q ≤ n) (e : s.1 1 3 = nI q) : ∃ s', f_X4_note (nI f) (nI b) s = some s' ∧ BD n f b s0 s' := by
  unfold f_X4_note
  rw [nm_d, nm_d]
  exact ⟨_, rfl, hf, by rw [sR_at, pk_un (by omega), sR_at, pk_us], by rw [sR_at, pk_us], h.tr ((FC.of (gC.st s (by omega) _)).tr (FC.of (gC.st _ (by omega) _))), q, hq, by rw [sR_at, pk_un (by omega), sR_at, pk_un (by omega)]; exact e⟩
theorem end2 {n p : Nat} {T : Nat → Nat} {s t : St} (X : RR n T p s t) :
    (∃ (q : Nat) (s' t' : St), f_X4_readEnd s = some s' ∧ f_X8_takeClause_136 0 t = some (0, t') ∧ p < q ∧ RR n T q s' t' ∧ (∀ k, k ≠ 1 → s'.1 k = s.1 k) ∧ (∀ j, j ≠ 3 → s'.1 1 j = s.1 1 j) ∧ (∀ k, k ≠ 0 → t'.1 k = t.1 k) ∧ ∀ j, j ≠ 25 → t'.1 0 j = t.1 0 j) ∨
    (∃ (f b : Nat) (s' t' : St), f_X4_readEnd s = some s' ∧ f_X8_takeClause_136 0 t = some (nI f, t') ∧ BD n f b s s' ∧ t'.1 0 24 = nI b ∧ FM t t') := by
  obtain ⟨X1, hp, e, e2, e4⟩ := X
  unfold f_X4_readEnd f_X8_takeClause_136
  rw [e4, if_pos rfl, if_pos rfl, skipC X1 hp e, bv_s, hereM X1 hp e2, bd_s]
  obtain ⟨k1, k2, k3⟩ := skp_b T (n - p) p
  generalize skp T (n - p) p = p' at k1 k2 k3
  have hn := X1.1
  have c1 : gC s (sI s 1 3 (nI p')) := gC.st s (by omega) _
  have m1 : gM t (sI t 0 25 (nI p')) := gM.st t (by omega) _
  have s1 : (sI s 1 3 (nI p')).1 1 1 = nI n := by rw [sR_at, pk_un (by omega)]; exact X1.2.1
  have s3 : (sI s 1 3 (nI p')).1 1 3 = nI p' := by rw [sR_at, pk_us]
  have s2 : (sI s 1 3 (nI p')).1 2 = s.1 2 := sR_ne _ _ (by omega)
  have t25 : (sI t 0 25 (nI p')).1 0 25 = nI p' := by rw [sR_at, pk_us]
  unfold f_X4_readEnd_50 f_X8_takeClause_160 f_X8_fails
  rw [s1, s2, s3, t25]
  obtain ⟨s', b1, b2⟩ := noteC (n := n) (f := 1) (b := p') (s0 := s) (by omega) (FC.of c1) (show p' ≤ n by omega) s3
  have b1' : f_X4_note 1 (nI p') (sI s 1 3 (nI p')) = some s' := b1
  rw [b1', bv_s, nm_d, nm_d, nm_d, bd_s, sI_sI, sI_sI, nI_1]
  have bad : (∃ (f b : Nat) (s'' t' : St), some s' = some s'' ∧ some ((1 : Int32), sI (sI t 0 25 (nI p')) 0 24 (nI p')) = some (nI f, t') ∧ BD n f b s s'' ∧ t'.1 0 24 = nI b ∧ FM t t') := ⟨1, p', s', _, rfl, rfl, b2, by rw [sR_at, pk_us], (FM.of m1).tr (FM.s0 _ (by omega) _)⟩
  by_cases z : p' < n
  · have h := X1.2.2.2 p' z
    rw [if_neg (nI_ge z (by omega)), rd_n (by omega) (by omega), h.2.2, hch, if_pos z, show (59 : Int32) = nI 59 from rfl]
    by_cases q : T p' = 59
    · rw [if_pos ((bc_eq h.1 (by omega)).mpr q), if_pos (by rw [q])]
      refine Or.inl ⟨p' + 1, _, _, rfl, rfl, by omega, ⟨X1.cg (gC.st s (by omega) _) (gM.st t (by omega) _), by omega, by rw [sR_at, pk_us], by rw [sR_at, pk_us], by rw [sR_at, pk_un (by omega)]; exact e4⟩, fun k hk => sR_ne _ _ hk, fun j hj => by rw [sR_at, pk_un hj], fun k hk => sR_ne _ _ hk, fun j hj => by rw [sR_at, pk_un hj]⟩
    · rw [if_neg (fun w => q ((bc_eq h.1 (by omega)).mp w)), if_neg (fun w => q ((nI_eq (by omega) (by omega)).mp w))]
      exact Or.inr bad
  · rw [if_pos (nI_le (by omega) (by omega)), hch, if_neg z, if_neg (by decide)]
    exact Or.inr bad
