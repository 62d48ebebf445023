/-! ===== pure: the odds of a sleeper (own work) ===== -/
theorem lp_q {α ρ : Type} {B : (α → Option ρ) → α → Option ρ} (A : Nat → α → Option ρ → Prop) (hs : ∀ (d : Nat) (rec : α → Option ρ) (a : α) (o : Option ρ), A d a o → (∀ (d' : Nat) (a' : α), d' < d → A d' a' o → rec a' = o) → B rec a = o) : ∀ (n d : Nat) (a : α) (o : Option ρ), d < n → A d a o → lp B n a = o := by
  intro n
  induction n with
  | zero => intro d a o h; omega
  | succ n ih => intro d a o h hA; exact hs d (lp B n) a o hA (fun d' a' hd' hA' => ih d' a' o (by omega) hA')
def prt (c al : Nat → Nat) (s : Nat) : Nat → Nat → Nat → Nat
  | 0, _, v => v
  | d + 1, o, v => prt c al s d (o + 1) (if o = s then v else v * c o / al o)
def smm (p : Int → Nat) : Nat → Int → Nat
  | 0, _ => 0
  | d + 1, u => p u + smm p d (u + 1)
def mn (u r : Int) : Int := if r ≤ u then r else u
def ptN (l : Nat) (F L R : Nat → Int) (S s : Nat) (u : Int) : Nat := prt (fun o => cN l F L R o s (mn u (R s))) (aN F L) s S 0 (1000000000 / aN F L s)
def odN (l : Nat) (F L R : Nat → Int) (S s : Nat) : Nat := if l = 2 then 1000000000 / S else smm (ptN l F L R S s) (aN F L s) (F s)
theorem prt_z (c al : Nat → Nat) (s : Nat) : ∀ d o, prt c al s d o 0 = 0 := by
  intro d
  induction d with
  | zero => intro o; rfl
  | succ d ih => intro o; rw [prt]; split <;> simp [ih]
theorem prt_mono {c c' al : Nat → Nat} {s : Nat} (h : ∀ o, c' o ≤ c o) : ∀ d o v v', v' ≤ v → prt c' al s d o v' ≤ prt c al s d o v := by
  intro d
  induction d with
  | zero => intro o v v' hv; exact hv
  | succ d ih =>
    intro o v v' hv
    rw [prt, prt]
    apply ih
    split
    · exact hv
    · exact Nat.div_le_div_right (Nat.mul_le_mul hv (h o))
theorem prt_le {c al : Nat → Nat} {s S : Nat} (h : ∀ o, o < S → c o ≤ al o) : ∀ d o v, o + d = S → prt c al s d o v ≤ v := by
  intro d
  induction d with
  | zero => intro o v _; exact Nat.le_refl _
  | succ d ih =>
    intro o v ho
    rw [prt]
    refine Nat.le_trans (ih (o + 1) _ (by omega)) ?_
    split
    · exact Nat.le_refl _
    · exact Nat.div_le_of_le_mul (by rw [Nat.mul_comm]; exact Nat.mul_le_mul_right v (h o (by omega)))
theorem cGe_anti {F L R y y' : Int} (h : F ≤ L) (hy : y ≤ y') : cGe F L R y' ≤ cGe F L R y := by
  unfold cGe
  by_cases h1 : R < y'
  · rw [if_pos h1]
    have := cGe_b (R := R) (y := y) h
    unfold cGe at this
    exact this.1
  · rw [if_neg h1, if_neg (show ¬ R < y by omega)]
    by_cases h2 : y' ≤ L
    · rw [if_pos h2, if_pos (show y ≤ L by omega)]
      split <;> split <;> omega
    · rw [if_neg h2]
      split
      · split <;> omega
      · omega
theorem ptN_anti {S : Nat} {F L R : Nat → Int} (nb : ∀ o, F o ≤ L o) {s : Nat} {u u' : Int} (h : u ≤ u') : ptN 0 F L R S s u' ≤ ptN 0 F L R S s u := by
  unfold ptN
  refine prt_mono (fun o => ?_) S 0 _ _ (Nat.le_refl _)
  have hm : mn u (R s) ≤ mn u' (R s) := by unfold mn; split <;> split <;> omega
  unfold cN
  rw [if_pos rfl, if_pos rfl]
  refine Int.toNat_le_toNat (cGe_anti (nb o) ?_)
  split <;> omega
theorem smm_z {p : Int → Nat} : ∀ d u, (∀ w, u ≤ w → p w = 0) → smm p d u = 0 := by
  intro d
  induction d with
  | zero => intro u _; rfl
  | succ d ih => intro u h; rw [smm, h u (by omega), ih (u + 1) (fun w hw => h w (by omega))]
theorem smm_le {p : Int → Nat} {b : Nat} : ∀ d u, (∀ w, p w ≤ b) → smm p d u ≤ d * b := by
  intro d
  induction d with
  | zero => intro u _; simp [smm]
  | succ d ih => intro u h; rw [smm, Nat.succ_mul]; have := h u; have := ih (u + 1) h; omega
theorem hrd_tI (r x : Int32) : (hrd r x).toInt = mn x.toInt r.toInt := by
  unfold hrd mn
  by_cases h : r ≤ x
  · rw [if_pos h, if_pos (le_toInt.mp h)]
  · rw [if_neg h, if_neg (fun q => h (le_toInt.mpr q))]
theorem l0 {v : Nat} (h : v < 2 ^ 63) : lg_cmp (lN v) 0 = 0 ↔ v = 0 := by
  rw [lg_cmp_eq]
  exact pk_lEQ (b := 0) h (by omega)
theorem nzL_N {n : Nat} (h0 : 0 < n) (h : n < 2 ^ 31) : nzL (lN n) = true := decide_eq_true (fun e => by have := (pk_lEQ (b := 0) (show n < 2 ^ 63 by omega) (by omega)).mp e; omega)
theorem nz_N {n : Nat} (h0 : 0 < n) (h : n < 2 ^ 31) : nz (nI n) = true := decide_eq_true (nI_ne0 h0 h)
theorem sp1 (n : Nat) : (2 * nI n + 1 : Int32) = nI (2 * n + 1) := by rw [show (2 : Int32) = nI 2 from rfl, pk_mul, nI_1]
/-- the class's inner loop -/
theorem inC {H S a s : Nat} {v : Nat → Nat → Nat} {σ : St} (B : VB H S v) (C : VC H S v σ) (hs : s < S) (c al : Nat → Nat) (x6 : Int32) (hc : ∀ o, o < S → f_X1_letting a (nI o) (nI s) x6 σ = some (nI (c o), σ)) (hca : ∀ o, o < S → c o ≤ al o) (hal : ∀ o, o < S → al o = 2 * v 5 o + 1) (rec : Int32 × Int32 × Int32 × St → Option (Int32 × St)) (x2 x3 : Int32) {w : Nat} (hw : w ≤ 1000000000) :
    f_X1_oddsOf_82 a rec (nI s) x2 x3 (lN w) x6 0 σ = f_X1_oddsOf_144 a rec (nI s) x2 x3 (lN (prt c al s S 0 w)) σ := by
  have h8 := B.2.1
  unfold f_X1_oddsOf_82
  refine lp_q (fun d q res => ∃ o w, o + d = S ∧ w ≤ 1000000000 ∧ q = (nI s, x2, x3, lN w, x6, nI o, σ) ∧ res = f_X1_oddsOf_144 a rec (nI s) x2 x3 (lN (prt c al s d o w)) σ) ?_ 100000 S _ _ (by omega) ⟨0, w, by omega, hw, rfl, rfl⟩
  rintro d rec2 _ _ ⟨o, w, ho, hw, rfl, rfl⟩ ih
  show b_X1_oddsOf_82 a rec rec2 (nI s) x2 x3 (lN w) x6 (nI o) σ = _
  unfold b_X1_oddsOf_82 f_X1_oddsOf_138
  rw [C.2.1]
  cases d with
  | zero => rw [if_pos (nI_le (by omega) (by omega)), prt]
  | succ d =>
    rw [if_neg (nI_ge (by omega) (by omega))]
    by_cases h0 : w = 0
    · subst h0
      rw [if_pos ((l0 (by omega)).mpr rfl), prt_z]
    · rw [if_neg (fun q => h0 ((l0 (by omega)).mp q))]
      by_cases e : o = s
      · rw [if_pos (by rw [e]), nI_1]
        exact ih d _ (by omega) ⟨o + 1, w, by omega, hw, rfl, by rw [prt, if_pos e]⟩
      · have ho2 : o < S := by omega
        have hb := B.2.2.2 o ho2
        have hc1 := hca o ho2
        have hal' := hal o ho2
        rw [if_neg (fun q => e ((nI_eq (by omega) (by omega)).mp q)), hc o ho2, bd_s, rd_n (by omega) (by omega), (C.2.2.2 o ho2).2.2.1, sp1, nI_l (by omega), nI_l (by omega), nzL_N (by omega) (by omega), ck_t, nm_d, lN_mul, nI_1]
        have hp : w * c o ≤ 1000000000 * 119 := Nat.mul_le_mul hw (by omega)
        rw [pk_lDiv (by omega) (by omega) (by omega), ← hal']
        refine ih d _ (by omega) ⟨o + 1, _, by omega, ?_, rfl, by rw [prt, if_neg e]⟩
        exact Nat.le_trans (Nat.div_le_of_le_mul (by rw [Nat.mul_comm]; exact Nat.mul_le_mul_right w hc1)) hw
/-- the reference's inner loop -/
theorem inM {H S s : Nat} {v : Nat → Nat → Nat} {σ : St} (B : VB H S v) (M : VM H S v σ) (hs : s < S) (c al : Nat → Nat) (x5 : Int32) (hc : ∀ o, o < S → f_X8_lets (nI o) (nI s) x5 σ = some (nI (c o), σ)) (hca : ∀ o, o < S → c o ≤ al o) (hal : ∀ o, o < S → al o = 2 * v 5 o + 1) (rec : Int32 × Int64 × Int32 × St → Option (Int32 × St)) (x2 : Int64) (x4 : Int32) {w : Nat} (hw : w ≤ 1000000000) :
    f_X8_oddsOf_67 rec (nI s) x2 x4 x5 (lN w) 0 σ = rec (nI s, x2 + lN (prt c al s S 0 w), x4 + 1, σ) := by
  have h8 := B.2.1
  unfold f_X8_oddsOf_67
  refine lp_q (fun d q res => ∃ o w, o + d = S ∧ w ≤ 1000000000 ∧ q = (nI s, x2, x4, x5, lN w, nI o, σ) ∧ res = rec (nI s, x2 + lN (prt c al s d o w), x4 + 1, σ)) ?_ 100000 S _ _ (by omega) ⟨0, w, by omega, hw, rfl, rfl⟩
  rintro d rec2 _ _ ⟨o, w, ho, hw, rfl, rfl⟩ ih
  show b_X8_oddsOf_67 rec rec2 (nI s) x2 x4 x5 (lN w) (nI o) σ = _
  unfold b_X8_oddsOf_67 f_X8_oddsOf_113
  rw [M.2.1]
  cases d with
  | zero => rw [if_pos (nI_le (by omega) (by omega)), nm_d, prt]
  | succ d =>
    rw [if_neg (nI_ge (by omega) (by omega))]
    by_cases e : o = s
    · rw [if_pos (by rw [e]), nI_1]
      exact ih d _ (by omega) ⟨o + 1, w, by omega, hw, rfl, by rw [prt, if_pos e]⟩
    · have ho2 : o < S := by omega
      have hb := B.2.2.2 o ho2
      have hc1 := hca o ho2
      have hal' := hal o ho2
      rw [if_neg (fun q => e ((nI_eq (by omega) (by omega)).mp q)), hc o ho2, bd_s, rd_n (by omega) (by omega), (M.2.2.2 o ho2).2.2.1, sp1, nI_l (by omega), nI_l (by omega), nzL_N (by omega) (by omega), ck_t, lN_mul, nI_1]
      have hp : w * c o ≤ 1000000000 * 119 := Nat.mul_le_mul hw (by omega)
      rw [pk_lDiv (by omega) (by omega) (by omega), ← hal']
      refine ih d _ (by omega) ⟨o + 1, _, by omega, ?_, rfl, by rw [prt, if_neg e]⟩
      exact Nat.le_trans (Nat.div_le_of_le_mul (by rw [Nat.mul_comm]; exact Nat.mul_le_mul_right w hc1)) hw
/-- the class's outer loop: P u is the part of minute u -/
theorem outC {H S a s l : Nat} {v : Nat → Nat → Nat} {σ : St} (B : VB H S v) (C : VC H S v σ) (hs : s < S) (hl : l ≤ 1) (el : σ.1 a 5 = nI l) (al : Nat → Nat) (cc : Int → Nat → Nat) (R0 : Int) (hR : (σ.1 (a + 4) s).toInt = R0) (hR0 : 0 ≤ R0) (hR1 : R0 ≤ 1000000)
    (hc : ∀ (x : Int32) (o : Nat), -1000 ≤ x.toInt → x.toInt < 1000000 → o < S → f_X1_letting a (nI o) (nI s) x σ = some (nI (cc x.toInt o), σ)) (hca : ∀ t o, o < S → cc t o ≤ al o) (hal : ∀ o, o < S → al o = 2 * v 5 o + 1) (P : Int → Nat) (hP : ∀ u, P u = prt (cc (mn u R0)) al s S 0 (1000000000 / al s)) (hz : l = 0 → ∀ u w, u ≤ w → P u = 0 → P w = 0) (Lx : Int) (hL : (σ.1 (a + 3) s).toInt = Lx) (hLb : Lx ≤ 700) (A0 : Nat) (u0 : Int32) (d0 : Nat) (hu : -200 ≤ u0.toInt) (hd : u0.toInt + d0 = Lx + 1) (hd2 : d0 ≤ 1000) :
    f_X1_oddsOf_42 a (nI s) (nI A0) u0 σ = some (nI (A0 + smm P d0 u0.toInt), σ) := by
  have h8 := B.2.1
  have hb := B.2.2.2 s hs
  have als := hal s hs
  unfold f_X1_oddsOf_42
  refine lp_m (fun d q o => ∃ (A : Nat) (u : Int32), -200 ≤ u.toInt ∧ u.toInt + d = Lx + 1 ∧ q = (nI s, nI A, u, σ) ∧ o = (nI (A + smm P d u.toInt), σ)) ?_ 100000 d0 _ _ (by omega) ⟨A0, u0, hu, hd, rfl, rfl⟩
  rintro d rec _ _ ⟨A, u, hu, hd, rfl, rfl⟩ ih
  show b_X1_oddsOf_42 a rec (nI s) (nI A) u σ = _
  unfold b_X1_oddsOf_42
  rw [rd_n (by omega) (by omega)]
  cases d with
  | zero => rw [if_pos (lt_toInt.mpr (by rw [hL]; omega)), smm]; rfl
  | succ d =>
    have eh : (hrd (σ.1 (a + 4) s) u).toInt = mn u.toInt R0 := by rw [hrd_tI, hR]
    have hm : -1000 ≤ mn u.toInt R0 ∧ mn u.toInt R0 < 1000000 := by unfold mn; split <;> omega
    have hw : 1000000000 / al s ≤ 1000000000 := Nat.div_le_self _ _
    rw [if_neg (fun q => by have := lt_toInt.mp q; rw [hL] at this; omega), rd_n (by omega) (by omega), (C.2.2.2 s hs).2.2.1, sp1, nz_N (by omega) (by omega), ck_t, nm_d, show (1000000000 : Int32) = nI 1000000000 from rfl, pk_div (by omega) (by omega) (by omega), nI_l (Nat.lt_of_le_of_lt (Nat.div_le_self _ _) (by omega)), heardC (by omega), bd_s, ← als]
    rw [inC B C hs (cc (mn u.toInt R0)) al _ (fun o ho => by rw [hc _ o (by rw [eh]; omega) (by rw [eh]; omega) ho, eh]) (hca _) hal rec _ _ hw, ← hP]
    have hPb : P u.toInt ≤ 1000000000 := by rw [hP]; exact Nat.le_trans (prt_le (hca _) S 0 _ (by omega)) hw
    unfold f_X1_oddsOf_144 f_X1_oddsOf_167
    rw [nm_d, lN_i, nI_add, el]
    have e1 : (u + 1).toInt = u.toInt + 1 := p1_tI (by omega) (by omega)
    have go : rec (nI s, nI (A + P u.toInt), u + 1, σ) = some (nI (A + smm P (d + 1) u.toInt), σ) := ih d _ (by omega) ⟨A + P u.toInt, u + 1, by omega, by omega, rfl, by rw [smm, e1, Nat.add_assoc]⟩
    by_cases h0 : P u.toInt = 0
    · rw [if_pos ((l0 (by omega)).mpr h0)]
      by_cases h1 : l = 0
      · subst h1
        rw [if_pos (show nI 0 = 0 from rfl), smm, smm_z d _ (fun w hw => hz rfl u.toInt w (by omega) h0)]
        rfl
      · rw [if_neg (show ¬ nI l = 0 from fun q => h1 ((nI_eq (b := 0) (by omega) (by omega)).mp q))]
        exact go
    · rw [if_neg (fun q => h0 ((l0 (by omega)).mp q))]
      exact go
/-- the reference's outer loop -/
theorem outM {H S s : Nat} {v : Nat → Nat → Nat} {σ : St} (B : VB H S v) (M : VM H S v σ) (hs : s < S) (al : Nat → Nat) (cc : Int → Nat → Nat) (R0 : Int) (rr : Int32) (hR : rr.toInt = R0) (hR0 : 0 ≤ R0) (hR1 : R0 ≤ 1000000) (hh : ∀ x : Int32, x.toInt < 1000000 → f_X8_heard (nI s) x σ = some (hrd rr x, σ))
    (hc : ∀ (x : Int32) (o : Nat), -1000 ≤ x.toInt → x.toInt < 1000000 → o < S → f_X8_lets (nI o) (nI s) x σ = some (nI (cc x.toInt o), σ)) (hca : ∀ t o, o < S → cc t o ≤ al o) (hal : ∀ o, o < S → al o = 2 * v 5 o + 1) (P : Int → Nat) (hP : ∀ u, P u = prt (cc (mn u R0)) al s S 0 (1000000000 / al s)) (Lx : Int) (lx : Int32) (hlx : f_X8_lastOf (nI s) σ = some (lx, σ)) (hL : lx.toInt = Lx) (hLb : Lx ≤ 700) (A0 : Nat) (u0 : Int32) (d0 : Nat) (hu : -200 ≤ u0.toInt) (hd : u0.toInt + d0 = Lx + 1) (hd2 : d0 ≤ 1000) :
    f_X8_oddsOf_28 (nI s) (lN A0) u0 σ = some (nI (A0 + smm P d0 u0.toInt), σ) := by
  have h8 := B.2.1
  have hb := B.2.2.2 s hs
  have als := hal s hs
  unfold f_X8_oddsOf_28
  refine lp_m (fun d q o => ∃ (A : Nat) (u : Int32), -200 ≤ u.toInt ∧ u.toInt + d = Lx + 1 ∧ q = (nI s, lN A, u, σ) ∧ o = (nI (A + smm P d u.toInt), σ)) ?_ 100000 d0 _ _ (by omega) ⟨A0, u0, hu, hd, rfl, rfl⟩
  rintro d rec _ _ ⟨A, u, hu, hd, rfl, rfl⟩ ih
  show b_X8_oddsOf_28 rec (nI s) (lN A) u σ = _
  unfold b_X8_oddsOf_28
  rw [hlx, bd_s]
  cases d with
  | zero => rw [if_pos (lt_toInt.mpr (by rw [hL]; omega)), smm, lN_i]; rfl
  | succ d =>
    have eh : (hrd rr u).toInt = mn u.toInt R0 := by rw [hrd_tI, hR]
    have hm : -1000 ≤ mn u.toInt R0 ∧ mn u.toInt R0 < 1000000 := by unfold mn; split <;> omega
    have hw : 1000000000 / al s ≤ 1000000000 := Nat.div_le_self _ _
    rw [if_neg (fun q => by have := lt_toInt.mp q; rw [hL] at this; omega), hh u (by omega), bd_s, rd_n (by omega) (by omega), (M.2.2.2 s hs).2.2.1, sp1, nI_l (by omega), nzL_N (by omega) (by omega), ck_t, nm_d, show (1000000000 : Int64) = lN 1000000000 from rfl, pk_lDiv (by omega) (by omega) (by omega), ← als]
    rw [inM B M hs (cc (mn u.toInt R0)) al _ (fun o ho => by rw [hc _ o (by rw [eh]; omega) (by rw [eh]; omega) ho, eh]) (hca _) hal rec _ _ hw, ← hP, lN_add]
    have e1 : (u + 1).toInt = u.toInt + 1 := p1_tI (by omega) (by omega)
    exact ih d _ (by omega) ⟨A + P u.toInt, u + 1, by omega, by omega, rfl, by rw [smm, e1, Nat.add_assoc]⟩
/-- the odds of a sleeper: both sides -/
theorem odds2 {H S a s l : Nat} {v : Nat → Nat → Nat} {σc σm : St} (B : VB H S v) (C : VC H S v σc) (M : VM H S v σm) (N : NR H S a σc σm) (hs : s < S) (el : σm.1 0 13 = nI l) (hl : l ≤ 2) : f_X1_oddsOf a (nI s) σc = some (nI (odN l (fI a σc) (lI a σc) (rI a σc) S s), σc) ∧ f_X8_oddsOf (nI s) σm = some (nI (odN l (fI a σc) (lI a σc) (rI a σc) S s), σm) := by
  have h8 := B.2.1
  have elc : σc.1 a 5 = nI l := by rw [N.2.2.1.1, el]
  unfold f_X1_oddsOf f_X8_oddsOf odN
  rw [elc, el]
  by_cases h2 : l = 2
  · subst h2
    rw [if_pos (show nI 2 = 2 from rfl), if_pos (show nI 2 = 2 from rfl), if_pos rfl, C.2.1, M.2.1, if_neg (nI_nle (by omega) (by omega)), nz_N (by omega) (by omega), nI_l (by omega), nzL_N (by omega) (by omega), ck_t, ck_t, show (1000000000 : Int32) = nI 1000000000 from rfl, pk_div (by omega) (by omega) (by omega), show (1000000000 : Int64) = lN 1000000000 from rfl, pk_lDiv (by omega) (by omega) (by omega), lN_i]
    exact ⟨rfl, rfl⟩
  · have hn2 : ¬ nI l = 2 := fun q => h2 ((nI_eq (b := 2) (by omega) (by omega)).mp q)
    rw [if_neg hn2, if_neg hn2, if_neg h2, rd_n (by omega) (by omega)]
    obtain ⟨nb, hk⟩ := nr_nb B C M N
    obtain ⟨sh, f1, f2, f3, f4, f5, f6⟩ := fl_eq B C M N hs
    have b := B.2.2.2 s hs
    have n1 := nb s hs
    have hal : ∀ o, o < S → aN (fI a σc) (lI a σc) o = 2 * v 5 o + 1 := fun o ho => (hk o ho).1
    have hals := hal s hs
    have hca : ∀ (t : Int) (o : Nat), o < S → cN l (fI a σc) (lI a σc) (rI a σc) o s t ≤ aN (fI a σc) (lI a σc) o := fun t o ho => cN_le (nb o ho).2.1
    have e0 : ∀ k : Nat, nI (0 + k) = nI k := fun k => by rw [Nat.zero_add]
    have hf : f_X8_firstOf (nI s) σm = some (σc.1 (a + 2) s, σm) := by rw [firstM B hs, ← f3]
    have hlst : f_X8_lastOf (nI s) σm = some (σc.1 (a + 3) s, σm) := by rw [lastM B hs, ← f4]
    rw [hf, bd_s]
    have hd : (σc.1 (a + 2) s).toInt + ((aN (fI a σc) (lI a σc) s : Nat) : Int) = lI a σc s + 1 := by
      rw [hals]; show _ = (σc.1 (a + 3) s).toInt + 1; rw [f5, f6]; omega
    have hz : l = 0 → ∀ u w, u ≤ w → ptN l (fI a σc) (lI a σc) (rI a σc) S s u = 0 → ptN l (fI a σc) (lI a σc) (rI a σc) S s w = 0 := by
      intro h0 u w huw hu
      subst h0
      unfold ptN at *
      have hm : mn u (rI a σc s) ≤ mn w (rI a σc s) := by unfold mn; split <;> split <;> omega
      have key : ∀ d o x y, o + d = S → y ≤ x → prt (fun o => cN 0 (fI a σc) (lI a σc) (rI a σc) o s (mn w (rI a σc s))) (aN (fI a σc) (lI a σc)) s d o y ≤ prt (fun o => cN 0 (fI a σc) (lI a σc) (rI a σc) o s (mn u (rI a σc s))) (aN (fI a σc) (lI a σc)) s d o x := by
        intro d
        induction d with
        | zero => intro o x y _ h; exact h
        | succ d ih =>
          intro o x y ho h
          rw [prt, prt]
          refine ih (o + 1) _ _ (by omega) ?_
          split
          · exact h
          · refine Nat.div_le_div_right (Nat.mul_le_mul h ?_)
            show cN 0 _ _ _ _ _ _ ≤ cN 0 _ _ _ _ _ _
            unfold cN
            rw [if_pos rfl, if_pos rfl]
            refine Int.toNat_le_toNat (cGe_anti (nb o (by omega)).2.1 ?_)
            split <;> omega
      have := key S 0 _ _ (by omega) (Nat.le_refl (1000000000 / aN (fI a σc) (lI a σc) s))
      omega
    refine ⟨?_, ?_⟩
    · have h := outC (a := a) (l := l) B C hs (by omega) elc (aN (fI a σc) (lI a σc)) (fun t o => cN l (fI a σc) (lI a σc) (rI a σc) o s t) (rI a σc s) rfl n1.2.2.2.1 n1.2.2.2.2 (fun x o hx hx2 ho => letC h8 ho (by omega) (by omega) elc nb hx hx2) hca hal (ptN l (fI a σc) (lI a σc) (rI a σc) S s) (fun _ => rfl) hz (lI a σc s) rfl n1.2.2.1 0 (σc.1 (a + 2) s) (aN (fI a σc) (lI a σc) s) n1.1 hd (by omega)
      rw [e0] at h
      exact h
    · have h := outM B M hs (aN (fI a σc) (lI a σc)) (fun t o => cN l (fI a σc) (lI a σc) (rI a σc) o s t) (rI a σc s) (σc.1 (a + 4) s) rfl n1.2.2.2.1 n1.2.2.2.2 (fun x hx => heardM B C M N hs hx) (fun x o hx hx2 ho => letM B C M N ho (by omega) (by omega) el hx hx2) hca hal (ptN l (fI a σc) (lI a σc) (rI a σc) S s) (fun _ => rfl) (lI a σc s) (σc.1 (a + 3) s) hlst rfl n1.2.2.1 0 (σc.1 (a + 2) s) (aN (fI a σc) (lI a σc) s) n1.1 hd (by omega)
      rw [e0] at h
      exact h
