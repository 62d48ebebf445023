/-! ===== pure: how many minutes of another let a sleeper rule (own work) ===== -/
theorem of_tI {x : Int32} {n : Nat} (hn : n < 2 ^ 31) (h : x.toInt = (n : Int)) : x = nI n := Int32.toInt_inj.mp (by rw [h, nI_toInt hn])
theorem of_tI' {x : Int32} {z : Int} (h0 : 0 ≤ z) (h1 : z < 2147483648) (h : x.toInt = z) : x = nI z.toNat := of_tI (by omega) (by rw [h]; omega)
/-- how many of the minutes F .. L, none behind R, are y or later; are y or earlier -/
def cGe (F L R y : Int) : Int := if R < y then 0 else if y ≤ L then (if y ≤ F then L - F + 1 else L - y + 1) else 0
def cLe (F L R y : Int) : Int := if R ≤ y then L - F + 1 else if y < L then (if F ≤ y then y - F + 1 else 0) else L - F + 1
def cN (l : Nat) (F L R : Nat → Int) (o s : Nat) (t : Int) : Nat := (if l = 0 then cGe (F o) (L o) (R o) (if o ≤ s then t + 1 else t) else cLe (F o) (L o) (R o) (if o ≤ s then t - 1 else t)).toNat
def aN (F L : Nat → Int) (o : Nat) : Nat := (L o - F o + 1).toNat
def NB (S : Nat) (F L R : Nat → Int) : Prop := ∀ o, o < S → -200 ≤ F o ∧ F o ≤ L o ∧ L o ≤ 700 ∧ 0 ≤ R o ∧ R o ≤ 1000000
abbrev fI (a : Nat) (σ : St) : Nat → Int := fun o => (σ.1 (a + 2) o).toInt
abbrev lI (a : Nat) (σ : St) : Nat → Int := fun o => (σ.1 (a + 3) o).toInt
abbrev rI (a : Nat) (σ : St) : Nat → Int := fun o => (σ.1 (a + 4) o).toInt
theorem cGe_b {F L R y : Int} (h : F ≤ L) : 0 ≤ cGe F L R y ∧ cGe F L R y ≤ L - F + 1 := by
  unfold cGe; split
  · omega
  · split
    · split <;> omega
    · omega
theorem cLe_b {F L R y : Int} (h : F ≤ L) : 0 ≤ cLe F L R y ∧ cLe F L R y ≤ L - F + 1 := by
  unfold cLe; split
  · omega
  · split
    · split <;> omega
    · omega
theorem cN_le {l : Nat} {F L R : Nat → Int} {o s : Nat} {t : Int} (h : F o ≤ L o) : cN l F L R o s t ≤ aN F L o := by
  unfold cN aN
  split
  · have := cGe_b (R := R o) (y := if o ≤ s then t + 1 else t) h; omega
  · have := cLe_b (R := R o) (y := if o ≤ s then t - 1 else t) h; omega
theorem let35 {a o : Nat} {σ : St} {y : Int32} {F L : Int} {f l : Int32} (ho : o < 8) (hF : f.toInt = F) (hL : l.toInt = L) (hb : -200 ≤ F ∧ F ≤ L ∧ L ≤ 700) (hy : -100000 ≤ y.toInt) (hy2 : y.toInt < 2000000) : f_X1_letting_35 a (nI o) f l y σ = some (nI (cGe F L (σ.1 (a + 4) o).toInt y.toInt).toNat, σ) := by
  unfold f_X1_letting_35 cGe
  rw [rd_n ho (by omega)]
  have e1 : (l - f).toInt = L - F := by rw [sub_tI (by omega) (by omega), hL, hF]
  have e1' : (l - f + 1).toInt = L - F + 1 := by rw [add_tI (by rw [e1]; show _ ≤ _ + (1 : Int); omega) (by rw [e1]; show _ + (1 : Int) < _; omega), e1]; rfl
  by_cases h1 : σ.1 (a + 4) o < y
  · rw [if_pos h1, if_pos (lt_toInt.mp h1)]; rfl
  · rw [if_neg h1, if_neg (fun q => h1 (lt_toInt.mpr q))]
    by_cases h2 : y ≤ l
    · have h2' := le_toInt.mp h2
      rw [hL] at h2'
      rw [if_pos h2, if_pos h2']
      by_cases h3 : y ≤ f
      · have h3' := le_toInt.mp h3
        rw [hF] at h3'
        rw [if_pos h3, if_pos h3', of_tI' (by omega) (by omega) e1']
      · have h3' : ¬ y.toInt ≤ F := fun q => h3 (le_toInt.mpr (by rw [hF]; exact q))
        have e2 : (l - y).toInt = L - y.toInt := by rw [sub_tI (by omega) (by omega), hL]
        have e2' : (l - y + 1).toInt = L - y.toInt + 1 := by rw [add_tI (by rw [e2]; show _ ≤ _ + (1 : Int); omega) (by rw [e2]; show _ + (1 : Int) < _; omega), e2]; rfl
        rw [if_neg h3, if_neg h3', of_tI' (by omega) (by omega) e2']
    · have h2' : ¬ y.toInt ≤ L := fun q => h2 (le_toInt.mpr (by rw [hL]; exact q))
      rw [if_neg h2, if_neg h2']; rfl
theorem let94 {a o : Nat} {σ : St} {y : Int32} {F L : Int} {f l : Int32} (ho : o < 8) (hF : f.toInt = F) (hL : l.toInt = L) (hb : -200 ≤ F ∧ F ≤ L ∧ L ≤ 700) (hy : -100000 ≤ y.toInt) (hy2 : y.toInt < 2000000) : f_X1_letting_94 a (nI o) f l y σ = some (nI (cLe F L (σ.1 (a + 4) o).toInt y.toInt).toNat, σ) := by
  unfold f_X1_letting_94 f_X1_letting_114 cLe
  rw [rd_n ho (by omega)]
  have e1 : (l - f).toInt = L - F := by rw [sub_tI (by omega) (by omega), hL, hF]
  have e1' : (l - f + 1).toInt = L - F + 1 := by rw [add_tI (by rw [e1]; show _ ≤ _ + (1 : Int); omega) (by rw [e1]; show _ + (1 : Int) < _; omega), e1]; rfl
  by_cases h1 : σ.1 (a + 4) o ≤ y
  · rw [if_pos h1, if_pos (le_toInt.mp h1), of_tI' (by omega) (by omega) e1']
  · rw [if_neg h1, if_neg (fun q => h1 (le_toInt.mpr q))]
    by_cases h2 : y < l
    · have h2' := lt_toInt.mp h2
      rw [hL] at h2'
      rw [if_pos h2, if_pos h2']
      by_cases h3 : f ≤ y
      · have h3' := le_toInt.mp h3
        rw [hF] at h3'
        have e2 : (y - f).toInt = y.toInt - F := by rw [sub_tI (by omega) (by omega), hF]
        have e2' : (y - f + 1).toInt = y.toInt - F + 1 := by rw [add_tI (by rw [e2]; show _ ≤ _ + (1 : Int); omega) (by rw [e2]; show _ + (1 : Int) < _; omega), e2]; rfl
        rw [if_pos h3, if_pos h3', of_tI' (by omega) (by omega) e2']
      · have h3' : ¬ F ≤ y.toInt := fun q => h3 (le_toInt.mpr (by rw [hF]; exact q))
        rw [if_neg h3, if_neg h3']; rfl
    · have h2' : ¬ y.toInt < L := fun q => h2 (lt_toInt.mpr (by rw [hL]; exact q))
      rw [if_neg h2, if_neg h2', of_tI' (by omega) (by omega) e1']
theorem p1_tI {x : Int32} (h : x.toInt < 2000000) (h0 : -100000 ≤ x.toInt) : (x + 1).toInt = x.toInt + 1 := by
  rw [add_tI (by show _ ≤ _ + (1 : Int); omega) (by show _ + (1 : Int) < _; omega)]; rfl
theorem m1_tI {x : Int32} (h : x.toInt < 2000000) (h0 : -100000 ≤ x.toInt) : (x - 1).toInt = x.toInt - 1 := by
  rw [sub_tI (by show _ ≤ _ - (1 : Int); omega) (by show _ - (1 : Int) < _; omega)]; rfl
theorem letC {S a o s l : Nat} {σ : St} (hS : S ≤ 8) (ho : o < S) (hs : s < 8) (hl : l ≤ 1) (el : σ.1 a 5 = nI l) (nb : NB S (fI a σ) (lI a σ) (rI a σ)) {x : Int32} (hx : -1000 ≤ x.toInt) (hx2 : x.toInt < 1000000) : f_X1_letting a (nI o) (nI s) x σ = some (nI (cN l (fI a σ) (lI a σ) (rI a σ) o s x.toInt), σ) := by
  obtain ⟨b1, b2, b3, b4, b5⟩ := nb o ho
  unfold f_X1_letting cN
  simp only [rd_n (show o < 8 by omega) (show 8 < 2 ^ 31 by omega), el]
  have eo : nI o ≤ nI s ↔ o ≤ s := nI_leI (by omega) (by omega)
  by_cases h0 : l = 0
  · subst h0
    rw [if_pos (show nI 0 = 0 from rfl), if_pos rfl]
    by_cases h : o ≤ s
    · rw [if_pos (eo.mpr h), if_pos h, let35 (by omega) rfl rfl ⟨b1, b2, b3⟩ (by rw [p1_tI (by omega) (by omega)]; omega) (by rw [p1_tI (by omega) (by omega)]; omega), p1_tI (by omega) (by omega)]
    · rw [if_neg (fun q => h (eo.mp q)), if_neg h, let35 (by omega) rfl rfl ⟨b1, b2, b3⟩ (by omega) (by omega)]
  · have : l = 1 := by omega
    subst this
    rw [if_neg (show ¬ nI 1 = 0 by decide), if_neg (show ¬ 1 = 0 by omega)]
    by_cases h : o ≤ s
    · rw [if_pos (eo.mpr h), if_pos h, let94 (by omega) rfl rfl ⟨b1, b2, b3⟩ (by rw [m1_tI (by omega) (by omega)]; omega) (by rw [m1_tI (by omega) (by omega)]; omega), m1_tI (by omega) (by omega)]
    · rw [if_neg (fun q => h (eo.mp q)), if_neg h, let94 (by omega) rfl rfl ⟨b1, b2, b3⟩ (by omega) (by omega)]
/-- the reference's own way to count: none behind t -/
theorem nr_nb {H S a : Nat} {v : Nat → Nat → Nat} {σc σm : St} (B : VB H S v) (C : VC H S v σc) (M : VM H S v σm) (N : NR H S a σc σm) : NB S (fI a σc) (lI a σc) (rI a σc) ∧ ∀ o, o < S → aN (fI a σc) (lI a σc) o = 2 * v 5 o + 1 ∧ ((stl σm o ∧ rI a σc o = (σm.1 0 10).toInt) ∨ (¬ stl σm o ∧ rI a σc o = 1000000)) := by
  have key : ∀ o, o < S → ((stl σm o ∧ rI a σc o = (σm.1 0 10).toInt) ∨ (¬ stl σm o ∧ rI a σc o = 1000000)) := by
    intro o ho
    have r := rf_stl B C M N ho
    have e : rI a σc o = (rf σc a o).toInt := by show (σc.1 (a + 4) o).toInt = _; rw [(N.2.2.2 o ho).2.2]
    rw [e]
    by_cases h : stl σm o
    · exact Or.inl ⟨h, by rw [r.1 h]⟩
    · exact Or.inr ⟨h, by rw [r.2 h]; rfl⟩
  have hna : ¬ σm.1 0 10 < 0 → 0 ≤ (σm.1 0 10).toInt ∧ (σm.1 0 10).toInt ≤ 700 := by
    intro h
    rcases N.2.1.2.2.2 with ⟨-, e, -⟩ | ⟨_, m, _, -, hm, -, -, e, -⟩
    · rw [e] at h; exact absurd m1_lt0 h
    · rw [e, nI_toInt (by omega)]; omega
  refine ⟨fun o ho => ?_, fun o ho => ⟨?_, key o ho⟩⟩
  · obtain ⟨sh, f1, f2, f3, f4, f5, f6⟩ := fl_eq B C M N ho
    have b := B.2.2.2 o ho
    have hr : 0 ≤ rI a σc o ∧ rI a σc o ≤ 1000000 := by
      rcases key o ho with ⟨h, e⟩ | ⟨h, e⟩
      · have := hna h.1; omega
      · omega
    show -200 ≤ (σc.1 (a + 2) o).toInt ∧ (σc.1 (a + 2) o).toInt ≤ (σc.1 (a + 3) o).toInt ∧ (σc.1 (a + 3) o).toInt ≤ 700 ∧ _
    rw [f5, f6]
    exact ⟨by omega, by omega, by omega, hr⟩
  · obtain ⟨sh, f1, f2, f3, f4, f5, f6⟩ := fl_eq B C M N ho
    unfold aN fI lI
    rw [f5, f6]; omega
theorem lateM {H S a : Nat} {v : Nat → Nat → Nat} {σc σm : St} (B : VB H S v) (C : VC H S v σc) (M : VM H S v σm) (N : NR H S a σc σm) {o : Nat} (ho : o < S) {x : Int32} (hx : -2000 ≤ x.toInt) (hx2 : x.toInt < 1000000) : f_X8_later (nI o) x σm = some (nI (cGe (fI a σc o) (lI a σc o) (rI a σc o) (x.toInt + 1)).toNat, σm) := by
  have h8 := B.2.1
  have b := B.2.2.2 o ho
  have m := M.2.2.2 o ho
  obtain ⟨sh, f1, f2, f3, f4, f5, f6⟩ := fl_eq B C M N ho
  have f5' : fI a σc o = (v 4 o : Int) - sh - v 5 o := f5
  have f6' : lI a σc o = (v 4 o : Int) - sh + v 5 o := f6
  obtain ⟨-, hk⟩ := nr_nb B C M N
  have hk := (hk o ho).2
  have raw : f_X8_laterRaw (nI o) x σm = some (nI (if 0 ≤ lI a σc o - x.toInt then (if lI a σc o - x.toInt ≤ 2 * v 5 o + 1 then lI a σc o - x.toInt else 2 * v 5 o + 1) else 0).toNat, σm) := by
    unfold f_X8_laterRaw
    rw [lastM B ho, bd_s, nm_d, rd_n (by omega) (by omega), m.2.2.1, nm_d, ← m.2.2.1, ← f4, m.2.2.1]
    have e1 : (σc.1 (a + 3) o - x).toInt = lI a σc o - x.toInt := by rw [sub_tI (by rw [f6]; omega) (by rw [f6]; omega)]
    have e2 : (2 * nI (v 5 o) + 1 : Int32) = nI (2 * v 5 o + 1) := by rw [show (2 : Int32) = nI 2 from rfl, pk_mul, nI_1]
    rw [e2]
    by_cases h1 : 0 ≤ σc.1 (a + 3) o - x
    · have h1' := le_toInt.mp h1
      rw [e1] at h1'
      rw [if_pos h1, if_pos (show 0 ≤ lI a σc o - x.toInt from h1')]
      by_cases h2 : σc.1 (a + 3) o - x ≤ nI (2 * v 5 o + 1)
      · have h2' := le_toInt.mp h2
        rw [e1, nI_toInt (by omega)] at h2'
        rw [if_pos h2, if_pos (by omega), of_tI' h1' (by omega) e1]
      · have h2' : ¬ lI a σc o - x.toInt ≤ 2 * v 5 o + 1 := fun q => h2 (le_toInt.mpr (by rw [e1, nI_toInt (by omega)]; omega))
        rw [if_neg h2, if_neg h2']
        have e3 : (2 * (v 5 o : Int) + 1).toNat = 2 * v 5 o + 1 := by omega
        rw [e3]
    · have h1' : ¬ 0 ≤ lI a σc o - x.toInt := fun q => h1 (le_toInt.mpr (by rw [e1]; exact q))
      rw [if_neg h1, if_neg h1']; rfl
  have l20 : f_X8_later_20 (nI o) x σm = some (nI (if 0 ≤ lI a σc o - x.toInt then (if lI a σc o - x.toInt ≤ 2 * v 5 o + 1 then lI a σc o - x.toInt else 2 * v 5 o + 1) else 0).toNat, σm) := by
    unfold f_X8_later_20; rw [raw, bd_s]
  have two : ∀ R : Int, x.toInt < R → (if 0 ≤ lI a σc o - x.toInt then (if lI a σc o - x.toInt ≤ 2 * v 5 o + 1 then lI a σc o - x.toInt else (2 * v 5 o + 1 : Int)) else 0) = cGe (fI a σc o) (lI a σc o) R (x.toInt + 1) := by
    intro R hR
    unfold cGe
    rw [f5', f6']
    split
    · split
      · rw [if_neg (by omega)]
        split
        · split <;> omega
        · omega
      · rw [if_neg (by omega)]
        split
        · split <;> omega
        · omega
    · rw [if_neg (by omega)]
      split
      · omega
      · rfl
  unfold f_X8_later
  rcases stl_eq (σ := σm) (s := o) (by omega) with ⟨h1, h2⟩ | ⟨h1, h2⟩
  · rw [h2, bd_s, if_neg i10]
    have e := hk.resolve_right (fun q => q.1 h1)
    by_cases h3 : x < σm.1 0 10
    · rw [if_pos h3, l20, two (rI a σc o) (by rw [e.2]; exact lt_toInt.mp h3)]
    · rw [if_neg h3]
      have h3' : ¬ x.toInt < rI a σc o := fun q => h3 (lt_toInt.mpr (by rw [← e.2]; exact q))
      have e0 : cGe (fI a σc o) (lI a σc o) (rI a σc o) (x.toInt + 1) = 0 := by unfold cGe; rw [if_pos (by omega)]
      rw [e0]; rfl
  · have e := hk.resolve_left (fun q => h1 q.1)
    rw [h2, bd_s, if_pos rfl, l20, two (rI a σc o) (by rw [e.2]; omega)]
theorem cLe_eq {F L R y : Int} (h : F ≤ L) : cLe F L R y = L - F + 1 - cGe F L R (y + 1) := by
  unfold cLe cGe
  by_cases h1 : R ≤ y
  · rw [if_pos h1, if_pos (show R < y + 1 by omega)]; omega
  · rw [if_neg h1, if_neg (show ¬ R < y + 1 by omega)]
    by_cases h2 : y < L
    · rw [if_pos h2, if_pos (show y + 1 ≤ L by omega)]
      by_cases h3 : F ≤ y
      · rw [if_pos h3, if_neg (show ¬ y + 1 ≤ F by omega)]; omega
      · rw [if_neg h3, if_pos (show y + 1 ≤ F by omega)]; omega
    · rw [if_neg h2, if_neg (show ¬ y + 1 ≤ L by omega)]; omega
theorem letM {H S a : Nat} {v : Nat → Nat → Nat} {σc σm : St} (B : VB H S v) (C : VC H S v σc) (M : VM H S v σm) (N : NR H S a σc σm) {o s l : Nat} (ho : o < S) (hs : s < 8) (hl : l ≤ 1) (el : σm.1 0 13 = nI l) {x : Int32} (hx : -1000 ≤ x.toInt) (hx2 : x.toInt < 1000000) : f_X8_lets (nI o) (nI s) x σm = some (nI (cN l (fI a σc) (lI a σc) (rI a σc) o s x.toInt), σm) := by
  have h8 := B.2.1
  obtain ⟨nb, hk⟩ := nr_nb B C M N
  have m := M.2.2.2 o ho
  have b := B.2.2.2 o ho
  have hal := (hk o ho).1
  obtain ⟨b1, b2, b3, b4, b5⟩ := nb o ho
  have eo : nI o ≤ nI s ↔ o ≤ s := nI_leI (by omega) (by omega)
  have e2 : (2 * nI (v 5 o) + 1 : Int32) = nI (2 * v 5 o + 1) := by rw [show (2 : Int32) = nI 2 from rfl, pk_mul, nI_1]
  have em : (x - 1).toInt = x.toInt - 1 := m1_tI (by omega) (by omega)
  have g1 := cGe_b (R := rI a σc o) (y := x.toInt + 1) b2
  have g2 := cGe_b (R := rI a σc o) (y := x.toInt - 1 + 1) b2
  unfold aN at hal
  unfold f_X8_lets
  rw [lateM B C M N ho (by omega) (by omega), bd_s, lateM B C M N ho (by rw [em]; omega) (by rw [em]; omega), bd_s, em, el]
  simp only [rd_n (show o < 8 by omega) (show 8 < 2 ^ 31 by omega), m.2.2.1, nm_d, e2]
  unfold cN
  by_cases h0 : l = 0
  · subst h0
    rw [if_pos (show nI 0 = 0 from rfl), if_pos rfl]
    by_cases h : o ≤ s
    · rw [if_pos (eo.mpr h), if_pos h]
    · rw [if_neg (fun q => h (eo.mp q)), if_neg h, show x.toInt - 1 + 1 = x.toInt by omega]
  · have : l = 1 := by omega
    subst this
    rw [if_neg (show ¬ nI 1 = 0 by decide), if_neg (show ¬ 1 = 0 by omega)]
    by_cases h : o ≤ s
    · rw [if_pos (eo.mpr h), if_pos h, pk_sub (by omega), cLe_eq b2]
      congr 2; congr 1; omega
    · rw [if_neg (fun q => h (eo.mp q)), if_neg h, pk_sub (by omega), cLe_eq b2]
      congr 2; congr 1; omega
