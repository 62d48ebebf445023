/-! ===== pure: the odds of all together are no more than all parts (own work) ===== -/
def sm (f : Nat → Nat) : Nat → Nat → Nat
  | 0, _ => 0
  | d + 1, o => f o + sm f d (o + 1)
def pra (a : Nat → Nat) : Nat → Nat → Nat
  | 0, _ => 1
  | d + 1, o => a o * pra a d (o + 1)
def prx (a : Nat → Nat) (s : Nat) : Nat → Nat → Nat
  | 0, _ => 1
  | d + 1, o => (if o = s then 1 else a o) * prx a s d (o + 1)
def spx (a m : Nat → Nat) : Nat → Nat → Nat
  | 0, _ => 0
  | d + 1, o => m o * pra a d (o + 1) + a o * spx a m d (o + 1)
theorem prx_out {a : Nat → Nat} {s : Nat} : ∀ d o, s < o → prx a s d o = pra a d o := by
  intro d
  induction d with
  | zero => intro o _; rfl
  | succ d ih => intro o h; rw [prx, pra, if_neg (by omega), ih (o + 1) (by omega)]
theorem pra_x {a : Nat → Nat} {s : Nat} : ∀ d o, o ≤ s → s < o + d → pra a d o = a s * prx a s d o := by
  intro d
  induction d with
  | zero => intro o h1 h2; omega
  | succ d ih =>
    intro o h1 h2
    rw [pra, prx]
    by_cases q : o = s
    · subst q; rw [if_pos rfl, Nat.one_mul, prx_out d (o + 1) (by omega)]
    · rw [if_neg q, ih (o + 1) (by omega) (by omega), Nat.mul_left_comm]
theorem sm_cg {f g : Nat → Nat} : ∀ d o, (∀ s, o ≤ s → s < o + d → f s = g s) → sm f d o = sm g d o := by
  intro d
  induction d with
  | zero => intro o _; rfl
  | succ d ih => intro o h; rw [sm, sm, h o (by omega) (by omega), ih (o + 1) (fun s h1 h2 => h s (by omega) (by omega))]
theorem sm_le {f g : Nat → Nat} : ∀ d o, (∀ s, o ≤ s → s < o + d → f s ≤ g s) → sm f d o ≤ sm g d o := by
  intro d
  induction d with
  | zero => intro o _; exact Nat.le_refl _
  | succ d ih => intro o h; rw [sm, sm]; exact Nat.add_le_add (h o (by omega) (by omega)) (ih (o + 1) (fun s h1 h2 => h s (by omega) (by omega)))
theorem sm_add {f g : Nat → Nat} : ∀ d o, sm (fun s => f s + g s) d o = sm f d o + sm g d o := by
  intro d
  induction d with
  | zero => intro o; rfl
  | succ d ih => intro o; rw [sm, sm, sm, ih (o + 1)]; omega
theorem sm_mul {f : Nat → Nat} {c : Nat} : ∀ d o, sm (fun s => c * f s) d o = c * sm f d o := by
  intro d
  induction d with
  | zero => intro o; rfl
  | succ d ih => intro o; rw [sm, sm, ih (o + 1), Nat.mul_add]
theorem sm_spx {a m : Nat → Nat} : ∀ d o, sm (fun s => m s * prx a s d o) d o = spx a m d o := by
  intro d
  induction d with
  | zero => intro o; rfl
  | succ d ih =>
    intro o
    rw [sm, spx, prx, if_pos rfl, Nat.one_mul, prx_out d (o + 1) (by omega), ← ih (o + 1), ← sm_mul]
    congr 1
    refine sm_cg d (o + 1) (fun s h1 h2 => ?_)
    rw [prx, if_neg (by omega), Nat.mul_left_comm]
theorem spx_le {a m b : Nat → Nat} (h : ∀ o, b o = a o + m o) : ∀ d o, spx a m d o + pra a d o ≤ pra b d o := by
  intro d
  induction d with
  | zero => intro o; rw [spx, pra, pra]; omega
  | succ d ih =>
    intro o
    rw [spx, pra, pra, h o]
    have h1 := Nat.mul_le_mul_left (a o + m o) (ih (o + 1))
    rw [Nat.mul_add, Nat.add_mul, Nat.add_mul] at h1
    omega
theorem pra_le {a b : Nat → Nat} : ∀ d o, (∀ s, o ≤ s → s < o + d → a s ≤ b s) → pra a d o ≤ pra b d o := by
  intro d
  induction d with
  | zero => intro o _; exact Nat.le_refl _
  | succ d ih => intro o h; rw [pra, pra]; exact Nat.mul_le_mul (h o (by omega) (by omega)) (ih (o + 1) (fun s h1 h2 => h s (by omega) (by omega)))
theorem pra_pos {a : Nat → Nat} : ∀ d o, (∀ s, o ≤ s → s < o + d → 0 < a s) → 0 < pra a d o := by
  intro d
  induction d with
  | zero => intro o _; rw [pra]; omega
  | succ d ih => intro o h; rw [pra]; exact Nat.mul_pos (h o (by omega) (by omega)) (ih (o + 1) (fun s h1 h2 => h s (by omega) (by omega)))
theorem prx_le {a b : Nat → Nat} {s : Nat} : ∀ d o, (∀ t, o ≤ t → t < o + d → ¬ t = s → a t ≤ b t) → prx a s d o ≤ prx b s d o := by
  intro d
  induction d with
  | zero => intro o _; exact Nat.le_refl _
  | succ d ih =>
    intro o h
    rw [prx, prx]
    refine Nat.mul_le_mul ?_ (ih (o + 1) (fun t h1 h2 => h t (by omega) (by omega)))
    by_cases q : o = s
    · rw [if_pos q, if_pos q]; omega
    · rw [if_neg q, if_neg q]; exact h o (by omega) (by omega) q
theorem smm_cg {p q : Int → Nat} : ∀ (d : Nat) (u : Int), (∀ w, u ≤ w → w < u + d → p w = q w) → smm p d u = smm q d u := by
  intro d
  induction d with
  | zero => intro u _; rfl
  | succ d ih => intro u h; rw [smm, smm, h u (by omega) (by omega), ih (u + 1) (fun w h1 h2 => h w (by omega) (by omega))]
theorem smm_le2 {p q : Int → Nat} : ∀ (d : Nat) (u : Int), (∀ w, u ≤ w → w < u + d → p w ≤ q w) → smm p d u ≤ smm q d u := by
  intro d
  induction d with
  | zero => intro u _; exact Nat.le_refl _
  | succ d ih => intro u h; rw [smm, smm]; exact Nat.add_le_add (h u (by omega) (by omega)) (ih (u + 1) (fun w h1 h2 => h w (by omega) (by omega)))
theorem smm_add {p q : Int → Nat} : ∀ (d : Nat) (u : Int), smm (fun w => p w + q w) d u = smm p d u + smm q d u := by
  intro d
  induction d with
  | zero => intro u; rfl
  | succ d ih => intro u; rw [smm, smm, smm, ih (u + 1)]; omega
theorem smm_mul {p : Int → Nat} {c : Nat} : ∀ (d : Nat) (u : Int), smm (fun w => p w * c) d u = smm p d u * c := by
  intro d
  induction d with
  | zero => intro u; rw [smm, smm, Nat.zero_mul]
  | succ d ih => intro u; rw [smm, smm, ih (u + 1), Nat.add_mul]
theorem smm_1 : ∀ (d : Nat) (u : Int), smm (fun _ => 1) d u = d := by
  intro d
  induction d with
  | zero => intro u; rfl
  | succ d ih => intro u; rw [smm, ih (u + 1)]; omega
/-- how many of o's minutes have the key k or a higher one; have the key k -/
def tK (κ : Nat → Int → Int) (n : Nat → Nat) (F : Nat → Int) (k : Int) (o : Nat) : Nat := smm (fun u => if k ≤ κ o u then 1 else 0) (n o) (F o)
def mK (κ : Nat → Int → Int) (n : Nat → Nat) (F : Nat → Int) (k : Int) (o : Nat) : Nat := smm (fun u => if κ o u = k then 1 else 0) (n o) (F o)
theorem tK_step (κ : Nat → Int → Int) (n : Nat → Nat) (F : Nat → Int) (k : Int) (o : Nat) : tK κ n F k o = tK κ n F (k + 1) o + mK κ n F k o := by
  unfold tK mK
  rw [← smm_add]
  refine smm_cg _ _ (fun w _ _ => ?_)
  show _ = (if k + 1 ≤ κ o w then 1 else 0) + (if κ o w = k then 1 else 0)
  split <;> split <;> split <;> omega
def eK (κ : Nat → Int → Int) (n : Nat → Nat) (F : Nat → Int) (S : Nat) (k : Int) : Nat := sm (fun s => smm (fun u => if k ≤ κ s u then prx (tK κ n F (κ s u + 1)) s S 0 else 0) (n s) (F s)) S 0
theorem eK_step (κ : Nat → Int → Int) (n : Nat → Nat) (F : Nat → Int) (S : Nat) (k : Int) : eK κ n F S k = eK κ n F S (k + 1) + spx (tK κ n F (k + 1)) (mK κ n F k) S 0 := by
  unfold eK
  rw [← sm_spx, ← sm_add]
  refine sm_cg _ _ (fun s _ _ => ?_)
  show _ = smm (fun u => if k + 1 ≤ κ s u then prx (tK κ n F (κ s u + 1)) s S 0 else 0) (n s) (F s) + mK κ n F k s * prx (tK κ n F (k + 1)) s S 0
  unfold mK
  rw [← smm_mul, ← smm_add]
  refine smm_cg _ _ (fun w _ _ => ?_)
  show (if k ≤ κ s w then prx (tK κ n F (κ s w + 1)) s S 0 else 0) = (if k + 1 ≤ κ s w then prx (tK κ n F (κ s w + 1)) s S 0 else 0) + (if κ s w = k then 1 else 0) * prx (tK κ n F (k + 1)) s S 0
  by_cases q : κ s w = k
  · rw [if_pos (show k ≤ κ s w by omega), if_neg (show ¬ k + 1 ≤ κ s w by omega), if_pos q, q]; omega
  · rw [if_neg q]
    by_cases q2 : k ≤ κ s w
    · rw [if_pos q2, if_pos (show k + 1 ≤ κ s w by omega)]; omega
    · rw [if_neg q2, if_neg (show ¬ k + 1 ≤ κ s w by omega)]; omega
theorem eK_z {κ : Nat → Int → Int} {n : Nat → Nat} {F : Nat → Int} {S : Nat} {k : Int} (h : ∀ s u, s < S → F s ≤ u → u < F s + n s → κ s u < k) : eK κ n F S k = 0 := by
  unfold eK
  have e : sm (fun s => smm (fun u => if k ≤ κ s u then prx (tK κ n F (κ s u + 1)) s S 0 else 0) (n s) (F s)) S 0 = sm (fun s => 0 * s) S 0 := by
    refine sm_cg _ _ (fun s _ hs => ?_)
    show smm _ _ _ = 0 * s
    rw [Nat.zero_mul]
    have : smm (fun u => if k ≤ κ s u then prx (tK κ n F (κ s u + 1)) s S 0 else 0) (n s) (F s) = smm (fun _ => 0 * 0) (n s) (F s) := smm_cg _ _ (fun w h1 h2 => if_neg (by have := h s w (by omega) h1 h2; omega))
    rw [this, smm_mul]
    omega
  rw [e, sm_mul, Nat.zero_mul]
theorem eK_le {κ : Nat → Int → Int} {n : Nat → Nat} {F : Nat → Int} {S : Nat} : ∀ (N : Nat) (k : Int), (∀ s u, s < S → F s ≤ u → u < F s + n s → κ s u < k + N) → eK κ n F S k ≤ pra (tK κ n F k) S 0 := by
  intro N
  induction N with
  | zero => intro k h; rw [eK_z (fun s u h1 h2 h3 => by have := h s u h1 h2 h3; omega)]; omega
  | succ N ih =>
    intro k h
    rw [eK_step]
    have h1 := ih (k + 1) (fun s u h1 h2 h3 => by have := h s u h1 h2 h3; omega)
    have h2 := spx_le (a := tK κ n F (k + 1)) (m := mK κ n F k) (b := tK κ n F k) (fun o => tK_step κ n F k o) S 0
    omega
theorem prt_prx {c al : Nat → Nat} {s : Nat} : ∀ d o v, prt c al s d o v * prx al s d o ≤ v * prx c s d o := by
  intro d
  induction d with
  | zero => intro o v; rw [prt, prx, prx]; omega
  | succ d ih =>
    intro o v
    rw [prt, prx, prx]
    by_cases q : o = s
    · rw [if_pos q, if_pos q, if_pos q, Nat.one_mul, Nat.one_mul]; exact ih (o + 1) v
    · rw [if_neg q, if_neg q, if_neg q]
      have h1 := Nat.mul_le_mul_left (al o) (ih (o + 1) (v * c o / al o))
      rw [Nat.mul_left_comm]
      refine Nat.le_trans h1 ?_
      rw [← Nat.mul_assoc, ← Nat.mul_assoc]
      refine Nat.mul_le_mul_right _ ?_
      rw [Nat.mul_comm]; exact Nat.div_mul_le_self _ _
theorem cntGe (R y : Int) : ∀ (d : Nat) (F : Int), smm (fun x => if y ≤ mn x R then 1 else 0) d F = (if R < y then 0 else if y ≤ F then d else if y < F + d then (F + d - y).toNat else 0) := by
  intro d
  induction d with
  | zero =>
    intro F
    rw [smm]
    split
    · rfl
    · split
      · rfl
      · split <;> omega
  | succ d ih =>
    intro F
    rw [smm, ih (F + 1)]
    show (if y ≤ mn F R then 1 else 0) + _ = _
    unfold mn
    by_cases h1 : R < y
    · rw [if_pos h1, if_pos h1]
      split <;> split <;> omega
    · rw [if_neg h1, if_neg h1]
      by_cases h2 : R ≤ F
      · rw [if_pos h2, if_pos (by omega), if_pos (by omega), if_pos (by omega)]; omega
      · rw [if_neg h2]
        by_cases h3 : y ≤ F
        · rw [if_pos h3, if_pos (by omega), if_pos h3]; omega
        · rw [if_neg h3, if_neg h3]
          split <;> split <;> (try split) <;> omega
theorem cntLe (R y : Int) : ∀ (d : Nat) (F : Int), smm (fun x => if mn x R ≤ y then 1 else 0) d F = (if R ≤ y then d else if y < F then 0 else if y < F + d then (y - F + 1).toNat else d) := by
  intro d
  induction d with
  | zero =>
    intro F
    rw [smm]
    split
    · rfl
    · split
      · rfl
      · split <;> omega
  | succ d ih =>
    intro F
    rw [smm, ih (F + 1)]
    show (if mn F R ≤ y then 1 else 0) + _ = _
    unfold mn
    by_cases h1 : R ≤ y
    · rw [if_pos h1, if_pos h1]
      split
      · omega
      · rw [if_pos (by omega)]; omega
    · rw [if_neg h1, if_neg h1]
      by_cases h2 : R ≤ F
      · rw [if_pos h2, if_neg h1, if_pos (by omega), if_pos (by omega)]
      · rw [if_neg h2]
        by_cases h3 : F ≤ y
        · rw [if_pos h3]
          split <;> split <;> (try split) <;> (try split) <;> omega
        · rw [if_neg h3, if_pos (by omega), if_pos (by omega)]
def kap (l : Nat) (R : Nat → Int) (o : Nat) (u : Int) : Int := if l = 0 then 8 * mn u (R o) + o else -8 * mn u (R o) + o
theorem cN_tK {l S : Nat} {F L R : Nat → Int} (nb : NB S F L R) (hS : S ≤ 8) {o s : Nat} (ho : o < S) (hs : s < S) (hne : ¬ o = s) (u : Int) : cN l F L R o s (mn u (R s)) ≤ tK (kap l R) (aN F L) F (kap l R s u + 1) o := by
  obtain ⟨b1, b2, b3, b4, b5⟩ := nb o ho
  unfold tK cN
  have ea : F o + (aN F L o : Nat) = L o + 1 := by unfold aN; omega
  by_cases hl : l = 0
  · rw [if_pos hl]
    have e : smm (fun w => if kap l R s u + 1 ≤ kap l R o w then 1 else 0) (aN F L o) (F o) = smm (fun w => if (if o ≤ s then mn u (R s) + 1 else mn u (R s)) ≤ mn w (R o) then 1 else 0) (aN F L o) (F o) := by
      refine smm_cg _ _ (fun w _ _ => ?_)
      unfold kap
      rw [if_pos hl, if_pos hl]
      by_cases q : o ≤ s
      · rw [if_pos q]; split <;> split <;> omega
      · rw [if_neg q]; split <;> split <;> omega
    rw [e, cntGe, ea]
    unfold cGe
    generalize (if o ≤ s then mn u (R s) + 1 else mn u (R s)) = y
    have ea' : ((aN F L o : Nat) : Int) = L o - F o + 1 := by omega
    split
    · omega
    · split
      · split
        · omega
        · rw [if_pos (by omega)]; omega
      · omega
  · rw [if_neg hl]
    have e : smm (fun w => if kap l R s u + 1 ≤ kap l R o w then 1 else 0) (aN F L o) (F o) = smm (fun w => if mn w (R o) ≤ (if o ≤ s then mn u (R s) - 1 else mn u (R s)) then 1 else 0) (aN F L o) (F o) := by
      refine smm_cg _ _ (fun w _ _ => ?_)
      unfold kap
      rw [if_neg hl, if_neg hl]
      by_cases q : o ≤ s
      · rw [if_pos q]; split <;> split <;> omega
      · rw [if_neg q]; split <;> split <;> omega
    rw [e, cntLe, ea]
    unfold cLe
    generalize (if o ≤ s then mn u (R s) - 1 else mn u (R s)) = y
    have ea' : ((aN F L o : Nat) : Int) = L o - F o + 1 := by omega
    split
    · omega
    · split
      · split
        · rw [if_neg (by omega), if_pos (by omega)]; omega
        · rw [if_pos (by omega)]; omega
      · rw [if_neg (by omega)]; split <;> omega
/-- all odds together -/
theorem od_sum {l S : Nat} {F L R : Nat → Int} (nb : NB S F L R) (hS : S ≤ 8) (h0 : 0 < S) : sm (odN l F L R S) S 0 ≤ 1000000000 := by
  by_cases h2 : l = 2
  · have e : sm (odN l F L R S) S 0 = sm (fun s => 1000000000 / S) S 0 := sm_cg _ _ (fun s _ _ => by unfold odN; rw [if_pos h2])
    have e2 : ∀ d o, sm (fun s => 1000000000 / S) d o = d * (1000000000 / S) := by
      intro d
      induction d with
      | zero => intro o; rw [sm, Nat.zero_mul]
      | succ d ih => intro o; rw [sm, ih (o + 1), Nat.succ_mul, Nat.add_comm]
    rw [e, e2, Nat.mul_comm]; exact Nat.div_mul_le_self _ _
  · have hA : 0 < pra (aN F L) S 0 := pra_pos S 0 (fun s _ hs => by have := nb s (by omega); unfold aN; omega)
    have hpt : ∀ s u, s < S → ptN l F L R S s u * pra (aN F L) S 0 ≤ 1000000000 * prx (tK (kap l R) (aN F L) F (kap l R s u + 1)) s S 0 := by
      intro s u hs
      unfold ptN
      have h1 := prt_prx (c := fun o => cN l F L R o s (mn u (R s))) (al := aN F L) (s := s) S 0 (1000000000 / aN F L s)
      rw [pra_x (s := s) S 0 (by omega) (by omega), Nat.mul_left_comm]
      refine Nat.le_trans (Nat.mul_le_mul_left _ h1) ?_
      rw [← Nat.mul_assoc]
      refine Nat.mul_le_mul (by rw [Nat.mul_comm]; exact Nat.div_mul_le_self _ _) ?_
      exact prx_le S 0 (fun o _ ho hne => cN_tK nb hS (by omega) hs hne u)
    have hod : ∀ s, s < S → odN l F L R S s * pra (aN F L) S 0 ≤ 1000000000 * smm (fun u => prx (tK (kap l R) (aN F L) F (kap l R s u + 1)) s S 0) (aN F L s) (F s) := by
      intro s hs
      unfold odN
      rw [if_neg h2, ← smm_mul, Nat.mul_comm 1000000000, ← smm_mul]
      refine smm_le2 _ _ (fun w _ _ => ?_)
      rw [Nat.mul_comm (prx _ _ _ _)]
      exact hpt s w hs
    have hsum : sm (odN l F L R S) S 0 * pra (aN F L) S 0 ≤ 1000000000 * pra (aN F L) S 0 := by
      rw [Nat.mul_comm, ← sm_mul]
      have h1 : sm (fun s => pra (aN F L) S 0 * odN l F L R S s) S 0 ≤ sm (fun s => 1000000000 * smm (fun u => prx (tK (kap l R) (aN F L) F (kap l R s u + 1)) s S 0) (aN F L s) (F s)) S 0 := sm_le _ _ (fun s _ hs => by rw [Nat.mul_comm]; exact hod s (by omega))
      rw [sm_mul (f := fun s => smm (fun u => prx (tK (kap l R) (aN F L) F (kap l R s u + 1)) s S 0) (aN F L s) (F s))] at h1
      refine Nat.le_trans h1 (Nat.mul_le_mul_left _ ?_)
      have hk : ∀ s u, s < S → F s ≤ u → u < F s + aN F L s → -100000000 ≤ kap l R s u ∧ kap l R s u < 100000000 := by
        intro s u hs h1 h2
        obtain ⟨b1, b2, b3, b4, b5⟩ := nb s hs
        unfold aN at h2
        unfold kap mn
        split <;> split <;> omega
      have e : sm (fun s => smm (fun u => prx (tK (kap l R) (aN F L) F (kap l R s u + 1)) s S 0) (aN F L s) (F s)) S 0 = eK (kap l R) (aN F L) F S (-100000000) := by
        unfold eK
        refine sm_cg _ _ (fun s _ hs => smm_cg _ _ (fun w w1 w2 => ?_))
        rw [if_pos (hk s w (by omega) w1 w2).1]
      rw [e]
      refine Nat.le_trans (eK_le 200000000 (-100000000) (fun s u h1 h2 h3 => by have := (hk s u h1 h2 h3).2; omega)) ?_
      refine pra_le S 0 (fun s _ _ => ?_)
      unfold tK
      have := smm_le2 (p := fun u => if -100000000 ≤ kap l R s u then 1 else 0) (q := fun _ => 1) (aN F L s) (F s) (fun w _ _ => by show (if _ then 1 else 0) ≤ 1; split <;> omega)
      rw [smm_1] at this
      exact this
    exact Nat.le_of_mul_le_mul_right hsum hA
theorem osm_le (f : Nat → Nat) (b : Nat → Bool) : ∀ d i, osm f b d i ≤ sm f d i := by
  intro d
  induction d with
  | zero => intro i; exact Nat.le_refl _
  | succ d ih =>
    intro i
    rw [osm, sm]
    refine Nat.add_le_add ?_ (ih (i + 1))
    split <;> omega
theorem osm_b {l S : Nat} {F L R : Nat → Int} (nb : NB S F L R) (hS : S ≤ 8) (b : Nat → Bool) : osm (odN l F L R S) b S 0 ≤ 1000000000 := by
  by_cases h : S = 0
  · subst h; rw [osm]; omega
  · exact Nat.le_trans (osm_le _ _ _ _) (od_sum nb hS (by omega))
