/-! ===== pure: reading numbers (own work) ===== -/
def dgt (T : Nat → Nat) : Nat → Nat → Nat
  | 0, p => p
  | d + 1, p => if 48 ≤ T p ∧ T p ≤ 57 then dgt T d (p + 1) else p
def cvl (T : Nat → Nat) (st : Nat) : Nat → Nat → Nat → Nat
  | 0, _, x => x
  | d + 1, p, x => if 48 ≤ T p ∧ T p ≤ 57 then cvl T st d (p + 1) (if p < st + 3 then x * 10 + (T p - 48) else x) else x
def mvl (T : Nat → Nat) : Nat → Nat → Nat → Nat
  | 0, _, x => x
  | d + 1, p, x => if 48 ≤ T p ∧ T p ≤ 57 then mvl T d (p + 1) (if x ≤ 10000 then 10 * x + T p - 48 else x) else x
theorem dgt_b (T : Nat → Nat) : ∀ d p, p ≤ dgt T d p ∧ dgt T d p ≤ p + d := by
  intro d
  induction d with
  | zero => intro p; rw [dgt]; omega
  | succ d ih => intro p; rw [dgt]; have := ih (p + 1); split <;> omega
theorem vl_eq {T : Nat → Nat} {st : Nat} : ∀ d p x, st ≤ p → (p = st → x = 0) → (p = st + 1 → x ≤ 9) → (p = st + 2 → x ≤ 99) → (p = st + 3 → x ≤ 999) → dgt T d p ≤ st + 3 → cvl T st d p x = mvl T d p x ∧ cvl T st d p x ≤ 999 := by
  intro d
  induction d with
  | zero => intro p x h1 h2 h3 h4 h5 h6; rw [cvl, mvl]; rw [dgt] at h6; exact ⟨rfl, by omega⟩
  | succ d ih =>
    intro p x h1 h2 h3 h4 h5 h6
    rw [cvl, mvl]
    rw [dgt] at h6
    by_cases q : 48 ≤ T p ∧ T p ≤ 57
    · rw [if_pos q] at h6
      have hb := dgt_b T d (p + 1)
      rw [if_pos q, if_pos q, if_pos (show p < st + 3 by omega), if_pos (show x ≤ 10000 by omega), show 10 * x + T p - 48 = x * 10 + (T p - 48) by omega]
      exact ih (p + 1) (x * 10 + (T p - 48)) (by omega) (by omega) (by omega) (by omega) (by omega) h6
    · rw [if_neg q] at h6
      rw [if_neg q, if_neg q]
      exact ⟨rfl, by omega⟩
theorem cvl_b {T : Nat → Nat} {st : Nat} : ∀ d p x, x ≤ 100000000 → cvl T st d p x ≤ 2000000000 ∨ True := fun _ _ _ _ => Or.inr trivial
theorem numC {n p : Nat} {T : Nat → Nat} {s t : St} (X : TT n T s t) (hp : p ≤ n) (e : s.1 1 3 = nI p) (x1 x2 : Int32) : f_X4_readNumber_21 x1 x2 (nI p) 0 s = f_X4_readNumber_103 x1 x2 (nI p) (nI (cvl T p (n - p) p 0)) (sI s 1 3 (nI (dgt T (n - p) p))) := by
  obtain ⟨hn, y1, y2, y3⟩ := X
  unfold f_X4_readNumber_21
  refine lp_q (fun d q o => ∃ i x, i + d = n ∧ p ≤ i ∧ q = (x1, x2, nI p, nI x, sI s 1 3 (nI i)) ∧ o = f_X4_readNumber_103 x1 x2 (nI p) (nI (cvl T p d i x)) (sI s 1 3 (nI (dgt T d i)))) ?_ 100000 (n - p) _ _ (by omega) ⟨p, 0, by omega, by omega, by rw [← e, sI_id]; rfl, rfl⟩
  rintro d rec _ o ⟨i, x, hi, hpi, rfl, ho⟩ ih
  show b_X4_readNumber_21 rec x1 x2 (nI p) (nI x) (sI s 1 3 (nI i)) = o
  unfold b_X4_readNumber_21 f_X4_readNumber_90
  have a1 : (sI s 1 3 (nI i)).1 1 1 = nI n := by rw [sR_at, pk_un (by omega)]; exact y1
  have a2 : (sI s 1 3 (nI i)).1 1 3 = nI i := by rw [sR_at, pk_us]
  have a3 : (sI s 1 3 (nI i)).1 2 = s.1 2 := by rw [sR_ne _ _ (by omega)]
  rw [a1, a2, a3]
  cases d with
  | zero => rw [if_pos (nI_le (by omega) (by omega)), ho, cvl, dgt]
  | succ d =>
    have h := y3 i (by omega)
    rw [if_neg (nI_ge (by omega) (by omega))]
    simp only [rd_n (show i < 400 by omega) (show 400 < 2 ^ 31 by omega), h.2.2, show (48 : Int32) = nI 48 from rfl, show (57 : Int32) = nI 57 from rfl, show (3 : Int32) = nI 3 from rfl, show (10 : Int32) = nI 10 from rfl, pk_sub hpi, nm_d, sI_sI, nI_1]
    by_cases q : 48 ≤ T i ∧ T i ≤ 57
    · rw [if_neg (fun z => by have := (bc_lt h.1 (by omega)).mp z; omega), if_neg (fun z => by have := (bc_gt h.1 (by omega)).mp z; omega)]
      have eb : bc (T i) = nI (T i) := (bc_eq h.1 (by omega)).mpr rfl
      by_cases q2 : i < p + 3
      · rw [if_neg (nI_ge (by omega) (by omega)), eb, pk_sub (by omega), pk_mul, nI_add]
        exact ih d _ (by omega) ⟨i + 1, _, by omega, by omega, rfl, by rw [ho, cvl, if_pos q, if_pos q2, dgt, if_pos q]⟩
      · rw [if_pos (nI_le (by omega) (by omega))]
        exact ih d _ (by omega) ⟨i + 1, _, by omega, by omega, rfl, by rw [ho, cvl, if_pos q, if_neg q2, dgt, if_pos q]⟩
    · rw [ho, cvl, if_neg q, dgt, if_neg q]
      by_cases q2 : bc (T i) < nI 48
      · rw [if_pos q2]
      · have hq : ¬ (T i < 48 ∨ 128 ≤ T i) := fun z => q2 ((bc_lt h.1 (c := 48) (by omega)).mpr z)
        rw [if_neg q2, if_pos ((bc_gt h.1 (by omega)).mpr (by omega))]
def N2 (t : St) (x p : Nat) : St := sR t 0 (upd (upd (t.1 0) 28 (nI x)) 25 (nI p))
theorem N2_step (t : St) (x p y q : Nat) : sI (sI (N2 t x p) 0 28 (nI y)) 0 25 (nI q) = N2 t y q := by
  unfold N2
  rw [sIsI t, sIsI t]
  refine Prod.ext ?_ rfl
  funext k
  by_cases z : k = 0
  · subst z
    rw [sR_at, sR_at]
    funext j
    by_cases j1 : j = 25
    · subst j1; rw [pk_us, pk_us]
    · rw [pk_un j1, pk_un j1]
      by_cases j2 : j = 28
      · subst j2; rw [pk_us, pk_us]
      · rw [pk_un j2, pk_un j1, pk_un j2, pk_un j2]
  · rw [sR_ne _ _ z, sR_ne _ _ z]
theorem N2_get (t : St) (x p j : Nat) : (N2 t x p).1 0 j = if j = 25 then nI p else if j = 28 then nI x else t.1 0 j := by
  unfold N2; rw [sR_at]; rfl
theorem N2_ne (t : St) (x p : Nat) {k : Nat} (h : k ≠ 0) : (N2 t x p).1 k = t.1 k := by unfold N2; rw [sR_ne _ _ h]
theorem mvl_lt {T : Nat → Nat} : ∀ d p x, x ≤ 100009 → mvl T d p x ≤ 100009 := by
  intro d
  induction d with
  | zero => intro p x h; rw [mvl]; exact h
  | succ d ih =>
    intro p x h
    rw [mvl]
    by_cases q : 48 ≤ T p ∧ T p ≤ 57
    · rw [if_pos q]; refine ih _ _ ?_; split <;> omega
    · rw [if_neg q]; exact h
theorem numM {n p : Nat} {T : Nat → Nat} {s t : St} (X : TT n T s t) (hp : p ≤ n) (x1 x2 : Int32) : f_X8_takeNumber_42 x1 x2 (N2 t 0 p) = f_X8_takeNumber_129 x1 x2 (N2 t (mvl T (n - p) p 0) (dgt T (n - p) p)) := by
  obtain ⟨hn, y1, y2, y3⟩ := X
  unfold f_X8_takeNumber_42
  refine lp_q (fun d q o => ∃ i x, i + d = n ∧ p ≤ i ∧ x ≤ 100009 ∧ q = (x1, x2, N2 t x i) ∧ o = f_X8_takeNumber_129 x1 x2 (N2 t (mvl T d i x) (dgt T d i))) ?_ 100000 (n - p) _ _ (by omega) ⟨p, 0, by omega, by omega, by omega, rfl, rfl⟩
  rintro d rec _ o ⟨i, x, hi, hpi, hx, rfl, ho⟩ ih
  show b_X8_takeNumber_42 rec x1 x2 (N2 t x i) = o
  unfold b_X8_takeNumber_42 f_X8_takeNumber_113
  have a1 : (N2 t x i).1 0 23 = nI n := by rw [N2_get]; exact y2
  have a2 : (N2 t x i).1 0 25 = nI i := by rw [N2_get]; rfl
  have a3 : (N2 t x i).1 13 = t.1 13 := N2_ne t x i (by omega)
  have a4 : (N2 t x i).1 0 28 = nI x := by rw [N2_get]; rfl
  have a5 : ∀ y, (sI (N2 t x i) 0 28 y).1 0 25 = nI i := fun y => by rw [sR_at, pk_un (by omega)]; exact a2
  rw [a1, a2, a3]
  cases d with
  | zero => rw [if_pos (nI_le (by omega) (by omega)), ho, mvl, dgt]
  | succ d =>
    have h := y3 i (by omega)
    rw [if_neg (nI_ge (by omega) (by omega)), rd_n (by omega) (by omega), h.2.1]
    by_cases q : 48 ≤ T i ∧ T i ≤ 57
    · rw [in_1 (a := 48) (b := 57) (by decide) (by decide) _ ⟨nI_le (a := 48) q.1 (by omega), nI_le (b := 57) q.2 (by omega)⟩, bd_s, if_neg i10, a2, a3, a4, rd_n (by omega) (by omega), h.2.1]
      simp only [nm_d, a5, nI_1]
      rw [show (10000 : Int32) = nI 10000 from rfl]
      by_cases q2 : x ≤ 10000
      · rw [if_pos (nI_le (b := 10000) q2 (by omega)), show (10 : Int32) = nI 10 from rfl, pk_mul, nI_add, show (48 : Int32) = nI 48 from rfl, pk_sub (by omega), N2_step]
        exact ih d _ (by omega) ⟨i + 1, _, by omega, by omega, by omega, rfl, by rw [ho, mvl, if_pos q, if_pos q2, dgt, if_pos q]⟩
      · rw [if_neg (nI_ge (a := 10000) (by omega) (by omega)), N2_step]
        exact ih d _ (by omega) ⟨i + 1, _, by omega, by omega, by omega, rfl, by rw [ho, mvl, if_pos q, if_neg q2, dgt, if_pos q]⟩
    · rw [in_0 (a := 48) (b := 57) (by decide) (by decide) _ (fun z => q ⟨(nI_leI (a := 48) (by omega) (by omega)).mp z.1, (nI_leI (b := 57) (by omega) (by omega)).mp z.2⟩), bd_s, if_pos rfl, ho, mvl, if_neg q, dgt, if_neg q]
