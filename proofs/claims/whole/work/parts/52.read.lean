/-! ===== pure: reading, blanks and numbers (own work) ===== -/
def bc (k : Nat) : Int32 := (nI k).toInt8.toInt32
theorem bc_tI {k : Nat} (h : k < 256) : (bc k).toInt = if k < 128 then (k : Int) else (k : Int) - 256 := by
  unfold bc
  rw [Int8.toInt_toInt32, Int32.toInt_toInt8, nI_toInt (by omega), Int.bmod_def]
  split <;> split <;> omega
theorem bc_eq {k c : Nat} (h : k < 256) (hc : c < 128) : bc k = nI c ↔ k = c := by
  rw [← Int32.toInt_inj, bc_tI h, nI_toInt (by omega)]
  split <;> omega
theorem bc_lt {k c : Nat} (h : k < 256) (hc : c < 128) : bc k < nI c ↔ (k < c ∨ 128 ≤ k) := by
  rw [lt_toInt, bc_tI h, nI_toInt (by omega)]
  split <;> omega
theorem bc_gt {k c : Nat} (h : k < 256) (hc : c < 128) : nI c < bc k ↔ (c < k ∧ k < 128) := by
  rw [lt_toInt, bc_tI h, nI_toInt (by omega)]
  split <;> omega
/-- the text, on both sides -/
def TT (n : Nat) (T : Nat → Nat) (s t : St) : Prop := n ≤ 400 ∧ s.1 1 1 = nI n ∧ t.1 0 23 = nI n ∧ ∀ j, j < n → T j < 256 ∧ t.1 13 j = nI (T j) ∧ s.1 2 j = bc (T j)
def skp (T : Nat → Nat) : Nat → Nat → Nat
  | 0, p => p
  | d + 1, p => if T p = 32 then skp T d (p + 1) else p
theorem skp_b (T : Nat → Nat) : ∀ d p, p ≤ skp T d p ∧ skp T d p ≤ p + d ∧ (skp T d p < p + d → ¬ T (skp T d p) = 32) := by
  intro d
  induction d with
  | zero => intro p; rw [skp]; omega
  | succ d ih =>
    intro p
    rw [skp]
    by_cases h : T p = 32
    · rw [if_pos h]; have := ih (p + 1); omega
    · rw [if_neg h]; exact ⟨by omega, by omega, fun _ => h⟩
theorem skipC {n p : Nat} {T : Nat → Nat} {s t : St} (X : TT n T s t) (hp : p ≤ n) (e : s.1 1 3 = nI p) : f_X4_skipBlanks s = some (sI s 1 3 (nI (skp T (n - p) p))) := by
  obtain ⟨hn, x1, x2, x3⟩ := X
  unfold f_X4_skipBlanks f_X4_skipBlanks_0
  refine lp_m (fun d q o => ∃ i, i + d = n ∧ p ≤ i ∧ q = sI s 1 3 (nI i) ∧ o = sI s 1 3 (nI (skp T d i))) ?_ 100000 (n - p) _ _ (by omega) ⟨p, by omega, by omega, by rw [← e, sI_id], rfl⟩
  rintro d rec _ _ ⟨i, hi, hpi, rfl, rfl⟩ ih
  show b_X4_skipBlanks_0 rec (sI s 1 3 (nI i)) = _
  unfold b_X4_skipBlanks_0
  have a1 : (sI s 1 3 (nI i)).1 1 1 = nI n := by rw [sR_at, pk_un (by omega)]; exact x1
  have a2 : (sI s 1 3 (nI i)).1 1 3 = nI i := by rw [sR_at, pk_us]
  have a3 : (sI s 1 3 (nI i)).1 2 = s.1 2 := by rw [sR_ne _ _ (by omega)]
  rw [a1, a2, a3]
  cases d with
  | zero => rw [if_pos (nI_le (by omega) (by omega)), skp]
  | succ d =>
    have h := x3 i (by omega)
    rw [if_neg (nI_ge (by omega) (by omega)), rd_n (by omega) (by omega), h.2.2, show (32 : Int32) = nI 32 from rfl]
    by_cases q : T i = 32
    · rw [if_pos ((bc_eq h.1 (by omega)).mpr q), nm_d, sI_sI, nI_1]
      exact ih d _ (by omega) ⟨i + 1, by omega, by omega, rfl, by rw [skp, if_pos q]⟩
    · rw [if_neg (fun z => q ((bc_eq h.1 (by omega)).mp z)), skp, if_neg q]
def hch (n : Nat) (T : Nat → Nat) (p : Nat) : Int32 := if p < n then nI (T p) else -1
theorem hereM {n p : Nat} {T : Nat → Nat} {s t : St} (X : TT n T s t) (hp : p ≤ n) (e : t.1 0 25 = nI p) : f_X8_here t = some (hch n T (skp T (n - p) p), sI t 0 25 (nI (skp T (n - p) p))) := by
  obtain ⟨hn, x1, x2, x3⟩ := X
  unfold f_X8_here f_X8_here_0
  refine lp_m (fun d q o => ∃ i, i + d = n ∧ p ≤ i ∧ q = sI t 0 25 (nI i) ∧ o = (hch n T (skp T d i), sI t 0 25 (nI (skp T d i)))) ?_ 100000 (n - p) _ _ (by omega) ⟨p, by omega, by omega, by rw [← e, sI_id], rfl⟩
  rintro d rec _ _ ⟨i, hi, hpi, rfl, rfl⟩ ih
  show b_X8_here_0 rec (sI t 0 25 (nI i)) = _
  unfold b_X8_here_0 f_X8_here_38
  have a1 : (sI t 0 25 (nI i)).1 0 23 = nI n := by rw [sR_at, pk_un (by omega)]; exact x2
  have a2 : (sI t 0 25 (nI i)).1 0 25 = nI i := by rw [sR_at, pk_us]
  have a3 : (sI t 0 25 (nI i)).1 13 = t.1 13 := by rw [sR_ne _ _ (by omega)]
  rw [a1, a2, a3]
  cases d with
  | zero => rw [if_pos (nI_le (by omega) (by omega)), if_pos (nI_le (by omega) (by omega)), skp, hch, if_neg (by omega)]
  | succ d =>
    have h := x3 i (by omega)
    rw [if_neg (nI_ge (by omega) (by omega)), if_neg (nI_ge (by omega) (by omega)), rd_n (by omega) (by omega), rd_n (by omega) (by omega), h.2.1, show (32 : Int32) = nI 32 from rfl]
    by_cases q : T i = 32
    · rw [if_pos (by rw [q]), nm_d, sI_sI, nI_1]
      exact ih d _ (by omega) ⟨i + 1, by omega, by omega, rfl, by rw [skp, if_pos q]⟩
    · rw [if_neg (fun z => q ((nI_eq (by omega) (by omega)).mp z)), skp, if_neg q, hch, if_pos (by omega)]
