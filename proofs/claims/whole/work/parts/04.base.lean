/-! ===== states, worlds, the frame of a walk (all own work) ===== -/
abbrev St : Type := (Nat → Nat → Int32) × (Nat → Nat → Int64)
abbrev En : Type := Nat → (Nat → Int32) → (Nat → Int64) → va_E
abbrev Geo : Type := (Nat → Nat) × ClassId × ClassId × ClassId × ClassId
def wl (N : Nat) (en : En) (ad : Nat → Nat) (σ : St) : va_W := (List.range N).map (fun k => (ad k, en k (σ.1 k) (σ.2 k)))
def sR (σ : St) (k : Nat) (f : Nat → Int32) : St := (fun k' => if k' = k then f else σ.1 k', σ.2)
def sL (σ : St) (k : Nat) (f : Nat → Int64) : St := (σ.1, fun k' => if k' = k then f else σ.2 k')
abbrev sI (σ : St) (k j : Nat) (v : Int32) : St := sR σ k (upd (σ.1 k) j v)
abbrev sJ (σ : St) (k j : Nat) (v : Int64) : St := sL σ k (vp_updL (σ.2 k) j v)
abbrev tyG (G : Geo) : List (ClassId × FieldType) := [(G.2.1, .byte), (G.2.2.1, .int), (G.2.2.2.1, .long), (G.2.2.2.2, .boolean)]
theorem wl_get {N : Nat} {en : En} {ad : Nat → Nat} {σ : St} {k : Nat} (h : k < N) : (wl N en ad σ)[k]? = some (ad k, en k (σ.1 k) (σ.2 k)) := by
  simp [wl, h]
theorem wl_at {N : Nat} {en : En} {ad : Nat → Nat} {σ : St} {k : Nat} {x : va_E} (h : k < N) (he : en k (σ.1 k) (σ.2 k) = x) : (wl N en ad σ)[k]? = some (ad k, x) := by
  rw [wl_get h, he]
theorem wl_setR {N : Nat} {en : En} {ad : Nat → Nat} {σ : St} {k : Nat} {f : Nat → Int32} {x : va_E} (h : k < N) (he : en k f (σ.2 k) = x) : (wl N en ad σ).set k (ad k, x) = wl N en ad (sR σ k f) := by
  apply List.ext_getElem?
  intro i
  rw [List.getElem?_set]
  by_cases hik : k = i
  · subst hik
    simp [wl, sR, h, he]
  · rcases Nat.lt_or_ge i N with hi | hi
    · simp [wl, sR, hik, Ne.symm hik, hi]
    · simp [wl, hik, Nat.not_lt.mpr hi]
theorem wl_setL {N : Nat} {en : En} {ad : Nat → Nat} {σ : St} {k : Nat} {f : Nat → Int64} {x : va_E} (h : k < N) (he : en k (σ.1 k) f = x) : (wl N en ad σ).set k (ad k, x) = wl N en ad (sL σ k f) := by
  apply List.ext_getElem?
  intro i
  rw [List.getElem?_set]
  by_cases hik : k = i
  · subst hik
    simp [wl, sL, h, he]
  · rcases Nat.lt_or_ge i N with hi | hi
    · simp [wl, sL, hik, Ne.symm hik, hi]
    · simp [wl, hik, Nat.not_lt.mpr hi]
/-! the small words of the functions -/
def nm {α β : Type} (a : α) (f : α → β) : β := f a
def inb (i : Int32) (n : Nat) : Bool := decide (¬ (i < 0 ∨ n ≤ i.toNatClampNeg))
def ck {α : Type} (b : Bool) (x : Option α) : Option α := match b with
  | true => x
  | false => none
def rd {α : Type} (f : Nat → Int32) (n : Nat) (i : Int32) (g : Int32 → Option α) : Option α := ck (inb i n) (g (f i.toNatClampNeg))
def rdL {α : Type} (f : Nat → Int64) (n : Nat) (i : Int32) (g : Int64 → Option α) : Option α := ck (inb i n) (g (f i.toNatClampNeg))
def bd {α β γ : Type} (x : Option (α × β)) (g : α → β → Option γ) : Option γ := match x with
  | some (a, b) => g a b
  | none => none
def bv {α γ : Type} (x : Option α) (g : α → Option γ) : Option γ := match x with
  | some a => g a
  | none => none
def nz (v : Int32) : Bool := decide (¬ v = 0)
def nzL (v : Int64) : Bool := decide (¬ v = 0)
def bz (v : Int32) : Bool := v == 0 || v == 1
def lp {α ρ : Type} (B : (α → Option ρ) → α → Option ρ) : Nat → α → Option ρ
  | 0, _ => none
  | n + 1, a => B (lp B n) a
theorem nm_el {α γ : Type} {P : Prop} {a : α} {f : α → Option γ} {o : γ} (hf : nm a f = some o) (k : ∀ x, a = x → f x = some o → P) : P := k a rfl hf
theorem ck_el {γ : Type} {P : Prop} {b : Bool} {x : Option γ} {o : γ} (hf : ck b x = some o) (k : b = true → x = some o → P) : P := by
  cases b with
  | true => exact k rfl hf
  | false => exact absurd hf (by simp [ck])
theorem inb_in {i : Int32} {n : Nat} (h : inb i n = true) : vp_in i n := (of_decide_eq_true h : ¬ (i < 0 ∨ n ≤ i.toNatClampNeg))
theorem ckb_el {γ : Type} {P : Prop} {i : Int32} {n : Nat} {x : Option γ} {o : γ} (hf : ck (inb i n) x = some o) (k : vp_in i n → x = some o → P) : P := ck_el hf (fun a b => k (inb_in a) b)
theorem rd_el {γ : Type} {P : Prop} {f : Nat → Int32} {n : Nat} {i : Int32} {g : Int32 → Option γ} {o : γ} (hf : rd f n i g = some o) (k : ∀ v, vp_in i n → f i.toNatClampNeg = v → g v = some o → P) : P := ckb_el hf (fun a b => k _ a rfl b)
theorem rdL_el {γ : Type} {P : Prop} {f : Nat → Int64} {n : Nat} {i : Int32} {g : Int64 → Option γ} {o : γ} (hf : rdL f n i g = some o) (k : ∀ v, vp_in i n → f i.toNatClampNeg = v → g v = some o → P) : P := ckb_el hf (fun a b => k _ a rfl b)
theorem bd_el {α β γ : Type} {P : Prop} {x : Option (α × β)} {g : α → β → Option γ} {o : γ} (hf : bd x g = some o) (k : ∀ a b, x = some (a, b) → g a b = some o → P) : P := by
  cases x with
  | none => exact absurd hf (by simp [bd])
  | some q => exact k q.1 q.2 rfl hf
theorem bv_el {α γ : Type} {P : Prop} {x : Option α} {g : α → Option γ} {o : γ} (hf : bv x g = some o) (k : ∀ a, x = some a → g a = some o → P) : P := by
  cases x with
  | none => exact absurd hf (by simp [bv])
  | some q => exact k q rfl hf
theorem ifT {γ : Type} {c : Prop} {d : Decidable c} {x y : Option γ} {o : γ} (h : c) (hf : (if c then x else y) = some o) : x = some o := by rwa [if_pos h] at hf
theorem ifF {γ : Type} {c : Prop} {d : Decidable c} {x y : Option γ} {o : γ} (h : ¬ c) (hf : (if c then x else y) = some o) : y = some o := by rwa [if_neg h] at hf
theorem lp_el {α ρ : Type} {B : (α → Option ρ) → α → Option ρ} {o : ρ} {P : α → Prop} (hs : ∀ (rec : α → Option ρ) (a : α), (∀ a', rec a' = some o → P a') → B rec a = some o → P a) : ∀ (n : Nat) (a : α), lp B n a = some o → P a := by
  intro n
  induction n with
  | zero => intro a h; exact absurd h (by simp [lp])
  | succ n ih => intro a h; exact hs (lp B n) a ih h
/-! what stands fixed in a walk; what the heap holds -/
def Cx (p : Program) (s : State) (m : MethodId) (args : Array Value) (meth : Method) (c : Code) (cc : ByteArray) (nL : Nat) (own : String) (D : va_G) (tys : List (ClassId × FieldType)) : Prop :=
  p.tables.exec = Jvm.exec ∧ c.code = cc ∧ c.maxLocals = nL ∧ s.vm.findClass own = some m.cls ∧ (∀ w ∈ wA, w.before args s = true) ∧ meth.locks = false ∧ va_K D vwCl tys s
def Hs (D : va_G) (A : Nat → Prop) (H0 : Heap) (w : va_W) (H : Heap) (locs : List Loc) : Prop := va_P D vwCl w H ∧ va_D A w ∧ va_S A H0 H locs ∧ ∀ q, H0.size ≤ q → A q
/-! contracts -/
def PC (D : va_G) (tys : List (ClassId × FieldType)) (w : va_W) (av : List Value) (sz : Nat) : Array Value → State → Prop := va_Pc av (fun U => U.heap.size = sz ∧ va_P D vwCl w U.heap ∧ va_K D vwCl tys U ∧ va_D (fun _ => True) w)
def BB (D : va_G) (tys : List (ClassId × FieldType)) (wf : St → va_W) (A : Nat → Prop) (u : St) (t : State) : Prop := va_P D vwCl (wf u) t.heap ∧ va_K D vwCl tys t ∧ va_D A (wf u)
def QI (D : va_G) (tys : List (ClassId × FieldType)) (wf : St → va_W) (A : Nat → Prop) (o : Int32 × St) : Array Value → State → Outcome → State → Prop := va_Qi (fun (r : Int32) (u : St) => (r, u) = o) (BB D tys wf A) A
def QL (D : va_G) (tys : List (ClassId × FieldType)) (wf : St → va_W) (A : Nat → Prop) (o : Int64 × St) : Array Value → State → Outcome → State → Prop := va_Ql (fun (r : Int64) (u : St) => (r, u) = o) (BB D tys wf A) A
def QV (D : va_G) (tys : List (ClassId × FieldType)) (wf : St → va_W) (A : Nat → Prop) (o : St) : Array Value → State → Outcome → State → Prop := va_Qv (fun (u : St) => u = o) (BB D tys wf A) A
def QA (D : va_G) (tys : List (ClassId × FieldType)) (wf : St → va_W) (ad : Nat → Nat) (A : Nat → Prop) (o : Nat × St) : Array Value → State → Outcome → State → Prop := va_Qr (fun (u : St) => u = o.2) (fun u a t => a = ad o.1 ∧ BB D tys wf A u t) A
def CI (l : Launch) (D : va_G) (tys : List (ClassId × FieldType)) (wf : St → va_W) (y : MethodName) (cy : ByteArray) (nL : Nat) (ret : Option FieldType) (rm : Room) (av : List Value) (σ : St) (o : Int32 × St) : Prop :=
  ∀ sz : Nat, Met l y (Cond.code y cy nL ret :: wA) rm (PC D tys (wf σ) av sz) (QI D tys wf (va_A (wf σ) sz) o) 0 0 (va_A (wf σ) sz)
def CL (l : Launch) (D : va_G) (tys : List (ClassId × FieldType)) (wf : St → va_W) (y : MethodName) (cy : ByteArray) (nL : Nat) (ret : Option FieldType) (rm : Room) (av : List Value) (σ : St) (o : Int64 × St) : Prop :=
  ∀ sz : Nat, Met l y (Cond.code y cy nL ret :: wA) rm (PC D tys (wf σ) av sz) (QL D tys wf (va_A (wf σ) sz) o) 0 0 (va_A (wf σ) sz)
def CV (l : Launch) (D : va_G) (tys : List (ClassId × FieldType)) (wf : St → va_W) (y : MethodName) (cy : ByteArray) (nL : Nat) (ret : Option FieldType) (rm : Room) (av : List Value) (σ : St) (o : St) : Prop :=
  ∀ sz : Nat, Met l y (Cond.code y cy nL ret :: wA) rm (PC D tys (wf σ) av sz) (QV D tys wf (va_A (wf σ) sz) o) 0 0 (va_A (wf σ) sz)
def CA (l : Launch) (D : va_G) (tys : List (ClassId × FieldType)) (wf : St → va_W) (ad : Nat → Nat) (y : MethodName) (cy : ByteArray) (nL : Nat) (ret : Option FieldType) (rm : Room) (av : List Value) (σ : St) (o : Nat × St) : Prop :=
  ∀ sz : Nat, Met l y (Cond.code y cy nL ret :: wA) rm (PC D tys (wf σ) av sz) (QA D tys wf ad (va_A (wf σ) sz) o) 0 0 (va_A (wf σ) sz)
section ENTRY
variable {l : Launch} {D : va_G} {tys : List (ClassId × FieldType)} {wf : St → va_W} {ad : Nat → Nat} {y : MethodName} {cy : ByteArray} {nL : Nat} {ret : Option FieldType} {rm : Room} {av : List Value} {σ : St}
theorem met_of {Qc : (Nat → Prop) → Array Value → State → Outcome → State → Prop} (hy : plainName y.cls = true) (hn : (lg_sl av).length ≤ nL) (body : ∀ (p : Program) (e : Env) (s : State) (m : MethodId) (below : List Frame) (meth : Method) (c : Code) (A : Nat → Prop) (ls : Array Slot), Cx p s m av.toArray meth c cy nL y.cls D tys → meth.sig.returnType = ret → Hs D A s.heap (wf σ) s.heap [] → lv_has ls nL (lv_args 0 av) → W p l e rm s m av.toArray below meth c s.heap [] 0 0 (MQ below (Qc A) av.toArray s 0 0 A) (F0 m 0 ls [])) (sz : Nat) :
    Met l y (Cond.code y cy nL ret :: wA) rm (PC D tys (wf σ) av sz) (Qc (va_A (wf σ) sz)) 0 0 (va_A (wf σ) sz) := by
  refine Met.ofW (cc := cy) (maxL := nL) (ret := ret) hy rfl ?_
  intro p e s m args below meth c s₁ B hml hv
  obtain ⟨rfl, hsz, hP, hK, hD0⟩ := hv
  have hts := atoms_spec (ws := Cond.code y cy nL ret :: wA) B.pre
  subst hsz
  rw [lg_entry_eq]
  exact body p e s m below meth c _ _ ⟨B.exec, B.bytes, hml, findClass_of_methodNamed B.named, fun w hw => hts w (List.mem_cons_of_mem _ hw), B.notSynchronized, hK⟩ B.returns ⟨hP, hD0.self, va_S.rf, fun q h => Or.inr h⟩ (lv_entry av hn)
end ENTRY
