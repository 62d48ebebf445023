/-! ===== constructors: worlds that grow (own work) ===== -/
def QN (D : va_G) (tys : List (ClassId × FieldType)) (wn : List Nat → va_W) (A : Nat → Prop) : Array Value → State → Outcome → State → Prop := va_Qv (fun (_ : List Nat) => True) (fun u t => va_P D vwCl (wn u) t.heap ∧ va_K D vwCl tys t ∧ va_D A (wn u)) A
def CN (l : Launch) (D : va_G) (tys : List (ClassId × FieldType)) (w0 : va_W) (wn : List Nat → va_W) (y : MethodName) (cy : ByteArray) (nL : Nat) (rm : Room) (av : List Value) (mc ms : Nat) : Prop :=
  ∀ sz : Nat, Met l y (Cond.code y cy nL none :: wA) rm (PC D tys w0 av sz) (QN D tys wn (va_A w0 sz)) mc ms (va_A w0 sz)
def LkI (own : String) (idx : Nat) (y : MethodName) (cy : ByteArray) (nL : Nat) (n : Nat) : Prop :=
  Cond.methodLink own idx y ∈ wA ∧ Cond.instanceMethod y ∈ wA ∧ Cond.initialized y.cls ∈ wA ∧ Cond.code y cy nL none ∈ wA ∧ y.name = "<init>" ∧ y.cls ≠ "java/lang/invoke/MethodHandle" ∧ y.cls ≠ "java/lang/invoke/VarHandle" ∧ (parseMethodDescriptor y.desc).map (fun d => d.parameters.length) = some n
theorem cn_of {l : Launch} {D : va_G} {tys : List (ClassId × FieldType)} {w0 : va_W} {wn : List Nat → va_W} {y : MethodName} {cy : ByteArray} {nL : Nat} {rm : Room} {av : List Value} {mc ms : Nat} (hy : plainName y.cls = true) (hnm : y.name = "<init>") (hn : (lg_sl av).length ≤ nL) (body : ∀ (p : Program) (e : Env) (s : State) (m : MethodId) (below : List Frame) (meth : Method) (c : Code) (A : Nat → Prop) (ls : Array Slot), Cx p s m av.toArray meth c cy nL y.cls D tys → meth.sig.returnType = none → meth.name = "<init>" → va_P D vwCl w0 s.heap → va_D A w0 → va_S A s.heap s.heap [] → (∀ q, s.heap.size ≤ q → A q) → lv_has ls nL (lv_args 0 av) → W p l e rm s m av.toArray below meth c s.heap [] 0 0 (MQ below (QN D tys wn A) av.toArray s mc ms A) (F0 m 0 ls [])) :
    CN l D tys w0 wn y cy nL rm av mc ms := by
  intro sz
  refine Met.ofW (cc := cy) (maxL := nL) (ret := none) hy rfl ?_
  intro p e s m args below meth c s₁ B hml hv
  obtain ⟨rfl, hsz, hP, hK, hD0⟩ := hv
  have hts := atoms_spec (ws := Cond.code y cy nL none :: wA) B.pre
  subst hsz
  rw [lg_entry_eq]
  exact body p e s m below meth c _ _ ⟨B.exec, B.bytes, hml, findClass_of_methodNamed B.named, fun w hw => hts w (List.mem_cons_of_mem _ hw), B.notSynchronized, hK⟩ B.returns ((name_of_methodNamed B.named B.method).1.trans hnm) hP hD0.self va_S.rf (fun q h => Or.inr h) (lv_entry av hn)
section XI
variable {p : Program} {l : Launch} {e : Env} {R : Room} {s : State} {m : MethodId} {args : Array Value} {below : List Frame} {meth : Method} {c : Code} {H : Heap} {locs : List Loc} {cells slots : Nat} {Q : State → Prop}
variable {pc : Nat} {ls : Array Slot} {rest st0 : List Value} {cc : ByteArray} {nL : Nat} {own : String} {D : va_G} {tys : List (ClassId × FieldType)} {A : Nat → Prop} {H0 : Heap} {ws wc : va_W}
variable {y : MethodName} {cy : ByteArray} {nLy : Nat} {rm : Room} {As : List Value} {b idx n mc ms : Nat} {Qc : Array Value → State → Outcome → State → Prop}
theorem y_oi {a : Nat} (C : Cx p s m args meth c cc nL own D tys) (hlk : Cond.methodLink own idx objectInit ∈ wA) (h2 : Cond.instanceMethod objectInit ∈ wA) (h3 : Cond.code objectInit ⟨#[0xb1]⟩ 1 none ∈ wA) (hls : ls.size = nL) (hR : 1 ≤ R.frames ∧ 12 ≤ R.locals) (hd : decode cc pc = .ok (.invokespecial idx, 3)) (kk : W p l e R s m args below meth c H locs cells slots Q (F0 m (pc + 3) ls [])) : W p l e R s m args below meth c H locs cells slots Q (F0 m pc ls [.ref a]) :=
  W.objInit C.1 C.2.1 C.2.2.2.1 (C.2.2.2.2.1 _ hlk) (C.2.2.2.2.1 _ h2) (C.2.2.2.2.1 _ h3) rfl (by rw [C.2.2.1]; exact hls) rfl hd hR.1 hR.2 (W.eq (g2 := F0 m (pc + 3) ls []) rfl kk)
theorem y_newa (C : Cx p s m args meth c cc nL own D tys) {atype : ArrayType} (harr : Cond.arrayClass (newarray.typeOf atype) ∈ wA) {ty : FieldType} (hty : newarray.typeOf atype = ty) (hra : ∀ (U : State) (c : ClassId), va_RA U c ty → U.vm.findClass ("[" ++ ty.toString) = some c) (hP : va_P D vwCl ws H) (hD : va_D A ws) (hS : va_S A H0 H locs) (hA : ∀ q, H0.size ≤ q → A q) (t0 : Nat) {cA : ClassId} (ht : tys[t0]? = some (cA, ty)) {n : Int32} {N : Nat} {a0 : vp_A} (ha : ∀ cA : ClassId, vp_cell cA a0 = arrV cA N (fun _ => defaultValue ty)) (hn : ¬ n < 0) (hN : n.toNatClampNeg = N) (hbytes : N * componentBytes ty ≤ 536870912) (hcells : cells + 1 ≤ R.cells) (hslots : slots + N ≤ R.slots) (hd : decode cc pc = .ok (.newarray atype, 2))
    (kk : ∀ (q : Nat) (H1 : Heap), va_P D vwCl (ws ++ [(q, .inl (cA, a0))]) H1 → va_D A (ws ++ [(q, .inl (cA, a0))]) → va_S A H0 H1 locs → W p l e R s m args below meth c H1 locs (cells + 1) (slots + N) Q (F0 m (pc + 2) ls (.ref q :: rest))) : W p l e R s m args below meth c H locs cells slots Q (F0 m pc ls (.int n :: rest)) := by
  refine va_newa C.1 C.2.1 (C.2.2.2.2.1 _ harr) hty C.2.2.2.2.2.2 hP hD hS hA ha hn hN hbytes hcells hslots hd (fun q c1 H1 hK1 hP1 hD1 hS1 => ?_)
  have e1 := hra s cA (C.2.2.2.2.2.2.2 t0 _ ht).2
  have e2 := hra s c1 (hK1.2 tys.length (c1, ty) (by simp)).2
  have e3 : c1 = cA := Option.some.inj (e2.symm.trans e1)
  subst e3
  exact kk q H1 hP1 hD1 hS1
theorem y_runI (C : Cx p s m args meth c cc nL own D tys) (hPc : va_P D vwCl wc H) (hDc : va_D A wc) (hM : Met l y (Cond.code y cy nLy none :: wA) rm (PC D tys wc (.ref b :: As) H.size) Qc mc ms (va_A wc H.size)) (K : LkI own idx y cy nLy n) (hn : As.length = n) (hR : rm.cells = mc ∧ rm.slots = ms ∧ rm.frames + 1 ≤ R.frames ∧ 8 + (nLy + 11) + rm.locals ≤ R.locals) (hls : ls.size = nL) (hst : st0 = As.reverse ++ .ref b :: rest) (hw : (rest.map fun v => v.category).sum ≤ 8) (hd : decode cc pc = .ok (.invokespecial idx, 3)) (hf : cells + mc ≤ R.cells ∧ slots + ms ≤ R.slots) :
    va_Run p l e R s m args below meth c H locs cells slots mc ms (F0 m pc ls st0) rest (Qc (Value.ref b :: As).toArray) (va_A wc H.size) := by
  obtain ⟨k1, k2, k4, k5, k9, k6, k7, k8⟩ := K
  have hts := C.2.2.2.2.1
  exact va_runI (As := As) (rest := rest) ⟨C.1, C.2.1, C.2.2.1, C.2.2.2.1, hts⟩ hM ⟨callB_of n hts (gd_all k5) rfl hR.1 hR.2.1 (hts _ k4) (hts _ k1) ⟨k6, k7, k8⟩ hR.2.2, k9, hts _ k2⟩ ⟨fun a U g mk q => by obtain ⟨q0, q1, qP, qK, qD⟩ := q; exact ⟨q0, q1, qP, va_K.moved (u := U) (U := U.calling g mk a) (Vm.Alike.refl U.vm) qK, qD⟩, fun U hU hW => ⟨rfl, by rw [hU], by rw [hU]; exact hPc, va_K.moved hW.alike C.2.2.2.2.2.2, hDc.weaken (fun _ _ _ _ => trivial)⟩⟩ rfl hn hls hst (lv_room hw) hd hf
theorem y_ret {wn : List Nat → va_W} {w : va_W} (C : Cx p s m args meth c cc nL own D tys) (hr : meth.sig.returnType = none) (u : List Nat) (hw : wn u = w) (hP : va_P D vwCl w H) (hD : va_D A w) (hS : va_S A s.heap H locs) (hd : decode cc pc = .ok (.return_, 1)) : W p l e R s m args below meth c H locs cells slots (MQ below (QN D tys wn A) args s cells slots A) (F0 m pc ls []) := by
  subst hw
  exact W.vret C.1 C.2.1 hr (fun t ht hW => ⟨⟨u, rfl, trivial, by rw [ht]; exact hP, va_K.moved hW.alike C.2.2.2.2.2.2, hD⟩, hS.F ht⟩) hS.2.2 hd C.2.2.2.2.2.1
end XI
