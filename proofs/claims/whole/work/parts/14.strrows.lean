/-! ===== methods of ours that name String constants (own work) ===== -/
def PCs (D : va_G) (tys : List (ClassId × FieldType)) (w : va_W) (K V : Nat → Nat) (av : List Value) (sz : Nat) : Array Value → State → Prop := va_Pc av (fun U => (U.heap.size = sz ∧ va_P D vwCl w U.heap ∧ va_K D vwCl tys U ∧ va_D (fun _ => True) w) ∧ SE K V (va_A w sz) U U.heap)
def CIs (l : Launch) (D : va_G) (tys : List (ClassId × FieldType)) (wf : St → va_W) (K V : Nat → Nat) (y : MethodName) (cy : ByteArray) (nL : Nat) (ret : Option FieldType) (rm : Room) (av : List Value) (σ : St) (o : Int32 × St) : Prop :=
  ∀ sz : Nat, Met l y (Cond.code y cy nL ret :: wA) rm (PCs D tys (wf σ) K V av sz) (QI D tys wf (va_A (wf σ) sz) o) 0 0 (va_A (wf σ) sz)
def CVs (l : Launch) (D : va_G) (tys : List (ClassId × FieldType)) (wf : St → va_W) (K V : Nat → Nat) (y : MethodName) (cy : ByteArray) (nL : Nat) (ret : Option FieldType) (rm : Room) (av : List Value) (σ : St) (o : St) : Prop :=
  ∀ sz : Nat, Met l y (Cond.code y cy nL ret :: wA) rm (PCs D tys (wf σ) K V av sz) (QV D tys wf (va_A (wf σ) sz) o) 0 0 (va_A (wf σ) sz)
theorem Hs.kept {D : va_G} {A : Nat → Prop} {H0 H H1 : Heap} {w : va_W} {locs locs1 : List Loc} (h : Hs D A H0 w H locs) (hq : ∀ q : Nat, q < H.size → H1[q]? = H[q]?) (hS : va_S A H0 H1 locs1) : Hs D A H0 w H1 locs1 :=
  ⟨fun k q hk => (h.1 k q hk).kept (hq _ (h.1 k q hk).lt), h.2.1, hS, h.2.2.2⟩
section XS
variable {p : Program} {l : Launch} {e : Env} {R : Room} {s : State} {m : MethodId} {args : Array Value} {below : List Frame} {meth : Method} {c : Code} {H : Heap} {locs : List Loc} {Q : State → Prop}
variable {pc : Nat} {ls : Array Slot} {rest st0 : List Value} {cc : ByteArray} {nL : Nat} {own : String} {D : va_G} {tys : List (ClassId × FieldType)} {A : Nat → Prop} {ad K V : Nat → Nat} {σ σ1 : St} {wf : St → va_W} {w : va_W}
variable {y : MethodName} {cy : ByteArray} {nLy : Nat} {ret : Option FieldType} {rm : Room} {As av : List Value} {b idx n i : Nat} {Qc : Array Value → State → Outcome → State → Prop}
theorem met_ofS {Qc : (Nat → Prop) → Array Value → State → Outcome → State → Prop} (hy : plainName y.cls = true) (hn : (lg_sl av).length ≤ nL) (body : ∀ (p : Program) (e : Env) (s : State) (m : MethodId) (below : List Frame) (meth : Method) (c : Code) (A : Nat → Prop) (ls : Array Slot), Cx p s m av.toArray meth c cy nL y.cls D tys → meth.sig.returnType = ret → SE K V A s s.heap → Hs D A s.heap (wf σ) s.heap [] → lv_has ls nL (lv_args 0 av) → W p l e rm s m av.toArray below meth c s.heap [] 0 0 (MQ below (Qc A) av.toArray s 0 0 A) (F0 m 0 ls [])) (sz : Nat) :
    Met l y (Cond.code y cy nL ret :: wA) rm (PCs D tys (wf σ) K V av sz) (Qc (va_A (wf σ) sz)) 0 0 (va_A (wf σ) sz) := by
  refine Met.ofW (cc := cy) (maxL := nL) (ret := ret) hy rfl ?_
  intro p e s m args below meth c s₁ B hml hv
  obtain ⟨rfl, ⟨hsz, hP, hK, hD0⟩, hE⟩ := hv
  have hts := atoms_spec (ws := Cond.code y cy nL ret :: wA) B.pre
  subst hsz
  rw [lg_entry_eq]
  exact body p e s m below meth c _ _ ⟨B.exec, B.bytes, hml, findClass_of_methodNamed B.named, fun w hw => hts w (List.mem_cons_of_mem _ hw), B.notSynchronized, hK⟩ B.returns hE ⟨hP, hD0.self, va_S.rf, fun q h => Or.inr h⟩ (lv_entry av hn)
theorem x_runVS (C : Cx p s m args meth c cc nL own D tys) (E : SE K V A s s.heap) (h : Hs D A s.heap (wf σ) H locs) (hM : Met l y (Cond.code y cy nLy ret :: wA) rm (PCs D tys (wf σ) K V (.ref b :: As) H.size) Qc 0 0 (va_A (wf σ) H.size)) (L : Lk own idx y cy nLy ret n) (hn : As.length = n) (hR : rm.cells = 0 ∧ rm.slots = 0 ∧ rm.frames + 1 ≤ R.frames ∧ 8 + (nLy + 11) + rm.locals ≤ R.locals) (hc : ∃ cell : Cell, H[b]? = some cell ∧ cell.vm.isStatics = false ∧ s.vm.findClass y.cls = some cell.cls) (hls : ls.size = nL) (hst : st0 = As.reverse ++ .ref b :: rest) (hw : (rest.map fun v => v.category).sum ≤ 8) (hd : decode cc pc = .ok (.invokevirtual idx, 3)) :
    va_Run p l e R s m args below meth c H locs 0 0 0 0 (F0 m pc ls st0) rest (Qc (Value.ref b :: As).toArray) (va_A (wf σ) H.size) := by
  obtain ⟨k1, k2, k3, k4, k5, k6, k7, k8⟩ := L
  have hts := C.2.2.2.2.1
  have cw : CallW R s args own y.cls idx y cy nLy ret (Cond.code y cy nLy ret :: wA) rm 0 0 n := ⟨callB_of n hts (gd_all k5) rfl hR.1 hR.2.1 (hts _ k4) (hts _ k1) ⟨k6, k7, k8⟩ hR.2.2, hts _ k2, hts _ k3⟩
  exact va_runV (As := As) (rest := rest) ⟨C.1, C.2.1, C.2.2.1, C.2.2.2.1, hts⟩ hM cw ⟨fun a U g mk q => by obtain ⟨q0, ⟨q1, qP, qK, qD⟩, qE⟩ := q; exact ⟨q0, ⟨q1, qP, va_K.moved (u := U) (U := U.calling g mk a) (Vm.Alike.refl U.vm) qK, qD⟩, qE.blind⟩, hc, fun U hU hW => ⟨rfl, ⟨by rw [hU], by rw [hU]; exact h.1, va_K.moved hW.alike C.2.2.2.2.2.2, h.2.1.weaken (fun _ _ _ _ => trivial)⟩, E.to h.2.2.1 hU hW h.free⟩⟩ rfl hn hls hst (lv_room hw) hd ⟨Nat.zero_le _, Nat.zero_le _⟩
theorem x_slen (C : Cx p s m args meth c cc nL RX4 D tys) (E : SE K V A s s.heap) (h : Hs D A s.heap w H locs) (hi : i < 2) (hR : 2 ≤ R.frames ∧ 40 ≤ R.locals) (hls : ls.size = nL) (hw : (rest.map fun v => v.category).sum ≤ 8) (hd : decode cc pc = .ok (.invokevirtual 66, 3)) (kk : ∀ (H1 : Heap) (locs1 : List Loc), Hs D A s.heap w H1 locs1 → W p l e R s m args below meth c H1 locs1 0 0 Q (F0 m (pc + 3) ls (.int (Int32.ofNat (sln i)) :: rest))) : W p l e R s m args below meth c H locs 0 0 Q (F0 m pc ls (.ref (K i) :: rest)) := by
  have Cj0 : Cj p s m args meth c cc nL RX4 := ⟨C.1, C.2.1, C.2.2.1, C.2.2.2.1, C.2.2.2.2.1, C.2.2.2.2.2.1⟩
  exact xj_goi h.2.2.1 (xj_runV (As := []) (rest := rest) Cj0 E h.2.2.1 (j_length l K V i hi) lk_X4_66 rfl ⟨rfl, rfl, hR.1, hR.2⟩ (vk_recv E.1 hi h.2.2.1) hls rfl hw hd) (fun H1 locs1 hq hS => kk H1 locs1 (h.kept hq hS))
theorem x_schr (C : Cx p s m args meth c cc nL RX4 D tys) (E : SE K V A s s.heap) (h : Hs D A s.heap w H locs) (hi : i < 2) {k : Int32} (hk : vp_in k (sln i)) (hR : 4 ≤ R.frames ∧ 85 ≤ R.locals) (hls : ls.size = nL) (hw : (rest.map fun v => v.category).sum ≤ 8) (hd : decode cc pc = .ok (.invokevirtual 71, 3)) (kk : ∀ (H1 : Heap) (locs1 : List Loc), Hs D A s.heap w H1 locs1 → W p l e R s m args below meth c H1 locs1 0 0 Q (F0 m (pc + 3) ls (.int (sch i k.toNatClampNeg) :: rest))) : W p l e R s m args below meth c H locs 0 0 Q (F0 m pc ls (.int k :: .ref (K i) :: rest)) := by
  have Cj0 : Cj p s m args meth c cc nL RX4 := ⟨C.1, C.2.1, C.2.2.1, C.2.2.2.1, C.2.2.2.2.1, C.2.2.2.2.2.1⟩
  exact xj_goi h.2.2.1 (xj_runV (As := [.int k]) (rest := rest) Cj0 E h.2.2.1 (j_charAt l K V i hi k hk) lk_X4_71 rfl ⟨rfl, rfl, hR.1, hR.2⟩ (vk_recv E.1 hi h.2.2.1) hls rfl hw hd) (fun H1 locs1 hq hS => kk H1 locs1 (h.kept hq hS))
end XS
