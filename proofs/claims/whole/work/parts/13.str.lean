/-! ===== String constants: the JDK's own road, and methods that name them (own work) ===== -/
def slen : List Nat := [5, 7]
def sbyt : List (List Int32) := [[104, 111, 117, 115, 101], [115, 108, 101, 101, 112, 101, 114]]
def sln (i : Nat) : Nat := slen.getD i 0
def sch (i j : Nat) : Int32 := (sbyt.getD i []).getD j 0
theorem sch_ok : ∀ i, i < 2 → ∀ j, j < sln i → (((sch i j) &&& 255).toUInt32 % 65536).toInt32 = sch i j ∧ narrow .char (.int (sch i j)) = .int (sch i j) := by decide +kernel
def SE (K V : Nat → Nat) (A : Nat → Prop) (U : State) (H : Heap) : Prop :=
  vk_S 2 slen sbyt K V A U H ∧ va_Z "java/lang/String" "COMPACT_STRINGS" "Z" (.int 1) A U H ∧ va_Zq "jdk/internal/util/Preconditions" "SIOOBE_FORMATTER" "Ljava/util/function/BiFunction;" A U H ∧ vk_R RX4 47 "house" (K 0) U ∧ vk_R RX4 57 "sleeper" (K 1) U
theorem SE.to {K V : Nat → Nat} {A B : Nat → Prop} {s U : State} {H : Heap} {locs : List Loc} (h : SE K V A s s.heap) (hS : va_S A s.heap H locs) (hU : U.heap = H) (hW : s.WarmedH U.vm) (hB : ∀ q, B q → A q) : SE K V B U U.heap := by
  obtain ⟨h1, h2, h3, h4, h5⟩ := h
  subst hU
  exact ⟨((h1.kept hS.2.1).moved hW.alike).narrow hB, ((h2.kept hS.2.1).moved hW.alike).narrow hB, ((h3.kept hS.2.1).moved hW.alike).narrow hB, h4.warm hW, h5.warm hW⟩
theorem SE.blind {K V : Nat → Nat} {A : Nat → Prop} {U : State} {g : JFrame} {mk : MethodId} {a : Array Value} (h : SE K V A U U.heap) : SE K V A (U.calling g mk a) (U.calling g mk a).heap := by
  obtain ⟨h1, h2, h3, h4, h5⟩ := h
  exact ⟨vk_S.moved (u := U) (U := U.calling g mk a) (Vm.Alike.refl U.vm) h1, va_Z.moved (u := U) (U := U.calling g mk a) (Vm.Alike.refl U.vm) h2, va_Zq.moved (u := U) (U := U.calling g mk a) (Vm.Alike.refl U.vm) h3, vk_R.same (u := U) (U := U.calling g mk a) rfl h4, vk_R.same (u := U) (U := U.calling g mk a) rfl h5⟩
abbrev nF : Nat → Prop := fun _ => False
def PJ (K V : Nat → Nat) (av : List Value) : Array Value → State → Prop := va_Pc av (fun U => SE K V nF U U.heap)
def CJ (l : Launch) (K V : Nat → Nat) (y : MethodName) (cy : ByteArray) (nL : Nat) (ret : Option FieldType) (rm : Room) (av : List Value) (r : Int32) : Prop :=
  Met l y (Cond.code y cy nL ret :: wA) rm (PJ K V av) (va_Qi (fun (q : Int32) (_ : Unit) => q = r) (fun _ _ => True) nF) 0 0 nF
def CJv (l : Launch) (K V : Nat → Nat) (y : MethodName) (cy : ByteArray) (nL : Nat) (ret : Option FieldType) (rm : Room) (av : List Value) : Prop :=
  Met l y (Cond.code y cy nL ret :: wA) rm (PJ K V av) (va_Qv (fun (_ : Unit) => True) (fun _ _ => True) nF) 0 0 nF
/-- what stands fixed in a walk of a JDK method -/
def Cj (p : Program) (s : State) (m : MethodId) (args : Array Value) (meth : Method) (c : Code) (cc : ByteArray) (nL : Nat) (own : String) : Prop :=
  p.tables.exec = Jvm.exec ∧ c.code = cc ∧ c.maxLocals = nL ∧ s.vm.findClass own = some m.cls ∧ (∀ w ∈ wA, w.before args s = true) ∧ meth.locks = false
theorem metJ_of {l : Launch} {K V : Nat → Nat} {y : MethodName} {cy : ByteArray} {nL : Nat} {ret : Option FieldType} {rm : Room} {av : List Value} {Qc : Array Value → State → Outcome → State → Prop} (hy : plainName y.cls = true) (hn : (lg_sl av).length ≤ nL) (body : ∀ (p : Program) (e : Env) (s : State) (m : MethodId) (below : List Frame) (meth : Method) (c : Code) (ls : Array Slot), Cj p s m av.toArray meth c cy nL y.cls → meth.sig.returnType = ret → SE K V nF s s.heap → va_S nF s.heap s.heap [] → lv_has ls nL (lv_args 0 av) → W p l e rm s m av.toArray below meth c s.heap [] 0 0 (MQ below Qc av.toArray s 0 0 nF) (F0 m 0 ls [])) :
    Met l y (Cond.code y cy nL ret :: wA) rm (PJ K V av) Qc 0 0 nF := by
  refine Met.ofW (cc := cy) (maxL := nL) (ret := ret) hy rfl ?_
  intro p e s m args below meth c s₁ B hml hv
  obtain ⟨rfl, hSE⟩ := hv
  have hts := atoms_spec (ws := Cond.code y cy nL ret :: wA) B.pre
  rw [lg_entry_eq]
  exact body p e s m below meth c _ ⟨B.exec, B.bytes, hml, findClass_of_methodNamed B.named, fun w hw => hts w (List.mem_cons_of_mem _ hw), B.notSynchronized⟩ B.returns hSE va_S.rf (lv_entry av hn)
section XJ
variable {p : Program} {l : Launch} {e : Env} {R : Room} {s : State} {m : MethodId} {args : Array Value} {below : List Frame} {meth : Method} {c : Code} {H : Heap} {locs : List Loc} {Q : State → Prop}
variable {pc : Nat} {ls : Array Slot} {rest st0 : List Value} {cc : ByteArray} {nL : Nat} {own : String} {D : va_G} {tys : List (ClassId × FieldType)} {A : Nat → Prop} {ad K V : Nat → Nat} {σ σ1 : St} {wf : St → va_W}
variable {y : MethodName} {cy : ByteArray} {nLy : Nat} {ret : Option FieldType} {rm : Room} {As : List Value} {b idx n : Nat} {Qc : Array Value → State → Outcome → State → Prop}
theorem xj_runV (C : Cj p s m args meth c cc nL own) (hE : SE K V A s s.heap) (hS : va_S A s.heap H locs) (hM : Met l y (Cond.code y cy nLy ret :: wA) rm (PJ K V (.ref b :: As)) Qc 0 0 nF) (L : Lk own idx y cy nLy ret n) (hn : As.length = n) (hR : rm.cells = 0 ∧ rm.slots = 0 ∧ rm.frames + 1 ≤ R.frames ∧ 8 + (nLy + 11) + rm.locals ≤ R.locals) (hc : ∃ cell : Cell, H[b]? = some cell ∧ cell.vm.isStatics = false ∧ s.vm.findClass y.cls = some cell.cls) (hls : ls.size = nL) (hst : st0 = As.reverse ++ .ref b :: rest) (hw : (rest.map fun v => v.category).sum ≤ 8) (hd : decode cc pc = .ok (.invokevirtual idx, 3)) :
    va_Run p l e R s m args below meth c H locs 0 0 0 0 (F0 m pc ls st0) rest (Qc (Value.ref b :: As).toArray) nF := by
  obtain ⟨k1, k2, k3, k4, k5, k6, k7, k8⟩ := L
  have hts := C.2.2.2.2.1
  have cw : CallW R s args own y.cls idx y cy nLy ret (Cond.code y cy nLy ret :: wA) rm 0 0 n := ⟨callB_of n hts (gd_all k5) rfl hR.1 hR.2.1 (hts _ k4) (hts _ k1) ⟨k6, k7, k8⟩ hR.2.2, hts _ k2, hts _ k3⟩
  exact va_runV (As := As) (rest := rest) ⟨C.1, C.2.1, C.2.2.1, C.2.2.2.1, hts⟩ hM cw ⟨fun a U g mk q => ⟨q.1, q.2.blind⟩, hc, fun U hU hW => ⟨rfl, hE.to hS hU hW (fun _ f => f.elim)⟩⟩ rfl hn hls hst (lv_room hw) hd ⟨Nat.zero_le _, Nat.zero_le _⟩
theorem xj_runS (C : Cj p s m args meth c cc nL own) (hE : SE K V A s s.heap) (hS : va_S A s.heap H locs) (hM : Met l y (Cond.code y cy nLy ret :: wA) rm (PJ K V As) Qc 0 0 nF) (L : LkS own idx y cy nLy ret n) (hn : As.length = n) (hR : rm.cells = 0 ∧ rm.slots = 0 ∧ rm.frames + 1 ≤ R.frames ∧ 8 + (nLy + 11) + rm.locals ≤ R.locals) (hls : ls.size = nL) (hst : st0 = As.reverse ++ rest) (hw : (rest.map fun v => v.category).sum ≤ 8) (hd : decode cc pc = .ok (.invokestatic idx, 3)) :
    va_Run p l e R s m args below meth c H locs 0 0 0 0 (F0 m pc ls st0) rest (Qc As.toArray) nF := by
  obtain ⟨k1, k2, k4, k5, k6, k7, k8⟩ := L
  have hts := C.2.2.2.2.1
  have cw : CallB R s args own idx y cy nLy ret (Cond.code y cy nLy ret :: wA) rm 0 0 n ∧ (Cond.static y).before args s = true := ⟨callB_of n hts (gd_all k5) rfl hR.1 hR.2.1 (hts _ k4) (hts _ k1) ⟨k6, k7, k8⟩ hR.2.2, hts _ k2⟩
  exact va_runS (As := As) (rest := rest) ⟨C.1, C.2.1, C.2.2.1, C.2.2.2.1, hts⟩ hM cw ⟨fun a U g mk q => ⟨q.1, q.2.blind⟩, fun U hU hW => ⟨rfl, hE.to hS hU hW (fun _ f => f.elim)⟩⟩ rfl hn hls hst (lv_room hw) hd ⟨Nat.zero_le _, Nat.zero_le _⟩
theorem xj_goi {a : Array Value} {r : Int32} (hS : va_S A s.heap H locs) (hr : va_Run p l e R s m args below meth c H locs 0 0 0 0 (F0 m pc ls st0) rest (va_Qi (fun (q : Int32) (_ : Unit) => q = r) (fun _ _ => True) nF a) nF) (kk : ∀ (H1 : Heap) (locs1 : List Loc), (∀ q : Nat, q < H.size → H1[q]? = H[q]?) → va_S A s.heap H1 locs1 → W p l e R s m args below meth c H1 locs1 0 0 Q (F0 m (pc + 3) ls (.int r :: rest))) : W p l e R s m args below meth c H locs 0 0 Q (F0 m pc ls st0) := by
  refine va_calli hr hS (fun q _ hq => hq.elim) (fun q hq => hq.elim) (fun r' u t H1 locs1 ht hvm hw hB hz hk hS => ?_)
  cases hw
  exact kk H1 locs1 (fun q hq => hk q hq id) hS
theorem xj_gov {a : Array Value} (hS : va_S A s.heap H locs) (hr : va_Run p l e R s m args below meth c H locs 0 0 0 0 (F0 m pc ls st0) rest (va_Qv (fun (_ : Unit) => True) (fun _ _ => True) nF a) nF) (kk : ∀ (H1 : Heap) (locs1 : List Loc), (∀ q : Nat, q < H.size → H1[q]? = H[q]?) → va_S A s.heap H1 locs1 → W p l e R s m args below meth c H1 locs1 0 0 Q (F0 m (pc + 3) ls rest)) : W p l e R s m args below meth c H locs 0 0 Q (F0 m pc ls st0) := by
  refine va_callv hr hS (fun q _ hq => hq.elim) (fun q hq => hq.elim) (fun u t H1 locs1 ht hvm hw hB hz hk hS => ?_)
  exact kk H1 locs1 (fun q hq => hk q hq id) hS
theorem xj_zret {ty : FieldType} {v r : Int32} (C : Cj p s m args meth c cc nL own) (hr : meth.sig.returnType = some ty) (hS : va_S nF s.heap H locs) (hn : narrow ty (.int v) = .int v) (hv : v = r) (hd : decode cc pc = .ok (.ireturn, 1)) : W p l e R s m args below meth c H locs 0 0 (MQ below (va_Qi (fun (q : Int32) (_ : Unit) => q = r) (fun _ _ => True) nF) args s 0 0 nF) (F0 m pc ls [.int v]) :=
  W.zret C.1 C.2.1 hr hn (fun t ht hW => ⟨⟨v, (), rfl, hv, trivial⟩, hS.F ht⟩) hS.2.2 hd C.2.2.2.2.2
theorem xj_vret (C : Cj p s m args meth c cc nL own) (hr : meth.sig.returnType = none) (hS : va_S nF s.heap H locs) (hd : decode cc pc = .ok (.return_, 1)) : W p l e R s m args below meth c H locs 0 0 (MQ below (va_Qv (fun (_ : Unit) => True) (fun _ _ => True) nF) args s 0 0 nF) (F0 m pc ls []) :=
  W.vret C.1 C.2.1 hr (fun t ht hW => ⟨⟨(), rfl, trivial, trivial⟩, hS.F ht⟩) hS.2.2 hd C.2.2.2.2.2
end XJ

theorem dJ0_checkIndex_df160_0 : decode cJ0_checkIndex_df160 0 = .ok (.iload_n 0, 1) := by decide +kernel
theorem dJ0_checkIndex_df160_1 : decode cJ0_checkIndex_df160 1 = .ok (.iload_n 1, 1) := by decide +kernel
theorem dJ0_checkIndex_df160_2 : decode cJ0_checkIndex_df160 2 = .ok (.getstatic 1053, 3) := by decide +kernel
theorem dJ0_checkIndex_df160_5 : decode cJ0_checkIndex_df160 5 = .ok (.invokestatic 1059, 3) := by decide +kernel
theorem dJ0_checkIndex_df160_8 : decode cJ0_checkIndex_df160 8 = .ok (.pop, 1) := by decide +kernel
theorem dJ0_checkIndex_df160_9 : decode cJ0_checkIndex_df160 9 = .ok (.return_, 1) := by decide +kernel
theorem dJ3_checkIndex_8e157_0 : decode cJ3_checkIndex_8e157 0 = .ok (.iload_n 0, 1) := by decide +kernel
theorem dJ3_checkIndex_8e157_1 : decode cJ3_checkIndex_8e157 1 = .ok (.ifCond .lt 8, 3) := by decide +kernel
theorem dJ3_checkIndex_8e157_4 : decode cJ3_checkIndex_8e157 4 = .ok (.iload_n 0, 1) := by decide +kernel
theorem dJ3_checkIndex_8e157_5 : decode cJ3_checkIndex_8e157 5 = .ok (.iload_n 1, 1) := by decide +kernel
theorem dJ3_checkIndex_8e157_6 : decode cJ3_checkIndex_8e157 6 = .ok (.if_icmp .lt 10, 3) := by decide +kernel
theorem dJ3_checkIndex_8e157_9 : decode cJ3_checkIndex_8e157 9 = .ok (.aload_n 2, 1) := by decide +kernel
theorem dJ3_checkIndex_8e157_10 : decode cJ3_checkIndex_8e157 10 = .ok (.iload_n 0, 1) := by decide +kernel
theorem dJ3_checkIndex_8e157_11 : decode cJ3_checkIndex_8e157 11 = .ok (.iload_n 1, 1) := by decide +kernel
theorem dJ3_checkIndex_8e157_12 : decode cJ3_checkIndex_8e157 12 = .ok (.invokestatic 95, 3) := by decide +kernel
theorem dJ3_checkIndex_8e157_15 : decode cJ3_checkIndex_8e157 15 = .ok (.athrow, 1) := by decide +kernel
theorem dJ3_checkIndex_8e157_16 : decode cJ3_checkIndex_8e157 16 = .ok (.iload_n 0, 1) := by decide +kernel
theorem dJ3_checkIndex_8e157_17 : decode cJ3_checkIndex_8e157 17 = .ok (.ireturn, 1) := by decide +kernel
theorem pn_J0 : plainName RJ0 = true := by decide +kernel
theorem pn_J1 : plainName RJ1 = true := by decide +kernel
theorem pn_J3 : plainName RJ3 = true := by decide +kernel
theorem lk_J0_335 : Lk RJ0 335 yJ0_coder_7d493 cJ0_coder_7d493 1 (some .byte) 0 := ⟨q208, q209, q210, q205, q211, by decide +kernel, by decide +kernel, by decide +kernel⟩
theorem lk_J0_492 : Lk RJ0 492 yJ0_isLatin1_aae02 cJ0_isLatin1_aae02 1 (some .boolean) 0 := ⟨q218, q219, q220, q205, q221, by decide +kernel, by decide +kernel, by decide +kernel⟩
theorem lk_J0_495 : LkS RJ0 495 yJ1_charAt_3b067 cJ1_charAt_3b067 2 (some .char) 2 := ⟨q222, q223, q224, q225, by decide +kernel, by decide +kernel, by decide +kernel⟩
theorem lk_J1_9 : LkS RJ1 9 yJ0_checkIndex_df160 cJ0_checkIndex_df160 2 none 2 := ⟨q226, q227, q205, q228, by decide +kernel, by decide +kernel, by decide +kernel⟩
theorem lk_J0_1059 : LkS RJ0 1059 yJ3_checkIndex_8e157 cJ3_checkIndex_8e157 3 (some .int) 3 := ⟨q230, q231, q232, q233, by decide +kernel, by decide +kernel, by decide +kernel⟩
theorem lk_X4_66 : Lk RX4 66 yJ0_length_8abf5 cJ0_length_8abf5 1 (some .int) 0 := ⟨q202, q203, q204, q205, q206, by decide +kernel, by decide +kernel, by decide +kernel⟩
theorem lk_X4_71 : Lk RX4 71 yJ0_charAt_5068e cJ0_charAt_5068e 2 (some .char) 1 := ⟨q214, q215, q216, q205, q217, by decide +kernel, by decide +kernel, by decide +kernel⟩

set_option maxHeartbeats 4000000 in
theorem j_coder (l : Launch) (K V : Nat → Nat) (i : Nat) (hi : i < 2) : CJ l K V yJ0_coder_7d493 cJ0_coder_7d493 1 (some .byte) { frames := 0, cells := 0, slots := 0, locals := 0 } [.ref (K i)] 0 := by
  refine metJ_of pn_J0 (Nat.le_of_ble_eq_true rfl) (fun p e s m below meth c ls C hr hE hS hl => ?_)
  have C : Cj p s m _ meth c cJ0_coder_7d493 1 RJ0 := C
  have hl : lv_has ls 1 [(0, .ref (K i))] := hl
  have hx := C.1
  have hb := C.2.1
  refine va_gets (C := "java/lang/String") (n := "COMPACT_STRINGS") (d := "Z") (ref := "java/lang/String") hx hb hE.2.1 hS C.2.2.2.1 (C.2.2.2.2.1 _ q212) (fun _ x => x) dJ0_coder_7d493_0 ?_
  refine lv_if_eq (tgt := 13) hx hb dJ0_coder_7d493_3 (by decide) (fun h => absurd h (by decide)) (fun _ => ?_)
  refine lv_aload_n hx hb dJ0_coder_7d493_6 rfl (lv_at hl 0 rfl) ?_
  refine vk_getf (o := "java/lang/String") (n := "coder") (d := "B") (ref := "java/lang/String") hx hb (hE.1.1 i hi).2.1 hS C.2.2.2.1 (C.2.2.2.2.1 _ q213) (fun _ x => x) dJ0_coder_7d493_7 ?_
  refine lv_goto (tgt := 14) hx hb dJ0_coder_7d493_10 (by decide) ?_
  exact xj_zret C hr hS rfl rfl dJ0_coder_7d493_14
set_option maxHeartbeats 4000000 in
theorem j_length (l : Launch) (K V : Nat → Nat) (i : Nat) (hi : i < 2) : CJ l K V yJ0_length_8abf5 cJ0_length_8abf5 1 (some .int) { frames := 1, cells := 0, slots := 0, locals := 20 } [.ref (K i)] (Int32.ofNat (sln i)) := by
  refine metJ_of pn_J0 (Nat.le_of_ble_eq_true rfl) (fun p e s m below meth c ls C hr hE hS hl => ?_)
  have C : Cj p s m _ meth c cJ0_length_8abf5 1 RJ0 := C
  have hl : lv_has ls 1 [(0, .ref (K i))] := hl
  have hx := C.1
  have hb := C.2.1
  refine lv_aload_n hx hb dJ0_length_8abf5_0 rfl (lv_at hl 0 rfl) ?_
  refine vk_getf (o := "java/lang/String") (n := "value") (d := "[B") (ref := "java/lang/String") hx hb (hE.1.1 i hi).2.2.1 hS C.2.2.2.1 (C.2.2.2.2.1 _ q207) (fun _ x => x) dJ0_length_8abf5_1 ?_
  refine va_tlen hx hb (hE.1.1 i hi).2.2.2 hS (v := Int32.ofNat (sln i)) rfl dJ0_length_8abf5_4 ?_
  refine lv_aload_n hx hb dJ0_length_8abf5_5 rfl (lv_at hl 0 rfl) ?_
  refine xj_goi hS (xj_runV (As := []) (rest := [.int (Int32.ofNat (sln i))]) C hE hS (j_coder l K V i hi) lk_J0_335 rfl ⟨rfl, rfl, Nat.le_of_ble_eq_true rfl, Nat.le_of_ble_eq_true rfl⟩ (vk_recv hE.1 hi hS) hl.1 rfl (Nat.le_of_ble_eq_true rfl) dJ0_length_8abf5_6) (fun H locs _ hS => ?_)
  refine lv_ishr hx hb dJ0_length_8abf5_9 ?_
  have e0 : Int32.ofNat (sln i) >>> ((0 : Int32) &&& 31) = Int32.ofNat (sln i) := by
    rcases (show i = 0 ∨ i = 1 by omega) with rfl | rfl <;> decide
  exact xj_zret C hr hS rfl e0 dJ0_length_8abf5_10
set_option maxHeartbeats 4000000 in
theorem j_isLatin1 (l : Launch) (K V : Nat → Nat) (i : Nat) (hi : i < 2) : CJ l K V yJ0_isLatin1_aae02 cJ0_isLatin1_aae02 1 (some .boolean) { frames := 0, cells := 0, slots := 0, locals := 0 } [.ref (K i)] 1 := by
  refine metJ_of pn_J0 (Nat.le_of_ble_eq_true rfl) (fun p e s m below meth c ls C hr hE hS hl => ?_)
  have C : Cj p s m _ meth c cJ0_isLatin1_aae02 1 RJ0 := C
  have hl : lv_has ls 1 [(0, .ref (K i))] := hl
  have hx := C.1
  have hb := C.2.1
  refine va_gets (C := "java/lang/String") (n := "COMPACT_STRINGS") (d := "Z") (ref := "java/lang/String") hx hb hE.2.1 hS C.2.2.2.1 (C.2.2.2.2.1 _ q212) (fun _ x => x) dJ0_isLatin1_aae02_0 ?_
  refine lv_if_eq (tgt := 17) hx hb dJ0_isLatin1_aae02_3 (by decide) (fun h => absurd h (by decide)) (fun _ => ?_)
  refine lv_aload_n hx hb dJ0_isLatin1_aae02_6 rfl (lv_at hl 0 rfl) ?_
  refine vk_getf (o := "java/lang/String") (n := "coder") (d := "B") (ref := "java/lang/String") hx hb (hE.1.1 i hi).2.1 hS C.2.2.2.1 (C.2.2.2.2.1 _ q213) (fun _ x => x) dJ0_isLatin1_aae02_7 ?_
  refine lv_if_ne (tgt := 17) hx hb dJ0_isLatin1_aae02_10 (by decide) (fun h => absurd rfl h) (fun _ => ?_)
  refine lv_iconst (v := 1) hx hb dJ0_isLatin1_aae02_13 (by decide) ?_
  refine lv_goto (tgt := 18) hx hb dJ0_isLatin1_aae02_14 (by decide) ?_
  exact xj_zret C hr hS rfl rfl dJ0_isLatin1_aae02_18
set_option maxHeartbeats 4000000 in
theorem j_check3 (l : Launch) (K V : Nat → Nat) (i n : Int32) (vf : Value) (hv : vf = .null ∨ ∃ t, vf = .ref t) (h0 : ¬ i < 0) (h1 : i < n) : CJ l K V yJ3_checkIndex_8e157 cJ3_checkIndex_8e157 3 (some .int) { frames := 0, cells := 0, slots := 0, locals := 0 } [.int i, .int n, vf] i := by
  have hn : (lg_sl [.int i, .int n, vf]).length ≤ 3 := by rcases hv with rfl | ⟨t, rfl⟩ <;> exact Nat.le_of_ble_eq_true rfl
  refine metJ_of pn_J3 hn (fun p e s m below meth c ls C hr hE hS hl => ?_)
  have C : Cj p s m _ meth c cJ3_checkIndex_8e157 3 RJ3 := C
  have hl : lv_has ls 3 [(0, .int i), (1, .int n)] := lv_sub (l' := [(0, .int i), (1, .int n)]) hl [0, 1] (by rcases hv with rfl | ⟨t, rfl⟩ <;> rfl)
  have hx := C.1
  have hb := C.2.1
  refine lv_iload_n hx hb dJ3_checkIndex_8e157_0 rfl (lv_at hl 0 rfl) ?_
  refine lv_if_lt (tgt := 9) hx hb dJ3_checkIndex_8e157_1 (by decide) (fun h => absurd h h0) (fun _ => ?_)
  refine lv_iload_n hx hb dJ3_checkIndex_8e157_4 rfl (lv_at hl 0 rfl) ?_
  refine lv_iload_n hx hb dJ3_checkIndex_8e157_5 rfl (lv_at hl 1 rfl) ?_
  refine lv_icmp_lt (tgt := 16) hx hb dJ3_checkIndex_8e157_6 (by decide) (fun _ => ?_) (fun h => absurd h1 h)
  refine lv_iload_n hx hb dJ3_checkIndex_8e157_16 rfl (lv_at hl 0 rfl) ?_
  exact xj_zret C hr hS rfl rfl dJ3_checkIndex_8e157_17
set_option maxHeartbeats 4000000 in
theorem j_check0 (l : Launch) (K V : Nat → Nat) (i n : Int32) (h0 : ¬ i < 0) (h1 : i < n) : CJv l K V yJ0_checkIndex_df160 cJ0_checkIndex_df160 2 none { frames := 1, cells := 0, slots := 0, locals := 22 } [.int i, .int n] := by
  refine metJ_of pn_J0 (Nat.le_of_ble_eq_true rfl) (fun p e s m below meth c ls C hr hE hS hl => ?_)
  have C : Cj p s m _ meth c cJ0_checkIndex_df160 2 RJ0 := C
  have hl : lv_has ls 2 [(0, .int i), (1, .int n)] := hl
  have hx := C.1
  have hb := C.2.1
  refine lv_iload_n hx hb dJ0_checkIndex_df160_0 rfl (lv_at hl 0 rfl) ?_
  refine lv_iload_n hx hb dJ0_checkIndex_df160_1 rfl (lv_at hl 1 rfl) ?_
  rcases hE.2.2.1 with hZ | ⟨t, hZ⟩
  · refine va_gets (C := "jdk/internal/util/Preconditions") (n := "SIOOBE_FORMATTER") (d := "Ljava/util/function/BiFunction;") (ref := "jdk/internal/util/Preconditions") hx hb hZ hS C.2.2.2.1 (C.2.2.2.2.1 _ q229) (fun _ x => x) dJ0_checkIndex_df160_2 ?_
    refine xj_goi hS (xj_runS (As := [.int i, .int n, .null]) (rest := []) C hE hS (j_check3 l K V i n .null (Or.inl rfl) h0 h1) lk_J0_1059 rfl ⟨rfl, rfl, Nat.le_of_ble_eq_true rfl, Nat.le_of_ble_eq_true rfl⟩ hl.1 rfl (Nat.le_of_ble_eq_true rfl) dJ0_checkIndex_df160_5) (fun H locs _ hS => ?_)
    refine lv_pop hx hb dJ0_checkIndex_df160_8 rfl ?_
    exact xj_vret C hr hS dJ0_checkIndex_df160_9
  · refine va_gets (C := "jdk/internal/util/Preconditions") (n := "SIOOBE_FORMATTER") (d := "Ljava/util/function/BiFunction;") (ref := "jdk/internal/util/Preconditions") hx hb hZ hS C.2.2.2.1 (C.2.2.2.2.1 _ q229) (fun _ x => x) dJ0_checkIndex_df160_2 ?_
    refine xj_goi hS (xj_runS (As := [.int i, .int n, .ref t]) (rest := []) C hE hS (j_check3 l K V i n (.ref t) (Or.inr ⟨t, rfl⟩) h0 h1) lk_J0_1059 rfl ⟨rfl, rfl, Nat.le_of_ble_eq_true rfl, Nat.le_of_ble_eq_true rfl⟩ hl.1 rfl (Nat.le_of_ble_eq_true rfl) dJ0_checkIndex_df160_5) (fun H locs _ hS => ?_)
    refine lv_pop hx hb dJ0_checkIndex_df160_8 rfl ?_
    exact xj_vret C hr hS dJ0_checkIndex_df160_9
theorem sl_lt {i : Nat} (hi : i < 2) {k : Int32} (hk : vp_in k (sln i)) : (¬ k < 0) ∧ k < Int32.ofNat (sln i) ∧ k.toNatClampNeg < sln i := by
  have hs : sln i < 2 ^ 31 := by rcases (show i = 0 ∨ i = 1 by omega) with rfl | rfl <;> decide
  obtain ⟨j, hj, rfl⟩ := vp_in_of hk hs
  exact ⟨nI_pos (by omega), nI_lt hj (by omega), by rw [nI_clamp (by omega)]; exact hj⟩
set_option maxHeartbeats 4000000 in
theorem j_charAt1 (l : Launch) (K V : Nat → Nat) (i : Nat) (hi : i < 2) (k : Int32) (hk : vp_in k (sln i)) : CJ l K V yJ1_charAt_3b067 cJ1_charAt_3b067 2 (some .char) { frames := 2, cells := 0, slots := 0, locals := 43 } [.ref (V i), .int k] (sch i k.toNatClampNeg) := by
  obtain ⟨h0, h1, h2⟩ := sl_lt hi hk
  refine metJ_of pn_J1 (Nat.le_of_ble_eq_true rfl) (fun p e s m below meth c ls C hr hE hS hl => ?_)
  have C : Cj p s m _ meth c cJ1_charAt_3b067 2 RJ1 := C
  have hl : lv_has ls 2 [(0, .ref (V i)), (1, .int k)] := hl
  have hx := C.1
  have hb := C.2.1
  refine lv_iload_n hx hb dJ1_charAt_3b067_0 rfl (lv_at hl 1 rfl) ?_
  refine lv_aload_n hx hb dJ1_charAt_3b067_1 rfl (lv_at hl 0 rfl) ?_
  refine va_tlen hx hb (hE.1.1 i hi).2.2.2 hS (v := Int32.ofNat (sln i)) rfl dJ1_charAt_3b067_2 ?_
  refine xj_gov hS (xj_runS (As := [.int k, .int (Int32.ofNat (sln i))]) (rest := []) C hE hS (j_check0 l K V k (Int32.ofNat (sln i)) h0 h1) lk_J1_9 rfl ⟨rfl, rfl, Nat.le_of_ble_eq_true rfl, Nat.le_of_ble_eq_true rfl⟩ hl.1 rfl (Nat.le_of_ble_eq_true rfl) dJ1_charAt_3b067_3) (fun H locs _ hS => ?_)
  refine lv_aload_n hx hb dJ1_charAt_3b067_6 rfl (lv_at hl 0 rfl) ?_
  refine lv_iload_n hx hb dJ1_charAt_3b067_7 rfl (lv_at hl 1 rfl) ?_
  refine va_tb hx hb (hE.1.1 i hi).2.2.2 hS hk (v := .int (sch i k.toNatClampNeg)) rfl dJ1_charAt_3b067_8 ?_
  refine lv_sipush (v := 255) hx hb dJ1_charAt_3b067_9 (by decide) ?_
  refine lv_iand hx hb dJ1_charAt_3b067_12 ?_
  refine lv_i2c (v := sch i k.toNatClampNeg) hx hb dJ1_charAt_3b067_13 (sch_ok i hi _ h2).1 ?_
  exact xj_zret C hr hS (sch_ok i hi _ h2).2 rfl dJ1_charAt_3b067_14
set_option maxHeartbeats 4000000 in
theorem j_charAt (l : Launch) (K V : Nat → Nat) (i : Nat) (hi : i < 2) (k : Int32) (hk : vp_in k (sln i)) : CJ l K V yJ0_charAt_5068e cJ0_charAt_5068e 2 (some .char) { frames := 3, cells := 0, slots := 0, locals := 64 } [.ref (K i), .int k] (sch i k.toNatClampNeg) := by
  obtain ⟨h0, h1, h2⟩ := sl_lt hi hk
  refine metJ_of pn_J0 (Nat.le_of_ble_eq_true rfl) (fun p e s m below meth c ls C hr hE hS hl => ?_)
  have C : Cj p s m _ meth c cJ0_charAt_5068e 2 RJ0 := C
  have hl : lv_has ls 2 [(0, .ref (K i)), (1, .int k)] := hl
  have hx := C.1
  have hb := C.2.1
  refine lv_aload_n hx hb dJ0_charAt_5068e_0 rfl (lv_at hl 0 rfl) ?_
  refine xj_goi hS (xj_runV (As := []) (rest := []) C hE hS (j_isLatin1 l K V i hi) lk_J0_492 rfl ⟨rfl, rfl, Nat.le_of_ble_eq_true rfl, Nat.le_of_ble_eq_true rfl⟩ (vk_recv hE.1 hi hS) hl.1 rfl (Nat.le_of_ble_eq_true rfl) dJ0_charAt_5068e_1) (fun H locs _ hS => ?_)
  refine lv_if_eq (tgt := 16) hx hb dJ0_charAt_5068e_4 (by decide) (fun h => absurd h (by decide)) (fun _ => ?_)
  refine lv_aload_n hx hb dJ0_charAt_5068e_7 rfl (lv_at hl 0 rfl) ?_
  refine vk_getf (o := "java/lang/String") (n := "value") (d := "[B") (ref := "java/lang/String") hx hb (hE.1.1 i hi).2.2.1 hS C.2.2.2.1 (C.2.2.2.2.1 _ q207) (fun _ x => x) dJ0_charAt_5068e_8 ?_
  refine lv_iload_n hx hb dJ0_charAt_5068e_11 rfl (lv_at hl 1 rfl) ?_
  refine xj_goi hS (xj_runS (As := [.ref (V i), .int k]) (rest := []) C hE hS (j_charAt1 l K V i hi k hk) lk_J0_495 rfl ⟨rfl, rfl, Nat.le_of_ble_eq_true rfl, Nat.le_of_ble_eq_true rfl⟩ hl.1 rfl (Nat.le_of_ble_eq_true rfl) dJ0_charAt_5068e_12) (fun H locs _ hS => ?_)
  exact xj_zret C hr hS (sch_ok i hi _ h2).2 rfl dJ0_charAt_5068e_15

