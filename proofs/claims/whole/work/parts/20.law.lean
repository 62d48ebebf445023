/-! THE CLAIM OUT OF ONE WALK OF THE LAW'S BODY. Your part is whole_start (and what it stands on); all else here is the same for every law, but numbers. -/
def R_law : String := "FirstAwakeLaw"
def lw_P (b : Addr) (xs : List Int32) (args : Array Value) (s : State) : Prop := args = #[.ref b] ∧ s.IntsAt b xs ∧ xs.length ≤ 2048 ∧ (Jvm.Cond.and given_1 narrow_1).before args s = true
def lw_Q (_ : Array Value) (s : State) (o : Outcome) (t : State) : Prop := o = .returned (some (.int 1)) ∧ Framed s o t [] 103 4117
def lw_Z (below : List Frame) (a : Array Value) (s : State) : State → Prop := fun t => ∃ o, t.status = .running ∧ Ended t below o ∧ lw_Q a s o t
/-- the law's own end, with 1 on the stack, nothing written that was there before, its room as the claim has it -/
theorem lw_ret {p : Program} {l : Launch} {e : Env} {s : State} {m : MethodId} {below : List Frame} {meth : Method} {c : Code} {b : Nat} (hx : p.tables.exec = Jvm.exec) (hb : c.code = code) (hr : meth.sig.returnType = ret) (hlocks : meth.locks = false) {pc : Nat} {H : Heap} {ls : Array Slot} (hdg : decode code pc = .ok (.ireturn, 1)) : W p l e room_1 s m #[Value.ref b] below meth c H [] 103 4117 (lw_Z below #[Value.ref b] s) (F0 m pc ls [.int 1]) := by
  intro T hT X
  obtain ⟨fs, hret, hrun, hended, hW, hframe⟩ := X.leave (v := some (.int 1)) (hlocks := hlocks) (fun h => by rw [hr] at h; cases h)
  have hmeth' : T.vm.method? m = some meth := X.method'
  refine ⟨T.setFrames fs, ?_, .returned (some (.int 1)), hrun, hended, rfl, ⟨_, rfl⟩, hW, hframe⟩
  jvm_step X.here [X.here.top, hx, hb, hdg, hmeth', hr, ret, narrow_b1]
  (try refine ⟨rfl, ?_⟩); (try refine ⟨rfl, ?_⟩)
  first | (intro acts; rw [hret _ acts rfl rfl rfl]) | rw [hret _ _ rfl rfl rfl]
  exact Steps.refl _
/-- what holds at the law's entry: the machine, the code, the tables' words (any of lw_tbl by 'hts w (by decide +kernel)'), the script of L ints xs at the cell b, what the Statement gives of the start (any of its parts by flat_of_before) -/
def lw_At (p : Program) (s : State) (m : MethodId) (meth : Method) (c : Code) (b L : Nat) (xs : Nat → Int32) : Prop :=
  p.tables.exec = Jvm.exec ∧ c.code = code ∧ meth.sig.returnType = ret ∧ c.maxLocals = 4 ∧ s.vm.findClass R_law = some m.cls ∧ (∀ w ∈ lw_tbl, w.before #[Value.ref b] s = true) ∧ va_X b L xs s s.heap ∧ b < s.heap.size ∧ meth.locks = false ∧ (Jvm.Cond.and given_1 narrow_1).before #[Value.ref b] s = true


/-! ===== the law's worlds: the class's cells and the reference's, side by side (own work) ===== -/
abbrev AL (s : State) : Nat → Prop := fun q => s.heap.size ≤ q
def SF (A : Nat → Prop) (G : Geo) (am : Nat → Nat) : Prop := (∀ i j, i < 74 → j < 74 → G.1 i = G.1 j → i = j) ∧ (∀ k, k < 74 → A (G.1 k)) ∧ (∀ i j, i < 29 → j < 29 → am i = am j → i = j) ∧ (∀ k, k < 29 → A (am k)) ∧ ∀ i j, i < 74 → j < 29 → G.1 i ≠ am j
theorem wl_inv {N : Nat} {en : En} {ad : Nat → Nat} {σ : St} {k : Nat} {q : Nat × va_E} (h : (wl N en ad σ)[k]? = some q) : k < N ∧ q = (ad k, en k (σ.1 k) (σ.2 k)) := by
  rcases Nat.lt_or_ge k N with hk | hk
  · rw [wl_get hk] at h
    exact ⟨hk, (Option.some.inj h).symm⟩
  · simp [wl, Nat.not_lt.mpr hk] at h
theorem wl_D {N : Nat} {en : En} {ad : Nat → Nat} {σ : St} {A : Nat → Prop} (h1 : ∀ i j, i < N → j < N → ad i = ad j → i = j) (h2 : ∀ k, k < N → A (ad k)) : va_D A (wl N en ad σ) := by
  refine ⟨fun i j x y hx hy hxy => ?_, fun k q hq => ?_⟩
  · obtain ⟨a1, rfl⟩ := wl_inv hx
    obtain ⟨b1, rfl⟩ := wl_inv hy
    exact h1 i j a1 b1 hxy
  · obtain ⟨a1, rfl⟩ := wl_inv hq
    exact h2 k a1
def Lst (D : va_G) (A : Nat → Prop) (H0 : Heap) (G : Geo) (am : Nat → Nat) (σc σm : St) (H : Heap) (locs : List Loc) : Prop := va_P D vwCl (wC G σc) H ∧ va_P D vwCl (wM (am, G.2) σm) H ∧ va_S A H0 H locs
section ZL
variable {p : Program} {l : Launch} {e : Env} {R : Room} {s : State} {m : MethodId} {args : Array Value} {below : List Frame} {meth : Method} {c : Code} {H : Heap} {locs : List Loc} {cells slots : Nat} {Q : State → Prop}
variable {pc : Nat} {ls : Array Slot} {rest st0 : List Value} {cc : ByteArray} {nL : Nat} {own : String} {D : va_G} {tys : List (ClassId × FieldType)} {A : Nat → Prop} {σ σ1 σc σm : St} {wf : St → va_W} {G : Geo} {am K V : Nat → Nat}
variable {y : MethodName} {cy : ByteArray} {nLy : Nat} {ret : Option FieldType} {rm : Room} {As : List Value} {b idx n : Nat} {Qc : Array Value → State → Outcome → State → Prop}
theorem z_runV (C : Cx p s m args meth c cc nL own D tys) (hP : va_P D vwCl (wf σ) H) (hD : va_D A (wf σ)) (hM : Met l y (Cond.code y cy nLy ret :: wA) rm (PC D tys (wf σ) (.ref b :: As) H.size) Qc 0 0 (va_A (wf σ) H.size)) (L : Lk own idx y cy nLy ret n) (hn : As.length = n) (hR : rm.cells = 0 ∧ rm.slots = 0 ∧ rm.frames + 1 ≤ R.frames ∧ 8 + (nLy + 11) + rm.locals ≤ R.locals) (hc : ∃ cell : Cell, H[b]? = some cell ∧ cell.vm.isStatics = false ∧ s.vm.findClass y.cls = some cell.cls) (hls : ls.size = nL) (hst : st0 = As.reverse ++ .ref b :: rest) (hw : (rest.map fun v => v.category).sum ≤ 8) (hd : decode cc pc = .ok (.invokevirtual idx, 3)) (hf : cells ≤ R.cells ∧ slots ≤ R.slots) :
    va_Run p l e R s m args below meth c H locs cells slots 0 0 (F0 m pc ls st0) rest (Qc (Value.ref b :: As).toArray) (va_A (wf σ) H.size) := by
  obtain ⟨k1, k2, k3, k4, k5, k6, k7, k8⟩ := L
  have hts := C.2.2.2.2.1
  have cw : CallW R s args own y.cls idx y cy nLy ret (Cond.code y cy nLy ret :: wA) rm 0 0 n := ⟨callB_of n hts (gd_all k5) rfl hR.1 hR.2.1 (hts _ k4) (hts _ k1) ⟨k6, k7, k8⟩ hR.2.2, hts _ k2, hts _ k3⟩
  exact va_runV (As := As) (rest := rest) ⟨C.1, C.2.1, C.2.2.1, C.2.2.2.1, hts⟩ hM cw ⟨fun a U g mk q => by obtain ⟨q0, q1, qP, qK, qD⟩ := q; exact ⟨q0, q1, qP, va_K.moved (u := U) (U := U.calling g mk a) (Vm.Alike.refl U.vm) qK, qD⟩, hc, fun U hU hW => ⟨rfl, by rw [hU], by rw [hU]; exact hP, va_K.moved hW.alike C.2.2.2.2.2.2, hD.weaken (fun _ _ _ _ => trivial)⟩⟩ rfl hn hls hst (lv_room hw) hd hf
theorem z_runVS (C : Cx p s m args meth c cc nL own D tys) (E : SE K V A s s.heap) (hS : va_S A s.heap H locs) (hF : ∀ q, va_A (wf σ) H.size q → A q) (hP : va_P D vwCl (wf σ) H) (hD : va_D A (wf σ)) (hM : Met l y (Cond.code y cy nLy ret :: wA) rm (PCs D tys (wf σ) K V (.ref b :: As) H.size) Qc 0 0 (va_A (wf σ) H.size)) (L : Lk own idx y cy nLy ret n) (hn : As.length = n) (hR : rm.cells = 0 ∧ rm.slots = 0 ∧ rm.frames + 1 ≤ R.frames ∧ 8 + (nLy + 11) + rm.locals ≤ R.locals) (hc : ∃ cell : Cell, H[b]? = some cell ∧ cell.vm.isStatics = false ∧ s.vm.findClass y.cls = some cell.cls) (hls : ls.size = nL) (hst : st0 = As.reverse ++ .ref b :: rest) (hw : (rest.map fun v => v.category).sum ≤ 8) (hd : decode cc pc = .ok (.invokevirtual idx, 3)) (hf : cells ≤ R.cells ∧ slots ≤ R.slots) :
    va_Run p l e R s m args below meth c H locs cells slots 0 0 (F0 m pc ls st0) rest (Qc (Value.ref b :: As).toArray) (va_A (wf σ) H.size) := by
  obtain ⟨k1, k2, k3, k4, k5, k6, k7, k8⟩ := L
  have hts := C.2.2.2.2.1
  have cw : CallW R s args own y.cls idx y cy nLy ret (Cond.code y cy nLy ret :: wA) rm 0 0 n := ⟨callB_of n hts (gd_all k5) rfl hR.1 hR.2.1 (hts _ k4) (hts _ k1) ⟨k6, k7, k8⟩ hR.2.2, hts _ k2, hts _ k3⟩
  exact va_runV (As := As) (rest := rest) ⟨C.1, C.2.1, C.2.2.1, C.2.2.2.1, hts⟩ hM cw ⟨fun a U g mk q => by obtain ⟨q0, ⟨q1, qP, qK, qD⟩, qE⟩ := q; exact ⟨q0, ⟨q1, qP, va_K.moved (u := U) (U := U.calling g mk a) (Vm.Alike.refl U.vm) qK, qD⟩, qE.blind⟩, hc, fun U hU hW => ⟨rfl, ⟨by rw [hU], by rw [hU]; exact hP, va_K.moved hW.alike C.2.2.2.2.2.2, hD.weaken (fun _ _ _ _ => trivial)⟩, E.to hS hU hW hF⟩⟩ rfl hn hls hst (lv_room hw) hd hf
theorem z_free {w : va_W} (hD : va_D A w) (hS : va_S A s.heap H locs) (hA : ∀ q, s.heap.size ≤ q → A q) : ∀ q, va_A w H.size q → A q := by
  intro q hq
  rcases hq with ⟨k, x, hk⟩ | hq
  · exact hD.2 k (q, x) hk
  · exact hA q (Nat.le_trans hS.1 hq)
theorem z_goC {a : Array Value} {r : Int32} (S : SF A G am) (hA : ∀ q, s.heap.size ≤ q → A q) (h : Lst D A s.heap G am σc σm H locs) (hr : va_Run p l e R s m args below meth c H locs cells slots 0 0 (F0 m pc ls st0) rest (QI D tys (wC G) (va_A (wC G σc) H.size) (r, σ1) a) (va_A (wC G σc) H.size)) (kk : ∀ (H1 : Heap) (locs1 : List Loc), Lst D A s.heap G am σ1 σm H1 locs1 → W p l e R s m args below meth c H1 locs1 cells slots Q (F0 m (pc + 3) ls (.int r :: rest))) : W p l e R s m args below meth c H locs cells slots Q (F0 m pc ls st0) := by
  have hD : va_D A (wC G σc) := wl_D S.1 S.2.1
  have hF := z_free hD h.2.2 hA
  refine va_calli hr h.2.2 (fun q _ hq => hF q hq) hF (fun r' u t H1 locs1 ht hvm hw hB hz hk hS => ?_)
  cases hw
  refine kk H1 locs1 ⟨by rw [← ht]; exact hB.1, fun k q hq => ?_, hS⟩
  obtain ⟨k1, rfl⟩ := wl_inv hq
  have h9 := h.2.1 k _ hq
  refine h9.kept (hk _ h9.lt (fun z => ?_))
  rcases z with ⟨j, x, hj⟩ | z
  · obtain ⟨j1, j2⟩ := wl_inv hj
    exact S.2.2.2.2 j k j1 k1 (congrArg Prod.fst j2).symm
  · exact absurd h9.lt (Nat.not_lt.mpr z)
theorem z_goM {a : Array Value} {r : Int32} (S : SF A G am) (hA : ∀ q, s.heap.size ≤ q → A q) (h : Lst D A s.heap G am σc σm H locs) (hr : va_Run p l e R s m args below meth c H locs cells slots 0 0 (F0 m pc ls st0) rest (QI D tys (wM (am, G.2)) (va_A (wM (am, G.2) σm) H.size) (r, σ1) a) (va_A (wM (am, G.2) σm) H.size)) (kk : ∀ (H1 : Heap) (locs1 : List Loc), Lst D A s.heap G am σc σ1 H1 locs1 → W p l e R s m args below meth c H1 locs1 cells slots Q (F0 m (pc + 3) ls (.int r :: rest))) : W p l e R s m args below meth c H locs cells slots Q (F0 m pc ls st0) := by
  have hD : va_D A (wM (am, G.2) σm) := wl_D S.2.2.1 S.2.2.2.1
  have hF := z_free hD h.2.2 hA
  refine va_calli hr h.2.2 (fun q _ hq => hF q hq) hF (fun r' u t H1 locs1 ht hvm hw hB hz hk hS => ?_)
  cases hw
  refine kk H1 locs1 ⟨fun k q hq => ?_, by rw [← ht]; exact hB.1, hS⟩
  obtain ⟨k1, rfl⟩ := wl_inv hq
  have h9 := h.1 k _ hq
  refine h9.kept (hk _ h9.lt (fun z => ?_))
  rcases z with ⟨j, x, hj⟩ | z
  · obtain ⟨j1, j2⟩ := wl_inv hj
    exact S.2.2.2.2 k j k1 j1 (congrArg Prod.fst j2)
  · exact absurd h9.lt (Nat.not_lt.mpr z)
end ZL
/-- what stands fixed in the law's walk -/
def Lx (p : Program) (s : State) (m : MethodId) (meth : Method) (c : Code) (b L : Nat) (xs : Nat → Int32) (D : va_G) (G : Geo) (am K V : Nat → Nat) : Prop :=
  Cx p s m #[.ref b] meth c code 4 RL D (tyG G) ∧ meth.sig.returnType = ret ∧ SF (AL s) G am ∧ va_X b L xs s s.heap ∧ b < s.heap.size ∧ L ≤ 2048 ∧ SE K V (AL s) s s.heap

theorem lkL_15 : Lk RL 15 yX7_feed cX7_feed 4 ((some .int)) 2 := ⟨q150, q151, q152, q2, q153, by decide +kernel, by decide +kernel, by decide +kernel⟩
theorem lkL_19 : Lk RL 19 yX8_feed cX8_feed 5 ((some .int)) 2 := ⟨q162, q163, q164, q5, q165, by decide +kernel, by decide +kernel, by decide +kernel⟩
theorem lkL_20 : Lk RL 20 yX7_valley cX7_valley 2 ((some .int)) 0 := ⟨q174, q175, q176, q2, q177, by decide +kernel, by decide +kernel, by decide +kernel⟩
theorem lkL_24 : Lk RL 24 yX8_valley cX8_valley 3 ((some .int)) 0 := ⟨q319, q320, q321, q5, q322, by decide +kernel, by decide +kernel, by decide +kernel⟩
theorem lkL_25 : Lk RL 25 yX7_fault cX7_fault 1 ((some .int)) 0 := ⟨q386, q387, q388, q2, q389, by decide +kernel, by decide +kernel, by decide +kernel⟩
theorem lkL_28 : Lk RL 28 yX8_fault cX8_fault 1 ((some .int)) 0 := ⟨q391, q392, q393, q5, q394, by decide +kernel, by decide +kernel, by decide +kernel⟩
theorem lkL_29 : Lk RL 29 yX7_told cX7_told 2 ((some .int)) 1 := ⟨q395, q396, q397, q2, q398, by decide +kernel, by decide +kernel, by decide +kernel⟩
theorem lkL_33 : Lk RL 33 yX8_told cX8_told 2 ((some .int)) 1 := ⟨q408, q409, q410, q5, q411, by decide +kernel, by decide +kernel, by decide +kernel⟩
theorem lkL_34 : Lk RL 34 yX7_house cX7_house 3 ((some .int)) 2 := ⟨q412, q413, q414, q2, q415, by decide +kernel, by decide +kernel, by decide +kernel⟩
theorem lkL_38 : Lk RL 38 yX8_house cX8_house 3 ((some .int)) 2 := ⟨q430, q431, q432, q5, q433, by decide +kernel, by decide +kernel, by decide +kernel⟩
theorem lkL_39 : Lk RL 39 yX7_sleeper cX7_sleeper 3 ((some .int)) 2 := ⟨q443, q444, q445, q2, q446, by decide +kernel, by decide +kernel, by decide +kernel⟩
theorem lkL_42 : Lk RL 42 yX8_sleeper cX8_sleeper 3 ((some .int)) 2 := ⟨q468, q469, q470, q5, q471, by decide +kernel, by decide +kernel, by decide +kernel⟩
theorem lkL_43 : Lk RL 43 yX7_shift cX7_shift 4 ((some .int)) 2 := ⟨q492, q493, q494, q2, q495, by decide +kernel, by decide +kernel, by decide +kernel⟩
theorem lkL_46 : Lk RL 46 yX8_shift cX8_shift 4 ((some .int)) 2 := ⟨q500, q501, q502, q5, q503, by decide +kernel, by decide +kernel, by decide +kernel⟩
theorem lkL_47 : Lk RL 47 yX7_noise cX7_noise 5 ((some .int)) 3 := ⟨q504, q505, q506, q2, q507, by decide +kernel, by decide +kernel, by decide +kernel⟩
theorem lkL_51 : Lk RL 51 yX8_noise cX8_noise 5 ((some .int)) 3 := ⟨q513, q514, q515, q5, q516, by decide +kernel, by decide +kernel, by decide +kernel⟩
theorem lkL_52 : Lk RL 52 yX7_hush cX7_hush 2 ((some .int)) 0 := ⟨q523, q524, q525, q2, q526, by decide +kernel, by decide +kernel, by decide +kernel⟩
theorem lkL_55 : Lk RL 55 yX8_hush cX8_hush 2 ((some .int)) 0 := ⟨q527, q528, q529, q5, q530, by decide +kernel, by decide +kernel, by decide +kernel⟩
theorem lkL_56 : Lk RL 56 yX7_law cX7_law 3 ((some .int)) 1 := ⟨q531, q532, q533, q2, q534, by decide +kernel, by decide +kernel, by decide +kernel⟩
theorem lkL_59 : Lk RL 59 yX8_law cX8_law 3 ((some .int)) 1 := ⟨q535, q536, q537, q5, q538, by decide +kernel, by decide +kernel, by decide +kernel⟩
theorem lkL_60 : Lk RL 60 yX7_dawn cX7_dawn 4 ((some .int)) 1 := ⟨q540, q541, q542, q2, q543, by decide +kernel, by decide +kernel, by decide +kernel⟩
theorem lkL_63 : Lk RL 63 yX8_dawn cX8_dawn 4 ((some .int)) 1 := ⟨q580, q581, q582, q5, q583, by decide +kernel, by decide +kernel, by decide +kernel⟩
theorem lkL_64 : Lk RL 64 yX7_ruler cX7_ruler 3 ((some .int)) 2 := ⟨q599, q600, q601, q2, q602, by decide +kernel, by decide +kernel, by decide +kernel⟩
theorem lkL_67 : Lk RL 67 yX8_ruler cX8_ruler 3 ((some .int)) 2 := ⟨q605, q606, q607, q5, q608, by decide +kernel, by decide +kernel, by decide +kernel⟩
theorem lkL_68 : Lk RL 68 yX7_odds cX7_odds 2 ((some .int)) 1 := ⟨q609, q610, q611, q2, q612, by decide +kernel, by decide +kernel, by decide +kernel⟩
theorem lkL_71 : Lk RL 71 yX8_odds cX8_odds 2 ((some .int)) 1 := ⟨q622, q623, q624, q5, q625, by decide +kernel, by decide +kernel, by decide +kernel⟩
theorem lkL_72 : Lk RL 72 yX7_together cX7_together 3 ((some .int)) 1 := ⟨q643, q644, q645, q2, q646, by decide +kernel, by decide +kernel, by decide +kernel⟩
theorem lkL_75 : Lk RL 75 yX8_together cX8_together 2 ((some .int)) 1 := ⟨q652, q653, q654, q5, q655, by decide +kernel, by decide +kernel, by decide +kernel⟩
theorem lkL_76 : Lk RL 76 yX7_best cX7_best 3 ((some .int)) 2 := ⟨q663, q664, q665, q2, q666, by decide +kernel, by decide +kernel, by decide +kernel⟩
theorem lkL_79 : Lk RL 79 yX8_best cX8_best 4 ((some .int)) 2 := ⟨q689, q690, q691, q5, q692, by decide +kernel, by decide +kernel, by decide +kernel⟩
theorem lkL_80 : Lk RL 80 yX7_rests cX7_rests 3 ((some .int)) 1 := ⟨q702, q703, q704, q2, q705, by decide +kernel, by decide +kernel, by decide +kernel⟩
theorem lkL_83 : Lk RL 83 yX8_rests cX8_rests 5 ((some .int)) 1 := ⟨q732, q733, q734, q5, q735, by decide +kernel, by decide +kernel, by decide +kernel⟩
theorem lkL_84 : Lk RL 84 yX7_loud cX7_loud 3 ((some .int)) 2 := ⟨q744, q745, q746, q2, q747, by decide +kernel, by decide +kernel, by decide +kernel⟩
theorem lkL_87 : Lk RL 87 yX8_loud cX8_loud 12 ((some .int)) 2 := ⟨q755, q756, q757, q5, q758, by decide +kernel, by decide +kernel, by decide +kernel⟩
theorem lkL_88 : Lk RL 88 yX7_work cX7_work 4 ((some .int)) 2 := ⟨q759, q760, q761, q2, q762, by decide +kernel, by decide +kernel, by decide +kernel⟩
theorem lkL_91 : Lk RL 91 yX8_work cX8_work 6 ((some .int)) 2 := ⟨q783, q784, q785, q5, q786, by decide +kernel, by decide +kernel, by decide +kernel⟩
theorem lkL_92 : Lk RL 92 yX7_likely cX7_likely 4 ((some .int)) 2 := ⟨q796, q797, q798, q2, q799, by decide +kernel, by decide +kernel, by decide +kernel⟩
theorem lkL_95 : Lk RL 95 yX8_likely cX8_likely 6 ((some .int)) 2 := ⟨q802, q803, q804, q5, q805, by decide +kernel, by decide +kernel, by decide +kernel⟩
theorem lkL_96 : Lk RL 96 yX7_tell cX7_tell 3 ((some .int)) 2 := ⟨q807, q808, q809, q2, q810, by decide +kernel, by decide +kernel, by decide +kernel⟩
theorem lkL_99 : Lk RL 99 yX8_tell cX8_tell 3 ((some .int)) 2 := ⟨q816, q817, q818, q5, q819, by decide +kernel, by decide +kernel, by decide +kernel⟩
theorem lkL_100 : Lk RL 100 yX7_forget cX7_forget 2 ((some .int)) 0 := ⟨q821, q822, q823, q2, q824, by decide +kernel, by decide +kernel, by decide +kernel⟩
theorem lkL_103 : Lk RL 103 yX8_forget cX8_forget 2 ((some .int)) 0 := ⟨q825, q826, q827, q5, q828, by decide +kernel, by decide +kernel, by decide +kernel⟩
theorem lkL_104 : Lk RL 104 yX7_lies cX7_lies 1 ((some .int)) 0 := ⟨q829, q830, q831, q2, q832, by decide +kernel, by decide +kernel, by decide +kernel⟩
theorem lkL_107 : Lk RL 107 yX8_lies cX8_lies 2 ((some .int)) 0 := ⟨q843, q844, q845, q5, q846, by decide +kernel, by decide +kernel, by decide +kernel⟩
theorem lkL_108 : Lk RL 108 yX7_fits cX7_fits 3 ((some .int)) 2 := ⟨q851, q852, q853, q2, q854, by decide +kernel, by decide +kernel, by decide +kernel⟩
theorem lkL_111 : Lk RL 111 yX8_fits cX8_fits 7 ((some .int)) 2 := ⟨q866, q867, q868, q5, q869, by decide +kernel, by decide +kernel, by decide +kernel⟩
theorem lkL_112 : Lk RL 112 yX7_seed cX7_seed 3 ((some .int)) 1 := ⟨q874, q875, q876, q2, q877, by decide +kernel, by decide +kernel, by decide +kernel⟩
theorem lkL_115 : Lk RL 115 yX8_seed cX8_seed 3 ((some .int)) 1 := ⟨q879, q880, q881, q5, q882, by decide +kernel, by decide +kernel, by decide +kernel⟩
theorem lkL_116 : Lk RL 116 yX7_keep cX7_keep 2 ((some .int)) 1 := ⟨q883, q884, q885, q2, q886, by decide +kernel, by decide +kernel, by decide +kernel⟩
theorem lkL_119 : Lk RL 119 yX8_keep cX8_keep 4 ((some .int)) 1 := ⟨q897, q898, q899, q5, q900, by decide +kernel, by decide +kernel, by decide +kernel⟩
theorem lkL_120 : Lk RL 120 yX7_goBack cX7_goBack 2 ((some .int)) 1 := ⟨q901, q902, q903, q2, q904, by decide +kernel, by decide +kernel, by decide +kernel⟩
theorem lkL_123 : Lk RL 123 yX8_goBack cX8_goBack 4 ((some .int)) 1 := ⟨q905, q906, q907, q5, q908, by decide +kernel, by decide +kernel, by decide +kernel⟩

/-- each call of both: they answer alike, and what holds between them goes on holding -/
def OkAll (I : St → St → Prop) : Prop := ∀ σc σm : St, I σc σm →
  (∀ (x1 : Int32) (x2 : Int64), ∃ (r : Int32) (σc1 σm1 : St), f_X7_feed x1 x2 σc = some (r, σc1) ∧ f_X8_feed x1 x2 σm = some (r, σm1) ∧ I σc1 σm1) ∧
  (∃ (r : Int32) (σc1 σm1 : St), f_X7_valley  σc = some (r, σc1) ∧ f_X8_valley  σm = some (r, σm1) ∧ I σc1 σm1) ∧
  (∃ (r : Int32) (σc1 σm1 : St), f_X7_fault  σc = some (r, σc1) ∧ f_X8_fault  σm = some (r, σm1) ∧ I σc1 σm1) ∧
  (∀ (x1 : Int32), ∃ (r : Int32) (σc1 σm1 : St), f_X7_told x1 σc = some (r, σc1) ∧ f_X8_told x1 σm = some (r, σm1) ∧ I σc1 σm1) ∧
  (∀ (x1 : Int32) (x2 : Int32), ∃ (r : Int32) (σc1 σm1 : St), f_X7_house x1 x2 σc = some (r, σc1) ∧ f_X8_house x1 x2 σm = some (r, σm1) ∧ I σc1 σm1) ∧
  (∀ (x1 : Int32) (x2 : Int32), ∃ (r : Int32) (σc1 σm1 : St), f_X7_sleeper x1 x2 σc = some (r, σc1) ∧ f_X8_sleeper x1 x2 σm = some (r, σm1) ∧ I σc1 σm1) ∧
  (∀ (x1 : Int32) (x2 : Int32), ∃ (r : Int32) (σc1 σm1 : St), f_X7_shift x1 x2 σc = some (r, σc1) ∧ f_X8_shift x1 x2 σm = some (r, σm1) ∧ I σc1 σm1) ∧
  (∀ (x1 : Int32) (x2 : Int32) (x3 : Int32), ∃ (r : Int32) (σc1 σm1 : St), f_X7_noise x1 x2 x3 σc = some (r, σc1) ∧ f_X8_noise x1 x2 x3 σm = some (r, σm1) ∧ I σc1 σm1) ∧
  (∃ (r : Int32) (σc1 σm1 : St), f_X7_hush  σc = some (r, σc1) ∧ f_X8_hush  σm = some (r, σm1) ∧ I σc1 σm1) ∧
  (∀ (x1 : Int32), ∃ (r : Int32) (σc1 σm1 : St), f_X7_law x1 σc = some (r, σc1) ∧ f_X8_law x1 σm = some (r, σm1) ∧ I σc1 σm1) ∧
  (∀ (x1 : Int32), ∃ (r : Int32) (σc1 σm1 : St), f_X7_dawn x1 σc = some (r, σc1) ∧ f_X8_dawn x1 σm = some (r, σm1) ∧ I σc1 σm1) ∧
  (∀ (x1 : Int32) (x2 : Int32), ∃ (r : Int32) (σc1 σm1 : St), f_X7_ruler x1 x2 σc = some (r, σc1) ∧ f_X8_ruler x1 x2 σm = some (r, σm1) ∧ I σc1 σm1) ∧
  (∀ (x1 : Int32), ∃ (r : Int32) (σc1 σm1 : St), f_X7_odds x1 σc = some (r, σc1) ∧ f_X8_odds x1 σm = some (r, σm1) ∧ I σc1 σm1) ∧
  (∀ (x1 : Int32), ∃ (r : Int32) (σc1 σm1 : St), f_X7_together x1 σc = some (r, σc1) ∧ f_X8_together x1 σm = some (r, σm1) ∧ I σc1 σm1) ∧
  (∀ (x1 : Int32) (x2 : Int32), ∃ (r : Int32) (σc1 σm1 : St), f_X7_best x1 x2 σc = some (r, σc1) ∧ f_X8_best x1 x2 σm = some (r, σm1) ∧ I σc1 σm1) ∧
  (∀ (x1 : Int32), ∃ (r : Int32) (σc1 σm1 : St), f_X7_rests x1 σc = some (r, σc1) ∧ f_X8_rests x1 σm = some (r, σm1) ∧ I σc1 σm1) ∧
  (∀ (x1 : Int32) (x2 : Int32), ∃ (r : Int32) (σc1 σm1 : St), f_X7_loud x1 x2 σc = some (r, σc1) ∧ f_X8_loud x1 x2 σm = some (r, σm1) ∧ I σc1 σm1) ∧
  (∀ (x1 : Int32) (x2 : Int32), ∃ (r : Int32) (σc1 σm1 : St), f_X7_work x1 x2 σc = some (r, σc1) ∧ f_X8_work x1 x2 σm = some (r, σm1) ∧ I σc1 σm1) ∧
  (∀ (x1 : Int32) (x2 : Int32), ∃ (r : Int32) (σc1 σm1 : St), f_X7_likely x1 x2 σc = some (r, σc1) ∧ f_X8_likely x1 x2 σm = some (r, σm1) ∧ I σc1 σm1) ∧
  (∀ (x1 : Int32) (x2 : Int32), ∃ (r : Int32) (σc1 σm1 : St), f_X7_tell x1 x2 σc = some (r, σc1) ∧ f_X8_tell x1 x2 σm = some (r, σm1) ∧ I σc1 σm1) ∧
  (∃ (r : Int32) (σc1 σm1 : St), f_X7_forget  σc = some (r, σc1) ∧ f_X8_forget  σm = some (r, σm1) ∧ I σc1 σm1) ∧
  (∃ (r : Int32) (σc1 σm1 : St), f_X7_lies  σc = some (r, σc1) ∧ f_X8_lies  σm = some (r, σm1) ∧ I σc1 σm1) ∧
  (∀ (x1 : Int32) (x2 : Int32), ∃ (r : Int32) (σc1 σm1 : St), f_X7_fits x1 x2 σc = some (r, σc1) ∧ f_X8_fits x1 x2 σm = some (r, σm1) ∧ I σc1 σm1) ∧
  (∀ (x1 : Int32), ∃ (r : Int32) (σc1 σm1 : St), f_X7_seed x1 σc = some (r, σc1) ∧ f_X8_seed x1 σm = some (r, σm1) ∧ I σc1 σm1) ∧
  (∀ (x1 : Int32), ∃ (r : Int32) (σc1 σm1 : St), f_X7_keep x1 σc = some (r, σc1) ∧ f_X8_keep x1 σm = some (r, σm1) ∧ I σc1 σm1) ∧
  (∀ (x1 : Int32), ∃ (r : Int32) (σc1 σm1 : St), f_X7_goBack x1 σc = some (r, σc1) ∧ f_X8_goBack x1 σm = some (r, σm1) ∧ I σc1 σm1)
set_option maxHeartbeats 4000000 in
theorem lc_0 {p : Program} {l : Launch} {e : Env} {s : State} {m : MethodId} {below : List Frame} {meth : Method} {c : Code} {b L : Nat} {xs : Nat → Int32} {D : va_G} {G : Geo} {am K V : Nat → Nat} {I : St → St → Prop} (X : Lx p s m meth c b L xs D G am K V) {x3 : Int32} (h1 : vp_in (x3 + 1) L) (h2 : vp_in (x3 + 2) L) (h3 : vp_in (x3 + 3) L) {σc σm : St} (st : ∃ (r : Int32) (σc1 σm1 : St), f_X7_feed (xs (x3 + 1).toNatClampNeg) ((((xs (x3 + 2).toNatClampNeg).toInt64) <<< ((32 : Int32).toInt64 &&& 63)) ||| (((xs (x3 + 3).toNatClampNeg).toInt64) &&& 4294967295)) σc = some (r, σc1) ∧ f_X8_feed (xs (x3 + 1).toNatClampNeg) ((((xs (x3 + 2).toNatClampNeg).toInt64) <<< ((32 : Int32).toInt64 &&& 63)) ||| (((xs (x3 + 3).toNatClampNeg).toInt64) &&& 4294967295)) σm = some (r, σm1) ∧ I σc1 σm1) (nx : ∀ (σc σm : St) (H : Heap) (locs : List Loc) (ls : Array Slot), I σc σm → Lst D (AL s) s.heap G am σc σm H locs → lv_has ls 4 [(0, .ref b), (1, .ref (G.1 0)), (2, .ref (am 0)), (3, .int x3)] → W p l e room_1 s m #[Value.ref b] below meth c H locs 103 4117 (lw_Z below #[Value.ref b] s) (F0 m 860 ls [])) (H : Heap) (locs : List Loc) (ls : Array Slot) (h : Lst D (AL s) s.heap G am σc σm H locs) (hl : lv_has ls 4 [(0, .ref b), (1, .ref (G.1 0)), (2, .ref (am 0)), (3, .int x3)]) : W p l e room_1 s m #[Value.ref b] below meth c H locs 103 4117 (lw_Z below #[Value.ref b] s) (F0 m 152 ls []) := by
  obtain ⟨r, σc1, σm1, hc, hm, hI⟩ := st
  have C := X.1
  have hx := C.1
  have hb := C.2.1
  have hbA : ¬ AL s b := Nat.not_le.mpr X.2.2.2.2.1
  refine lv_aload_n hx hb dL_law_152 rfl (lv_at hl 1 rfl) ?_
  refine lv_aload_n hx hb dL_law_153 rfl (lv_at hl 0 rfl) ?_
  refine lv_iload_n hx hb dL_law_154 rfl (lv_at hl 3 rfl) ?_
  refine lv_iconst (v := 1) hx hb dL_law_155 (by decide) ?_
  refine lv_iadd hx hb dL_law_156 ?_
  refine va_sld hx hb X.2.2.2.1 X.2.2.2.2.1 hbA h.2.2 h1 dL_law_157 ?_
  refine lv_aload_n hx hb dL_law_158 rfl (lv_at hl 0 rfl) ?_
  refine lv_iload_n hx hb dL_law_159 rfl (lv_at hl 3 rfl) ?_
  refine lv_iconst (v := 2) hx hb dL_law_160 (by decide) ?_
  refine lv_iadd hx hb dL_law_161 ?_
  refine va_sld hx hb X.2.2.2.1 X.2.2.2.2.1 hbA h.2.2 h2 dL_law_162 ?_
  refine lv_i2l (v := (xs (x3 + 2).toNatClampNeg).toInt64) hx hb dL_law_163 rfl ?_
  refine lv_bipush (v := 32) hx hb dL_law_164 (by decide) ?_
  refine lv_lshl (v := ((xs (x3 + 2).toNatClampNeg).toInt64) <<< ((32 : Int32).toInt64 &&& 63)) hx hb dL_law_166 rfl ?_
  refine lv_aload_n hx hb dL_law_167 rfl (lv_at hl 0 rfl) ?_
  refine lv_iload_n hx hb dL_law_168 rfl (lv_at hl 3 rfl) ?_
  refine lv_iconst (v := 3) hx hb dL_law_169 (by decide) ?_
  refine lv_iadd hx hb dL_law_170 ?_
  refine va_sld hx hb X.2.2.2.1 X.2.2.2.2.1 hbA h.2.2 h3 dL_law_171 ?_
  refine lv_i2l (v := (xs (x3 + 3).toNatClampNeg).toInt64) hx hb dL_law_172 rfl ?_
  refine lv_ldc2 (v := 4294967295) hx hb C.2.2.2.1 (C.2.2.2.2.1 _ q6) dL_law_173 ?_
  refine lv_land hx hb dL_law_176 ?_
  refine lv_lor hx hb dL_law_177 ?_
  refine z_goC X.2.2.1 (fun _ h => h) h (z_runV (wf := wC G) (As := [.int (xs (x3 + 1).toNatClampNeg), .long ((((xs (x3 + 2).toNatClampNeg).toInt64) <<< ((32 : Int32).toInt64 &&& 63)) ||| (((xs (x3 + 3).toNatClampNeg).toInt64) &&& 4294967295))]) (rest := []) C h.1 (wl_D X.2.2.1.1 X.2.2.1.2.1) (c_X7_feed l D G (xs (x3 + 1).toNatClampNeg) ((((xs (x3 + 2).toNatClampNeg).toInt64) <<< ((32 : Int32).toInt64 &&& 63)) ||| (((xs (x3 + 3).toNatClampNeg).toInt64) &&& 4294967295)) σc (r, σc1) hc _) lkL_15 rfl ⟨rfl, rfl, Nat.le_of_ble_eq_true rfl, Nat.le_of_ble_eq_true rfl⟩ (va_recv C.2.2.2.2.2.2 h.1 (ci := 7) (q0 := 0) rfl rfl) hl.1 rfl (Nat.le_of_ble_eq_true rfl) dL_law_178 ⟨Nat.le_of_ble_eq_true rfl, Nat.le_of_ble_eq_true rfl⟩) (fun H locs h => ?_)
  refine lv_aload_n hx hb dL_law_181 rfl (lv_at hl 2 rfl) ?_
  refine lv_aload_n hx hb dL_law_182 rfl (lv_at hl 0 rfl) ?_
  refine lv_iload_n hx hb dL_law_183 rfl (lv_at hl 3 rfl) ?_
  refine lv_iconst (v := 1) hx hb dL_law_184 (by decide) ?_
  refine lv_iadd hx hb dL_law_185 ?_
  refine va_sld hx hb X.2.2.2.1 X.2.2.2.2.1 hbA h.2.2 h1 dL_law_186 ?_
  refine lv_aload_n hx hb dL_law_187 rfl (lv_at hl 0 rfl) ?_
  refine lv_iload_n hx hb dL_law_188 rfl (lv_at hl 3 rfl) ?_
  refine lv_iconst (v := 2) hx hb dL_law_189 (by decide) ?_
  refine lv_iadd hx hb dL_law_190 ?_
  refine va_sld hx hb X.2.2.2.1 X.2.2.2.2.1 hbA h.2.2 h2 dL_law_191 ?_
  refine lv_i2l (v := (xs (x3 + 2).toNatClampNeg).toInt64) hx hb dL_law_192 rfl ?_
  refine lv_bipush (v := 32) hx hb dL_law_193 (by decide) ?_
  refine lv_lshl (v := ((xs (x3 + 2).toNatClampNeg).toInt64) <<< ((32 : Int32).toInt64 &&& 63)) hx hb dL_law_195 rfl ?_
  refine lv_aload_n hx hb dL_law_196 rfl (lv_at hl 0 rfl) ?_
  refine lv_iload_n hx hb dL_law_197 rfl (lv_at hl 3 rfl) ?_
  refine lv_iconst (v := 3) hx hb dL_law_198 (by decide) ?_
  refine lv_iadd hx hb dL_law_199 ?_
  refine va_sld hx hb X.2.2.2.1 X.2.2.2.2.1 hbA h.2.2 h3 dL_law_200 ?_
  refine lv_i2l (v := (xs (x3 + 3).toNatClampNeg).toInt64) hx hb dL_law_201 rfl ?_
  refine lv_ldc2 (v := 4294967295) hx hb C.2.2.2.1 (C.2.2.2.2.1 _ q6) dL_law_202 ?_
  refine lv_land hx hb dL_law_205 ?_
  refine lv_lor hx hb dL_law_206 ?_
  refine z_goM X.2.2.1 (fun _ h => h) h (z_runV (wf := wM (am, G.2)) (As := [.int (xs (x3 + 1).toNatClampNeg), .long ((((xs (x3 + 2).toNatClampNeg).toInt64) <<< ((32 : Int32).toInt64 &&& 63)) ||| (((xs (x3 + 3).toNatClampNeg).toInt64) &&& 4294967295))]) (rest := [.int r]) C h.2.1 (wl_D X.2.2.1.2.2.1 X.2.2.1.2.2.2.1) (c_X8_feed l D (am, G.2) (xs (x3 + 1).toNatClampNeg) ((((xs (x3 + 2).toNatClampNeg).toInt64) <<< ((32 : Int32).toInt64 &&& 63)) ||| (((xs (x3 + 3).toNatClampNeg).toInt64) &&& 4294967295)) σm (r, σm1) hm _) lkL_19 rfl ⟨rfl, rfl, Nat.le_of_ble_eq_true rfl, Nat.le_of_ble_eq_true rfl⟩ (va_recv C.2.2.2.2.2.2 h.2.1 (ci := 8) (q0 := 0) rfl rfl) hl.1 rfl (Nat.le_of_ble_eq_true rfl) dL_law_207 ⟨Nat.le_of_ble_eq_true rfl, Nat.le_of_ble_eq_true rfl⟩) (fun H locs h => ?_)
  refine lv_icmp_eq (tgt := 860) hx hb dL_law_210 (by decide) (fun _ => ?_) (fun h9 => absurd rfl h9)
  exact nx _ _ _ _ _ hI h hl
set_option maxHeartbeats 4000000 in
theorem lc_1 {p : Program} {l : Launch} {e : Env} {s : State} {m : MethodId} {below : List Frame} {meth : Method} {c : Code} {b L : Nat} {xs : Nat → Int32} {D : va_G} {G : Geo} {am K V : Nat → Nat} {I : St → St → Prop} (X : Lx p s m meth c b L xs D G am K V) {x3 : Int32}  {σc σm : St} (st : ∃ (r : Int32) (σc1 σm1 : St), f_X7_valley  σc = some (r, σc1) ∧ f_X8_valley  σm = some (r, σm1) ∧ I σc1 σm1) (nx : ∀ (σc σm : St) (H : Heap) (locs : List Loc) (ls : Array Slot), I σc σm → Lst D (AL s) s.heap G am σc σm H locs → lv_has ls 4 [(0, .ref b), (1, .ref (G.1 0)), (2, .ref (am 0)), (3, .int x3)] → W p l e room_1 s m #[Value.ref b] below meth c H locs 103 4117 (lw_Z below #[Value.ref b] s) (F0 m 860 ls [])) (H : Heap) (locs : List Loc) (ls : Array Slot) (h : Lst D (AL s) s.heap G am σc σm H locs) (hl : lv_has ls 4 [(0, .ref b), (1, .ref (G.1 0)), (2, .ref (am 0)), (3, .int x3)]) : W p l e room_1 s m #[Value.ref b] below meth c H locs 103 4117 (lw_Z below #[Value.ref b] s) (F0 m 215 ls []) := by
  obtain ⟨r, σc1, σm1, hc, hm, hI⟩ := st
  have C := X.1
  have hx := C.1
  have hb := C.2.1
  have hbA : ¬ AL s b := Nat.not_le.mpr X.2.2.2.2.1
  refine lv_aload_n hx hb dL_law_215 rfl (lv_at hl 1 rfl) ?_
  refine z_goC X.2.2.1 (fun _ h => h) h (z_runVS (wf := wC G) (As := []) (rest := []) C X.2.2.2.2.2.2 h.2.2 (z_free (wl_D X.2.2.1.1 X.2.2.1.2.1) h.2.2 (fun _ h => h)) h.1 (wl_D X.2.2.1.1 X.2.2.1.2.1) (c_X7_valley l D G K V  σc (r, σc1) hc _) lkL_20 rfl ⟨rfl, rfl, Nat.le_of_ble_eq_true rfl, Nat.le_of_ble_eq_true rfl⟩ (va_recv C.2.2.2.2.2.2 h.1 (ci := 7) (q0 := 0) rfl rfl) hl.1 rfl (Nat.le_of_ble_eq_true rfl) dL_law_216 ⟨Nat.le_of_ble_eq_true rfl, Nat.le_of_ble_eq_true rfl⟩) (fun H locs h => ?_)
  refine lv_aload_n hx hb dL_law_219 rfl (lv_at hl 2 rfl) ?_
  refine z_goM X.2.2.1 (fun _ h => h) h (z_runV (wf := wM (am, G.2)) (As := []) (rest := [.int r]) C h.2.1 (wl_D X.2.2.1.2.2.1 X.2.2.1.2.2.2.1) (c_X8_valley l D (am, G.2)  σm (r, σm1) hm _) lkL_24 rfl ⟨rfl, rfl, Nat.le_of_ble_eq_true rfl, Nat.le_of_ble_eq_true rfl⟩ (va_recv C.2.2.2.2.2.2 h.2.1 (ci := 8) (q0 := 0) rfl rfl) hl.1 rfl (Nat.le_of_ble_eq_true rfl) dL_law_220 ⟨Nat.le_of_ble_eq_true rfl, Nat.le_of_ble_eq_true rfl⟩) (fun H locs h => ?_)
  refine lv_icmp_eq (tgt := 860) hx hb dL_law_223 (by decide) (fun _ => ?_) (fun h9 => absurd rfl h9)
  exact nx _ _ _ _ _ hI h hl
set_option maxHeartbeats 4000000 in
theorem lc_2 {p : Program} {l : Launch} {e : Env} {s : State} {m : MethodId} {below : List Frame} {meth : Method} {c : Code} {b L : Nat} {xs : Nat → Int32} {D : va_G} {G : Geo} {am K V : Nat → Nat} {I : St → St → Prop} (X : Lx p s m meth c b L xs D G am K V) {x3 : Int32}  {σc σm : St} (st : ∃ (r : Int32) (σc1 σm1 : St), f_X7_fault  σc = some (r, σc1) ∧ f_X8_fault  σm = some (r, σm1) ∧ I σc1 σm1) (nx : ∀ (σc σm : St) (H : Heap) (locs : List Loc) (ls : Array Slot), I σc σm → Lst D (AL s) s.heap G am σc σm H locs → lv_has ls 4 [(0, .ref b), (1, .ref (G.1 0)), (2, .ref (am 0)), (3, .int x3)] → W p l e room_1 s m #[Value.ref b] below meth c H locs 103 4117 (lw_Z below #[Value.ref b] s) (F0 m 860 ls [])) (H : Heap) (locs : List Loc) (ls : Array Slot) (h : Lst D (AL s) s.heap G am σc σm H locs) (hl : lv_has ls 4 [(0, .ref b), (1, .ref (G.1 0)), (2, .ref (am 0)), (3, .int x3)]) : W p l e room_1 s m #[Value.ref b] below meth c H locs 103 4117 (lw_Z below #[Value.ref b] s) (F0 m 228 ls []) := by
  obtain ⟨r, σc1, σm1, hc, hm, hI⟩ := st
  have C := X.1
  have hx := C.1
  have hb := C.2.1
  have hbA : ¬ AL s b := Nat.not_le.mpr X.2.2.2.2.1
  refine lv_aload_n hx hb dL_law_228 rfl (lv_at hl 1 rfl) ?_
  refine z_goC X.2.2.1 (fun _ h => h) h (z_runV (wf := wC G) (As := []) (rest := []) C h.1 (wl_D X.2.2.1.1 X.2.2.1.2.1) (c_X7_fault l D G  σc (r, σc1) hc _) lkL_25 rfl ⟨rfl, rfl, Nat.le_of_ble_eq_true rfl, Nat.le_of_ble_eq_true rfl⟩ (va_recv C.2.2.2.2.2.2 h.1 (ci := 7) (q0 := 0) rfl rfl) hl.1 rfl (Nat.le_of_ble_eq_true rfl) dL_law_229 ⟨Nat.le_of_ble_eq_true rfl, Nat.le_of_ble_eq_true rfl⟩) (fun H locs h => ?_)
  refine lv_aload_n hx hb dL_law_232 rfl (lv_at hl 2 rfl) ?_
  refine z_goM X.2.2.1 (fun _ h => h) h (z_runV (wf := wM (am, G.2)) (As := []) (rest := [.int r]) C h.2.1 (wl_D X.2.2.1.2.2.1 X.2.2.1.2.2.2.1) (c_X8_fault l D (am, G.2)  σm (r, σm1) hm _) lkL_28 rfl ⟨rfl, rfl, Nat.le_of_ble_eq_true rfl, Nat.le_of_ble_eq_true rfl⟩ (va_recv C.2.2.2.2.2.2 h.2.1 (ci := 8) (q0 := 0) rfl rfl) hl.1 rfl (Nat.le_of_ble_eq_true rfl) dL_law_233 ⟨Nat.le_of_ble_eq_true rfl, Nat.le_of_ble_eq_true rfl⟩) (fun H locs h => ?_)
  refine lv_icmp_eq (tgt := 860) hx hb dL_law_236 (by decide) (fun _ => ?_) (fun h9 => absurd rfl h9)
  exact nx _ _ _ _ _ hI h hl
set_option maxHeartbeats 4000000 in
theorem lc_3 {p : Program} {l : Launch} {e : Env} {s : State} {m : MethodId} {below : List Frame} {meth : Method} {c : Code} {b L : Nat} {xs : Nat → Int32} {D : va_G} {G : Geo} {am K V : Nat → Nat} {I : St → St → Prop} (X : Lx p s m meth c b L xs D G am K V) {x3 : Int32} (h1 : vp_in (x3 + 1) L) {σc σm : St} (st : ∃ (r : Int32) (σc1 σm1 : St), f_X7_told (xs (x3 + 1).toNatClampNeg) σc = some (r, σc1) ∧ f_X8_told (xs (x3 + 1).toNatClampNeg) σm = some (r, σm1) ∧ I σc1 σm1) (nx : ∀ (σc σm : St) (H : Heap) (locs : List Loc) (ls : Array Slot), I σc σm → Lst D (AL s) s.heap G am σc σm H locs → lv_has ls 4 [(0, .ref b), (1, .ref (G.1 0)), (2, .ref (am 0)), (3, .int x3)] → W p l e room_1 s m #[Value.ref b] below meth c H locs 103 4117 (lw_Z below #[Value.ref b] s) (F0 m 860 ls [])) (H : Heap) (locs : List Loc) (ls : Array Slot) (h : Lst D (AL s) s.heap G am σc σm H locs) (hl : lv_has ls 4 [(0, .ref b), (1, .ref (G.1 0)), (2, .ref (am 0)), (3, .int x3)]) : W p l e room_1 s m #[Value.ref b] below meth c H locs 103 4117 (lw_Z below #[Value.ref b] s) (F0 m 241 ls []) := by
  obtain ⟨r, σc1, σm1, hc, hm, hI⟩ := st
  have C := X.1
  have hx := C.1
  have hb := C.2.1
  have hbA : ¬ AL s b := Nat.not_le.mpr X.2.2.2.2.1
  refine lv_aload_n hx hb dL_law_241 rfl (lv_at hl 1 rfl) ?_
  refine lv_aload_n hx hb dL_law_242 rfl (lv_at hl 0 rfl) ?_
  refine lv_iload_n hx hb dL_law_243 rfl (lv_at hl 3 rfl) ?_
  refine lv_iconst (v := 1) hx hb dL_law_244 (by decide) ?_
  refine lv_iadd hx hb dL_law_245 ?_
  refine va_sld hx hb X.2.2.2.1 X.2.2.2.2.1 hbA h.2.2 h1 dL_law_246 ?_
  refine z_goC X.2.2.1 (fun _ h => h) h (z_runV (wf := wC G) (As := [.int (xs (x3 + 1).toNatClampNeg)]) (rest := []) C h.1 (wl_D X.2.2.1.1 X.2.2.1.2.1) (c_X7_told l D G (xs (x3 + 1).toNatClampNeg) σc (r, σc1) hc _) lkL_29 rfl ⟨rfl, rfl, Nat.le_of_ble_eq_true rfl, Nat.le_of_ble_eq_true rfl⟩ (va_recv C.2.2.2.2.2.2 h.1 (ci := 7) (q0 := 0) rfl rfl) hl.1 rfl (Nat.le_of_ble_eq_true rfl) dL_law_247 ⟨Nat.le_of_ble_eq_true rfl, Nat.le_of_ble_eq_true rfl⟩) (fun H locs h => ?_)
  refine lv_aload_n hx hb dL_law_250 rfl (lv_at hl 2 rfl) ?_
  refine lv_aload_n hx hb dL_law_251 rfl (lv_at hl 0 rfl) ?_
  refine lv_iload_n hx hb dL_law_252 rfl (lv_at hl 3 rfl) ?_
  refine lv_iconst (v := 1) hx hb dL_law_253 (by decide) ?_
  refine lv_iadd hx hb dL_law_254 ?_
  refine va_sld hx hb X.2.2.2.1 X.2.2.2.2.1 hbA h.2.2 h1 dL_law_255 ?_
  refine z_goM X.2.2.1 (fun _ h => h) h (z_runV (wf := wM (am, G.2)) (As := [.int (xs (x3 + 1).toNatClampNeg)]) (rest := [.int r]) C h.2.1 (wl_D X.2.2.1.2.2.1 X.2.2.1.2.2.2.1) (c_X8_told l D (am, G.2) (xs (x3 + 1).toNatClampNeg) σm (r, σm1) hm _) lkL_33 rfl ⟨rfl, rfl, Nat.le_of_ble_eq_true rfl, Nat.le_of_ble_eq_true rfl⟩ (va_recv C.2.2.2.2.2.2 h.2.1 (ci := 8) (q0 := 0) rfl rfl) hl.1 rfl (Nat.le_of_ble_eq_true rfl) dL_law_256 ⟨Nat.le_of_ble_eq_true rfl, Nat.le_of_ble_eq_true rfl⟩) (fun H locs h => ?_)
  refine lv_icmp_eq (tgt := 860) hx hb dL_law_259 (by decide) (fun _ => ?_) (fun h9 => absurd rfl h9)
  exact nx _ _ _ _ _ hI h hl
set_option maxHeartbeats 4000000 in
theorem lc_4 {p : Program} {l : Launch} {e : Env} {s : State} {m : MethodId} {below : List Frame} {meth : Method} {c : Code} {b L : Nat} {xs : Nat → Int32} {D : va_G} {G : Geo} {am K V : Nat → Nat} {I : St → St → Prop} (X : Lx p s m meth c b L xs D G am K V) {x3 : Int32} (h1 : vp_in (x3 + 1) L) (h2 : vp_in (x3 + 2) L) {σc σm : St} (st : ∃ (r : Int32) (σc1 σm1 : St), f_X7_house (xs (x3 + 1).toNatClampNeg) (xs (x3 + 2).toNatClampNeg) σc = some (r, σc1) ∧ f_X8_house (xs (x3 + 1).toNatClampNeg) (xs (x3 + 2).toNatClampNeg) σm = some (r, σm1) ∧ I σc1 σm1) (nx : ∀ (σc σm : St) (H : Heap) (locs : List Loc) (ls : Array Slot), I σc σm → Lst D (AL s) s.heap G am σc σm H locs → lv_has ls 4 [(0, .ref b), (1, .ref (G.1 0)), (2, .ref (am 0)), (3, .int x3)] → W p l e room_1 s m #[Value.ref b] below meth c H locs 103 4117 (lw_Z below #[Value.ref b] s) (F0 m 860 ls [])) (H : Heap) (locs : List Loc) (ls : Array Slot) (h : Lst D (AL s) s.heap G am σc σm H locs) (hl : lv_has ls 4 [(0, .ref b), (1, .ref (G.1 0)), (2, .ref (am 0)), (3, .int x3)]) : W p l e room_1 s m #[Value.ref b] below meth c H locs 103 4117 (lw_Z below #[Value.ref b] s) (F0 m 264 ls []) := by
  obtain ⟨r, σc1, σm1, hc, hm, hI⟩ := st
  have C := X.1
  have hx := C.1
  have hb := C.2.1
  have hbA : ¬ AL s b := Nat.not_le.mpr X.2.2.2.2.1
  refine lv_aload_n hx hb dL_law_264 rfl (lv_at hl 1 rfl) ?_
  refine lv_aload_n hx hb dL_law_265 rfl (lv_at hl 0 rfl) ?_
  refine lv_iload_n hx hb dL_law_266 rfl (lv_at hl 3 rfl) ?_
  refine lv_iconst (v := 1) hx hb dL_law_267 (by decide) ?_
  refine lv_iadd hx hb dL_law_268 ?_
  refine va_sld hx hb X.2.2.2.1 X.2.2.2.2.1 hbA h.2.2 h1 dL_law_269 ?_
  refine lv_aload_n hx hb dL_law_270 rfl (lv_at hl 0 rfl) ?_
  refine lv_iload_n hx hb dL_law_271 rfl (lv_at hl 3 rfl) ?_
  refine lv_iconst (v := 2) hx hb dL_law_272 (by decide) ?_
  refine lv_iadd hx hb dL_law_273 ?_
  refine va_sld hx hb X.2.2.2.1 X.2.2.2.2.1 hbA h.2.2 h2 dL_law_274 ?_
  refine z_goC X.2.2.1 (fun _ h => h) h (z_runV (wf := wC G) (As := [.int (xs (x3 + 1).toNatClampNeg), .int (xs (x3 + 2).toNatClampNeg)]) (rest := []) C h.1 (wl_D X.2.2.1.1 X.2.2.1.2.1) (c_X7_house l D G (xs (x3 + 1).toNatClampNeg) (xs (x3 + 2).toNatClampNeg) σc (r, σc1) hc _) lkL_34 rfl ⟨rfl, rfl, Nat.le_of_ble_eq_true rfl, Nat.le_of_ble_eq_true rfl⟩ (va_recv C.2.2.2.2.2.2 h.1 (ci := 7) (q0 := 0) rfl rfl) hl.1 rfl (Nat.le_of_ble_eq_true rfl) dL_law_275 ⟨Nat.le_of_ble_eq_true rfl, Nat.le_of_ble_eq_true rfl⟩) (fun H locs h => ?_)
  refine lv_aload_n hx hb dL_law_278 rfl (lv_at hl 2 rfl) ?_
  refine lv_aload_n hx hb dL_law_279 rfl (lv_at hl 0 rfl) ?_
  refine lv_iload_n hx hb dL_law_280 rfl (lv_at hl 3 rfl) ?_
  refine lv_iconst (v := 1) hx hb dL_law_281 (by decide) ?_
  refine lv_iadd hx hb dL_law_282 ?_
  refine va_sld hx hb X.2.2.2.1 X.2.2.2.2.1 hbA h.2.2 h1 dL_law_283 ?_
  refine lv_aload_n hx hb dL_law_284 rfl (lv_at hl 0 rfl) ?_
  refine lv_iload_n hx hb dL_law_285 rfl (lv_at hl 3 rfl) ?_
  refine lv_iconst (v := 2) hx hb dL_law_286 (by decide) ?_
  refine lv_iadd hx hb dL_law_287 ?_
  refine va_sld hx hb X.2.2.2.1 X.2.2.2.2.1 hbA h.2.2 h2 dL_law_288 ?_
  refine z_goM X.2.2.1 (fun _ h => h) h (z_runV (wf := wM (am, G.2)) (As := [.int (xs (x3 + 1).toNatClampNeg), .int (xs (x3 + 2).toNatClampNeg)]) (rest := [.int r]) C h.2.1 (wl_D X.2.2.1.2.2.1 X.2.2.1.2.2.2.1) (c_X8_house l D (am, G.2) (xs (x3 + 1).toNatClampNeg) (xs (x3 + 2).toNatClampNeg) σm (r, σm1) hm _) lkL_38 rfl ⟨rfl, rfl, Nat.le_of_ble_eq_true rfl, Nat.le_of_ble_eq_true rfl⟩ (va_recv C.2.2.2.2.2.2 h.2.1 (ci := 8) (q0 := 0) rfl rfl) hl.1 rfl (Nat.le_of_ble_eq_true rfl) dL_law_289 ⟨Nat.le_of_ble_eq_true rfl, Nat.le_of_ble_eq_true rfl⟩) (fun H locs h => ?_)
  refine lv_icmp_eq (tgt := 860) hx hb dL_law_292 (by decide) (fun _ => ?_) (fun h9 => absurd rfl h9)
  exact nx _ _ _ _ _ hI h hl
set_option maxHeartbeats 4000000 in
theorem lc_5 {p : Program} {l : Launch} {e : Env} {s : State} {m : MethodId} {below : List Frame} {meth : Method} {c : Code} {b L : Nat} {xs : Nat → Int32} {D : va_G} {G : Geo} {am K V : Nat → Nat} {I : St → St → Prop} (X : Lx p s m meth c b L xs D G am K V) {x3 : Int32} (h1 : vp_in (x3 + 1) L) (h2 : vp_in (x3 + 2) L) {σc σm : St} (st : ∃ (r : Int32) (σc1 σm1 : St), f_X7_sleeper (xs (x3 + 1).toNatClampNeg) (xs (x3 + 2).toNatClampNeg) σc = some (r, σc1) ∧ f_X8_sleeper (xs (x3 + 1).toNatClampNeg) (xs (x3 + 2).toNatClampNeg) σm = some (r, σm1) ∧ I σc1 σm1) (nx : ∀ (σc σm : St) (H : Heap) (locs : List Loc) (ls : Array Slot), I σc σm → Lst D (AL s) s.heap G am σc σm H locs → lv_has ls 4 [(0, .ref b), (1, .ref (G.1 0)), (2, .ref (am 0)), (3, .int x3)] → W p l e room_1 s m #[Value.ref b] below meth c H locs 103 4117 (lw_Z below #[Value.ref b] s) (F0 m 860 ls [])) (H : Heap) (locs : List Loc) (ls : Array Slot) (h : Lst D (AL s) s.heap G am σc σm H locs) (hl : lv_has ls 4 [(0, .ref b), (1, .ref (G.1 0)), (2, .ref (am 0)), (3, .int x3)]) : W p l e room_1 s m #[Value.ref b] below meth c H locs 103 4117 (lw_Z below #[Value.ref b] s) (F0 m 297 ls []) := by
  obtain ⟨r, σc1, σm1, hc, hm, hI⟩ := st
  have C := X.1
  have hx := C.1
  have hb := C.2.1
  have hbA : ¬ AL s b := Nat.not_le.mpr X.2.2.2.2.1
  refine lv_aload_n hx hb dL_law_297 rfl (lv_at hl 1 rfl) ?_
  refine lv_aload_n hx hb dL_law_298 rfl (lv_at hl 0 rfl) ?_
  refine lv_iload_n hx hb dL_law_299 rfl (lv_at hl 3 rfl) ?_
  refine lv_iconst (v := 1) hx hb dL_law_300 (by decide) ?_
  refine lv_iadd hx hb dL_law_301 ?_
  refine va_sld hx hb X.2.2.2.1 X.2.2.2.2.1 hbA h.2.2 h1 dL_law_302 ?_
  refine lv_aload_n hx hb dL_law_303 rfl (lv_at hl 0 rfl) ?_
  refine lv_iload_n hx hb dL_law_304 rfl (lv_at hl 3 rfl) ?_
  refine lv_iconst (v := 2) hx hb dL_law_305 (by decide) ?_
  refine lv_iadd hx hb dL_law_306 ?_
  refine va_sld hx hb X.2.2.2.1 X.2.2.2.2.1 hbA h.2.2 h2 dL_law_307 ?_
  refine z_goC X.2.2.1 (fun _ h => h) h (z_runV (wf := wC G) (As := [.int (xs (x3 + 1).toNatClampNeg), .int (xs (x3 + 2).toNatClampNeg)]) (rest := []) C h.1 (wl_D X.2.2.1.1 X.2.2.1.2.1) (c_X7_sleeper l D G (xs (x3 + 1).toNatClampNeg) (xs (x3 + 2).toNatClampNeg) σc (r, σc1) hc _) lkL_39 rfl ⟨rfl, rfl, Nat.le_of_ble_eq_true rfl, Nat.le_of_ble_eq_true rfl⟩ (va_recv C.2.2.2.2.2.2 h.1 (ci := 7) (q0 := 0) rfl rfl) hl.1 rfl (Nat.le_of_ble_eq_true rfl) dL_law_308 ⟨Nat.le_of_ble_eq_true rfl, Nat.le_of_ble_eq_true rfl⟩) (fun H locs h => ?_)
  refine lv_aload_n hx hb dL_law_311 rfl (lv_at hl 2 rfl) ?_
  refine lv_aload_n hx hb dL_law_312 rfl (lv_at hl 0 rfl) ?_
  refine lv_iload_n hx hb dL_law_313 rfl (lv_at hl 3 rfl) ?_
  refine lv_iconst (v := 1) hx hb dL_law_314 (by decide) ?_
  refine lv_iadd hx hb dL_law_315 ?_
  refine va_sld hx hb X.2.2.2.1 X.2.2.2.2.1 hbA h.2.2 h1 dL_law_316 ?_
  refine lv_aload_n hx hb dL_law_317 rfl (lv_at hl 0 rfl) ?_
  refine lv_iload_n hx hb dL_law_318 rfl (lv_at hl 3 rfl) ?_
  refine lv_iconst (v := 2) hx hb dL_law_319 (by decide) ?_
  refine lv_iadd hx hb dL_law_320 ?_
  refine va_sld hx hb X.2.2.2.1 X.2.2.2.2.1 hbA h.2.2 h2 dL_law_321 ?_
  refine z_goM X.2.2.1 (fun _ h => h) h (z_runV (wf := wM (am, G.2)) (As := [.int (xs (x3 + 1).toNatClampNeg), .int (xs (x3 + 2).toNatClampNeg)]) (rest := [.int r]) C h.2.1 (wl_D X.2.2.1.2.2.1 X.2.2.1.2.2.2.1) (c_X8_sleeper l D (am, G.2) (xs (x3 + 1).toNatClampNeg) (xs (x3 + 2).toNatClampNeg) σm (r, σm1) hm _) lkL_42 rfl ⟨rfl, rfl, Nat.le_of_ble_eq_true rfl, Nat.le_of_ble_eq_true rfl⟩ (va_recv C.2.2.2.2.2.2 h.2.1 (ci := 8) (q0 := 0) rfl rfl) hl.1 rfl (Nat.le_of_ble_eq_true rfl) dL_law_322 ⟨Nat.le_of_ble_eq_true rfl, Nat.le_of_ble_eq_true rfl⟩) (fun H locs h => ?_)
  refine lv_icmp_eq (tgt := 860) hx hb dL_law_325 (by decide) (fun _ => ?_) (fun h9 => absurd rfl h9)
  exact nx _ _ _ _ _ hI h hl
set_option maxHeartbeats 4000000 in
theorem lc_6 {p : Program} {l : Launch} {e : Env} {s : State} {m : MethodId} {below : List Frame} {meth : Method} {c : Code} {b L : Nat} {xs : Nat → Int32} {D : va_G} {G : Geo} {am K V : Nat → Nat} {I : St → St → Prop} (X : Lx p s m meth c b L xs D G am K V) {x3 : Int32} (h1 : vp_in (x3 + 1) L) (h2 : vp_in (x3 + 2) L) {σc σm : St} (st : ∃ (r : Int32) (σc1 σm1 : St), f_X7_shift (xs (x3 + 1).toNatClampNeg) (xs (x3 + 2).toNatClampNeg) σc = some (r, σc1) ∧ f_X8_shift (xs (x3 + 1).toNatClampNeg) (xs (x3 + 2).toNatClampNeg) σm = some (r, σm1) ∧ I σc1 σm1) (nx : ∀ (σc σm : St) (H : Heap) (locs : List Loc) (ls : Array Slot), I σc σm → Lst D (AL s) s.heap G am σc σm H locs → lv_has ls 4 [(0, .ref b), (1, .ref (G.1 0)), (2, .ref (am 0)), (3, .int x3)] → W p l e room_1 s m #[Value.ref b] below meth c H locs 103 4117 (lw_Z below #[Value.ref b] s) (F0 m 860 ls [])) (H : Heap) (locs : List Loc) (ls : Array Slot) (h : Lst D (AL s) s.heap G am σc σm H locs) (hl : lv_has ls 4 [(0, .ref b), (1, .ref (G.1 0)), (2, .ref (am 0)), (3, .int x3)]) : W p l e room_1 s m #[Value.ref b] below meth c H locs 103 4117 (lw_Z below #[Value.ref b] s) (F0 m 330 ls []) := by
  obtain ⟨r, σc1, σm1, hc, hm, hI⟩ := st
  have C := X.1
  have hx := C.1
  have hb := C.2.1
  have hbA : ¬ AL s b := Nat.not_le.mpr X.2.2.2.2.1
  refine lv_aload_n hx hb dL_law_330 rfl (lv_at hl 1 rfl) ?_
  refine lv_aload_n hx hb dL_law_331 rfl (lv_at hl 0 rfl) ?_
  refine lv_iload_n hx hb dL_law_332 rfl (lv_at hl 3 rfl) ?_
  refine lv_iconst (v := 1) hx hb dL_law_333 (by decide) ?_
  refine lv_iadd hx hb dL_law_334 ?_
  refine va_sld hx hb X.2.2.2.1 X.2.2.2.2.1 hbA h.2.2 h1 dL_law_335 ?_
  refine lv_aload_n hx hb dL_law_336 rfl (lv_at hl 0 rfl) ?_
  refine lv_iload_n hx hb dL_law_337 rfl (lv_at hl 3 rfl) ?_
  refine lv_iconst (v := 2) hx hb dL_law_338 (by decide) ?_
  refine lv_iadd hx hb dL_law_339 ?_
  refine va_sld hx hb X.2.2.2.1 X.2.2.2.2.1 hbA h.2.2 h2 dL_law_340 ?_
  refine z_goC X.2.2.1 (fun _ h => h) h (z_runV (wf := wC G) (As := [.int (xs (x3 + 1).toNatClampNeg), .int (xs (x3 + 2).toNatClampNeg)]) (rest := []) C h.1 (wl_D X.2.2.1.1 X.2.2.1.2.1) (c_X7_shift l D G (xs (x3 + 1).toNatClampNeg) (xs (x3 + 2).toNatClampNeg) σc (r, σc1) hc _) lkL_43 rfl ⟨rfl, rfl, Nat.le_of_ble_eq_true rfl, Nat.le_of_ble_eq_true rfl⟩ (va_recv C.2.2.2.2.2.2 h.1 (ci := 7) (q0 := 0) rfl rfl) hl.1 rfl (Nat.le_of_ble_eq_true rfl) dL_law_341 ⟨Nat.le_of_ble_eq_true rfl, Nat.le_of_ble_eq_true rfl⟩) (fun H locs h => ?_)
  refine lv_aload_n hx hb dL_law_344 rfl (lv_at hl 2 rfl) ?_
  refine lv_aload_n hx hb dL_law_345 rfl (lv_at hl 0 rfl) ?_
  refine lv_iload_n hx hb dL_law_346 rfl (lv_at hl 3 rfl) ?_
  refine lv_iconst (v := 1) hx hb dL_law_347 (by decide) ?_
  refine lv_iadd hx hb dL_law_348 ?_
  refine va_sld hx hb X.2.2.2.1 X.2.2.2.2.1 hbA h.2.2 h1 dL_law_349 ?_
  refine lv_aload_n hx hb dL_law_350 rfl (lv_at hl 0 rfl) ?_
  refine lv_iload_n hx hb dL_law_351 rfl (lv_at hl 3 rfl) ?_
  refine lv_iconst (v := 2) hx hb dL_law_352 (by decide) ?_
  refine lv_iadd hx hb dL_law_353 ?_
  refine va_sld hx hb X.2.2.2.1 X.2.2.2.2.1 hbA h.2.2 h2 dL_law_354 ?_
  refine z_goM X.2.2.1 (fun _ h => h) h (z_runV (wf := wM (am, G.2)) (As := [.int (xs (x3 + 1).toNatClampNeg), .int (xs (x3 + 2).toNatClampNeg)]) (rest := [.int r]) C h.2.1 (wl_D X.2.2.1.2.2.1 X.2.2.1.2.2.2.1) (c_X8_shift l D (am, G.2) (xs (x3 + 1).toNatClampNeg) (xs (x3 + 2).toNatClampNeg) σm (r, σm1) hm _) lkL_46 rfl ⟨rfl, rfl, Nat.le_of_ble_eq_true rfl, Nat.le_of_ble_eq_true rfl⟩ (va_recv C.2.2.2.2.2.2 h.2.1 (ci := 8) (q0 := 0) rfl rfl) hl.1 rfl (Nat.le_of_ble_eq_true rfl) dL_law_355 ⟨Nat.le_of_ble_eq_true rfl, Nat.le_of_ble_eq_true rfl⟩) (fun H locs h => ?_)
  refine lv_icmp_eq (tgt := 860) hx hb dL_law_358 (by decide) (fun _ => ?_) (fun h9 => absurd rfl h9)
  exact nx _ _ _ _ _ hI h hl
set_option maxHeartbeats 4000000 in
theorem lc_7 {p : Program} {l : Launch} {e : Env} {s : State} {m : MethodId} {below : List Frame} {meth : Method} {c : Code} {b L : Nat} {xs : Nat → Int32} {D : va_G} {G : Geo} {am K V : Nat → Nat} {I : St → St → Prop} (X : Lx p s m meth c b L xs D G am K V) {x3 : Int32} (h1 : vp_in (x3 + 1) L) (h2 : vp_in (x3 + 2) L) (h3 : vp_in (x3 + 3) L) {σc σm : St} (st : ∃ (r : Int32) (σc1 σm1 : St), f_X7_noise (xs (x3 + 1).toNatClampNeg) (xs (x3 + 2).toNatClampNeg) (xs (x3 + 3).toNatClampNeg) σc = some (r, σc1) ∧ f_X8_noise (xs (x3 + 1).toNatClampNeg) (xs (x3 + 2).toNatClampNeg) (xs (x3 + 3).toNatClampNeg) σm = some (r, σm1) ∧ I σc1 σm1) (nx : ∀ (σc σm : St) (H : Heap) (locs : List Loc) (ls : Array Slot), I σc σm → Lst D (AL s) s.heap G am σc σm H locs → lv_has ls 4 [(0, .ref b), (1, .ref (G.1 0)), (2, .ref (am 0)), (3, .int x3)] → W p l e room_1 s m #[Value.ref b] below meth c H locs 103 4117 (lw_Z below #[Value.ref b] s) (F0 m 860 ls [])) (H : Heap) (locs : List Loc) (ls : Array Slot) (h : Lst D (AL s) s.heap G am σc σm H locs) (hl : lv_has ls 4 [(0, .ref b), (1, .ref (G.1 0)), (2, .ref (am 0)), (3, .int x3)]) : W p l e room_1 s m #[Value.ref b] below meth c H locs 103 4117 (lw_Z below #[Value.ref b] s) (F0 m 363 ls []) := by
  obtain ⟨r, σc1, σm1, hc, hm, hI⟩ := st
  have C := X.1
  have hx := C.1
  have hb := C.2.1
  have hbA : ¬ AL s b := Nat.not_le.mpr X.2.2.2.2.1
  refine lv_aload_n hx hb dL_law_363 rfl (lv_at hl 1 rfl) ?_
  refine lv_aload_n hx hb dL_law_364 rfl (lv_at hl 0 rfl) ?_
  refine lv_iload_n hx hb dL_law_365 rfl (lv_at hl 3 rfl) ?_
  refine lv_iconst (v := 1) hx hb dL_law_366 (by decide) ?_
  refine lv_iadd hx hb dL_law_367 ?_
  refine va_sld hx hb X.2.2.2.1 X.2.2.2.2.1 hbA h.2.2 h1 dL_law_368 ?_
  refine lv_aload_n hx hb dL_law_369 rfl (lv_at hl 0 rfl) ?_
  refine lv_iload_n hx hb dL_law_370 rfl (lv_at hl 3 rfl) ?_
  refine lv_iconst (v := 2) hx hb dL_law_371 (by decide) ?_
  refine lv_iadd hx hb dL_law_372 ?_
  refine va_sld hx hb X.2.2.2.1 X.2.2.2.2.1 hbA h.2.2 h2 dL_law_373 ?_
  refine lv_aload_n hx hb dL_law_374 rfl (lv_at hl 0 rfl) ?_
  refine lv_iload_n hx hb dL_law_375 rfl (lv_at hl 3 rfl) ?_
  refine lv_iconst (v := 3) hx hb dL_law_376 (by decide) ?_
  refine lv_iadd hx hb dL_law_377 ?_
  refine va_sld hx hb X.2.2.2.1 X.2.2.2.2.1 hbA h.2.2 h3 dL_law_378 ?_
  refine z_goC X.2.2.1 (fun _ h => h) h (z_runV (wf := wC G) (As := [.int (xs (x3 + 1).toNatClampNeg), .int (xs (x3 + 2).toNatClampNeg), .int (xs (x3 + 3).toNatClampNeg)]) (rest := []) C h.1 (wl_D X.2.2.1.1 X.2.2.1.2.1) (c_X7_noise l D G (xs (x3 + 1).toNatClampNeg) (xs (x3 + 2).toNatClampNeg) (xs (x3 + 3).toNatClampNeg) σc (r, σc1) hc _) lkL_47 rfl ⟨rfl, rfl, Nat.le_of_ble_eq_true rfl, Nat.le_of_ble_eq_true rfl⟩ (va_recv C.2.2.2.2.2.2 h.1 (ci := 7) (q0 := 0) rfl rfl) hl.1 rfl (Nat.le_of_ble_eq_true rfl) dL_law_379 ⟨Nat.le_of_ble_eq_true rfl, Nat.le_of_ble_eq_true rfl⟩) (fun H locs h => ?_)
  refine lv_aload_n hx hb dL_law_382 rfl (lv_at hl 2 rfl) ?_
  refine lv_aload_n hx hb dL_law_383 rfl (lv_at hl 0 rfl) ?_
  refine lv_iload_n hx hb dL_law_384 rfl (lv_at hl 3 rfl) ?_
  refine lv_iconst (v := 1) hx hb dL_law_385 (by decide) ?_
  refine lv_iadd hx hb dL_law_386 ?_
  refine va_sld hx hb X.2.2.2.1 X.2.2.2.2.1 hbA h.2.2 h1 dL_law_387 ?_
  refine lv_aload_n hx hb dL_law_388 rfl (lv_at hl 0 rfl) ?_
  refine lv_iload_n hx hb dL_law_389 rfl (lv_at hl 3 rfl) ?_
  refine lv_iconst (v := 2) hx hb dL_law_390 (by decide) ?_
  refine lv_iadd hx hb dL_law_391 ?_
  refine va_sld hx hb X.2.2.2.1 X.2.2.2.2.1 hbA h.2.2 h2 dL_law_392 ?_
  refine lv_aload_n hx hb dL_law_393 rfl (lv_at hl 0 rfl) ?_
  refine lv_iload_n hx hb dL_law_394 rfl (lv_at hl 3 rfl) ?_
  refine lv_iconst (v := 3) hx hb dL_law_395 (by decide) ?_
  refine lv_iadd hx hb dL_law_396 ?_
  refine va_sld hx hb X.2.2.2.1 X.2.2.2.2.1 hbA h.2.2 h3 dL_law_397 ?_
  refine z_goM X.2.2.1 (fun _ h => h) h (z_runV (wf := wM (am, G.2)) (As := [.int (xs (x3 + 1).toNatClampNeg), .int (xs (x3 + 2).toNatClampNeg), .int (xs (x3 + 3).toNatClampNeg)]) (rest := [.int r]) C h.2.1 (wl_D X.2.2.1.2.2.1 X.2.2.1.2.2.2.1) (c_X8_noise l D (am, G.2) (xs (x3 + 1).toNatClampNeg) (xs (x3 + 2).toNatClampNeg) (xs (x3 + 3).toNatClampNeg) σm (r, σm1) hm _) lkL_51 rfl ⟨rfl, rfl, Nat.le_of_ble_eq_true rfl, Nat.le_of_ble_eq_true rfl⟩ (va_recv C.2.2.2.2.2.2 h.2.1 (ci := 8) (q0 := 0) rfl rfl) hl.1 rfl (Nat.le_of_ble_eq_true rfl) dL_law_398 ⟨Nat.le_of_ble_eq_true rfl, Nat.le_of_ble_eq_true rfl⟩) (fun H locs h => ?_)
  refine lv_icmp_eq (tgt := 860) hx hb dL_law_401 (by decide) (fun _ => ?_) (fun h9 => absurd rfl h9)
  exact nx _ _ _ _ _ hI h hl
set_option maxHeartbeats 4000000 in
theorem lc_8 {p : Program} {l : Launch} {e : Env} {s : State} {m : MethodId} {below : List Frame} {meth : Method} {c : Code} {b L : Nat} {xs : Nat → Int32} {D : va_G} {G : Geo} {am K V : Nat → Nat} {I : St → St → Prop} (X : Lx p s m meth c b L xs D G am K V) {x3 : Int32}  {σc σm : St} (st : ∃ (r : Int32) (σc1 σm1 : St), f_X7_hush  σc = some (r, σc1) ∧ f_X8_hush  σm = some (r, σm1) ∧ I σc1 σm1) (nx : ∀ (σc σm : St) (H : Heap) (locs : List Loc) (ls : Array Slot), I σc σm → Lst D (AL s) s.heap G am σc σm H locs → lv_has ls 4 [(0, .ref b), (1, .ref (G.1 0)), (2, .ref (am 0)), (3, .int x3)] → W p l e room_1 s m #[Value.ref b] below meth c H locs 103 4117 (lw_Z below #[Value.ref b] s) (F0 m 860 ls [])) (H : Heap) (locs : List Loc) (ls : Array Slot) (h : Lst D (AL s) s.heap G am σc σm H locs) (hl : lv_has ls 4 [(0, .ref b), (1, .ref (G.1 0)), (2, .ref (am 0)), (3, .int x3)]) : W p l e room_1 s m #[Value.ref b] below meth c H locs 103 4117 (lw_Z below #[Value.ref b] s) (F0 m 406 ls []) := by
  obtain ⟨r, σc1, σm1, hc, hm, hI⟩ := st
  have C := X.1
  have hx := C.1
  have hb := C.2.1
  have hbA : ¬ AL s b := Nat.not_le.mpr X.2.2.2.2.1
  refine lv_aload_n hx hb dL_law_406 rfl (lv_at hl 1 rfl) ?_
  refine z_goC X.2.2.1 (fun _ h => h) h (z_runV (wf := wC G) (As := []) (rest := []) C h.1 (wl_D X.2.2.1.1 X.2.2.1.2.1) (c_X7_hush l D G  σc (r, σc1) hc _) lkL_52 rfl ⟨rfl, rfl, Nat.le_of_ble_eq_true rfl, Nat.le_of_ble_eq_true rfl⟩ (va_recv C.2.2.2.2.2.2 h.1 (ci := 7) (q0 := 0) rfl rfl) hl.1 rfl (Nat.le_of_ble_eq_true rfl) dL_law_407 ⟨Nat.le_of_ble_eq_true rfl, Nat.le_of_ble_eq_true rfl⟩) (fun H locs h => ?_)
  refine lv_aload_n hx hb dL_law_410 rfl (lv_at hl 2 rfl) ?_
  refine z_goM X.2.2.1 (fun _ h => h) h (z_runV (wf := wM (am, G.2)) (As := []) (rest := [.int r]) C h.2.1 (wl_D X.2.2.1.2.2.1 X.2.2.1.2.2.2.1) (c_X8_hush l D (am, G.2)  σm (r, σm1) hm _) lkL_55 rfl ⟨rfl, rfl, Nat.le_of_ble_eq_true rfl, Nat.le_of_ble_eq_true rfl⟩ (va_recv C.2.2.2.2.2.2 h.2.1 (ci := 8) (q0 := 0) rfl rfl) hl.1 rfl (Nat.le_of_ble_eq_true rfl) dL_law_411 ⟨Nat.le_of_ble_eq_true rfl, Nat.le_of_ble_eq_true rfl⟩) (fun H locs h => ?_)
  refine lv_icmp_eq (tgt := 860) hx hb dL_law_414 (by decide) (fun _ => ?_) (fun h9 => absurd rfl h9)
  exact nx _ _ _ _ _ hI h hl
set_option maxHeartbeats 4000000 in
theorem lc_9 {p : Program} {l : Launch} {e : Env} {s : State} {m : MethodId} {below : List Frame} {meth : Method} {c : Code} {b L : Nat} {xs : Nat → Int32} {D : va_G} {G : Geo} {am K V : Nat → Nat} {I : St → St → Prop} (X : Lx p s m meth c b L xs D G am K V) {x3 : Int32} (h1 : vp_in (x3 + 1) L) {σc σm : St} (st : ∃ (r : Int32) (σc1 σm1 : St), f_X7_law (xs (x3 + 1).toNatClampNeg) σc = some (r, σc1) ∧ f_X8_law (xs (x3 + 1).toNatClampNeg) σm = some (r, σm1) ∧ I σc1 σm1) (nx : ∀ (σc σm : St) (H : Heap) (locs : List Loc) (ls : Array Slot), I σc σm → Lst D (AL s) s.heap G am σc σm H locs → lv_has ls 4 [(0, .ref b), (1, .ref (G.1 0)), (2, .ref (am 0)), (3, .int x3)] → W p l e room_1 s m #[Value.ref b] below meth c H locs 103 4117 (lw_Z below #[Value.ref b] s) (F0 m 860 ls [])) (H : Heap) (locs : List Loc) (ls : Array Slot) (h : Lst D (AL s) s.heap G am σc σm H locs) (hl : lv_has ls 4 [(0, .ref b), (1, .ref (G.1 0)), (2, .ref (am 0)), (3, .int x3)]) : W p l e room_1 s m #[Value.ref b] below meth c H locs 103 4117 (lw_Z below #[Value.ref b] s) (F0 m 419 ls []) := by
  obtain ⟨r, σc1, σm1, hc, hm, hI⟩ := st
  have C := X.1
  have hx := C.1
  have hb := C.2.1
  have hbA : ¬ AL s b := Nat.not_le.mpr X.2.2.2.2.1
  refine lv_aload_n hx hb dL_law_419 rfl (lv_at hl 1 rfl) ?_
  refine lv_aload_n hx hb dL_law_420 rfl (lv_at hl 0 rfl) ?_
  refine lv_iload_n hx hb dL_law_421 rfl (lv_at hl 3 rfl) ?_
  refine lv_iconst (v := 1) hx hb dL_law_422 (by decide) ?_
  refine lv_iadd hx hb dL_law_423 ?_
  refine va_sld hx hb X.2.2.2.1 X.2.2.2.2.1 hbA h.2.2 h1 dL_law_424 ?_
  refine z_goC X.2.2.1 (fun _ h => h) h (z_runV (wf := wC G) (As := [.int (xs (x3 + 1).toNatClampNeg)]) (rest := []) C h.1 (wl_D X.2.2.1.1 X.2.2.1.2.1) (c_X7_law l D G (xs (x3 + 1).toNatClampNeg) σc (r, σc1) hc _) lkL_56 rfl ⟨rfl, rfl, Nat.le_of_ble_eq_true rfl, Nat.le_of_ble_eq_true rfl⟩ (va_recv C.2.2.2.2.2.2 h.1 (ci := 7) (q0 := 0) rfl rfl) hl.1 rfl (Nat.le_of_ble_eq_true rfl) dL_law_425 ⟨Nat.le_of_ble_eq_true rfl, Nat.le_of_ble_eq_true rfl⟩) (fun H locs h => ?_)
  refine lv_aload_n hx hb dL_law_428 rfl (lv_at hl 2 rfl) ?_
  refine lv_aload_n hx hb dL_law_429 rfl (lv_at hl 0 rfl) ?_
  refine lv_iload_n hx hb dL_law_430 rfl (lv_at hl 3 rfl) ?_
  refine lv_iconst (v := 1) hx hb dL_law_431 (by decide) ?_
  refine lv_iadd hx hb dL_law_432 ?_
  refine va_sld hx hb X.2.2.2.1 X.2.2.2.2.1 hbA h.2.2 h1 dL_law_433 ?_
  refine z_goM X.2.2.1 (fun _ h => h) h (z_runV (wf := wM (am, G.2)) (As := [.int (xs (x3 + 1).toNatClampNeg)]) (rest := [.int r]) C h.2.1 (wl_D X.2.2.1.2.2.1 X.2.2.1.2.2.2.1) (c_X8_law l D (am, G.2) (xs (x3 + 1).toNatClampNeg) σm (r, σm1) hm _) lkL_59 rfl ⟨rfl, rfl, Nat.le_of_ble_eq_true rfl, Nat.le_of_ble_eq_true rfl⟩ (va_recv C.2.2.2.2.2.2 h.2.1 (ci := 8) (q0 := 0) rfl rfl) hl.1 rfl (Nat.le_of_ble_eq_true rfl) dL_law_434 ⟨Nat.le_of_ble_eq_true rfl, Nat.le_of_ble_eq_true rfl⟩) (fun H locs h => ?_)
  refine lv_icmp_eq (tgt := 860) hx hb dL_law_437 (by decide) (fun _ => ?_) (fun h9 => absurd rfl h9)
  exact nx _ _ _ _ _ hI h hl
set_option maxHeartbeats 4000000 in
theorem lc_10 {p : Program} {l : Launch} {e : Env} {s : State} {m : MethodId} {below : List Frame} {meth : Method} {c : Code} {b L : Nat} {xs : Nat → Int32} {D : va_G} {G : Geo} {am K V : Nat → Nat} {I : St → St → Prop} (X : Lx p s m meth c b L xs D G am K V) {x3 : Int32} (h1 : vp_in (x3 + 1) L) {σc σm : St} (st : ∃ (r : Int32) (σc1 σm1 : St), f_X7_dawn (xs (x3 + 1).toNatClampNeg) σc = some (r, σc1) ∧ f_X8_dawn (xs (x3 + 1).toNatClampNeg) σm = some (r, σm1) ∧ I σc1 σm1) (nx : ∀ (σc σm : St) (H : Heap) (locs : List Loc) (ls : Array Slot), I σc σm → Lst D (AL s) s.heap G am σc σm H locs → lv_has ls 4 [(0, .ref b), (1, .ref (G.1 0)), (2, .ref (am 0)), (3, .int x3)] → W p l e room_1 s m #[Value.ref b] below meth c H locs 103 4117 (lw_Z below #[Value.ref b] s) (F0 m 860 ls [])) (H : Heap) (locs : List Loc) (ls : Array Slot) (h : Lst D (AL s) s.heap G am σc σm H locs) (hl : lv_has ls 4 [(0, .ref b), (1, .ref (G.1 0)), (2, .ref (am 0)), (3, .int x3)]) : W p l e room_1 s m #[Value.ref b] below meth c H locs 103 4117 (lw_Z below #[Value.ref b] s) (F0 m 442 ls []) := by
  obtain ⟨r, σc1, σm1, hc, hm, hI⟩ := st
  have C := X.1
  have hx := C.1
  have hb := C.2.1
  have hbA : ¬ AL s b := Nat.not_le.mpr X.2.2.2.2.1
  refine lv_aload_n hx hb dL_law_442 rfl (lv_at hl 1 rfl) ?_
  refine lv_aload_n hx hb dL_law_443 rfl (lv_at hl 0 rfl) ?_
  refine lv_iload_n hx hb dL_law_444 rfl (lv_at hl 3 rfl) ?_
  refine lv_iconst (v := 1) hx hb dL_law_445 (by decide) ?_
  refine lv_iadd hx hb dL_law_446 ?_
  refine va_sld hx hb X.2.2.2.1 X.2.2.2.2.1 hbA h.2.2 h1 dL_law_447 ?_
  refine z_goC X.2.2.1 (fun _ h => h) h (z_runV (wf := wC G) (As := [.int (xs (x3 + 1).toNatClampNeg)]) (rest := []) C h.1 (wl_D X.2.2.1.1 X.2.2.1.2.1) (c_X7_dawn l D G (xs (x3 + 1).toNatClampNeg) σc (r, σc1) hc _) lkL_60 rfl ⟨rfl, rfl, Nat.le_of_ble_eq_true rfl, Nat.le_of_ble_eq_true rfl⟩ (va_recv C.2.2.2.2.2.2 h.1 (ci := 7) (q0 := 0) rfl rfl) hl.1 rfl (Nat.le_of_ble_eq_true rfl) dL_law_448 ⟨Nat.le_of_ble_eq_true rfl, Nat.le_of_ble_eq_true rfl⟩) (fun H locs h => ?_)
  refine lv_aload_n hx hb dL_law_451 rfl (lv_at hl 2 rfl) ?_
  refine lv_aload_n hx hb dL_law_452 rfl (lv_at hl 0 rfl) ?_
  refine lv_iload_n hx hb dL_law_453 rfl (lv_at hl 3 rfl) ?_
  refine lv_iconst (v := 1) hx hb dL_law_454 (by decide) ?_
  refine lv_iadd hx hb dL_law_455 ?_
  refine va_sld hx hb X.2.2.2.1 X.2.2.2.2.1 hbA h.2.2 h1 dL_law_456 ?_
  refine z_goM X.2.2.1 (fun _ h => h) h (z_runV (wf := wM (am, G.2)) (As := [.int (xs (x3 + 1).toNatClampNeg)]) (rest := [.int r]) C h.2.1 (wl_D X.2.2.1.2.2.1 X.2.2.1.2.2.2.1) (c_X8_dawn l D (am, G.2) (xs (x3 + 1).toNatClampNeg) σm (r, σm1) hm _) lkL_63 rfl ⟨rfl, rfl, Nat.le_of_ble_eq_true rfl, Nat.le_of_ble_eq_true rfl⟩ (va_recv C.2.2.2.2.2.2 h.2.1 (ci := 8) (q0 := 0) rfl rfl) hl.1 rfl (Nat.le_of_ble_eq_true rfl) dL_law_457 ⟨Nat.le_of_ble_eq_true rfl, Nat.le_of_ble_eq_true rfl⟩) (fun H locs h => ?_)
  refine lv_icmp_eq (tgt := 860) hx hb dL_law_460 (by decide) (fun _ => ?_) (fun h9 => absurd rfl h9)
  exact nx _ _ _ _ _ hI h hl
set_option maxHeartbeats 4000000 in
theorem lc_11 {p : Program} {l : Launch} {e : Env} {s : State} {m : MethodId} {below : List Frame} {meth : Method} {c : Code} {b L : Nat} {xs : Nat → Int32} {D : va_G} {G : Geo} {am K V : Nat → Nat} {I : St → St → Prop} (X : Lx p s m meth c b L xs D G am K V) {x3 : Int32} (h1 : vp_in (x3 + 1) L) (h2 : vp_in (x3 + 2) L) {σc σm : St} (st : ∃ (r : Int32) (σc1 σm1 : St), f_X7_ruler (xs (x3 + 1).toNatClampNeg) (xs (x3 + 2).toNatClampNeg) σc = some (r, σc1) ∧ f_X8_ruler (xs (x3 + 1).toNatClampNeg) (xs (x3 + 2).toNatClampNeg) σm = some (r, σm1) ∧ I σc1 σm1) (nx : ∀ (σc σm : St) (H : Heap) (locs : List Loc) (ls : Array Slot), I σc σm → Lst D (AL s) s.heap G am σc σm H locs → lv_has ls 4 [(0, .ref b), (1, .ref (G.1 0)), (2, .ref (am 0)), (3, .int x3)] → W p l e room_1 s m #[Value.ref b] below meth c H locs 103 4117 (lw_Z below #[Value.ref b] s) (F0 m 860 ls [])) (H : Heap) (locs : List Loc) (ls : Array Slot) (h : Lst D (AL s) s.heap G am σc σm H locs) (hl : lv_has ls 4 [(0, .ref b), (1, .ref (G.1 0)), (2, .ref (am 0)), (3, .int x3)]) : W p l e room_1 s m #[Value.ref b] below meth c H locs 103 4117 (lw_Z below #[Value.ref b] s) (F0 m 465 ls []) := by
  obtain ⟨r, σc1, σm1, hc, hm, hI⟩ := st
  have C := X.1
  have hx := C.1
  have hb := C.2.1
  have hbA : ¬ AL s b := Nat.not_le.mpr X.2.2.2.2.1
  refine lv_aload_n hx hb dL_law_465 rfl (lv_at hl 1 rfl) ?_
  refine lv_aload_n hx hb dL_law_466 rfl (lv_at hl 0 rfl) ?_
  refine lv_iload_n hx hb dL_law_467 rfl (lv_at hl 3 rfl) ?_
  refine lv_iconst (v := 1) hx hb dL_law_468 (by decide) ?_
  refine lv_iadd hx hb dL_law_469 ?_
  refine va_sld hx hb X.2.2.2.1 X.2.2.2.2.1 hbA h.2.2 h1 dL_law_470 ?_
  refine lv_aload_n hx hb dL_law_471 rfl (lv_at hl 0 rfl) ?_
  refine lv_iload_n hx hb dL_law_472 rfl (lv_at hl 3 rfl) ?_
  refine lv_iconst (v := 2) hx hb dL_law_473 (by decide) ?_
  refine lv_iadd hx hb dL_law_474 ?_
  refine va_sld hx hb X.2.2.2.1 X.2.2.2.2.1 hbA h.2.2 h2 dL_law_475 ?_
  refine z_goC X.2.2.1 (fun _ h => h) h (z_runV (wf := wC G) (As := [.int (xs (x3 + 1).toNatClampNeg), .int (xs (x3 + 2).toNatClampNeg)]) (rest := []) C h.1 (wl_D X.2.2.1.1 X.2.2.1.2.1) (c_X7_ruler l D G (xs (x3 + 1).toNatClampNeg) (xs (x3 + 2).toNatClampNeg) σc (r, σc1) hc _) lkL_64 rfl ⟨rfl, rfl, Nat.le_of_ble_eq_true rfl, Nat.le_of_ble_eq_true rfl⟩ (va_recv C.2.2.2.2.2.2 h.1 (ci := 7) (q0 := 0) rfl rfl) hl.1 rfl (Nat.le_of_ble_eq_true rfl) dL_law_476 ⟨Nat.le_of_ble_eq_true rfl, Nat.le_of_ble_eq_true rfl⟩) (fun H locs h => ?_)
  refine lv_aload_n hx hb dL_law_479 rfl (lv_at hl 2 rfl) ?_
  refine lv_aload_n hx hb dL_law_480 rfl (lv_at hl 0 rfl) ?_
  refine lv_iload_n hx hb dL_law_481 rfl (lv_at hl 3 rfl) ?_
  refine lv_iconst (v := 1) hx hb dL_law_482 (by decide) ?_
  refine lv_iadd hx hb dL_law_483 ?_
  refine va_sld hx hb X.2.2.2.1 X.2.2.2.2.1 hbA h.2.2 h1 dL_law_484 ?_
  refine lv_aload_n hx hb dL_law_485 rfl (lv_at hl 0 rfl) ?_
  refine lv_iload_n hx hb dL_law_486 rfl (lv_at hl 3 rfl) ?_
  refine lv_iconst (v := 2) hx hb dL_law_487 (by decide) ?_
  refine lv_iadd hx hb dL_law_488 ?_
  refine va_sld hx hb X.2.2.2.1 X.2.2.2.2.1 hbA h.2.2 h2 dL_law_489 ?_
  refine z_goM X.2.2.1 (fun _ h => h) h (z_runV (wf := wM (am, G.2)) (As := [.int (xs (x3 + 1).toNatClampNeg), .int (xs (x3 + 2).toNatClampNeg)]) (rest := [.int r]) C h.2.1 (wl_D X.2.2.1.2.2.1 X.2.2.1.2.2.2.1) (c_X8_ruler l D (am, G.2) (xs (x3 + 1).toNatClampNeg) (xs (x3 + 2).toNatClampNeg) σm (r, σm1) hm _) lkL_67 rfl ⟨rfl, rfl, Nat.le_of_ble_eq_true rfl, Nat.le_of_ble_eq_true rfl⟩ (va_recv C.2.2.2.2.2.2 h.2.1 (ci := 8) (q0 := 0) rfl rfl) hl.1 rfl (Nat.le_of_ble_eq_true rfl) dL_law_490 ⟨Nat.le_of_ble_eq_true rfl, Nat.le_of_ble_eq_true rfl⟩) (fun H locs h => ?_)
  refine lv_icmp_eq (tgt := 860) hx hb dL_law_493 (by decide) (fun _ => ?_) (fun h9 => absurd rfl h9)
  exact nx _ _ _ _ _ hI h hl
set_option maxHeartbeats 4000000 in
theorem lc_12 {p : Program} {l : Launch} {e : Env} {s : State} {m : MethodId} {below : List Frame} {meth : Method} {c : Code} {b L : Nat} {xs : Nat → Int32} {D : va_G} {G : Geo} {am K V : Nat → Nat} {I : St → St → Prop} (X : Lx p s m meth c b L xs D G am K V) {x3 : Int32} (h1 : vp_in (x3 + 1) L) {σc σm : St} (st : ∃ (r : Int32) (σc1 σm1 : St), f_X7_odds (xs (x3 + 1).toNatClampNeg) σc = some (r, σc1) ∧ f_X8_odds (xs (x3 + 1).toNatClampNeg) σm = some (r, σm1) ∧ I σc1 σm1) (nx : ∀ (σc σm : St) (H : Heap) (locs : List Loc) (ls : Array Slot), I σc σm → Lst D (AL s) s.heap G am σc σm H locs → lv_has ls 4 [(0, .ref b), (1, .ref (G.1 0)), (2, .ref (am 0)), (3, .int x3)] → W p l e room_1 s m #[Value.ref b] below meth c H locs 103 4117 (lw_Z below #[Value.ref b] s) (F0 m 860 ls [])) (H : Heap) (locs : List Loc) (ls : Array Slot) (h : Lst D (AL s) s.heap G am σc σm H locs) (hl : lv_has ls 4 [(0, .ref b), (1, .ref (G.1 0)), (2, .ref (am 0)), (3, .int x3)]) : W p l e room_1 s m #[Value.ref b] below meth c H locs 103 4117 (lw_Z below #[Value.ref b] s) (F0 m 498 ls []) := by
  obtain ⟨r, σc1, σm1, hc, hm, hI⟩ := st
  have C := X.1
  have hx := C.1
  have hb := C.2.1
  have hbA : ¬ AL s b := Nat.not_le.mpr X.2.2.2.2.1
  refine lv_aload_n hx hb dL_law_498 rfl (lv_at hl 1 rfl) ?_
  refine lv_aload_n hx hb dL_law_499 rfl (lv_at hl 0 rfl) ?_
  refine lv_iload_n hx hb dL_law_500 rfl (lv_at hl 3 rfl) ?_
  refine lv_iconst (v := 1) hx hb dL_law_501 (by decide) ?_
  refine lv_iadd hx hb dL_law_502 ?_
  refine va_sld hx hb X.2.2.2.1 X.2.2.2.2.1 hbA h.2.2 h1 dL_law_503 ?_
  refine z_goC X.2.2.1 (fun _ h => h) h (z_runV (wf := wC G) (As := [.int (xs (x3 + 1).toNatClampNeg)]) (rest := []) C h.1 (wl_D X.2.2.1.1 X.2.2.1.2.1) (c_X7_odds l D G (xs (x3 + 1).toNatClampNeg) σc (r, σc1) hc _) lkL_68 rfl ⟨rfl, rfl, Nat.le_of_ble_eq_true rfl, Nat.le_of_ble_eq_true rfl⟩ (va_recv C.2.2.2.2.2.2 h.1 (ci := 7) (q0 := 0) rfl rfl) hl.1 rfl (Nat.le_of_ble_eq_true rfl) dL_law_504 ⟨Nat.le_of_ble_eq_true rfl, Nat.le_of_ble_eq_true rfl⟩) (fun H locs h => ?_)
  refine lv_aload_n hx hb dL_law_507 rfl (lv_at hl 2 rfl) ?_
  refine lv_aload_n hx hb dL_law_508 rfl (lv_at hl 0 rfl) ?_
  refine lv_iload_n hx hb dL_law_509 rfl (lv_at hl 3 rfl) ?_
  refine lv_iconst (v := 1) hx hb dL_law_510 (by decide) ?_
  refine lv_iadd hx hb dL_law_511 ?_
  refine va_sld hx hb X.2.2.2.1 X.2.2.2.2.1 hbA h.2.2 h1 dL_law_512 ?_
  refine z_goM X.2.2.1 (fun _ h => h) h (z_runV (wf := wM (am, G.2)) (As := [.int (xs (x3 + 1).toNatClampNeg)]) (rest := [.int r]) C h.2.1 (wl_D X.2.2.1.2.2.1 X.2.2.1.2.2.2.1) (c_X8_odds l D (am, G.2) (xs (x3 + 1).toNatClampNeg) σm (r, σm1) hm _) lkL_71 rfl ⟨rfl, rfl, Nat.le_of_ble_eq_true rfl, Nat.le_of_ble_eq_true rfl⟩ (va_recv C.2.2.2.2.2.2 h.2.1 (ci := 8) (q0 := 0) rfl rfl) hl.1 rfl (Nat.le_of_ble_eq_true rfl) dL_law_513 ⟨Nat.le_of_ble_eq_true rfl, Nat.le_of_ble_eq_true rfl⟩) (fun H locs h => ?_)
  refine lv_icmp_eq (tgt := 860) hx hb dL_law_516 (by decide) (fun _ => ?_) (fun h9 => absurd rfl h9)
  exact nx _ _ _ _ _ hI h hl
set_option maxHeartbeats 4000000 in
theorem lc_13 {p : Program} {l : Launch} {e : Env} {s : State} {m : MethodId} {below : List Frame} {meth : Method} {c : Code} {b L : Nat} {xs : Nat → Int32} {D : va_G} {G : Geo} {am K V : Nat → Nat} {I : St → St → Prop} (X : Lx p s m meth c b L xs D G am K V) {x3 : Int32} (h1 : vp_in (x3 + 1) L) {σc σm : St} (st : ∃ (r : Int32) (σc1 σm1 : St), f_X7_together (xs (x3 + 1).toNatClampNeg) σc = some (r, σc1) ∧ f_X8_together (xs (x3 + 1).toNatClampNeg) σm = some (r, σm1) ∧ I σc1 σm1) (nx : ∀ (σc σm : St) (H : Heap) (locs : List Loc) (ls : Array Slot), I σc σm → Lst D (AL s) s.heap G am σc σm H locs → lv_has ls 4 [(0, .ref b), (1, .ref (G.1 0)), (2, .ref (am 0)), (3, .int x3)] → W p l e room_1 s m #[Value.ref b] below meth c H locs 103 4117 (lw_Z below #[Value.ref b] s) (F0 m 860 ls [])) (H : Heap) (locs : List Loc) (ls : Array Slot) (h : Lst D (AL s) s.heap G am σc σm H locs) (hl : lv_has ls 4 [(0, .ref b), (1, .ref (G.1 0)), (2, .ref (am 0)), (3, .int x3)]) : W p l e room_1 s m #[Value.ref b] below meth c H locs 103 4117 (lw_Z below #[Value.ref b] s) (F0 m 521 ls []) := by
  obtain ⟨r, σc1, σm1, hc, hm, hI⟩ := st
  have C := X.1
  have hx := C.1
  have hb := C.2.1
  have hbA : ¬ AL s b := Nat.not_le.mpr X.2.2.2.2.1
  refine lv_aload_n hx hb dL_law_521 rfl (lv_at hl 1 rfl) ?_
  refine lv_aload_n hx hb dL_law_522 rfl (lv_at hl 0 rfl) ?_
  refine lv_iload_n hx hb dL_law_523 rfl (lv_at hl 3 rfl) ?_
  refine lv_iconst (v := 1) hx hb dL_law_524 (by decide) ?_
  refine lv_iadd hx hb dL_law_525 ?_
  refine va_sld hx hb X.2.2.2.1 X.2.2.2.2.1 hbA h.2.2 h1 dL_law_526 ?_
  refine z_goC X.2.2.1 (fun _ h => h) h (z_runV (wf := wC G) (As := [.int (xs (x3 + 1).toNatClampNeg)]) (rest := []) C h.1 (wl_D X.2.2.1.1 X.2.2.1.2.1) (c_X7_together l D G (xs (x3 + 1).toNatClampNeg) σc (r, σc1) hc _) lkL_72 rfl ⟨rfl, rfl, Nat.le_of_ble_eq_true rfl, Nat.le_of_ble_eq_true rfl⟩ (va_recv C.2.2.2.2.2.2 h.1 (ci := 7) (q0 := 0) rfl rfl) hl.1 rfl (Nat.le_of_ble_eq_true rfl) dL_law_527 ⟨Nat.le_of_ble_eq_true rfl, Nat.le_of_ble_eq_true rfl⟩) (fun H locs h => ?_)
  refine lv_aload_n hx hb dL_law_530 rfl (lv_at hl 2 rfl) ?_
  refine lv_aload_n hx hb dL_law_531 rfl (lv_at hl 0 rfl) ?_
  refine lv_iload_n hx hb dL_law_532 rfl (lv_at hl 3 rfl) ?_
  refine lv_iconst (v := 1) hx hb dL_law_533 (by decide) ?_
  refine lv_iadd hx hb dL_law_534 ?_
  refine va_sld hx hb X.2.2.2.1 X.2.2.2.2.1 hbA h.2.2 h1 dL_law_535 ?_
  refine z_goM X.2.2.1 (fun _ h => h) h (z_runV (wf := wM (am, G.2)) (As := [.int (xs (x3 + 1).toNatClampNeg)]) (rest := [.int r]) C h.2.1 (wl_D X.2.2.1.2.2.1 X.2.2.1.2.2.2.1) (c_X8_together l D (am, G.2) (xs (x3 + 1).toNatClampNeg) σm (r, σm1) hm _) lkL_75 rfl ⟨rfl, rfl, Nat.le_of_ble_eq_true rfl, Nat.le_of_ble_eq_true rfl⟩ (va_recv C.2.2.2.2.2.2 h.2.1 (ci := 8) (q0 := 0) rfl rfl) hl.1 rfl (Nat.le_of_ble_eq_true rfl) dL_law_536 ⟨Nat.le_of_ble_eq_true rfl, Nat.le_of_ble_eq_true rfl⟩) (fun H locs h => ?_)
  refine lv_icmp_eq (tgt := 860) hx hb dL_law_539 (by decide) (fun _ => ?_) (fun h9 => absurd rfl h9)
  exact nx _ _ _ _ _ hI h hl
set_option maxHeartbeats 4000000 in
theorem lc_14 {p : Program} {l : Launch} {e : Env} {s : State} {m : MethodId} {below : List Frame} {meth : Method} {c : Code} {b L : Nat} {xs : Nat → Int32} {D : va_G} {G : Geo} {am K V : Nat → Nat} {I : St → St → Prop} (X : Lx p s m meth c b L xs D G am K V) {x3 : Int32} (h1 : vp_in (x3 + 1) L) (h2 : vp_in (x3 + 2) L) {σc σm : St} (st : ∃ (r : Int32) (σc1 σm1 : St), f_X7_best (xs (x3 + 1).toNatClampNeg) (xs (x3 + 2).toNatClampNeg) σc = some (r, σc1) ∧ f_X8_best (xs (x3 + 1).toNatClampNeg) (xs (x3 + 2).toNatClampNeg) σm = some (r, σm1) ∧ I σc1 σm1) (nx : ∀ (σc σm : St) (H : Heap) (locs : List Loc) (ls : Array Slot), I σc σm → Lst D (AL s) s.heap G am σc σm H locs → lv_has ls 4 [(0, .ref b), (1, .ref (G.1 0)), (2, .ref (am 0)), (3, .int x3)] → W p l e room_1 s m #[Value.ref b] below meth c H locs 103 4117 (lw_Z below #[Value.ref b] s) (F0 m 860 ls [])) (H : Heap) (locs : List Loc) (ls : Array Slot) (h : Lst D (AL s) s.heap G am σc σm H locs) (hl : lv_has ls 4 [(0, .ref b), (1, .ref (G.1 0)), (2, .ref (am 0)), (3, .int x3)]) : W p l e room_1 s m #[Value.ref b] below meth c H locs 103 4117 (lw_Z below #[Value.ref b] s) (F0 m 544 ls []) := by
  obtain ⟨r, σc1, σm1, hc, hm, hI⟩ := st
  have C := X.1
  have hx := C.1
  have hb := C.2.1
  have hbA : ¬ AL s b := Nat.not_le.mpr X.2.2.2.2.1
  refine lv_aload_n hx hb dL_law_544 rfl (lv_at hl 1 rfl) ?_
  refine lv_aload_n hx hb dL_law_545 rfl (lv_at hl 0 rfl) ?_
  refine lv_iload_n hx hb dL_law_546 rfl (lv_at hl 3 rfl) ?_
  refine lv_iconst (v := 1) hx hb dL_law_547 (by decide) ?_
  refine lv_iadd hx hb dL_law_548 ?_
  refine va_sld hx hb X.2.2.2.1 X.2.2.2.2.1 hbA h.2.2 h1 dL_law_549 ?_
  refine lv_aload_n hx hb dL_law_550 rfl (lv_at hl 0 rfl) ?_
  refine lv_iload_n hx hb dL_law_551 rfl (lv_at hl 3 rfl) ?_
  refine lv_iconst (v := 2) hx hb dL_law_552 (by decide) ?_
  refine lv_iadd hx hb dL_law_553 ?_
  refine va_sld hx hb X.2.2.2.1 X.2.2.2.2.1 hbA h.2.2 h2 dL_law_554 ?_
  refine z_goC X.2.2.1 (fun _ h => h) h (z_runV (wf := wC G) (As := [.int (xs (x3 + 1).toNatClampNeg), .int (xs (x3 + 2).toNatClampNeg)]) (rest := []) C h.1 (wl_D X.2.2.1.1 X.2.2.1.2.1) (c_X7_best l D G (xs (x3 + 1).toNatClampNeg) (xs (x3 + 2).toNatClampNeg) σc (r, σc1) hc _) lkL_76 rfl ⟨rfl, rfl, Nat.le_of_ble_eq_true rfl, Nat.le_of_ble_eq_true rfl⟩ (va_recv C.2.2.2.2.2.2 h.1 (ci := 7) (q0 := 0) rfl rfl) hl.1 rfl (Nat.le_of_ble_eq_true rfl) dL_law_555 ⟨Nat.le_of_ble_eq_true rfl, Nat.le_of_ble_eq_true rfl⟩) (fun H locs h => ?_)
  refine lv_aload_n hx hb dL_law_558 rfl (lv_at hl 2 rfl) ?_
  refine lv_aload_n hx hb dL_law_559 rfl (lv_at hl 0 rfl) ?_
  refine lv_iload_n hx hb dL_law_560 rfl (lv_at hl 3 rfl) ?_
  refine lv_iconst (v := 1) hx hb dL_law_561 (by decide) ?_
  refine lv_iadd hx hb dL_law_562 ?_
  refine va_sld hx hb X.2.2.2.1 X.2.2.2.2.1 hbA h.2.2 h1 dL_law_563 ?_
  refine lv_aload_n hx hb dL_law_564 rfl (lv_at hl 0 rfl) ?_
  refine lv_iload_n hx hb dL_law_565 rfl (lv_at hl 3 rfl) ?_
  refine lv_iconst (v := 2) hx hb dL_law_566 (by decide) ?_
  refine lv_iadd hx hb dL_law_567 ?_
  refine va_sld hx hb X.2.2.2.1 X.2.2.2.2.1 hbA h.2.2 h2 dL_law_568 ?_
  refine z_goM X.2.2.1 (fun _ h => h) h (z_runV (wf := wM (am, G.2)) (As := [.int (xs (x3 + 1).toNatClampNeg), .int (xs (x3 + 2).toNatClampNeg)]) (rest := [.int r]) C h.2.1 (wl_D X.2.2.1.2.2.1 X.2.2.1.2.2.2.1) (c_X8_best l D (am, G.2) (xs (x3 + 1).toNatClampNeg) (xs (x3 + 2).toNatClampNeg) σm (r, σm1) hm _) lkL_79 rfl ⟨rfl, rfl, Nat.le_of_ble_eq_true rfl, Nat.le_of_ble_eq_true rfl⟩ (va_recv C.2.2.2.2.2.2 h.2.1 (ci := 8) (q0 := 0) rfl rfl) hl.1 rfl (Nat.le_of_ble_eq_true rfl) dL_law_569 ⟨Nat.le_of_ble_eq_true rfl, Nat.le_of_ble_eq_true rfl⟩) (fun H locs h => ?_)
  refine lv_icmp_eq (tgt := 860) hx hb dL_law_572 (by decide) (fun _ => ?_) (fun h9 => absurd rfl h9)
  exact nx _ _ _ _ _ hI h hl
set_option maxHeartbeats 4000000 in
theorem lc_15 {p : Program} {l : Launch} {e : Env} {s : State} {m : MethodId} {below : List Frame} {meth : Method} {c : Code} {b L : Nat} {xs : Nat → Int32} {D : va_G} {G : Geo} {am K V : Nat → Nat} {I : St → St → Prop} (X : Lx p s m meth c b L xs D G am K V) {x3 : Int32} (h1 : vp_in (x3 + 1) L) {σc σm : St} (st : ∃ (r : Int32) (σc1 σm1 : St), f_X7_rests (xs (x3 + 1).toNatClampNeg) σc = some (r, σc1) ∧ f_X8_rests (xs (x3 + 1).toNatClampNeg) σm = some (r, σm1) ∧ I σc1 σm1) (nx : ∀ (σc σm : St) (H : Heap) (locs : List Loc) (ls : Array Slot), I σc σm → Lst D (AL s) s.heap G am σc σm H locs → lv_has ls 4 [(0, .ref b), (1, .ref (G.1 0)), (2, .ref (am 0)), (3, .int x3)] → W p l e room_1 s m #[Value.ref b] below meth c H locs 103 4117 (lw_Z below #[Value.ref b] s) (F0 m 860 ls [])) (H : Heap) (locs : List Loc) (ls : Array Slot) (h : Lst D (AL s) s.heap G am σc σm H locs) (hl : lv_has ls 4 [(0, .ref b), (1, .ref (G.1 0)), (2, .ref (am 0)), (3, .int x3)]) : W p l e room_1 s m #[Value.ref b] below meth c H locs 103 4117 (lw_Z below #[Value.ref b] s) (F0 m 577 ls []) := by
  obtain ⟨r, σc1, σm1, hc, hm, hI⟩ := st
  have C := X.1
  have hx := C.1
  have hb := C.2.1
  have hbA : ¬ AL s b := Nat.not_le.mpr X.2.2.2.2.1
  refine lv_aload_n hx hb dL_law_577 rfl (lv_at hl 1 rfl) ?_
  refine lv_aload_n hx hb dL_law_578 rfl (lv_at hl 0 rfl) ?_
  refine lv_iload_n hx hb dL_law_579 rfl (lv_at hl 3 rfl) ?_
  refine lv_iconst (v := 1) hx hb dL_law_580 (by decide) ?_
  refine lv_iadd hx hb dL_law_581 ?_
  refine va_sld hx hb X.2.2.2.1 X.2.2.2.2.1 hbA h.2.2 h1 dL_law_582 ?_
  refine z_goC X.2.2.1 (fun _ h => h) h (z_runV (wf := wC G) (As := [.int (xs (x3 + 1).toNatClampNeg)]) (rest := []) C h.1 (wl_D X.2.2.1.1 X.2.2.1.2.1) (c_X7_rests l D G (xs (x3 + 1).toNatClampNeg) σc (r, σc1) hc _) lkL_80 rfl ⟨rfl, rfl, Nat.le_of_ble_eq_true rfl, Nat.le_of_ble_eq_true rfl⟩ (va_recv C.2.2.2.2.2.2 h.1 (ci := 7) (q0 := 0) rfl rfl) hl.1 rfl (Nat.le_of_ble_eq_true rfl) dL_law_583 ⟨Nat.le_of_ble_eq_true rfl, Nat.le_of_ble_eq_true rfl⟩) (fun H locs h => ?_)
  refine lv_aload_n hx hb dL_law_586 rfl (lv_at hl 2 rfl) ?_
  refine lv_aload_n hx hb dL_law_587 rfl (lv_at hl 0 rfl) ?_
  refine lv_iload_n hx hb dL_law_588 rfl (lv_at hl 3 rfl) ?_
  refine lv_iconst (v := 1) hx hb dL_law_589 (by decide) ?_
  refine lv_iadd hx hb dL_law_590 ?_
  refine va_sld hx hb X.2.2.2.1 X.2.2.2.2.1 hbA h.2.2 h1 dL_law_591 ?_
  refine z_goM X.2.2.1 (fun _ h => h) h (z_runV (wf := wM (am, G.2)) (As := [.int (xs (x3 + 1).toNatClampNeg)]) (rest := [.int r]) C h.2.1 (wl_D X.2.2.1.2.2.1 X.2.2.1.2.2.2.1) (c_X8_rests l D (am, G.2) (xs (x3 + 1).toNatClampNeg) σm (r, σm1) hm _) lkL_83 rfl ⟨rfl, rfl, Nat.le_of_ble_eq_true rfl, Nat.le_of_ble_eq_true rfl⟩ (va_recv C.2.2.2.2.2.2 h.2.1 (ci := 8) (q0 := 0) rfl rfl) hl.1 rfl (Nat.le_of_ble_eq_true rfl) dL_law_592 ⟨Nat.le_of_ble_eq_true rfl, Nat.le_of_ble_eq_true rfl⟩) (fun H locs h => ?_)
  refine lv_icmp_eq (tgt := 860) hx hb dL_law_595 (by decide) (fun _ => ?_) (fun h9 => absurd rfl h9)
  exact nx _ _ _ _ _ hI h hl
set_option maxHeartbeats 4000000 in
theorem lc_16 {p : Program} {l : Launch} {e : Env} {s : State} {m : MethodId} {below : List Frame} {meth : Method} {c : Code} {b L : Nat} {xs : Nat → Int32} {D : va_G} {G : Geo} {am K V : Nat → Nat} {I : St → St → Prop} (X : Lx p s m meth c b L xs D G am K V) {x3 : Int32} (h1 : vp_in (x3 + 1) L) (h2 : vp_in (x3 + 2) L) {σc σm : St} (st : ∃ (r : Int32) (σc1 σm1 : St), f_X7_loud (xs (x3 + 1).toNatClampNeg) (xs (x3 + 2).toNatClampNeg) σc = some (r, σc1) ∧ f_X8_loud (xs (x3 + 1).toNatClampNeg) (xs (x3 + 2).toNatClampNeg) σm = some (r, σm1) ∧ I σc1 σm1) (nx : ∀ (σc σm : St) (H : Heap) (locs : List Loc) (ls : Array Slot), I σc σm → Lst D (AL s) s.heap G am σc σm H locs → lv_has ls 4 [(0, .ref b), (1, .ref (G.1 0)), (2, .ref (am 0)), (3, .int x3)] → W p l e room_1 s m #[Value.ref b] below meth c H locs 103 4117 (lw_Z below #[Value.ref b] s) (F0 m 860 ls [])) (H : Heap) (locs : List Loc) (ls : Array Slot) (h : Lst D (AL s) s.heap G am σc σm H locs) (hl : lv_has ls 4 [(0, .ref b), (1, .ref (G.1 0)), (2, .ref (am 0)), (3, .int x3)]) : W p l e room_1 s m #[Value.ref b] below meth c H locs 103 4117 (lw_Z below #[Value.ref b] s) (F0 m 600 ls []) := by
  obtain ⟨r, σc1, σm1, hc, hm, hI⟩ := st
  have C := X.1
  have hx := C.1
  have hb := C.2.1
  have hbA : ¬ AL s b := Nat.not_le.mpr X.2.2.2.2.1
  refine lv_aload_n hx hb dL_law_600 rfl (lv_at hl 1 rfl) ?_
  refine lv_aload_n hx hb dL_law_601 rfl (lv_at hl 0 rfl) ?_
  refine lv_iload_n hx hb dL_law_602 rfl (lv_at hl 3 rfl) ?_
  refine lv_iconst (v := 1) hx hb dL_law_603 (by decide) ?_
  refine lv_iadd hx hb dL_law_604 ?_
  refine va_sld hx hb X.2.2.2.1 X.2.2.2.2.1 hbA h.2.2 h1 dL_law_605 ?_
  refine lv_aload_n hx hb dL_law_606 rfl (lv_at hl 0 rfl) ?_
  refine lv_iload_n hx hb dL_law_607 rfl (lv_at hl 3 rfl) ?_
  refine lv_iconst (v := 2) hx hb dL_law_608 (by decide) ?_
  refine lv_iadd hx hb dL_law_609 ?_
  refine va_sld hx hb X.2.2.2.1 X.2.2.2.2.1 hbA h.2.2 h2 dL_law_610 ?_
  refine z_goC X.2.2.1 (fun _ h => h) h (z_runV (wf := wC G) (As := [.int (xs (x3 + 1).toNatClampNeg), .int (xs (x3 + 2).toNatClampNeg)]) (rest := []) C h.1 (wl_D X.2.2.1.1 X.2.2.1.2.1) (c_X7_loud l D G (xs (x3 + 1).toNatClampNeg) (xs (x3 + 2).toNatClampNeg) σc (r, σc1) hc _) lkL_84 rfl ⟨rfl, rfl, Nat.le_of_ble_eq_true rfl, Nat.le_of_ble_eq_true rfl⟩ (va_recv C.2.2.2.2.2.2 h.1 (ci := 7) (q0 := 0) rfl rfl) hl.1 rfl (Nat.le_of_ble_eq_true rfl) dL_law_611 ⟨Nat.le_of_ble_eq_true rfl, Nat.le_of_ble_eq_true rfl⟩) (fun H locs h => ?_)
  refine lv_aload_n hx hb dL_law_614 rfl (lv_at hl 2 rfl) ?_
  refine lv_aload_n hx hb dL_law_615 rfl (lv_at hl 0 rfl) ?_
  refine lv_iload_n hx hb dL_law_616 rfl (lv_at hl 3 rfl) ?_
  refine lv_iconst (v := 1) hx hb dL_law_617 (by decide) ?_
  refine lv_iadd hx hb dL_law_618 ?_
  refine va_sld hx hb X.2.2.2.1 X.2.2.2.2.1 hbA h.2.2 h1 dL_law_619 ?_
  refine lv_aload_n hx hb dL_law_620 rfl (lv_at hl 0 rfl) ?_
  refine lv_iload_n hx hb dL_law_621 rfl (lv_at hl 3 rfl) ?_
  refine lv_iconst (v := 2) hx hb dL_law_622 (by decide) ?_
  refine lv_iadd hx hb dL_law_623 ?_
  refine va_sld hx hb X.2.2.2.1 X.2.2.2.2.1 hbA h.2.2 h2 dL_law_624 ?_
  refine z_goM X.2.2.1 (fun _ h => h) h (z_runV (wf := wM (am, G.2)) (As := [.int (xs (x3 + 1).toNatClampNeg), .int (xs (x3 + 2).toNatClampNeg)]) (rest := [.int r]) C h.2.1 (wl_D X.2.2.1.2.2.1 X.2.2.1.2.2.2.1) (c_X8_loud l D (am, G.2) (xs (x3 + 1).toNatClampNeg) (xs (x3 + 2).toNatClampNeg) σm (r, σm1) hm _) lkL_87 rfl ⟨rfl, rfl, Nat.le_of_ble_eq_true rfl, Nat.le_of_ble_eq_true rfl⟩ (va_recv C.2.2.2.2.2.2 h.2.1 (ci := 8) (q0 := 0) rfl rfl) hl.1 rfl (Nat.le_of_ble_eq_true rfl) dL_law_625 ⟨Nat.le_of_ble_eq_true rfl, Nat.le_of_ble_eq_true rfl⟩) (fun H locs h => ?_)
  refine lv_icmp_eq (tgt := 860) hx hb dL_law_628 (by decide) (fun _ => ?_) (fun h9 => absurd rfl h9)
  exact nx _ _ _ _ _ hI h hl
set_option maxHeartbeats 4000000 in
theorem lc_17 {p : Program} {l : Launch} {e : Env} {s : State} {m : MethodId} {below : List Frame} {meth : Method} {c : Code} {b L : Nat} {xs : Nat → Int32} {D : va_G} {G : Geo} {am K V : Nat → Nat} {I : St → St → Prop} (X : Lx p s m meth c b L xs D G am K V) {x3 : Int32} (h1 : vp_in (x3 + 1) L) (h2 : vp_in (x3 + 2) L) {σc σm : St} (st : ∃ (r : Int32) (σc1 σm1 : St), f_X7_work (xs (x3 + 1).toNatClampNeg) (xs (x3 + 2).toNatClampNeg) σc = some (r, σc1) ∧ f_X8_work (xs (x3 + 1).toNatClampNeg) (xs (x3 + 2).toNatClampNeg) σm = some (r, σm1) ∧ I σc1 σm1) (nx : ∀ (σc σm : St) (H : Heap) (locs : List Loc) (ls : Array Slot), I σc σm → Lst D (AL s) s.heap G am σc σm H locs → lv_has ls 4 [(0, .ref b), (1, .ref (G.1 0)), (2, .ref (am 0)), (3, .int x3)] → W p l e room_1 s m #[Value.ref b] below meth c H locs 103 4117 (lw_Z below #[Value.ref b] s) (F0 m 860 ls [])) (H : Heap) (locs : List Loc) (ls : Array Slot) (h : Lst D (AL s) s.heap G am σc σm H locs) (hl : lv_has ls 4 [(0, .ref b), (1, .ref (G.1 0)), (2, .ref (am 0)), (3, .int x3)]) : W p l e room_1 s m #[Value.ref b] below meth c H locs 103 4117 (lw_Z below #[Value.ref b] s) (F0 m 633 ls []) := by
  obtain ⟨r, σc1, σm1, hc, hm, hI⟩ := st
  have C := X.1
  have hx := C.1
  have hb := C.2.1
  have hbA : ¬ AL s b := Nat.not_le.mpr X.2.2.2.2.1
  refine lv_aload_n hx hb dL_law_633 rfl (lv_at hl 1 rfl) ?_
  refine lv_aload_n hx hb dL_law_634 rfl (lv_at hl 0 rfl) ?_
  refine lv_iload_n hx hb dL_law_635 rfl (lv_at hl 3 rfl) ?_
  refine lv_iconst (v := 1) hx hb dL_law_636 (by decide) ?_
  refine lv_iadd hx hb dL_law_637 ?_
  refine va_sld hx hb X.2.2.2.1 X.2.2.2.2.1 hbA h.2.2 h1 dL_law_638 ?_
  refine lv_aload_n hx hb dL_law_639 rfl (lv_at hl 0 rfl) ?_
  refine lv_iload_n hx hb dL_law_640 rfl (lv_at hl 3 rfl) ?_
  refine lv_iconst (v := 2) hx hb dL_law_641 (by decide) ?_
  refine lv_iadd hx hb dL_law_642 ?_
  refine va_sld hx hb X.2.2.2.1 X.2.2.2.2.1 hbA h.2.2 h2 dL_law_643 ?_
  refine z_goC X.2.2.1 (fun _ h => h) h (z_runV (wf := wC G) (As := [.int (xs (x3 + 1).toNatClampNeg), .int (xs (x3 + 2).toNatClampNeg)]) (rest := []) C h.1 (wl_D X.2.2.1.1 X.2.2.1.2.1) (c_X7_work l D G (xs (x3 + 1).toNatClampNeg) (xs (x3 + 2).toNatClampNeg) σc (r, σc1) hc _) lkL_88 rfl ⟨rfl, rfl, Nat.le_of_ble_eq_true rfl, Nat.le_of_ble_eq_true rfl⟩ (va_recv C.2.2.2.2.2.2 h.1 (ci := 7) (q0 := 0) rfl rfl) hl.1 rfl (Nat.le_of_ble_eq_true rfl) dL_law_644 ⟨Nat.le_of_ble_eq_true rfl, Nat.le_of_ble_eq_true rfl⟩) (fun H locs h => ?_)
  refine lv_aload_n hx hb dL_law_647 rfl (lv_at hl 2 rfl) ?_
  refine lv_aload_n hx hb dL_law_648 rfl (lv_at hl 0 rfl) ?_
  refine lv_iload_n hx hb dL_law_649 rfl (lv_at hl 3 rfl) ?_
  refine lv_iconst (v := 1) hx hb dL_law_650 (by decide) ?_
  refine lv_iadd hx hb dL_law_651 ?_
  refine va_sld hx hb X.2.2.2.1 X.2.2.2.2.1 hbA h.2.2 h1 dL_law_652 ?_
  refine lv_aload_n hx hb dL_law_653 rfl (lv_at hl 0 rfl) ?_
  refine lv_iload_n hx hb dL_law_654 rfl (lv_at hl 3 rfl) ?_
  refine lv_iconst (v := 2) hx hb dL_law_655 (by decide) ?_
  refine lv_iadd hx hb dL_law_656 ?_
  refine va_sld hx hb X.2.2.2.1 X.2.2.2.2.1 hbA h.2.2 h2 dL_law_657 ?_
  refine z_goM X.2.2.1 (fun _ h => h) h (z_runV (wf := wM (am, G.2)) (As := [.int (xs (x3 + 1).toNatClampNeg), .int (xs (x3 + 2).toNatClampNeg)]) (rest := [.int r]) C h.2.1 (wl_D X.2.2.1.2.2.1 X.2.2.1.2.2.2.1) (c_X8_work l D (am, G.2) (xs (x3 + 1).toNatClampNeg) (xs (x3 + 2).toNatClampNeg) σm (r, σm1) hm _) lkL_91 rfl ⟨rfl, rfl, Nat.le_of_ble_eq_true rfl, Nat.le_of_ble_eq_true rfl⟩ (va_recv C.2.2.2.2.2.2 h.2.1 (ci := 8) (q0 := 0) rfl rfl) hl.1 rfl (Nat.le_of_ble_eq_true rfl) dL_law_658 ⟨Nat.le_of_ble_eq_true rfl, Nat.le_of_ble_eq_true rfl⟩) (fun H locs h => ?_)
  refine lv_icmp_eq (tgt := 860) hx hb dL_law_661 (by decide) (fun _ => ?_) (fun h9 => absurd rfl h9)
  exact nx _ _ _ _ _ hI h hl
set_option maxHeartbeats 4000000 in
theorem lc_18 {p : Program} {l : Launch} {e : Env} {s : State} {m : MethodId} {below : List Frame} {meth : Method} {c : Code} {b L : Nat} {xs : Nat → Int32} {D : va_G} {G : Geo} {am K V : Nat → Nat} {I : St → St → Prop} (X : Lx p s m meth c b L xs D G am K V) {x3 : Int32} (h1 : vp_in (x3 + 1) L) (h2 : vp_in (x3 + 2) L) {σc σm : St} (st : ∃ (r : Int32) (σc1 σm1 : St), f_X7_likely (xs (x3 + 1).toNatClampNeg) (xs (x3 + 2).toNatClampNeg) σc = some (r, σc1) ∧ f_X8_likely (xs (x3 + 1).toNatClampNeg) (xs (x3 + 2).toNatClampNeg) σm = some (r, σm1) ∧ I σc1 σm1) (nx : ∀ (σc σm : St) (H : Heap) (locs : List Loc) (ls : Array Slot), I σc σm → Lst D (AL s) s.heap G am σc σm H locs → lv_has ls 4 [(0, .ref b), (1, .ref (G.1 0)), (2, .ref (am 0)), (3, .int x3)] → W p l e room_1 s m #[Value.ref b] below meth c H locs 103 4117 (lw_Z below #[Value.ref b] s) (F0 m 860 ls [])) (H : Heap) (locs : List Loc) (ls : Array Slot) (h : Lst D (AL s) s.heap G am σc σm H locs) (hl : lv_has ls 4 [(0, .ref b), (1, .ref (G.1 0)), (2, .ref (am 0)), (3, .int x3)]) : W p l e room_1 s m #[Value.ref b] below meth c H locs 103 4117 (lw_Z below #[Value.ref b] s) (F0 m 666 ls []) := by
  obtain ⟨r, σc1, σm1, hc, hm, hI⟩ := st
  have C := X.1
  have hx := C.1
  have hb := C.2.1
  have hbA : ¬ AL s b := Nat.not_le.mpr X.2.2.2.2.1
  refine lv_aload_n hx hb dL_law_666 rfl (lv_at hl 1 rfl) ?_
  refine lv_aload_n hx hb dL_law_667 rfl (lv_at hl 0 rfl) ?_
  refine lv_iload_n hx hb dL_law_668 rfl (lv_at hl 3 rfl) ?_
  refine lv_iconst (v := 1) hx hb dL_law_669 (by decide) ?_
  refine lv_iadd hx hb dL_law_670 ?_
  refine va_sld hx hb X.2.2.2.1 X.2.2.2.2.1 hbA h.2.2 h1 dL_law_671 ?_
  refine lv_aload_n hx hb dL_law_672 rfl (lv_at hl 0 rfl) ?_
  refine lv_iload_n hx hb dL_law_673 rfl (lv_at hl 3 rfl) ?_
  refine lv_iconst (v := 2) hx hb dL_law_674 (by decide) ?_
  refine lv_iadd hx hb dL_law_675 ?_
  refine va_sld hx hb X.2.2.2.1 X.2.2.2.2.1 hbA h.2.2 h2 dL_law_676 ?_
  refine z_goC X.2.2.1 (fun _ h => h) h (z_runV (wf := wC G) (As := [.int (xs (x3 + 1).toNatClampNeg), .int (xs (x3 + 2).toNatClampNeg)]) (rest := []) C h.1 (wl_D X.2.2.1.1 X.2.2.1.2.1) (c_X7_likely l D G (xs (x3 + 1).toNatClampNeg) (xs (x3 + 2).toNatClampNeg) σc (r, σc1) hc _) lkL_92 rfl ⟨rfl, rfl, Nat.le_of_ble_eq_true rfl, Nat.le_of_ble_eq_true rfl⟩ (va_recv C.2.2.2.2.2.2 h.1 (ci := 7) (q0 := 0) rfl rfl) hl.1 rfl (Nat.le_of_ble_eq_true rfl) dL_law_677 ⟨Nat.le_of_ble_eq_true rfl, Nat.le_of_ble_eq_true rfl⟩) (fun H locs h => ?_)
  refine lv_aload_n hx hb dL_law_680 rfl (lv_at hl 2 rfl) ?_
  refine lv_aload_n hx hb dL_law_681 rfl (lv_at hl 0 rfl) ?_
  refine lv_iload_n hx hb dL_law_682 rfl (lv_at hl 3 rfl) ?_
  refine lv_iconst (v := 1) hx hb dL_law_683 (by decide) ?_
  refine lv_iadd hx hb dL_law_684 ?_
  refine va_sld hx hb X.2.2.2.1 X.2.2.2.2.1 hbA h.2.2 h1 dL_law_685 ?_
  refine lv_aload_n hx hb dL_law_686 rfl (lv_at hl 0 rfl) ?_
  refine lv_iload_n hx hb dL_law_687 rfl (lv_at hl 3 rfl) ?_
  refine lv_iconst (v := 2) hx hb dL_law_688 (by decide) ?_
  refine lv_iadd hx hb dL_law_689 ?_
  refine va_sld hx hb X.2.2.2.1 X.2.2.2.2.1 hbA h.2.2 h2 dL_law_690 ?_
  refine z_goM X.2.2.1 (fun _ h => h) h (z_runV (wf := wM (am, G.2)) (As := [.int (xs (x3 + 1).toNatClampNeg), .int (xs (x3 + 2).toNatClampNeg)]) (rest := [.int r]) C h.2.1 (wl_D X.2.2.1.2.2.1 X.2.2.1.2.2.2.1) (c_X8_likely l D (am, G.2) (xs (x3 + 1).toNatClampNeg) (xs (x3 + 2).toNatClampNeg) σm (r, σm1) hm _) lkL_95 rfl ⟨rfl, rfl, Nat.le_of_ble_eq_true rfl, Nat.le_of_ble_eq_true rfl⟩ (va_recv C.2.2.2.2.2.2 h.2.1 (ci := 8) (q0 := 0) rfl rfl) hl.1 rfl (Nat.le_of_ble_eq_true rfl) dL_law_691 ⟨Nat.le_of_ble_eq_true rfl, Nat.le_of_ble_eq_true rfl⟩) (fun H locs h => ?_)
  refine lv_icmp_eq (tgt := 860) hx hb dL_law_694 (by decide) (fun _ => ?_) (fun h9 => absurd rfl h9)
  exact nx _ _ _ _ _ hI h hl
set_option maxHeartbeats 4000000 in
theorem lc_19 {p : Program} {l : Launch} {e : Env} {s : State} {m : MethodId} {below : List Frame} {meth : Method} {c : Code} {b L : Nat} {xs : Nat → Int32} {D : va_G} {G : Geo} {am K V : Nat → Nat} {I : St → St → Prop} (X : Lx p s m meth c b L xs D G am K V) {x3 : Int32} (h1 : vp_in (x3 + 1) L) (h2 : vp_in (x3 + 2) L) {σc σm : St} (st : ∃ (r : Int32) (σc1 σm1 : St), f_X7_tell (xs (x3 + 1).toNatClampNeg) (xs (x3 + 2).toNatClampNeg) σc = some (r, σc1) ∧ f_X8_tell (xs (x3 + 1).toNatClampNeg) (xs (x3 + 2).toNatClampNeg) σm = some (r, σm1) ∧ I σc1 σm1) (nx : ∀ (σc σm : St) (H : Heap) (locs : List Loc) (ls : Array Slot), I σc σm → Lst D (AL s) s.heap G am σc σm H locs → lv_has ls 4 [(0, .ref b), (1, .ref (G.1 0)), (2, .ref (am 0)), (3, .int x3)] → W p l e room_1 s m #[Value.ref b] below meth c H locs 103 4117 (lw_Z below #[Value.ref b] s) (F0 m 860 ls [])) (H : Heap) (locs : List Loc) (ls : Array Slot) (h : Lst D (AL s) s.heap G am σc σm H locs) (hl : lv_has ls 4 [(0, .ref b), (1, .ref (G.1 0)), (2, .ref (am 0)), (3, .int x3)]) : W p l e room_1 s m #[Value.ref b] below meth c H locs 103 4117 (lw_Z below #[Value.ref b] s) (F0 m 699 ls []) := by
  obtain ⟨r, σc1, σm1, hc, hm, hI⟩ := st
  have C := X.1
  have hx := C.1
  have hb := C.2.1
  have hbA : ¬ AL s b := Nat.not_le.mpr X.2.2.2.2.1
  refine lv_aload_n hx hb dL_law_699 rfl (lv_at hl 1 rfl) ?_
  refine lv_aload_n hx hb dL_law_700 rfl (lv_at hl 0 rfl) ?_
  refine lv_iload_n hx hb dL_law_701 rfl (lv_at hl 3 rfl) ?_
  refine lv_iconst (v := 1) hx hb dL_law_702 (by decide) ?_
  refine lv_iadd hx hb dL_law_703 ?_
  refine va_sld hx hb X.2.2.2.1 X.2.2.2.2.1 hbA h.2.2 h1 dL_law_704 ?_
  refine lv_aload_n hx hb dL_law_705 rfl (lv_at hl 0 rfl) ?_
  refine lv_iload_n hx hb dL_law_706 rfl (lv_at hl 3 rfl) ?_
  refine lv_iconst (v := 2) hx hb dL_law_707 (by decide) ?_
  refine lv_iadd hx hb dL_law_708 ?_
  refine va_sld hx hb X.2.2.2.1 X.2.2.2.2.1 hbA h.2.2 h2 dL_law_709 ?_
  refine z_goC X.2.2.1 (fun _ h => h) h (z_runV (wf := wC G) (As := [.int (xs (x3 + 1).toNatClampNeg), .int (xs (x3 + 2).toNatClampNeg)]) (rest := []) C h.1 (wl_D X.2.2.1.1 X.2.2.1.2.1) (c_X7_tell l D G (xs (x3 + 1).toNatClampNeg) (xs (x3 + 2).toNatClampNeg) σc (r, σc1) hc _) lkL_96 rfl ⟨rfl, rfl, Nat.le_of_ble_eq_true rfl, Nat.le_of_ble_eq_true rfl⟩ (va_recv C.2.2.2.2.2.2 h.1 (ci := 7) (q0 := 0) rfl rfl) hl.1 rfl (Nat.le_of_ble_eq_true rfl) dL_law_710 ⟨Nat.le_of_ble_eq_true rfl, Nat.le_of_ble_eq_true rfl⟩) (fun H locs h => ?_)
  refine lv_aload_n hx hb dL_law_713 rfl (lv_at hl 2 rfl) ?_
  refine lv_aload_n hx hb dL_law_714 rfl (lv_at hl 0 rfl) ?_
  refine lv_iload_n hx hb dL_law_715 rfl (lv_at hl 3 rfl) ?_
  refine lv_iconst (v := 1) hx hb dL_law_716 (by decide) ?_
  refine lv_iadd hx hb dL_law_717 ?_
  refine va_sld hx hb X.2.2.2.1 X.2.2.2.2.1 hbA h.2.2 h1 dL_law_718 ?_
  refine lv_aload_n hx hb dL_law_719 rfl (lv_at hl 0 rfl) ?_
  refine lv_iload_n hx hb dL_law_720 rfl (lv_at hl 3 rfl) ?_
  refine lv_iconst (v := 2) hx hb dL_law_721 (by decide) ?_
  refine lv_iadd hx hb dL_law_722 ?_
  refine va_sld hx hb X.2.2.2.1 X.2.2.2.2.1 hbA h.2.2 h2 dL_law_723 ?_
  refine z_goM X.2.2.1 (fun _ h => h) h (z_runV (wf := wM (am, G.2)) (As := [.int (xs (x3 + 1).toNatClampNeg), .int (xs (x3 + 2).toNatClampNeg)]) (rest := [.int r]) C h.2.1 (wl_D X.2.2.1.2.2.1 X.2.2.1.2.2.2.1) (c_X8_tell l D (am, G.2) (xs (x3 + 1).toNatClampNeg) (xs (x3 + 2).toNatClampNeg) σm (r, σm1) hm _) lkL_99 rfl ⟨rfl, rfl, Nat.le_of_ble_eq_true rfl, Nat.le_of_ble_eq_true rfl⟩ (va_recv C.2.2.2.2.2.2 h.2.1 (ci := 8) (q0 := 0) rfl rfl) hl.1 rfl (Nat.le_of_ble_eq_true rfl) dL_law_724 ⟨Nat.le_of_ble_eq_true rfl, Nat.le_of_ble_eq_true rfl⟩) (fun H locs h => ?_)
  refine lv_icmp_eq (tgt := 860) hx hb dL_law_727 (by decide) (fun _ => ?_) (fun h9 => absurd rfl h9)
  exact nx _ _ _ _ _ hI h hl
set_option maxHeartbeats 4000000 in
theorem lc_20 {p : Program} {l : Launch} {e : Env} {s : State} {m : MethodId} {below : List Frame} {meth : Method} {c : Code} {b L : Nat} {xs : Nat → Int32} {D : va_G} {G : Geo} {am K V : Nat → Nat} {I : St → St → Prop} (X : Lx p s m meth c b L xs D G am K V) {x3 : Int32}  {σc σm : St} (st : ∃ (r : Int32) (σc1 σm1 : St), f_X7_forget  σc = some (r, σc1) ∧ f_X8_forget  σm = some (r, σm1) ∧ I σc1 σm1) (nx : ∀ (σc σm : St) (H : Heap) (locs : List Loc) (ls : Array Slot), I σc σm → Lst D (AL s) s.heap G am σc σm H locs → lv_has ls 4 [(0, .ref b), (1, .ref (G.1 0)), (2, .ref (am 0)), (3, .int x3)] → W p l e room_1 s m #[Value.ref b] below meth c H locs 103 4117 (lw_Z below #[Value.ref b] s) (F0 m 860 ls [])) (H : Heap) (locs : List Loc) (ls : Array Slot) (h : Lst D (AL s) s.heap G am σc σm H locs) (hl : lv_has ls 4 [(0, .ref b), (1, .ref (G.1 0)), (2, .ref (am 0)), (3, .int x3)]) : W p l e room_1 s m #[Value.ref b] below meth c H locs 103 4117 (lw_Z below #[Value.ref b] s) (F0 m 732 ls []) := by
  obtain ⟨r, σc1, σm1, hc, hm, hI⟩ := st
  have C := X.1
  have hx := C.1
  have hb := C.2.1
  have hbA : ¬ AL s b := Nat.not_le.mpr X.2.2.2.2.1
  refine lv_aload_n hx hb dL_law_732 rfl (lv_at hl 1 rfl) ?_
  refine z_goC X.2.2.1 (fun _ h => h) h (z_runV (wf := wC G) (As := []) (rest := []) C h.1 (wl_D X.2.2.1.1 X.2.2.1.2.1) (c_X7_forget l D G  σc (r, σc1) hc _) lkL_100 rfl ⟨rfl, rfl, Nat.le_of_ble_eq_true rfl, Nat.le_of_ble_eq_true rfl⟩ (va_recv C.2.2.2.2.2.2 h.1 (ci := 7) (q0 := 0) rfl rfl) hl.1 rfl (Nat.le_of_ble_eq_true rfl) dL_law_733 ⟨Nat.le_of_ble_eq_true rfl, Nat.le_of_ble_eq_true rfl⟩) (fun H locs h => ?_)
  refine lv_aload_n hx hb dL_law_736 rfl (lv_at hl 2 rfl) ?_
  refine z_goM X.2.2.1 (fun _ h => h) h (z_runV (wf := wM (am, G.2)) (As := []) (rest := [.int r]) C h.2.1 (wl_D X.2.2.1.2.2.1 X.2.2.1.2.2.2.1) (c_X8_forget l D (am, G.2)  σm (r, σm1) hm _) lkL_103 rfl ⟨rfl, rfl, Nat.le_of_ble_eq_true rfl, Nat.le_of_ble_eq_true rfl⟩ (va_recv C.2.2.2.2.2.2 h.2.1 (ci := 8) (q0 := 0) rfl rfl) hl.1 rfl (Nat.le_of_ble_eq_true rfl) dL_law_737 ⟨Nat.le_of_ble_eq_true rfl, Nat.le_of_ble_eq_true rfl⟩) (fun H locs h => ?_)
  refine lv_icmp_eq (tgt := 860) hx hb dL_law_740 (by decide) (fun _ => ?_) (fun h9 => absurd rfl h9)
  exact nx _ _ _ _ _ hI h hl
set_option maxHeartbeats 4000000 in
theorem lc_21 {p : Program} {l : Launch} {e : Env} {s : State} {m : MethodId} {below : List Frame} {meth : Method} {c : Code} {b L : Nat} {xs : Nat → Int32} {D : va_G} {G : Geo} {am K V : Nat → Nat} {I : St → St → Prop} (X : Lx p s m meth c b L xs D G am K V) {x3 : Int32}  {σc σm : St} (st : ∃ (r : Int32) (σc1 σm1 : St), f_X7_lies  σc = some (r, σc1) ∧ f_X8_lies  σm = some (r, σm1) ∧ I σc1 σm1) (nx : ∀ (σc σm : St) (H : Heap) (locs : List Loc) (ls : Array Slot), I σc σm → Lst D (AL s) s.heap G am σc σm H locs → lv_has ls 4 [(0, .ref b), (1, .ref (G.1 0)), (2, .ref (am 0)), (3, .int x3)] → W p l e room_1 s m #[Value.ref b] below meth c H locs 103 4117 (lw_Z below #[Value.ref b] s) (F0 m 860 ls [])) (H : Heap) (locs : List Loc) (ls : Array Slot) (h : Lst D (AL s) s.heap G am σc σm H locs) (hl : lv_has ls 4 [(0, .ref b), (1, .ref (G.1 0)), (2, .ref (am 0)), (3, .int x3)]) : W p l e room_1 s m #[Value.ref b] below meth c H locs 103 4117 (lw_Z below #[Value.ref b] s) (F0 m 745 ls []) := by
  obtain ⟨r, σc1, σm1, hc, hm, hI⟩ := st
  have C := X.1
  have hx := C.1
  have hb := C.2.1
  have hbA : ¬ AL s b := Nat.not_le.mpr X.2.2.2.2.1
  refine lv_aload_n hx hb dL_law_745 rfl (lv_at hl 1 rfl) ?_
  refine z_goC X.2.2.1 (fun _ h => h) h (z_runV (wf := wC G) (As := []) (rest := []) C h.1 (wl_D X.2.2.1.1 X.2.2.1.2.1) (c_X7_lies l D G  σc (r, σc1) hc _) lkL_104 rfl ⟨rfl, rfl, Nat.le_of_ble_eq_true rfl, Nat.le_of_ble_eq_true rfl⟩ (va_recv C.2.2.2.2.2.2 h.1 (ci := 7) (q0 := 0) rfl rfl) hl.1 rfl (Nat.le_of_ble_eq_true rfl) dL_law_746 ⟨Nat.le_of_ble_eq_true rfl, Nat.le_of_ble_eq_true rfl⟩) (fun H locs h => ?_)
  refine lv_aload_n hx hb dL_law_749 rfl (lv_at hl 2 rfl) ?_
  refine z_goM X.2.2.1 (fun _ h => h) h (z_runV (wf := wM (am, G.2)) (As := []) (rest := [.int r]) C h.2.1 (wl_D X.2.2.1.2.2.1 X.2.2.1.2.2.2.1) (c_X8_lies l D (am, G.2)  σm (r, σm1) hm _) lkL_107 rfl ⟨rfl, rfl, Nat.le_of_ble_eq_true rfl, Nat.le_of_ble_eq_true rfl⟩ (va_recv C.2.2.2.2.2.2 h.2.1 (ci := 8) (q0 := 0) rfl rfl) hl.1 rfl (Nat.le_of_ble_eq_true rfl) dL_law_750 ⟨Nat.le_of_ble_eq_true rfl, Nat.le_of_ble_eq_true rfl⟩) (fun H locs h => ?_)
  refine lv_icmp_eq (tgt := 860) hx hb dL_law_753 (by decide) (fun _ => ?_) (fun h9 => absurd rfl h9)
  exact nx _ _ _ _ _ hI h hl
set_option maxHeartbeats 4000000 in
theorem lc_22 {p : Program} {l : Launch} {e : Env} {s : State} {m : MethodId} {below : List Frame} {meth : Method} {c : Code} {b L : Nat} {xs : Nat → Int32} {D : va_G} {G : Geo} {am K V : Nat → Nat} {I : St → St → Prop} (X : Lx p s m meth c b L xs D G am K V) {x3 : Int32} (h1 : vp_in (x3 + 1) L) (h2 : vp_in (x3 + 2) L) {σc σm : St} (st : ∃ (r : Int32) (σc1 σm1 : St), f_X7_fits (xs (x3 + 1).toNatClampNeg) (xs (x3 + 2).toNatClampNeg) σc = some (r, σc1) ∧ f_X8_fits (xs (x3 + 1).toNatClampNeg) (xs (x3 + 2).toNatClampNeg) σm = some (r, σm1) ∧ I σc1 σm1) (nx : ∀ (σc σm : St) (H : Heap) (locs : List Loc) (ls : Array Slot), I σc σm → Lst D (AL s) s.heap G am σc σm H locs → lv_has ls 4 [(0, .ref b), (1, .ref (G.1 0)), (2, .ref (am 0)), (3, .int x3)] → W p l e room_1 s m #[Value.ref b] below meth c H locs 103 4117 (lw_Z below #[Value.ref b] s) (F0 m 860 ls [])) (H : Heap) (locs : List Loc) (ls : Array Slot) (h : Lst D (AL s) s.heap G am σc σm H locs) (hl : lv_has ls 4 [(0, .ref b), (1, .ref (G.1 0)), (2, .ref (am 0)), (3, .int x3)]) : W p l e room_1 s m #[Value.ref b] below meth c H locs 103 4117 (lw_Z below #[Value.ref b] s) (F0 m 758 ls []) := by
  obtain ⟨r, σc1, σm1, hc, hm, hI⟩ := st
  have C := X.1
  have hx := C.1
  have hb := C.2.1
  have hbA : ¬ AL s b := Nat.not_le.mpr X.2.2.2.2.1
  refine lv_aload_n hx hb dL_law_758 rfl (lv_at hl 1 rfl) ?_
  refine lv_aload_n hx hb dL_law_759 rfl (lv_at hl 0 rfl) ?_
  refine lv_iload_n hx hb dL_law_760 rfl (lv_at hl 3 rfl) ?_
  refine lv_iconst (v := 1) hx hb dL_law_761 (by decide) ?_
  refine lv_iadd hx hb dL_law_762 ?_
  refine va_sld hx hb X.2.2.2.1 X.2.2.2.2.1 hbA h.2.2 h1 dL_law_763 ?_
  refine lv_aload_n hx hb dL_law_764 rfl (lv_at hl 0 rfl) ?_
  refine lv_iload_n hx hb dL_law_765 rfl (lv_at hl 3 rfl) ?_
  refine lv_iconst (v := 2) hx hb dL_law_766 (by decide) ?_
  refine lv_iadd hx hb dL_law_767 ?_
  refine va_sld hx hb X.2.2.2.1 X.2.2.2.2.1 hbA h.2.2 h2 dL_law_768 ?_
  refine z_goC X.2.2.1 (fun _ h => h) h (z_runV (wf := wC G) (As := [.int (xs (x3 + 1).toNatClampNeg), .int (xs (x3 + 2).toNatClampNeg)]) (rest := []) C h.1 (wl_D X.2.2.1.1 X.2.2.1.2.1) (c_X7_fits l D G (xs (x3 + 1).toNatClampNeg) (xs (x3 + 2).toNatClampNeg) σc (r, σc1) hc _) lkL_108 rfl ⟨rfl, rfl, Nat.le_of_ble_eq_true rfl, Nat.le_of_ble_eq_true rfl⟩ (va_recv C.2.2.2.2.2.2 h.1 (ci := 7) (q0 := 0) rfl rfl) hl.1 rfl (Nat.le_of_ble_eq_true rfl) dL_law_769 ⟨Nat.le_of_ble_eq_true rfl, Nat.le_of_ble_eq_true rfl⟩) (fun H locs h => ?_)
  refine lv_aload_n hx hb dL_law_772 rfl (lv_at hl 2 rfl) ?_
  refine lv_aload_n hx hb dL_law_773 rfl (lv_at hl 0 rfl) ?_
  refine lv_iload_n hx hb dL_law_774 rfl (lv_at hl 3 rfl) ?_
  refine lv_iconst (v := 1) hx hb dL_law_775 (by decide) ?_
  refine lv_iadd hx hb dL_law_776 ?_
  refine va_sld hx hb X.2.2.2.1 X.2.2.2.2.1 hbA h.2.2 h1 dL_law_777 ?_
  refine lv_aload_n hx hb dL_law_778 rfl (lv_at hl 0 rfl) ?_
  refine lv_iload_n hx hb dL_law_779 rfl (lv_at hl 3 rfl) ?_
  refine lv_iconst (v := 2) hx hb dL_law_780 (by decide) ?_
  refine lv_iadd hx hb dL_law_781 ?_
  refine va_sld hx hb X.2.2.2.1 X.2.2.2.2.1 hbA h.2.2 h2 dL_law_782 ?_
  refine z_goM X.2.2.1 (fun _ h => h) h (z_runV (wf := wM (am, G.2)) (As := [.int (xs (x3 + 1).toNatClampNeg), .int (xs (x3 + 2).toNatClampNeg)]) (rest := [.int r]) C h.2.1 (wl_D X.2.2.1.2.2.1 X.2.2.1.2.2.2.1) (c_X8_fits l D (am, G.2) (xs (x3 + 1).toNatClampNeg) (xs (x3 + 2).toNatClampNeg) σm (r, σm1) hm _) lkL_111 rfl ⟨rfl, rfl, Nat.le_of_ble_eq_true rfl, Nat.le_of_ble_eq_true rfl⟩ (va_recv C.2.2.2.2.2.2 h.2.1 (ci := 8) (q0 := 0) rfl rfl) hl.1 rfl (Nat.le_of_ble_eq_true rfl) dL_law_783 ⟨Nat.le_of_ble_eq_true rfl, Nat.le_of_ble_eq_true rfl⟩) (fun H locs h => ?_)
  refine lv_icmp_eq (tgt := 860) hx hb dL_law_786 (by decide) (fun _ => ?_) (fun h9 => absurd rfl h9)
  exact nx _ _ _ _ _ hI h hl
set_option maxHeartbeats 4000000 in
theorem lc_23 {p : Program} {l : Launch} {e : Env} {s : State} {m : MethodId} {below : List Frame} {meth : Method} {c : Code} {b L : Nat} {xs : Nat → Int32} {D : va_G} {G : Geo} {am K V : Nat → Nat} {I : St → St → Prop} (X : Lx p s m meth c b L xs D G am K V) {x3 : Int32} (h1 : vp_in (x3 + 1) L) {σc σm : St} (st : ∃ (r : Int32) (σc1 σm1 : St), f_X7_seed (xs (x3 + 1).toNatClampNeg) σc = some (r, σc1) ∧ f_X8_seed (xs (x3 + 1).toNatClampNeg) σm = some (r, σm1) ∧ I σc1 σm1) (nx : ∀ (σc σm : St) (H : Heap) (locs : List Loc) (ls : Array Slot), I σc σm → Lst D (AL s) s.heap G am σc σm H locs → lv_has ls 4 [(0, .ref b), (1, .ref (G.1 0)), (2, .ref (am 0)), (3, .int x3)] → W p l e room_1 s m #[Value.ref b] below meth c H locs 103 4117 (lw_Z below #[Value.ref b] s) (F0 m 860 ls [])) (H : Heap) (locs : List Loc) (ls : Array Slot) (h : Lst D (AL s) s.heap G am σc σm H locs) (hl : lv_has ls 4 [(0, .ref b), (1, .ref (G.1 0)), (2, .ref (am 0)), (3, .int x3)]) : W p l e room_1 s m #[Value.ref b] below meth c H locs 103 4117 (lw_Z below #[Value.ref b] s) (F0 m 791 ls []) := by
  obtain ⟨r, σc1, σm1, hc, hm, hI⟩ := st
  have C := X.1
  have hx := C.1
  have hb := C.2.1
  have hbA : ¬ AL s b := Nat.not_le.mpr X.2.2.2.2.1
  refine lv_aload_n hx hb dL_law_791 rfl (lv_at hl 1 rfl) ?_
  refine lv_aload_n hx hb dL_law_792 rfl (lv_at hl 0 rfl) ?_
  refine lv_iload_n hx hb dL_law_793 rfl (lv_at hl 3 rfl) ?_
  refine lv_iconst (v := 1) hx hb dL_law_794 (by decide) ?_
  refine lv_iadd hx hb dL_law_795 ?_
  refine va_sld hx hb X.2.2.2.1 X.2.2.2.2.1 hbA h.2.2 h1 dL_law_796 ?_
  refine z_goC X.2.2.1 (fun _ h => h) h (z_runV (wf := wC G) (As := [.int (xs (x3 + 1).toNatClampNeg)]) (rest := []) C h.1 (wl_D X.2.2.1.1 X.2.2.1.2.1) (c_X7_seed l D G (xs (x3 + 1).toNatClampNeg) σc (r, σc1) hc _) lkL_112 rfl ⟨rfl, rfl, Nat.le_of_ble_eq_true rfl, Nat.le_of_ble_eq_true rfl⟩ (va_recv C.2.2.2.2.2.2 h.1 (ci := 7) (q0 := 0) rfl rfl) hl.1 rfl (Nat.le_of_ble_eq_true rfl) dL_law_797 ⟨Nat.le_of_ble_eq_true rfl, Nat.le_of_ble_eq_true rfl⟩) (fun H locs h => ?_)
  refine lv_aload_n hx hb dL_law_800 rfl (lv_at hl 2 rfl) ?_
  refine lv_aload_n hx hb dL_law_801 rfl (lv_at hl 0 rfl) ?_
  refine lv_iload_n hx hb dL_law_802 rfl (lv_at hl 3 rfl) ?_
  refine lv_iconst (v := 1) hx hb dL_law_803 (by decide) ?_
  refine lv_iadd hx hb dL_law_804 ?_
  refine va_sld hx hb X.2.2.2.1 X.2.2.2.2.1 hbA h.2.2 h1 dL_law_805 ?_
  refine z_goM X.2.2.1 (fun _ h => h) h (z_runV (wf := wM (am, G.2)) (As := [.int (xs (x3 + 1).toNatClampNeg)]) (rest := [.int r]) C h.2.1 (wl_D X.2.2.1.2.2.1 X.2.2.1.2.2.2.1) (c_X8_seed l D (am, G.2) (xs (x3 + 1).toNatClampNeg) σm (r, σm1) hm _) lkL_115 rfl ⟨rfl, rfl, Nat.le_of_ble_eq_true rfl, Nat.le_of_ble_eq_true rfl⟩ (va_recv C.2.2.2.2.2.2 h.2.1 (ci := 8) (q0 := 0) rfl rfl) hl.1 rfl (Nat.le_of_ble_eq_true rfl) dL_law_806 ⟨Nat.le_of_ble_eq_true rfl, Nat.le_of_ble_eq_true rfl⟩) (fun H locs h => ?_)
  refine lv_icmp_eq (tgt := 860) hx hb dL_law_809 (by decide) (fun _ => ?_) (fun h9 => absurd rfl h9)
  exact nx _ _ _ _ _ hI h hl
set_option maxHeartbeats 4000000 in
theorem lc_24 {p : Program} {l : Launch} {e : Env} {s : State} {m : MethodId} {below : List Frame} {meth : Method} {c : Code} {b L : Nat} {xs : Nat → Int32} {D : va_G} {G : Geo} {am K V : Nat → Nat} {I : St → St → Prop} (X : Lx p s m meth c b L xs D G am K V) {x3 : Int32} (h1 : vp_in (x3 + 1) L) {σc σm : St} (st : ∃ (r : Int32) (σc1 σm1 : St), f_X7_keep (xs (x3 + 1).toNatClampNeg) σc = some (r, σc1) ∧ f_X8_keep (xs (x3 + 1).toNatClampNeg) σm = some (r, σm1) ∧ I σc1 σm1) (nx : ∀ (σc σm : St) (H : Heap) (locs : List Loc) (ls : Array Slot), I σc σm → Lst D (AL s) s.heap G am σc σm H locs → lv_has ls 4 [(0, .ref b), (1, .ref (G.1 0)), (2, .ref (am 0)), (3, .int x3)] → W p l e room_1 s m #[Value.ref b] below meth c H locs 103 4117 (lw_Z below #[Value.ref b] s) (F0 m 860 ls [])) (H : Heap) (locs : List Loc) (ls : Array Slot) (h : Lst D (AL s) s.heap G am σc σm H locs) (hl : lv_has ls 4 [(0, .ref b), (1, .ref (G.1 0)), (2, .ref (am 0)), (3, .int x3)]) : W p l e room_1 s m #[Value.ref b] below meth c H locs 103 4117 (lw_Z below #[Value.ref b] s) (F0 m 814 ls []) := by
  obtain ⟨r, σc1, σm1, hc, hm, hI⟩ := st
  have C := X.1
  have hx := C.1
  have hb := C.2.1
  have hbA : ¬ AL s b := Nat.not_le.mpr X.2.2.2.2.1
  refine lv_aload_n hx hb dL_law_814 rfl (lv_at hl 1 rfl) ?_
  refine lv_aload_n hx hb dL_law_815 rfl (lv_at hl 0 rfl) ?_
  refine lv_iload_n hx hb dL_law_816 rfl (lv_at hl 3 rfl) ?_
  refine lv_iconst (v := 1) hx hb dL_law_817 (by decide) ?_
  refine lv_iadd hx hb dL_law_818 ?_
  refine va_sld hx hb X.2.2.2.1 X.2.2.2.2.1 hbA h.2.2 h1 dL_law_819 ?_
  refine z_goC X.2.2.1 (fun _ h => h) h (z_runV (wf := wC G) (As := [.int (xs (x3 + 1).toNatClampNeg)]) (rest := []) C h.1 (wl_D X.2.2.1.1 X.2.2.1.2.1) (c_X7_keep l D G (xs (x3 + 1).toNatClampNeg) σc (r, σc1) hc _) lkL_116 rfl ⟨rfl, rfl, Nat.le_of_ble_eq_true rfl, Nat.le_of_ble_eq_true rfl⟩ (va_recv C.2.2.2.2.2.2 h.1 (ci := 7) (q0 := 0) rfl rfl) hl.1 rfl (Nat.le_of_ble_eq_true rfl) dL_law_820 ⟨Nat.le_of_ble_eq_true rfl, Nat.le_of_ble_eq_true rfl⟩) (fun H locs h => ?_)
  refine lv_aload_n hx hb dL_law_823 rfl (lv_at hl 2 rfl) ?_
  refine lv_aload_n hx hb dL_law_824 rfl (lv_at hl 0 rfl) ?_
  refine lv_iload_n hx hb dL_law_825 rfl (lv_at hl 3 rfl) ?_
  refine lv_iconst (v := 1) hx hb dL_law_826 (by decide) ?_
  refine lv_iadd hx hb dL_law_827 ?_
  refine va_sld hx hb X.2.2.2.1 X.2.2.2.2.1 hbA h.2.2 h1 dL_law_828 ?_
  refine z_goM X.2.2.1 (fun _ h => h) h (z_runV (wf := wM (am, G.2)) (As := [.int (xs (x3 + 1).toNatClampNeg)]) (rest := [.int r]) C h.2.1 (wl_D X.2.2.1.2.2.1 X.2.2.1.2.2.2.1) (c_X8_keep l D (am, G.2) (xs (x3 + 1).toNatClampNeg) σm (r, σm1) hm _) lkL_119 rfl ⟨rfl, rfl, Nat.le_of_ble_eq_true rfl, Nat.le_of_ble_eq_true rfl⟩ (va_recv C.2.2.2.2.2.2 h.2.1 (ci := 8) (q0 := 0) rfl rfl) hl.1 rfl (Nat.le_of_ble_eq_true rfl) dL_law_829 ⟨Nat.le_of_ble_eq_true rfl, Nat.le_of_ble_eq_true rfl⟩) (fun H locs h => ?_)
  refine lv_icmp_eq (tgt := 860) hx hb dL_law_832 (by decide) (fun _ => ?_) (fun h9 => absurd rfl h9)
  exact nx _ _ _ _ _ hI h hl
set_option maxHeartbeats 4000000 in
theorem lc_25 {p : Program} {l : Launch} {e : Env} {s : State} {m : MethodId} {below : List Frame} {meth : Method} {c : Code} {b L : Nat} {xs : Nat → Int32} {D : va_G} {G : Geo} {am K V : Nat → Nat} {I : St → St → Prop} (X : Lx p s m meth c b L xs D G am K V) {x3 : Int32} (h1 : vp_in (x3 + 1) L) {σc σm : St} (st : ∃ (r : Int32) (σc1 σm1 : St), f_X7_goBack (xs (x3 + 1).toNatClampNeg) σc = some (r, σc1) ∧ f_X8_goBack (xs (x3 + 1).toNatClampNeg) σm = some (r, σm1) ∧ I σc1 σm1) (nx : ∀ (σc σm : St) (H : Heap) (locs : List Loc) (ls : Array Slot), I σc σm → Lst D (AL s) s.heap G am σc σm H locs → lv_has ls 4 [(0, .ref b), (1, .ref (G.1 0)), (2, .ref (am 0)), (3, .int x3)] → W p l e room_1 s m #[Value.ref b] below meth c H locs 103 4117 (lw_Z below #[Value.ref b] s) (F0 m 860 ls [])) (H : Heap) (locs : List Loc) (ls : Array Slot) (h : Lst D (AL s) s.heap G am σc σm H locs) (hl : lv_has ls 4 [(0, .ref b), (1, .ref (G.1 0)), (2, .ref (am 0)), (3, .int x3)]) : W p l e room_1 s m #[Value.ref b] below meth c H locs 103 4117 (lw_Z below #[Value.ref b] s) (F0 m 837 ls []) := by
  obtain ⟨r, σc1, σm1, hc, hm, hI⟩ := st
  have C := X.1
  have hx := C.1
  have hb := C.2.1
  have hbA : ¬ AL s b := Nat.not_le.mpr X.2.2.2.2.1
  refine lv_aload_n hx hb dL_law_837 rfl (lv_at hl 1 rfl) ?_
  refine lv_aload_n hx hb dL_law_838 rfl (lv_at hl 0 rfl) ?_
  refine lv_iload_n hx hb dL_law_839 rfl (lv_at hl 3 rfl) ?_
  refine lv_iconst (v := 1) hx hb dL_law_840 (by decide) ?_
  refine lv_iadd hx hb dL_law_841 ?_
  refine va_sld hx hb X.2.2.2.1 X.2.2.2.2.1 hbA h.2.2 h1 dL_law_842 ?_
  refine z_goC X.2.2.1 (fun _ h => h) h (z_runV (wf := wC G) (As := [.int (xs (x3 + 1).toNatClampNeg)]) (rest := []) C h.1 (wl_D X.2.2.1.1 X.2.2.1.2.1) (c_X7_goBack l D G (xs (x3 + 1).toNatClampNeg) σc (r, σc1) hc _) lkL_120 rfl ⟨rfl, rfl, Nat.le_of_ble_eq_true rfl, Nat.le_of_ble_eq_true rfl⟩ (va_recv C.2.2.2.2.2.2 h.1 (ci := 7) (q0 := 0) rfl rfl) hl.1 rfl (Nat.le_of_ble_eq_true rfl) dL_law_843 ⟨Nat.le_of_ble_eq_true rfl, Nat.le_of_ble_eq_true rfl⟩) (fun H locs h => ?_)
  refine lv_aload_n hx hb dL_law_846 rfl (lv_at hl 2 rfl) ?_
  refine lv_aload_n hx hb dL_law_847 rfl (lv_at hl 0 rfl) ?_
  refine lv_iload_n hx hb dL_law_848 rfl (lv_at hl 3 rfl) ?_
  refine lv_iconst (v := 1) hx hb dL_law_849 (by decide) ?_
  refine lv_iadd hx hb dL_law_850 ?_
  refine va_sld hx hb X.2.2.2.1 X.2.2.2.2.1 hbA h.2.2 h1 dL_law_851 ?_
  refine z_goM X.2.2.1 (fun _ h => h) h (z_runV (wf := wM (am, G.2)) (As := [.int (xs (x3 + 1).toNatClampNeg)]) (rest := [.int r]) C h.2.1 (wl_D X.2.2.1.2.2.1 X.2.2.1.2.2.2.1) (c_X8_goBack l D (am, G.2) (xs (x3 + 1).toNatClampNeg) σm (r, σm1) hm _) lkL_123 rfl ⟨rfl, rfl, Nat.le_of_ble_eq_true rfl, Nat.le_of_ble_eq_true rfl⟩ (va_recv C.2.2.2.2.2.2 h.2.1 (ci := 8) (q0 := 0) rfl rfl) hl.1 rfl (Nat.le_of_ble_eq_true rfl) dL_law_852 ⟨Nat.le_of_ble_eq_true rfl, Nat.le_of_ble_eq_true rfl⟩) (fun H locs h => ?_)
  refine lv_icmp_eq (tgt := 860) hx hb dL_law_855 (by decide) (fun _ => ?_) (fun h9 => absurd rfl h9)
  exact nx _ _ _ _ _ hI h hl
set_option maxHeartbeats 4000000 in
theorem law_loop {p : Program} {l : Launch} {e : Env} {s : State} {m : MethodId} {below : List Frame} {meth : Method} {c : Code} {b L : Nat} {xs : Nat → Int32} {D : va_G} {G : Geo} {am K V : Nat → Nat} {I : St → St → Prop} (ok : OkAll I) (X : Lx p s m meth c b L xs D G am K V) : ∀ (n i : Nat) (x3 : Int32), i ≤ L → L + 1 ≤ i + n → x3 = nI i → ∀ (σc σm : St), I σc σm → ∀ (H : Heap) (locs : List Loc) (ls : Array Slot), Lst D (AL s) s.heap G am σc σm H locs → lv_has ls 4 [(0, .ref b), (1, .ref (G.1 0)), (2, .ref (am 0)), (3, .int x3)] → W p l e room_1 s m #[Value.ref b] below meth c H locs 103 4117 (lw_Z below #[Value.ref b] s) (F0 m 18 ls []) := by
  have C := X.1
  have hx := C.1
  have hb := C.2.1
  have hbA : ¬ AL s b := Nat.not_le.mpr X.2.2.2.2.1
  have hL : L ≤ 2048 := X.2.2.2.2.2.1
  intro n
  induction n with
  | zero => intro i x3 h1 h2; exact absurd h2 (by omega)
  | succ n ih =>
    intro i x3 hi hin ex σc σm hI H locs ls h hl
    refine lv_iload_n hx hb dL_law_18 rfl (lv_at hl 3 rfl) ?_
    refine lv_aload_n hx hb dL_law_19 rfl (lv_at hl 0 rfl) ?_
    refine va_slen hx hb X.2.2.2.1 X.2.2.2.2.1 hbA h.2.2 dL_law_20 ?_
    refine lv_iconst (v := 4) hx hb dL_law_21 (by decide) ?_
    refine lv_isub hx hb dL_law_22 ?_
    have e4 : (Int32.ofNat L - 4).toInt = (L : Int) - 4 := pk_sub_toInt (a := L) (b := 4) (by omega) (by omega)
    have e3 : x3.toInt = (i : Int) := by rw [ex]; exact nI_toInt (by omega)
    refine lv_icmp_gt (tgt := 866) hx hb dL_law_23 (by decide) (fun c1 => ?_) (fun c1 => ?_)
    · refine lv_iconst (v := 1) hx hb dL_law_866 (by decide) ?_
      refine va_forget (fun q hq => h.2.2.2.2 q hq) ?_
      exact lw_ret hx hb X.2.1 C.2.2.2.2.2.1 dL_law_867
    · have hlt : i + 4 ≤ L := by
        have h9 : ¬ (Int32.ofNat L - 4).toInt < x3.toInt := fun q => c1 (Int32.lt_iff_toInt_lt.mpr q)
        rw [e4, e3] at h9
        omega
      have h0 : vp_in x3 L := by rw [ex]; exact vp_in_nI (by omega) (by omega)
      have h1 : vp_in (x3 + 1) L := by rw [ex, nI_1]; exact vp_in_nI (by omega) (by omega)
      have h2 : vp_in (x3 + 2) L := by rw [ex, show (2 : Int32) = nI 2 from rfl, nI_add]; exact vp_in_nI (by omega) (by omega)
      have h3 : vp_in (x3 + 3) L := by rw [ex, show (3 : Int32) = nI 3 from rfl, nI_add]; exact vp_in_nI (by omega) (by omega)
      have nx : ∀ (σc σm : St) (H : Heap) (locs : List Loc) (ls : Array Slot), I σc σm → Lst D (AL s) s.heap G am σc σm H locs → lv_has ls 4 [(0, .ref b), (1, .ref (G.1 0)), (2, .ref (am 0)), (3, .int x3)] → W p l e room_1 s m #[Value.ref b] below meth c H locs 103 4117 (lw_Z below #[Value.ref b] s) (F0 m 860 ls []) := by
        intro σc σm H locs ls hI h hl
        refine lv_iinc (v := x3 + 4) (lv' := [(3, .int (x3 + 4)), (0, .ref b), (1, .ref (G.1 0)), (2, .ref (am 0))]) hx hb dL_law_860 hl (k := 3) rfl rfl (by decide) rfl (fun ls hl => ?_)
        refine lv_goto (tgt := 18) hx hb dL_law_863 (by decide) ?_
        exact ih (i + 4) (x3 + 4) hlt (by omega) (by rw [ex, show (4 : Int32) = nI 4 from rfl, nI_add]) σc σm hI H locs ls h (lv_sub hl [1, 2, 3, 0] rfl)
      refine lv_aload_n hx hb dL_law_26 rfl (lv_at hl 0 rfl) ?_
      refine lv_iload_n hx hb dL_law_27 rfl (lv_at hl 3 rfl) ?_
      refine va_sld hx hb X.2.2.2.1 X.2.2.2.2.1 hbA h.2.2 h0 dL_law_28 ?_
      refine lv_bipush (v := 31) hx hb dL_law_29 (by decide) ?_
      refine lv_iand hx hb dL_law_31 ?_
      refine lv_topi (fun v ev => ?_)
      obtain ⟨k0, k1, k2, k3, k4, k5, k6, k7, k8, k9, k10, k11, k12, k13, k14, k15, k16, k17, k18, k19, k20, k21, k22, k23, k24, k25⟩ := ok σc σm hI
      by_cases e10 : v = 0
      · refine lv_tableIn (off := 120) (tgt := 152) hx hb dL_law_32 (by rw [e10]; decide) (by rw [e10]; decide) (by rw [e10]; rfl) (by decide) ?_
        exact lc_0 X h1 h2 h3 (k0 (xs (x3 + 1).toNatClampNeg) ((((xs (x3 + 2).toNatClampNeg).toInt64) <<< ((32 : Int32).toInt64 &&& 63)) ||| (((xs (x3 + 3).toNatClampNeg).toInt64) &&& 4294967295))) nx H locs ls h hl
      have n10 := lv_neT e10 (show (0 : Int32).toInt = 0 by decide)
      by_cases e11 : v = 1
      · refine lv_tableIn (off := 183) (tgt := 215) hx hb dL_law_32 (by rw [e11]; decide) (by rw [e11]; decide) (by rw [e11]; rfl) (by decide) ?_
        exact lc_1 X  (k1 ) nx H locs ls h hl
      have n11 := lv_neT e11 (show (1 : Int32).toInt = 1 by decide)
      by_cases e12 : v = 2
      · refine lv_tableIn (off := 196) (tgt := 228) hx hb dL_law_32 (by rw [e12]; decide) (by rw [e12]; decide) (by rw [e12]; rfl) (by decide) ?_
        exact lc_2 X  (k2 ) nx H locs ls h hl
      have n12 := lv_neT e12 (show (2 : Int32).toInt = 2 by decide)
      by_cases e13 : v = 3
      · refine lv_tableIn (off := 209) (tgt := 241) hx hb dL_law_32 (by rw [e13]; decide) (by rw [e13]; decide) (by rw [e13]; rfl) (by decide) ?_
        exact lc_3 X h1 (k3 (xs (x3 + 1).toNatClampNeg)) nx H locs ls h hl
      have n13 := lv_neT e13 (show (3 : Int32).toInt = 3 by decide)
      by_cases e14 : v = 4
      · refine lv_tableIn (off := 232) (tgt := 264) hx hb dL_law_32 (by rw [e14]; decide) (by rw [e14]; decide) (by rw [e14]; rfl) (by decide) ?_
        exact lc_4 X h1 h2 (k4 (xs (x3 + 1).toNatClampNeg) (xs (x3 + 2).toNatClampNeg)) nx H locs ls h hl
      have n14 := lv_neT e14 (show (4 : Int32).toInt = 4 by decide)
      by_cases e15 : v = 5
      · refine lv_tableIn (off := 265) (tgt := 297) hx hb dL_law_32 (by rw [e15]; decide) (by rw [e15]; decide) (by rw [e15]; rfl) (by decide) ?_
        exact lc_5 X h1 h2 (k5 (xs (x3 + 1).toNatClampNeg) (xs (x3 + 2).toNatClampNeg)) nx H locs ls h hl
      have n15 := lv_neT e15 (show (5 : Int32).toInt = 5 by decide)
      by_cases e16 : v = 6
      · refine lv_tableIn (off := 298) (tgt := 330) hx hb dL_law_32 (by rw [e16]; decide) (by rw [e16]; decide) (by rw [e16]; rfl) (by decide) ?_
        exact lc_6 X h1 h2 (k6 (xs (x3 + 1).toNatClampNeg) (xs (x3 + 2).toNatClampNeg)) nx H locs ls h hl
      have n16 := lv_neT e16 (show (6 : Int32).toInt = 6 by decide)
      by_cases e17 : v = 7
      · refine lv_tableIn (off := 331) (tgt := 363) hx hb dL_law_32 (by rw [e17]; decide) (by rw [e17]; decide) (by rw [e17]; rfl) (by decide) ?_
        exact lc_7 X h1 h2 h3 (k7 (xs (x3 + 1).toNatClampNeg) (xs (x3 + 2).toNatClampNeg) (xs (x3 + 3).toNatClampNeg)) nx H locs ls h hl
      have n17 := lv_neT e17 (show (7 : Int32).toInt = 7 by decide)
      by_cases e18 : v = 8
      · refine lv_tableIn (off := 374) (tgt := 406) hx hb dL_law_32 (by rw [e18]; decide) (by rw [e18]; decide) (by rw [e18]; rfl) (by decide) ?_
        exact lc_8 X  (k8 ) nx H locs ls h hl
      have n18 := lv_neT e18 (show (8 : Int32).toInt = 8 by decide)
      by_cases e19 : v = 9
      · refine lv_tableIn (off := 387) (tgt := 419) hx hb dL_law_32 (by rw [e19]; decide) (by rw [e19]; decide) (by rw [e19]; rfl) (by decide) ?_
        exact lc_9 X h1 (k9 (xs (x3 + 1).toNatClampNeg)) nx H locs ls h hl
      have n19 := lv_neT e19 (show (9 : Int32).toInt = 9 by decide)
      by_cases e20 : v = 10
      · refine lv_tableIn (off := 410) (tgt := 442) hx hb dL_law_32 (by rw [e20]; decide) (by rw [e20]; decide) (by rw [e20]; rfl) (by decide) ?_
        exact lc_10 X h1 (k10 (xs (x3 + 1).toNatClampNeg)) nx H locs ls h hl
      have n20 := lv_neT e20 (show (10 : Int32).toInt = 10 by decide)
      by_cases e21 : v = 11
      · refine lv_tableIn (off := 433) (tgt := 465) hx hb dL_law_32 (by rw [e21]; decide) (by rw [e21]; decide) (by rw [e21]; rfl) (by decide) ?_
        exact lc_11 X h1 h2 (k11 (xs (x3 + 1).toNatClampNeg) (xs (x3 + 2).toNatClampNeg)) nx H locs ls h hl
      have n21 := lv_neT e21 (show (11 : Int32).toInt = 11 by decide)
      by_cases e22 : v = 12
      · refine lv_tableIn (off := 466) (tgt := 498) hx hb dL_law_32 (by rw [e22]; decide) (by rw [e22]; decide) (by rw [e22]; rfl) (by decide) ?_
        exact lc_12 X h1 (k12 (xs (x3 + 1).toNatClampNeg)) nx H locs ls h hl
      have n22 := lv_neT e22 (show (12 : Int32).toInt = 12 by decide)
      by_cases e23 : v = 13
      · refine lv_tableIn (off := 489) (tgt := 521) hx hb dL_law_32 (by rw [e23]; decide) (by rw [e23]; decide) (by rw [e23]; rfl) (by decide) ?_
        exact lc_13 X h1 (k13 (xs (x3 + 1).toNatClampNeg)) nx H locs ls h hl
      have n23 := lv_neT e23 (show (13 : Int32).toInt = 13 by decide)
      by_cases e24 : v = 14
      · refine lv_tableIn (off := 512) (tgt := 544) hx hb dL_law_32 (by rw [e24]; decide) (by rw [e24]; decide) (by rw [e24]; rfl) (by decide) ?_
        exact lc_14 X h1 h2 (k14 (xs (x3 + 1).toNatClampNeg) (xs (x3 + 2).toNatClampNeg)) nx H locs ls h hl
      have n24 := lv_neT e24 (show (14 : Int32).toInt = 14 by decide)
      by_cases e25 : v = 15
      · refine lv_tableIn (off := 545) (tgt := 577) hx hb dL_law_32 (by rw [e25]; decide) (by rw [e25]; decide) (by rw [e25]; rfl) (by decide) ?_
        exact lc_15 X h1 (k15 (xs (x3 + 1).toNatClampNeg)) nx H locs ls h hl
      have n25 := lv_neT e25 (show (15 : Int32).toInt = 15 by decide)
      by_cases e26 : v = 16
      · refine lv_tableIn (off := 568) (tgt := 600) hx hb dL_law_32 (by rw [e26]; decide) (by rw [e26]; decide) (by rw [e26]; rfl) (by decide) ?_
        exact lc_16 X h1 h2 (k16 (xs (x3 + 1).toNatClampNeg) (xs (x3 + 2).toNatClampNeg)) nx H locs ls h hl
      have n26 := lv_neT e26 (show (16 : Int32).toInt = 16 by decide)
      by_cases e27 : v = 17
      · refine lv_tableIn (off := 601) (tgt := 633) hx hb dL_law_32 (by rw [e27]; decide) (by rw [e27]; decide) (by rw [e27]; rfl) (by decide) ?_
        exact lc_17 X h1 h2 (k17 (xs (x3 + 1).toNatClampNeg) (xs (x3 + 2).toNatClampNeg)) nx H locs ls h hl
      have n27 := lv_neT e27 (show (17 : Int32).toInt = 17 by decide)
      by_cases e28 : v = 18
      · refine lv_tableIn (off := 634) (tgt := 666) hx hb dL_law_32 (by rw [e28]; decide) (by rw [e28]; decide) (by rw [e28]; rfl) (by decide) ?_
        exact lc_18 X h1 h2 (k18 (xs (x3 + 1).toNatClampNeg) (xs (x3 + 2).toNatClampNeg)) nx H locs ls h hl
      have n28 := lv_neT e28 (show (18 : Int32).toInt = 18 by decide)
      by_cases e29 : v = 19
      · refine lv_tableIn (off := 667) (tgt := 699) hx hb dL_law_32 (by rw [e29]; decide) (by rw [e29]; decide) (by rw [e29]; rfl) (by decide) ?_
        exact lc_19 X h1 h2 (k19 (xs (x3 + 1).toNatClampNeg) (xs (x3 + 2).toNatClampNeg)) nx H locs ls h hl
      have n29 := lv_neT e29 (show (19 : Int32).toInt = 19 by decide)
      by_cases e30 : v = 20
      · refine lv_tableIn (off := 700) (tgt := 732) hx hb dL_law_32 (by rw [e30]; decide) (by rw [e30]; decide) (by rw [e30]; rfl) (by decide) ?_
        exact lc_20 X  (k20 ) nx H locs ls h hl
      have n30 := lv_neT e30 (show (20 : Int32).toInt = 20 by decide)
      by_cases e31 : v = 21
      · refine lv_tableIn (off := 713) (tgt := 745) hx hb dL_law_32 (by rw [e31]; decide) (by rw [e31]; decide) (by rw [e31]; rfl) (by decide) ?_
        exact lc_21 X  (k21 ) nx H locs ls h hl
      have n31 := lv_neT e31 (show (21 : Int32).toInt = 21 by decide)
      by_cases e32 : v = 22
      · refine lv_tableIn (off := 726) (tgt := 758) hx hb dL_law_32 (by rw [e32]; decide) (by rw [e32]; decide) (by rw [e32]; rfl) (by decide) ?_
        exact lc_22 X h1 h2 (k22 (xs (x3 + 1).toNatClampNeg) (xs (x3 + 2).toNatClampNeg)) nx H locs ls h hl
      have n32 := lv_neT e32 (show (22 : Int32).toInt = 22 by decide)
      by_cases e33 : v = 23
      · refine lv_tableIn (off := 759) (tgt := 791) hx hb dL_law_32 (by rw [e33]; decide) (by rw [e33]; decide) (by rw [e33]; rfl) (by decide) ?_
        exact lc_23 X h1 (k23 (xs (x3 + 1).toNatClampNeg)) nx H locs ls h hl
      have n33 := lv_neT e33 (show (23 : Int32).toInt = 23 by decide)
      by_cases e34 : v = 24
      · refine lv_tableIn (off := 782) (tgt := 814) hx hb dL_law_32 (by rw [e34]; decide) (by rw [e34]; decide) (by rw [e34]; rfl) (by decide) ?_
        exact lc_24 X h1 (k24 (xs (x3 + 1).toNatClampNeg)) nx H locs ls h hl
      have n34 := lv_neT e34 (show (24 : Int32).toInt = 24 by decide)
      by_cases e35 : v = 25
      · refine lv_tableIn (off := 805) (tgt := 837) hx hb dL_law_32 (by rw [e35]; decide) (by rw [e35]; decide) (by rw [e35]; rfl) (by decide) ?_
        exact lc_25 X h1 (k25 (xs (x3 + 1).toNatClampNeg)) nx H locs ls h hl
      have n35 := lv_neT e35 (show (25 : Int32).toInt = 25 by decide)
      refine lv_tableOut (tgt := 860) hx hb dL_law_32 (by omega) (by decide) ?_
      exact nx σc σm H locs ls hI h hl
