/-! ===== the kit's rows, over such worlds (own work) ===== -/
section XR
variable {p : Program} {l : Launch} {e : Env} {R : Room} {s : State} {m : MethodId} {args : Array Value} {below : List Frame} {meth : Method} {c : Code} {H : Heap} {locs : List Loc} {cells slots : Nat} {Q : State → Prop}
variable {pc : Nat} {ls : Array Slot} {rest st0 : List Value} {cc : ByteArray} {nL : Nat} {own : String} {D : va_G} {tys : List (ClassId × FieldType)} {A : Nat → Prop} {H0 : Heap} {N : Nat} {en : En} {ad : Nat → Nat} {σ σ' : St} {wf : St → va_W}
theorem x_topi {x y : Int32} (h : x = y) (k : W p l e R s m args below meth c H locs cells slots Q (F0 m pc ls (.int y :: rest))) : W p l e R s m args below meth c H locs cells slots Q (F0 m pc ls (.int x :: rest)) := by subst h; exact k
theorem x_topl {x y : Int64} (h : x = y) (k : W p l e R s m args below meth c H locs cells slots Q (F0 m pc ls (.long y :: rest))) : W p l e R s m args below meth c H locs cells slots Q (F0 m pc ls (.long x :: rest)) := by subst h; exact k
theorem x_get (C : Cx p s m args meth c cc nL own D tys) (h : Hs D A H0 (wl N en ad σ) H locs) (k j : Nat) (hk : k < N) {ci : Nat} {fs : List Value} {Cn : String} {T : u_T} {Nf : Nat} (he : en k (σ.1 k) (σ.2 k) = .inr (ci, fs)) (hc : vwCl[ci]? = some (Cn, T, Nf)) (hin : ∀ w ∈ u_ws Cn T Nf, w ∈ wA) (hj : j < Nf) {idx : Nat} (hl : Cond.fieldLink own idx (T j).1 (T j).2.1 (T j).2.2.1 ∈ wA) {v : Value} (hv : fs[j]? = some v) (hd : decode cc pc = .ok (.getfield idx, 3))
    (kk : W p l e R s m args below meth c H locs cells slots Q (F0 m (pc + 3) ls (v :: rest))) : W p l e R s m args below meth c H locs cells slots Q (F0 m pc ls (.ref (ad k) :: rest)) :=
  va_get C.1 C.2.1 C.2.2.2.2.1 hin C.2.2.2.1 C.2.2.2.2.2.2 h.1 k (wl_at hk he) hc j hj (C.2.2.2.2.1 _ hl) (fun _ x => x) hv hd kk
theorem x_puti (C : Cx p s m args meth c cc nL own D tys) (h : Hs D A H0 (wl N en ad σ) H locs) (k j : Nat) (hk : k < N) {ci : Nat} {fs : List Value} {Cn : String} {T : u_T} {Nf : Nat} {ty : Nat → FieldType} (he : en k (σ.1 k) (σ.2 k) = .inr (ci, fs)) (hc : vwCl[ci]? = some (Cn, T, Nf)) (hin : ∀ w ∈ u_ws Cn T Nf, w ∈ wA) (hty : ∀ k, k < Nf → parseFieldDescriptor (T k).2.2.1 = some (ty k)) (hnm : ∀ a, a < Nf → ∀ b, b < Nf → a ≠ b → (T a).2.1 ≠ (T b).2.1) (hj : j < Nf) {idx : Nat} (hl : Cond.fieldLink own idx (T j).1 (T j).2.1 (T j).2.2.1 ∈ wA) (hfin : (T j).2.2.2 = false) (hti : ty j = .int) (hlen : j < fs.length) {x : Int32} (he' : en k (upd (σ.1 k) j x) (σ.2 k) = .inr (ci, fs.set j (.int x))) (hd : decode cc pc = .ok (.putfield idx, 3)) (hσ : sI σ k j x = σ')
    (kk : ∀ (H1 : Heap) (locs1 : List Loc), Hs D A H0 (wl N en ad σ') H1 locs1 → W p l e R s m args below meth c H1 locs1 cells slots Q (F0 m (pc + 3) ls rest)) : W p l e R s m args below meth c H locs cells slots Q (F0 m pc ls (.int x :: .ref (ad k) :: rest)) := by
  subst hσ
  refine va_put C.1 C.2.1 C.2.2.2.2.1 hin ty hty hnm C.2.2.2.1 C.2.2.2.2.2.2 h.1 h.2.1 h.2.2.1 k (wl_at hk he) hc j hj (C.2.2.2.2.1 _ hl) (fun _ x => x) hfin (by rw [hty j hj, hti]) rfl rfl hlen hd (fun H1 locs1 hP hD hS => ?_)
  rw [wl_setR hk he'] at hP hD
  exact kk H1 locs1 ⟨hP, hD, hS, h.2.2.2⟩
theorem x_putl (C : Cx p s m args meth c cc nL own D tys) (h : Hs D A H0 (wl N en ad σ) H locs) (k j : Nat) (hk : k < N) {ci : Nat} {fs : List Value} {Cn : String} {T : u_T} {Nf : Nat} {ty : Nat → FieldType} (he : en k (σ.1 k) (σ.2 k) = .inr (ci, fs)) (hc : vwCl[ci]? = some (Cn, T, Nf)) (hin : ∀ w ∈ u_ws Cn T Nf, w ∈ wA) (hty : ∀ k, k < Nf → parseFieldDescriptor (T k).2.2.1 = some (ty k)) (hnm : ∀ a, a < Nf → ∀ b, b < Nf → a ≠ b → (T a).2.1 ≠ (T b).2.1) (hj : j < Nf) {idx : Nat} (hl : Cond.fieldLink own idx (T j).1 (T j).2.1 (T j).2.2.1 ∈ wA) (hfin : (T j).2.2.2 = false) (hti : ty j = .long) (hlen : j < fs.length) {x : Int64} (he' : en k (σ.1 k) (vp_updL (σ.2 k) j x) = .inr (ci, fs.set j (.long x))) (hd : decode cc pc = .ok (.putfield idx, 3)) (hσ : sJ σ k j x = σ')
    (kk : ∀ (H1 : Heap) (locs1 : List Loc), Hs D A H0 (wl N en ad σ') H1 locs1 → W p l e R s m args below meth c H1 locs1 cells slots Q (F0 m (pc + 3) ls rest)) : W p l e R s m args below meth c H locs cells slots Q (F0 m pc ls (.long x :: .ref (ad k) :: rest)) := by
  subst hσ
  refine va_put C.1 C.2.1 C.2.2.2.2.1 hin ty hty hnm C.2.2.2.1 C.2.2.2.2.2.2 h.1 h.2.1 h.2.2.1 k (wl_at hk he) hc j hj (C.2.2.2.2.1 _ hl) (fun _ x => x) hfin (by rw [hty j hj, hti]) rfl rfl hlen hd (fun H1 locs1 hP hD hS => ?_)
  rw [wl_setL hk he'] at hP hD
  exact kk H1 locs1 ⟨hP, hD, hS, h.2.2.2⟩
theorem x_iald (C : Cx p s m args meth c cc nL own D tys) (h : Hs D A H0 (wl N en ad σ) H locs) (k t0 : Nat) (hk : k < N) {cA : ClassId} {n : Nat} (he : en k (σ.1 k) (σ.2 k) = .inl (cA, n, .inl (σ.1 k))) (ht : tys[t0]? = some (cA, .int)) {i v : Int32} (hin : vp_in i n) (hv : σ.1 k i.toNatClampNeg = v) (hd : decode cc pc = .ok (.iaload, 1))
    (kk : W p l e R s m args below meth c H locs cells slots Q (F0 m (pc + 1) ls (.int v :: rest))) : W p l e R s m args below meth c H locs cells slots Q (F0 m pc ls (.int i :: .ref (ad k) :: rest)) := by
  subst hv
  exact va_iald C.1 C.2.1 C.2.2.2.2.2.2 h.1 k t0 (wl_at hk he) ht hin hd kk
theorem x_bald (C : Cx p s m args meth c cc nL own D tys) (h : Hs D A H0 (wl N en ad σ) H locs) (k t0 : Nat) (hk : k < N) {cA : ClassId} {n : Nat} (he : en k (σ.1 k) (σ.2 k) = .inl (cA, n, .inl (σ.1 k))) (ht : tys[t0]? = some (cA, .byte)) {i v : Int32} (hin : vp_in i n) (hv : σ.1 k i.toNatClampNeg = v) (hd : decode cc pc = .ok (.baload, 1))
    (kk : W p l e R s m args below meth c H locs cells slots Q (F0 m (pc + 1) ls (.int v :: rest))) : W p l e R s m args below meth c H locs cells slots Q (F0 m pc ls (.int i :: .ref (ad k) :: rest)) := by
  subst hv
  exact va_bald C.1 C.2.1 C.2.2.2.2.2.2 h.1 k t0 (wl_at hk he) ht hin hd kk
theorem x_zald (C : Cx p s m args meth c cc nL own D tys) (h : Hs D A H0 (wl N en ad σ) H locs) (k t0 : Nat) (hk : k < N) {cA : ClassId} {n : Nat} (he : en k (σ.1 k) (σ.2 k) = .inl (cA, n, .inl (σ.1 k))) (ht : tys[t0]? = some (cA, .boolean)) {i v : Int32} (hin : vp_in i n) (hv : σ.1 k i.toNatClampNeg = v) (hd : decode cc pc = .ok (.baload, 1))
    (kk : W p l e R s m args below meth c H locs cells slots Q (F0 m (pc + 1) ls (.int v :: rest))) : W p l e R s m args below meth c H locs cells slots Q (F0 m pc ls (.int i :: .ref (ad k) :: rest)) := by
  subst hv
  exact va_zald C.1 C.2.1 C.2.2.2.2.2.2 h.1 k t0 (wl_at hk he) ht hin hd kk
theorem x_lald (C : Cx p s m args meth c cc nL own D tys) (h : Hs D A H0 (wl N en ad σ) H locs) (k t0 : Nat) (hk : k < N) {cA : ClassId} {n : Nat} (he : en k (σ.1 k) (σ.2 k) = .inl (cA, n, .inr (.inl (σ.2 k)))) (ht : tys[t0]? = some (cA, .long)) {i : Int32} {v : Int64} (hin : vp_in i n) (hv : σ.2 k i.toNatClampNeg = v) (hd : decode cc pc = .ok (.laload, 1))
    (kk : W p l e R s m args below meth c H locs cells slots Q (F0 m (pc + 1) ls (.long v :: rest))) : W p l e R s m args below meth c H locs cells slots Q (F0 m pc ls (.int i :: .ref (ad k) :: rest)) := by
  subst hv
  exact va_lald C.1 C.2.1 C.2.2.2.2.2.2 h.1 k t0 (wl_at hk he) ht hin hd kk
theorem x_iast (C : Cx p s m args meth c cc nL own D tys) (h : Hs D A H0 (wl N en ad σ) H locs) (k t0 : Nat) (hk : k < N) {cA : ClassId} {n : Nat} (he : ∀ f, en k f (σ.2 k) = .inl (cA, n, .inl f)) (ht : tys[t0]? = some (cA, .int)) {i x : Int32} (hin : vp_in i n) (hd : decode cc pc = .ok (.iastore, 1)) (hσ : sI σ k i.toNatClampNeg x = σ')
    (kk : ∀ (H1 : Heap) (locs1 : List Loc), Hs D A H0 (wl N en ad σ') H1 locs1 → W p l e R s m args below meth c H1 locs1 cells slots Q (F0 m (pc + 1) ls rest)) : W p l e R s m args below meth c H locs cells slots Q (F0 m pc ls (.int x :: .int i :: .ref (ad k) :: rest)) := by
  subst hσ
  refine va_iast C.1 C.2.1 C.2.2.2.2.2.2 h.1 h.2.1 h.2.2.1 k t0 (wl_at hk (he _)) ht hin hd (fun H1 locs1 hP hD hS => ?_)
  rw [wl_setR hk (he _)] at hP hD
  exact kk H1 locs1 ⟨hP, hD, hS, h.2.2.2⟩
theorem x_bast (C : Cx p s m args meth c cc nL own D tys) (h : Hs D A H0 (wl N en ad σ) H locs) (k t0 : Nat) (hk : k < N) {cA : ClassId} {n : Nat} (he : ∀ f, en k f (σ.2 k) = .inl (cA, n, .inl f)) (ht : tys[t0]? = some (cA, .byte)) {i x : Int32} (hin : vp_in i n) (hd : decode cc pc = .ok (.bastore, 1)) (hσ : sI σ k i.toNatClampNeg (vp_nar .byte x) = σ')
    (kk : ∀ (H1 : Heap) (locs1 : List Loc), Hs D A H0 (wl N en ad σ') H1 locs1 → W p l e R s m args below meth c H1 locs1 cells slots Q (F0 m (pc + 1) ls rest)) : W p l e R s m args below meth c H locs cells slots Q (F0 m pc ls (.int x :: .int i :: .ref (ad k) :: rest)) := by
  subst hσ
  refine va_bast C.1 C.2.1 C.2.2.2.2.2.2 h.1 h.2.1 h.2.2.1 k t0 (wl_at hk (he _)) ht hin hd (fun H1 locs1 hP hD hS => ?_)
  rw [wl_setR hk (he _)] at hP hD
  exact kk H1 locs1 ⟨hP, hD, hS, h.2.2.2⟩
theorem x_zast (C : Cx p s m args meth c cc nL own D tys) (h : Hs D A H0 (wl N en ad σ) H locs) (k t0 : Nat) (hk : k < N) {cA : ClassId} {n : Nat} (he : ∀ f, en k f (σ.2 k) = .inl (cA, n, .inl f)) (ht : tys[t0]? = some (cA, .boolean)) {i x : Int32} (hin : vp_in i n) (hd : decode cc pc = .ok (.bastore, 1)) (hσ : sI σ k i.toNatClampNeg (vp_nar .boolean x) = σ')
    (kk : ∀ (H1 : Heap) (locs1 : List Loc), Hs D A H0 (wl N en ad σ') H1 locs1 → W p l e R s m args below meth c H1 locs1 cells slots Q (F0 m (pc + 1) ls rest)) : W p l e R s m args below meth c H locs cells slots Q (F0 m pc ls (.int x :: .int i :: .ref (ad k) :: rest)) := by
  subst hσ
  refine va_zast C.1 C.2.1 C.2.2.2.2.2.2 h.1 h.2.1 h.2.2.1 k t0 (wl_at hk (he _)) ht hin hd (fun H1 locs1 hP hD hS => ?_)
  rw [wl_setR hk (he _)] at hP hD
  exact kk H1 locs1 ⟨hP, hD, hS, h.2.2.2⟩
theorem x_last (C : Cx p s m args meth c cc nL own D tys) (h : Hs D A H0 (wl N en ad σ) H locs) (k t0 : Nat) (hk : k < N) {cA : ClassId} {n : Nat} (he : ∀ f, en k (σ.1 k) f = .inl (cA, n, .inr (.inl f))) (ht : tys[t0]? = some (cA, .long)) {i : Int32} {x : Int64} (hin : vp_in i n) (hd : decode cc pc = .ok (.lastore, 1)) (hσ : sJ σ k i.toNatClampNeg x = σ')
    (kk : ∀ (H1 : Heap) (locs1 : List Loc), Hs D A H0 (wl N en ad σ') H1 locs1 → W p l e R s m args below meth c H1 locs1 cells slots Q (F0 m (pc + 1) ls rest)) : W p l e R s m args below meth c H locs cells slots Q (F0 m pc ls (.long x :: .int i :: .ref (ad k) :: rest)) := by
  subst hσ
  refine va_last C.1 C.2.1 C.2.2.2.2.2.2 h.1 h.2.1 h.2.2.1 k t0 (wl_at hk (he _)) ht hin hd (fun H1 locs1 hP hD hS => ?_)
  rw [wl_setL hk (he _)] at hP hD
  exact kk H1 locs1 ⟨hP, hD, hS, h.2.2.2⟩
theorem x_alen (C : Cx p s m args meth c cc nL own D tys) (h : Hs D A H0 (wl N en ad σ) H locs) (k t0 : Nat) (hk : k < N) {cA : ClassId} {x : vp_A} {ty : FieldType} (he : en k (σ.1 k) (σ.2 k) = .inl (cA, x)) (ht : tys[t0]? = some (cA, ty)) {v : Int32} (hv : Int32.ofNat x.1 = v) (hd : decode cc pc = .ok (.arraylength, 1))
    (kk : W p l e R s m args below meth c H locs cells slots Q (F0 m (pc + 1) ls (.int v :: rest))) : W p l e R s m args below meth c H locs cells slots Q (F0 m pc ls (.ref (ad k) :: rest)) :=
  va_alen C.1 C.2.1 C.2.2.2.2.2.2 h.1 k t0 (wl_at hk he) ht hv hd kk
theorem x_copy (C : Cx p s m args meth c cc nL own D tys) (h : Hs D A H0 (wl N en ad σ) H locs) (hls : ls.size = nL) (k0 k1 t0 : Nat) (hk0 : k0 < N) (hk1 : k1 < N) {cA : ClassId} {n0 n1 : Nat} (he0 : en k0 (σ.1 k0) (σ.2 k0) = .inl (cA, n0, .inl (σ.1 k0))) (he1 : ∀ f, en k1 f (σ.2 k1) = .inl (cA, n1, .inl f)) (ht : tys[t0]? = some (cA, .int)) {idx : Nat} (hlk : Cond.methodLink own idx arraycopyName ∈ wA) (hna : Cond.native arraycopyName ∈ wA) (hst : Cond.static arraycopyName ∈ wA) (hin : Cond.initialized "java/lang/System" ∈ wA) {sp dp n : Int32} (hb : (¬ sp < 0) ∧ (¬ dp < 0) ∧ (¬ n < 0) ∧ sp.toNatClampNeg + n.toNatClampNeg ≤ n0 ∧ dp.toNatClampNeg + n.toNatClampNeg ≤ n1) (hfr : 1 ≤ R.frames) (hlo : (rest.map fun v => v.category).sum + (nativeFrameWords "java/lang/System" "arraycopy" 5 + 11) ≤ R.locals) (hd : decode cc pc = .ok (.invokestatic idx, 3)) (hσ : sR σ k1 (va_cpy (σ.1 k0) (σ.1 k1) sp.toNatClampNeg dp.toNatClampNeg n.toNatClampNeg) = σ')
    (kk : ∀ (H1 : Heap) (locs1 : List Loc), Hs D A H0 (wl N en ad σ') H1 locs1 → W p l e R s m args below meth c H1 locs1 cells slots Q (F0 m (pc + 3) ls rest)) : W p l e R s m args below meth c H locs cells slots Q (F0 m pc ls (.int n :: .int dp :: .ref (ad k1) :: .int sp :: .ref (ad k0) :: rest)) := by
  subst hσ
  refine va_copyi C.1 C.2.1 (C.2.2.1.trans hls.symm) C.2.2.2.1 (C.2.2.2.2.1 _ hlk) (C.2.2.2.2.1 _ hna) (C.2.2.2.2.1 _ hst) (C.2.2.2.2.1 _ hin) C.2.2.2.2.2.2 h.1 h.2.1 h.2.2.1 k0 k1 t0 t0 (wl_at hk0 he0) (wl_at hk1 (he1 _)) ht ht rfl hb.1 hb.2.1 hb.2.2.1 hb.2.2.2.1 hb.2.2.2.2 (fun _ _ => rfl) hfr hlo hd (fun H1 locs1 hP hD hS => ?_)
  rw [wl_setR hk1 (he1 _)] at hP hD
  exact kk H1 locs1 ⟨hP, hD, hS, h.2.2.2⟩
/-! ends -/
theorem x_iret (C : Cx p s m args meth c cc nL own D tys) (hr : meth.sig.returnType = some .int) (h : Hs D A s.heap (wf σ) H locs) {v : Int32} {o : Int32 × St} (hf : some (v, σ) = some o) (hd : decode cc pc = .ok (.ireturn, 1)) : W p l e R s m args below meth c H locs 0 0 (MQ below (QI D tys wf A o) args s 0 0 A) (F0 m pc ls [.int v]) :=
  W.iret C.1 C.2.1 hr (fun t ht hW => ⟨⟨v, σ, rfl, Option.some.inj hf, by rw [ht]; exact h.1, va_K.moved hW.alike C.2.2.2.2.2.2, h.2.1⟩, h.2.2.1.F ht⟩) h.2.2.1.2.2 hd C.2.2.2.2.2.1
theorem x_zret (C : Cx p s m args meth c cc nL own D tys) (hr : meth.sig.returnType = some .boolean) (h : Hs D A s.heap (wf σ) H locs) {v : Int32} {o : Int32 × St} (hz : bz v = true) (hf : some (v, σ) = some o) (hd : decode cc pc = .ok (.ireturn, 1)) : W p l e R s m args below meth c H locs 0 0 (MQ below (QI D tys wf A o) args s 0 0 A) (F0 m pc ls [.int v]) := by
  have hn : narrow .boolean (.int v) = .int v := by
    have h2 : v = 0 ∨ v = 1 := by simpa [bz] using hz
    rcases h2 with rfl | rfl <;> rfl
  exact W.zret C.1 C.2.1 hr hn (fun t ht hW => ⟨⟨v, σ, rfl, Option.some.inj hf, by rw [ht]; exact h.1, va_K.moved hW.alike C.2.2.2.2.2.2, h.2.1⟩, h.2.2.1.F ht⟩) h.2.2.1.2.2 hd C.2.2.2.2.2.1
theorem x_lret (C : Cx p s m args meth c cc nL own D tys) (hr : meth.sig.returnType = some .long) (h : Hs D A s.heap (wf σ) H locs) {v : Int64} {o : Int64 × St} (hf : some (v, σ) = some o) (hd : decode cc pc = .ok (.lreturn, 1)) : W p l e R s m args below meth c H locs 0 0 (MQ below (QL D tys wf A o) args s 0 0 A) (F0 m pc ls [.long v]) :=
  W.lret C.1 C.2.1 hr (fun t ht hW => ⟨⟨v, σ, rfl, Option.some.inj hf, by rw [ht]; exact h.1, va_K.moved hW.alike C.2.2.2.2.2.2, h.2.1⟩, h.2.2.1.F ht⟩) h.2.2.1.2.2 hd C.2.2.2.2.2.1
theorem x_vret (C : Cx p s m args meth c cc nL own D tys) (hr : meth.sig.returnType = none) (h : Hs D A s.heap (wf σ) H locs) {o : St} (hf : some σ = some o) (hd : decode cc pc = .ok (.return_, 1)) : W p l e R s m args below meth c H locs 0 0 (MQ below (QV D tys wf A o) args s 0 0 A) (F0 m pc ls []) :=
  W.vret C.1 C.2.1 hr (fun t ht hW => ⟨⟨σ, rfl, Option.some.inj hf, by rw [ht]; exact h.1, va_K.moved hW.alike C.2.2.2.2.2.2, h.2.1⟩, h.2.2.1.F ht⟩) h.2.2.1.2.2 hd C.2.2.2.2.2.1
theorem x_aret (C : Cx p s m args meth c cc nL own D tys) {cn : String} (hr : meth.sig.returnType = some (.object cn)) (h : Hs D A s.heap (wf σ) H locs) {v : Nat} {o : Nat × St} (hf : some (v, σ) = some o) (hd : decode cc pc = .ok (.areturn, 1)) : W p l e R s m args below meth c H locs 0 0 (MQ below (QA D tys wf ad A o) args s 0 0 A) (F0 m pc ls [.ref (ad v)]) := by
  cases Option.some.inj hf
  exact W.aret C.1 C.2.1 hr (Or.inl ⟨_, rfl⟩) (Or.inr ⟨_, rfl⟩) (fun t ht hW => ⟨⟨σ, ad v, rfl, rfl, rfl, by rw [ht]; exact h.1, va_K.moved hW.alike C.2.2.2.2.2.2, h.2.1⟩, h.2.2.1.F ht⟩) h.2.2.1.2.2 hd C.2.2.2.2.2.1
/-! calls: the whole world goes along -/
theorem Hs.free {w : va_W} (h : Hs D A H0 w H locs) : ∀ q, va_A w H.size q → A q := by
  intro q hq
  rcases hq with ⟨k, x, hk⟩ | hq
  · exact h.2.1.2 k (q, x) hk
  · exact h.2.2.2 q (Nat.le_trans h.2.2.1.1 hq)
end XR
/-- what a call of y at entry idx of own's pool links -/
def Lk (own : String) (idx : Nat) (y : MethodName) (cy : ByteArray) (nL : Nat) (ret : Option FieldType) (n : Nat) : Prop :=
  Cond.methodLink own idx y ∈ wA ∧ Cond.instanceMethod y ∈ wA ∧ Cond.selects y.cls y y ∈ wA ∧ Cond.initialized y.cls ∈ wA ∧ Cond.code y cy nL ret ∈ wA ∧ y.cls ≠ "java/lang/invoke/MethodHandle" ∧ y.cls ≠ "java/lang/invoke/VarHandle" ∧ (parseMethodDescriptor y.desc).map (fun d => d.parameters.length) = some n
def LkS (own : String) (idx : Nat) (y : MethodName) (cy : ByteArray) (nL : Nat) (ret : Option FieldType) (n : Nat) : Prop :=
  Cond.methodLink own idx y ∈ wA ∧ Cond.static y ∈ wA ∧ Cond.initialized y.cls ∈ wA ∧ Cond.code y cy nL ret ∈ wA ∧ y.cls ≠ "java/lang/invoke/MethodHandle" ∧ y.cls ≠ "java/lang/invoke/VarHandle" ∧ (parseMethodDescriptor y.desc).map (fun d => d.parameters.length) = some n
theorem gd_all {y : MethodName} {cy : ByteArray} {nL : Nat} {ret : Option FieldType} (h : Cond.code y cy nL ret ∈ wA) : GoodIn wA (Cond.code y cy nL ret :: wA) := by
  intro w hw
  rcases List.mem_cons.mp hw with rfl | hw
  · exact ⟨h, good_of_word (wA_good _ h)⟩
  · exact ⟨hw, good_of_word (wA_good _ hw)⟩
section XC
variable {p : Program} {l : Launch} {e : Env} {R : Room} {s : State} {m : MethodId} {args : Array Value} {below : List Frame} {meth : Method} {c : Code} {H : Heap} {locs : List Loc} {Q : State → Prop}
variable {pc : Nat} {ls : Array Slot} {rest st0 : List Value} {cc : ByteArray} {nL : Nat} {own : String} {D : va_G} {tys : List (ClassId × FieldType)} {A : Nat → Prop} {ad : Nat → Nat} {σ σ1 : St} {wf : St → va_W}
variable {y : MethodName} {cy : ByteArray} {nLy : Nat} {ret : Option FieldType} {rm : Room} {As : List Value} {b idx n : Nat} {Qc : Array Value → State → Outcome → State → Prop}
theorem x_runV (C : Cx p s m args meth c cc nL own D tys) (h : Hs D A s.heap (wf σ) H locs) (hM : Met l y (Cond.code y cy nLy ret :: wA) rm (PC D tys (wf σ) (.ref b :: As) H.size) Qc 0 0 (va_A (wf σ) H.size)) (K : Lk own idx y cy nLy ret n) (hn : As.length = n) (hR : rm.cells = 0 ∧ rm.slots = 0 ∧ rm.frames + 1 ≤ R.frames ∧ 8 + (nLy + 11) + rm.locals ≤ R.locals) (hc : ∃ cell : Cell, H[b]? = some cell ∧ cell.vm.isStatics = false ∧ s.vm.findClass y.cls = some cell.cls) (hls : ls.size = nL) (hst : st0 = As.reverse ++ .ref b :: rest) (hw : (rest.map fun v => v.category).sum ≤ 8) (hd : decode cc pc = .ok (.invokevirtual idx, 3)) :
    va_Run p l e R s m args below meth c H locs 0 0 0 0 (F0 m pc ls st0) rest (Qc (Value.ref b :: As).toArray) (va_A (wf σ) H.size) := by
  obtain ⟨k1, k2, k3, k4, k5, k6, k7, k8⟩ := K
  have hts := C.2.2.2.2.1
  have cw : CallW R s args own y.cls idx y cy nLy ret (Cond.code y cy nLy ret :: wA) rm 0 0 n := ⟨callB_of n hts (gd_all k5) rfl hR.1 hR.2.1 (hts _ k4) (hts _ k1) ⟨k6, k7, k8⟩ hR.2.2, hts _ k2, hts _ k3⟩
  exact va_runV (As := As) (rest := rest) ⟨C.1, C.2.1, C.2.2.1, C.2.2.2.1, hts⟩ hM cw ⟨fun a U g mk q => by obtain ⟨q0, q1, qP, qK, qD⟩ := q; exact ⟨q0, q1, qP, va_K.moved (u := U) (U := U.calling g mk a) (Vm.Alike.refl U.vm) qK, qD⟩, hc, fun U hU hW => ⟨rfl, by rw [hU], by rw [hU]; exact h.1, va_K.moved hW.alike C.2.2.2.2.2.2, h.2.1.weaken (fun _ _ _ _ => trivial)⟩⟩ rfl hn hls hst (lv_room hw) hd ⟨Nat.zero_le _, Nat.zero_le _⟩
theorem x_runS (C : Cx p s m args meth c cc nL own D tys) (h : Hs D A s.heap (wf σ) H locs) (hM : Met l y (Cond.code y cy nLy ret :: wA) rm (PC D tys (wf σ) As H.size) Qc 0 0 (va_A (wf σ) H.size)) (K : LkS own idx y cy nLy ret n) (hn : As.length = n) (hR : rm.cells = 0 ∧ rm.slots = 0 ∧ rm.frames + 1 ≤ R.frames ∧ 8 + (nLy + 11) + rm.locals ≤ R.locals) (hls : ls.size = nL) (hst : st0 = As.reverse ++ rest) (hw : (rest.map fun v => v.category).sum ≤ 8) (hd : decode cc pc = .ok (.invokestatic idx, 3)) :
    va_Run p l e R s m args below meth c H locs 0 0 0 0 (F0 m pc ls st0) rest (Qc As.toArray) (va_A (wf σ) H.size) := by
  obtain ⟨k1, k2, k4, k5, k6, k7, k8⟩ := K
  have hts := C.2.2.2.2.1
  have cw : CallB R s args own idx y cy nLy ret (Cond.code y cy nLy ret :: wA) rm 0 0 n ∧ (Cond.static y).before args s = true := ⟨callB_of n hts (gd_all k5) rfl hR.1 hR.2.1 (hts _ k4) (hts _ k1) ⟨k6, k7, k8⟩ hR.2.2, hts _ k2⟩
  exact va_runS (As := As) (rest := rest) ⟨C.1, C.2.1, C.2.2.1, C.2.2.2.1, hts⟩ hM cw ⟨fun a U g mk q => by obtain ⟨q0, q1, qP, qK, qD⟩ := q; exact ⟨q0, q1, qP, va_K.moved (u := U) (U := U.calling g mk a) (Vm.Alike.refl U.vm) qK, qD⟩, fun U hU hW => ⟨rfl, by rw [hU], by rw [hU]; exact h.1, va_K.moved hW.alike C.2.2.2.2.2.2, h.2.1.weaken (fun _ _ _ _ => trivial)⟩⟩ rfl hn hls hst (lv_room hw) hd ⟨Nat.zero_le _, Nat.zero_le _⟩
theorem x_goi {a : Array Value} {r : Int32} (h : Hs D A s.heap (wf σ) H locs) (hr : va_Run p l e R s m args below meth c H locs 0 0 0 0 (F0 m pc ls st0) rest (QI D tys wf (va_A (wf σ) H.size) (r, σ1) a) (va_A (wf σ) H.size)) (kk : ∀ (H1 : Heap) (locs1 : List Loc), Hs D A s.heap (wf σ1) H1 locs1 → W p l e R s m args below meth c H1 locs1 0 0 Q (F0 m (pc + 3) ls (.int r :: rest))) : W p l e R s m args below meth c H locs 0 0 Q (F0 m pc ls st0) := by
  refine va_calli hr h.2.2.1 (fun q _ hq => h.free q hq) h.free (fun r' u t H1 locs1 ht hvm hw hB hz hk hS => ?_)
  cases hw
  refine kk H1 locs1 ⟨?_, hB.2.2.weaken (fun _ _ _ x => h.free _ x), hS, h.2.2.2⟩
  rw [← ht]; exact hB.1
theorem x_gol {a : Array Value} {r : Int64} (h : Hs D A s.heap (wf σ) H locs) (hr : va_Run p l e R s m args below meth c H locs 0 0 0 0 (F0 m pc ls st0) rest (QL D tys wf (va_A (wf σ) H.size) (r, σ1) a) (va_A (wf σ) H.size)) (kk : ∀ (H1 : Heap) (locs1 : List Loc), Hs D A s.heap (wf σ1) H1 locs1 → W p l e R s m args below meth c H1 locs1 0 0 Q (F0 m (pc + 3) ls (.long r :: rest))) : W p l e R s m args below meth c H locs 0 0 Q (F0 m pc ls st0) := by
  refine va_calll hr h.2.2.1 (fun q _ hq => h.free q hq) h.free (fun r' u t H1 locs1 ht hvm hw hB hz hk hS => ?_)
  cases hw
  refine kk H1 locs1 ⟨?_, hB.2.2.weaken (fun _ _ _ x => h.free _ x), hS, h.2.2.2⟩
  rw [← ht]; exact hB.1
theorem x_gov {a : Array Value} (h : Hs D A s.heap (wf σ) H locs) (hr : va_Run p l e R s m args below meth c H locs 0 0 0 0 (F0 m pc ls st0) rest (QV D tys wf (va_A (wf σ) H.size) σ1 a) (va_A (wf σ) H.size)) (kk : ∀ (H1 : Heap) (locs1 : List Loc), Hs D A s.heap (wf σ1) H1 locs1 → W p l e R s m args below meth c H1 locs1 0 0 Q (F0 m (pc + 3) ls rest)) : W p l e R s m args below meth c H locs 0 0 Q (F0 m pc ls st0) := by
  refine va_callv hr h.2.2.1 (fun q _ hq => h.free q hq) h.free (fun u t H1 locs1 ht hvm hw hB hz hk hS => ?_)
  cases hw
  refine kk H1 locs1 ⟨?_, hB.2.2.weaken (fun _ _ _ x => h.free _ x), hS, h.2.2.2⟩
  rw [← ht]; exact hB.1
theorem x_goa {a : Array Value} {r : Nat} (h : Hs D A s.heap (wf σ) H locs) (hr : va_Run p l e R s m args below meth c H locs 0 0 0 0 (F0 m pc ls st0) rest (QA D tys wf ad (va_A (wf σ) H.size) (r, σ1) a) (va_A (wf σ) H.size)) (kk : ∀ (H1 : Heap) (locs1 : List Loc), Hs D A s.heap (wf σ1) H1 locs1 → W p l e R s m args below meth c H1 locs1 0 0 Q (F0 m (pc + 3) ls (.ref (ad r) :: rest))) : W p l e R s m args below meth c H locs 0 0 Q (F0 m pc ls st0) := by
  refine va_callr hr h.2.2.1 (fun q _ hq => h.free q hq) h.free (fun u ra t H1 locs1 ht hvm hw hB hz hk hS => ?_)
  obtain ⟨e1, hB⟩ := hB
  cases hw
  cases e1
  refine kk H1 locs1 ⟨?_, hB.2.2.weaken (fun _ _ _ x => h.free _ x), hS, h.2.2.2⟩
  rw [← ht]; exact hB.1
/-- the receiver's cell -/
theorem x_rcv {N : Nat} {en : En} (C : Cx p s m args meth c cc nL own D tys) {A : Nat → Prop} {H0 : Heap} (h : Hs D A H0 (wl N en ad σ) H locs) (k : Nat) (hk : k < N) {ci : Nat} {fs : List Value} {Cn : String} {T : u_T} {Nf : Nat} (he : en k (σ.1 k) (σ.2 k) = .inr (ci, fs)) (hc : vwCl[ci]? = some (Cn, T, Nf)) : ∃ cell : Cell, H[ad k]? = some cell ∧ cell.vm.isStatics = false ∧ s.vm.findClass Cn = some cell.cls :=
  va_recv C.2.2.2.2.2.2 h.1 hc (wl_at hk he)
end XC
