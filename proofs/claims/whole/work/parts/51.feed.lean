/-! ===== pure: feed (own work) ===== -/
theorem byteC (x : Int64) (c : UInt64) (n : Nat) (hc : c.toNat % 64 = n) : ((x.toUInt64 >>> c).toInt64.toInt32).toInt8.toInt32 = (nI (x.toBitVec.toNat / 2 ^ n % 2 ^ 8)).toInt8.toInt32 := by
  have key : ((x.toUInt64 >>> c).toInt64.toInt32).toInt8 = (nI (x.toBitVec.toNat / 2 ^ n % 2 ^ 8)).toInt8 := by
    apply Int8.toInt_inj.mp
    have e : ((x.toUInt64 >>> c).toInt64).toInt = ((x.toBitVec.toNat / 2 ^ n : Nat) : Int).bmod (2 ^ 64) := by
      show (x.toUInt64 >>> c).toBitVec.toInt = _
      rw [BitVec.toInt_eq_toNat_bmod]
      have : (x.toUInt64 >>> c).toBitVec.toNat = x.toBitVec.toNat / 2 ^ n := by
        show (x.toUInt64 >>> c).toNat = _
        rw [UInt64.toNat_shiftRight, hc, Nat.shiftRight_eq_div_pow]; rfl
      rw [this]
    have hb : x.toBitVec.toNat / 2 ^ n % 2 ^ 8 < 2 ^ 31 := by omega
    rw [Int32.toInt_toInt8, Int32.toInt_toInt8, Int64.toInt_toInt32, Int.bmod_bmod_of_dvd (by decide), e, Int.bmod_bmod_of_dvd (by decide), nI_toInt hb, Int.natCast_emod]
    exact (Int.emod_bmod _ _).symm
  rw [key]
theorem sshr (X : BitVec 64) (n : Nat) (hn : n = 0 ∨ n = 8 ∨ n = 16 ∨ n = 24 ∨ n = 32 ∨ n = 40 ∨ n = 48 ∨ n = 56) : (X.sshiftRight n).toNat % 2 ^ 8 = X.toNat / 2 ^ n % 2 ^ 8 := by
  have h := BitVec.toInt_sshiftRight (x := X) (n := n)
  rw [Int.shiftRight_eq_div_pow, BitVec.toInt_eq_toNat_cond, BitVec.toInt_eq_toNat_cond] at h
  have a1 := X.isLt
  have a2 := (X.sshiftRight n).isLt
  generalize (X.sshiftRight n).toNat = R at *
  generalize X.toNat = N at *
  rcases hn with rfl | rfl | rfl | rfl | rfl | rfl | rfl | rfl <;> (split at h <;> split at h <;> omega)
theorem byteM (x y : Int64) (n : Nat) (hy : (y.toBitVec.smod 64).toNat = n) (hn : n = 0 ∨ n = 8 ∨ n = 16 ∨ n = 24 ∨ n = 32 ∨ n = 40 ∨ n = 48 ∨ n = 56) : ((x >>> y) &&& 255 : Int64).toInt32 = nI (x.toBitVec.toNat / 2 ^ n % 2 ^ 8) := by
  have e : (x >>> y) &&& 255 = lN (x.toBitVec.toNat / 2 ^ n % 2 ^ 8) := by
    apply Int64.toBitVec_inj.mp
    apply BitVec.eq_of_toNat_eq
    have e2 : (lN (x.toBitVec.toNat / 2 ^ n % 2 ^ 8)).toBitVec.toNat = x.toBitVec.toNat / 2 ^ n % 2 ^ 8 := by
      show (BitVec.ofNat 64 (x.toBitVec.toNat / 2 ^ n % 2 ^ 8)).toNat = _
      rw [BitVec.toNat_ofNat]; omega
    rw [Int64.toBitVec_and, BitVec.toNat_and, show (255 : Int64).toBitVec.toNat = 2 ^ 8 - 1 by decide, Nat.and_two_pow_sub_one_eq_mod, Int64.toBitVec_shiftRight, e2, ← sshr _ n hn, ← hy]
    rfl
  rw [e, lN_i]
theorem byte2 (x : Int64) {j : Nat} (hj : j < 8) : TB (vp_nar .byte ((((x.toUInt64 >>> ((8 * nI j).toInt64.toUInt64 &&& Int64.toUInt64 63)).toInt64 : Int64).toInt32 : Int32).toInt8.toInt32)) (((x >>> ((8 * nI j).toInt64 &&& 63)) &&& 255 : Int64).toInt32) := by
  have hb : x.toBitVec.toNat / 2 ^ (8 * j) % 2 ^ 8 < 256 := Nat.mod_lt _ (by omega)
  have h1 : ((8 * nI j).toInt64.toUInt64 &&& Int64.toUInt64 63).toNat % 64 = 8 * j ∧ (((8 * nI j).toInt64 &&& 63).toBitVec.smod 64).toNat = 8 * j := by
    rcases (show j = 0 ∨ j = 1 ∨ j = 2 ∨ j = 3 ∨ j = 4 ∨ j = 5 ∨ j = 6 ∨ j = 7 by omega) with rfl | rfl | rfl | rfl | rfl | rfl | rfl | rfl <;> decide +kernel
  refine ⟨x.toBitVec.toNat / 2 ^ (8 * j) % 2 ^ 8, hb, byteM x _ (8 * j) h1.2 (by omega), ?_⟩
  rw [pk_vb, byteC x _ (8 * j) h1.1]
theorem ok_feed {σc σm : St} (I : Inv σc σm) (x1 : Int32) (x2 : Int64) : ∃ (r : Int32) (σc1 σm1 : St), f_X7_feed x1 x2 σc = some (r, σc1) ∧ f_X8_feed x1 x2 σm = some (r, σm1) ∧ Inv σc1 σm1 := by
  obtain ⟨H, S, v, hI⟩ := id I
  obtain ⟨B, C, M, R, ld, ⟨n, n0, n1, n2, n3⟩, F, W, J⟩ := id hI
  unfold f_X7_feed f_X8_feed f_X4_append
  rcases in160 (x := x1) (n := 8) (N := 8) (b := 8) rfl (by omega) (by decide) σm with ⟨h1, h2⟩ | ⟨h1, h2, h3⟩ | ⟨h1, h2, h3, k, k1, k2, rfl⟩
  · rw [if_pos h1, h2]; exact ⟨_, σc, σm, rfl, rfl, I⟩
  · rw [if_neg h1, if_neg h2, h3]; exact ⟨_, σc, σm, rfl, rfl, I⟩
  · rw [if_neg h1, if_pos h2, h3, bd_s, if_neg i10, n1, n2, nI_add, show (400 : Int32) = nI 400 from rfl, pk_sub n0]
    by_cases q : n + k ≤ 400
    · rw [if_pos (nI_le (by omega) (by omega)), if_pos (nI_le (by omega) (by omega)), nm_d, nm_d, show (1 : Int32) = nI 1 from rfl, pk_sub k1]
      unfold f_X4_append_19 f_X8_feed_35
      have key := lp_2 (B := fun (rec19 : Int64 × Int32 × St → Option (Int32 × St)) (q : Int64 × Int32 × St) => b_X4_append_19 rec19 (q.1) (q.2.1) (q.2.2)) (B2 := fun (rec35 : Int64 × Int32 × St → Option (Int32 × St)) (q : Int64 × Int32 × St) => b_X8_feed_35 rec35 (q.1) (q.2.1) (q.2.2))
        (fun d a b => ∃ (x : Int32) (t1 t2 : St), d ≤ k ∧ a = (x2, x, t1) ∧ b = (x2, x, t2) ∧ ((d = 0 ∧ x = -1) ∨ (0 < d ∧ x = nI (d - 1))) ∧ (∀ j, j ≠ 1 → j ≠ 2 → t1.1 j = σc.1 j) ∧ (∀ j, j ≠ 1 → t1.1 1 j = σc.1 1 j) ∧ (∀ j, j ≠ 0 → j ≠ 13 → t2.1 j = σm.1 j) ∧ (∀ j, j ≠ 23 → t2.1 0 j = σm.1 0 j) ∧ t1.1 1 1 = nI (n + (k - d)) ∧ t2.1 0 23 = nI (n + (k - d)) ∧ ∀ j, j < n + (k - d) → TB (t1.1 2 j) (t2.1 13 j))
        (fun _ _ o p => o.1 = 1 ∧ p.1 = nI (n + k) ∧ (∀ j, j ≠ 1 → j ≠ 2 → o.2.1 j = σc.1 j) ∧ (∀ j, j ≠ 1 → o.2.1 1 j = σc.1 1 j) ∧ (∀ j, j ≠ 0 → j ≠ 13 → p.2.1 j = σm.1 j) ∧ (∀ j, j ≠ 23 → p.2.1 0 j = σm.1 0 j) ∧ o.2.1 1 1 = nI (n + k) ∧ p.2.1 0 23 = nI (n + k) ∧ ∀ j, j < n + k → TB (o.2.1 2 j) (p.2.1 13 j)) ?_ 100000 k (x2, nI (k - 1), σc) (x2, nI (k - 1), σm) (by omega) ⟨nI (k - 1), σc, σm, by omega, rfl, rfl, Or.inr ⟨by omega, rfl⟩, fun _ _ _ => rfl, fun _ _ => rfl, fun _ _ _ => rfl, fun _ _ => rfl, by rw [Nat.sub_self]; exact n1, by rw [Nat.sub_self]; exact n2, by rw [Nat.sub_self]; exact n3⟩
      · obtain ⟨⟨o1, o2⟩, ⟨p1, p2⟩, c1, c2, c3, c4, c5, c6, c7, c8, c9, c10, c11⟩ := key
        have c3' : o1 = 1 := c3
        have c4' : p1 = nI (n + k) := c4
        subst c3'; subst c4'
        rw [c1, bd_s, if_neg i10]
        have c9' : o2.1 1 1 = nI (n + k) := c9
        refine ⟨_, _, _, rfl, by rw [c9']; exact c2, H, S, v, B, C.cg (fun j _ _ => c5 j (by omega) (by omega)), M.cg (c8 0 (by omega)) (c8 4 (by omega)) (fun j _ _ => c7 j (by omega) (by omega)), CM.cg R (fun j _ _ => c5 j (by omega) (by omega)) (fun j _ _ => c7 j (by omega) (by omega)) (fun j _ => c8 j (by omega)), ld.cg (fun j _ _ => c5 j (by omega) (by omega)) (fun j _ _ => c5 j (by omega) (by omega)) ?_ ?_ ?_, ⟨n + k, q, c9, c10, c11⟩, ?_, W.cg ?_ (c5 53 (by omega) (by omega)) (c5 54 (by omega) (by omega)) (c8 44 (by omega)) (c7 25 (by omega) (by omega)) (c7 26 (by omega) (by omega)), J.cg ?_ (fun j _ _ _ => c5 j (by omega) (by omega)) (c7 28 (by omega) (by omega)) (c7 27 (by omega) (by omega))⟩
        · exact congrFun (c5 20 (by omega) (by omega)) 2
        · exact congrFun (c5 20 (by omega) (by omega)) 3
        · exact congrFun (c5 20 (by omega) (by omega)) 4
        · exact (c6 5 (by omega)).trans (F.trans (c8 24 (by omega)).symm)
        · exact congrFun (c5 52 (by omega) (by omega)) 0
        · exact congrFun (c5 0 (by omega) (by omega)) 5
      · rintro d rec rec2 _ _ ⟨x, t1, t2, hd, rfl, rfl, hx, f1, f2, f3, f4, f5, f6, f7⟩ ih
        show ∃ o p, b_X4_append_19 rec x2 x t1 = some o ∧ b_X8_feed_35 rec2 x2 x t2 = some p ∧ _
        unfold b_X4_append_19 b_X8_feed_35
        rcases hx with ⟨h0, rfl⟩ | ⟨h0, rfl⟩
        · subst h0
          rw [if_pos m1_lt0, if_pos m1_lt0]
          rw [Nat.sub_zero] at f5 f6 f7
          exact ⟨_, _, rfl, rfl, rfl, f6, f1, f2, f3, f4, f5, f6, f7⟩
        · obtain ⟨i, rfl⟩ : ∃ i, d = i + 1 := ⟨d - 1, by omega⟩
          have hx' : (i = 0 ∧ nI i + (-1) = -1) ∨ (0 < i ∧ nI i + (-1) = nI (i - 1)) := by
            by_cases q : i = 0
            · subst q; exact Or.inl ⟨rfl, rfl⟩
            · refine Or.inr ⟨by omega, ?_⟩
              obtain ⟨p, rfl⟩ : ∃ p, i = p + 1 := ⟨i - 1, by omega⟩
              rw [pk_m1]; rfl
          have tb := byte2 x2 (j := i) (by omega)
          rw [show i + 1 - 1 = i by omega, if_neg (nI_pos (by omega)), if_neg (nI_pos (by omega)), f5, f6, ck_n (by omega) (by omega), ck_n (by omega) (by omega), nm_d, nm_d, nI_clamp (by omega)]
          generalize vp_nar .byte ((((x2.toUInt64 >>> ((8 * nI i).toInt64.toUInt64 &&& Int64.toUInt64 63)).toInt64 : Int64).toInt32 : Int32).toInt8.toInt32) = yc at tb
          generalize ((x2 >>> ((8 * nI i).toInt64 &&& 63)) &&& 255 : Int64).toInt32 = ym at tb
          have a1 : ∀ w, (sI t1 2 w yc).1 1 1 = nI (n + (k - (i + 1))) := fun w => by rw [sR_ne _ _ (by omega)]; exact f5
          have a2 : ∀ w, (sI t2 13 w ym).1 0 23 = nI (n + (k - (i + 1))) := fun w => by rw [sR_ne _ _ (by omega)]; exact f6
          simp only [nm_d]
          rw [a1, a2, nI_1]
          have el : n + (k - (i + 1)) + 1 = n + (k - i) := by omega
          refine ih i _ _ (by omega) ⟨_, _, _, by omega, rfl, rfl, hx', fun j j1 j2 => ?_, fun j j1 => ?_, fun j j1 j2 => ?_, fun j j1 => ?_, ?_, ?_, fun j hj => ?_⟩
          · rw [sR_ne _ _ j1, sR_ne _ _ j2]; exact f1 j j1 j2
          · rw [sR_at, pk_un j1, sR_ne _ _ (by omega)]; exact f2 j j1
          · rw [sR_ne _ _ j1, sR_ne _ _ j2]; exact f3 j j1 j2
          · rw [sR_at, pk_un j1, sR_ne _ _ (by omega)]; exact f4 j j1
          · rw [sR_at, pk_us, el]
          · rw [sR_at, pk_us, el]
          · rw [sR_ne _ _ (show 2 ≠ 1 by omega), sR_at, sR_ne _ _ (show 13 ≠ 0 by omega), sR_at]
            by_cases z : j = n + (k - (i + 1))
            · rw [z, pk_us, pk_us]; exact tb
            · rw [pk_un z, pk_un z]; exact f7 j (by omega)
    · rw [if_neg (nI_ge (by omega) (by omega)), if_neg (nI_ge (by omega) (by omega)), bd_s, if_pos rfl]
      exact ⟨_, σc, σm, rfl, rfl, I⟩
