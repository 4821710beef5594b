/-! ===== questions: SOUND, parts, least units, changes; in both ===== -/
theorem z_ct_one (P : Nat → Bool) (c : Nat) : ∀ n, z_ct (fun o => P o && decide (o = c)) n ≤ 1 ∧ (n ≤ c → z_ct (fun o => P o && decide (o = c)) n = 0)
  | 0 => ⟨Nat.zero_le _, fun _ => rfl⟩
  | n + 1 => by
    obtain ⟨h1, h2⟩ := z_ct_one P c n
    rw [z_ct_s]
    by_cases e : n = c
    · rw [h2 (by omega)]
      refine ⟨?_, fun q => by omega⟩
      have := Bool.toNat_le (P n && decide (n = c))
      omega
    · rw [decide_eq_false e, Bool.and_false, Bool.toNat_false, Nat.add_zero]
      exact ⟨h1, fun q => h2 (by omega)⟩
def f_sn1 (n : Nat) (s : Nat → Int32) (i o : Nat) : Bool := !(f_ci n s i).testBit o || decide (s (41 + 28 * o + 1) = s (41 + 28 * i + 1))
def f_sn (n : Nat) (s : Nat → Int32) : Bool := z_al (fun i => z_al (f_sn1 n s i) n 0) n 0
theorem c_M_isSound {G : zG} (hM : z_HM G) (M : zM) {n J B : Nat} (hF : z_F n J B (M 458)) : z_call 217 [.ref 455] G M = some (.inl (some (.int (z_b (f_sn n (M 458))))), G, M) := by
  obtain ⟨k0, ⟨r1, r8, r9, r10, r11, r12, r13, r17⟩, ⟨q1, q2⟩, ⟨q3, q4⟩, ⟨q5, q6⟩, ⟨q7, q8⟩, ⟨q9, q10⟩, ⟨q11, q12⟩, ⟨q13, q14⟩, ⟨q15, q16⟩, hp⟩ := id hM; have kr : ∀ a, z_rc a = 7 → z_kd G 455 = (0, z_rc a) := fun a h => (by rw [h]; exact k0)
  have hn : n ≤ 8 := hF.1.1.2
  have h0 : M 458 0 = nI n := hF.1.1.1
  have hltn : ¬ nI n < nI n := nI_nlt (Nat.le_refl _) (by omega)
  have e0 : z_call 217 [.ref 455] G M = z_ex 217 (z_blk 217 2) [.ref 455, .int (nI 0), .null, .null] [] G M := by
    simp only [ze_M_isSound, zk_M_isSound_0, xo_5, xo_10_1i, xo_10_1r, xo_10_1n, xo_55, xo_0_1, xo_2_0, xo_17, xo_32, xo_45, xo_64_2, xk_v, xk_n, xo_49, xo_54, xo_10_2i, xo_10_2r, xo_10_2n, xo_10_3i, xo_10_3r, xo_10_3n, xo_0_3, xo_63_2, xo_0_2, xo_48, xo_20, xo_42, xo_72a, xo_72b, xo_15_3i, xo_15_3r, xo_15_3n, xo_47, xo_15_1i, xo_15_1r, xo_15_1n]
  -- the inner loop
  have inn : ∀ (i : Nat), i < n → ∀ (r o h : Nat), o + r = n → (z_al (f_sn1 n (M 458) i) r o = false → z_ex 217 (z_blk 217 27) [.ref 455, .int (nI i), .int (nI h), .int (nI o)] [] G M = some (.inl (some (.int (nI 0))), G, M)) ∧ (z_al (f_sn1 n (M 458) i) r o = true → z_ex 217 (z_blk 217 27) [.ref 455, .int (nI i), .int (nI h), .int (nI o)] [] G M = z_ex 217 (z_blk 217 99) [.ref 455, .int (nI i), .int (nI (z_fd (fun o h => h + ((f_ci n (M 458) i).testBit o && decide (M 458 (41 + 28 * o + 1) = nI o)).toNat) r o h)), .int (nI n)] [] G M) := by
    intro i hi r
    obtain ⟨c1, _, _⟩ := f_ci_t hF hi
    have hci := c_M_circleOf hM M (i := i) h0 hn (by omega)
    induction r with
    | zero =>
      intro o h e
      have ho : o = n := by omega
      subst ho
      refine ⟨fun q => absurd q (by simp [z_al]), fun _ => ?_⟩
      conv => lhs; rw [zk_M_isSound_27]
      simp (disch := first | assumption | exact kr _ rfl | omega | exact Nat.le_of_ble_eq_true rfl) only [xo_5, xo_10_1i, xo_10_1r, xo_10_1n, xo_55, xo_0_1, xo_2_0, xo_17, xo_32, xo_45, xo_64_2, xk_v, xk_n, xo_49, xo_54, xo_10_2i, xo_10_2r, xo_10_2n, xo_10_3i, xo_10_3r, xo_10_3n, xo_0_3, xo_63_2, xo_0_2, xo_48, xo_20, xo_42, xo_72a, xo_72b, xo_15_3i, xo_15_3r, xo_15_3n, xo_47, xo_15_1i, xo_15_1r, xo_15_1n, nI_add, pk_mul, Nat.add_zero, z_sA_s, z_sA_sA, z_u_s, r9, h0, hltn, if_true, if_false, eq_self, Bool.true_eq_false, Bool.false_eq_true, and_true, true_and, and_false, false_and, or_true, true_or, or_false, false_or, ne_eq, not_true_eq_false, not_false_eq_true, decide_true, decide_false, z_sA_id, z_fd_0]
    | succ r ih =>
      intro o h e
      have ho8 : o < 8 := by omega
      have hlt : nI o < nI n := nI_lt (by omega) (by omega)
      have hh := z_hasN (f_ci n (M 458) i) c1 o ho8
      rw [z_al_s, z_fd_s]
      have hf1 : f_sn1 n (M 458) i o = (!(f_ci n (M 458) i).testBit o || decide (M 458 (41 + 28 * o + 1) = M 458 (41 + 28 * i + 1))) := rfl
      rw [hf1]
      cases hb : (f_ci n (M 458) i).testBit o
      · rw [hb] at hh
        rw [Bool.not_false, Bool.true_or, Bool.true_and, Bool.false_and, Bool.toNat_false, Nat.add_zero]
        have step : z_ex 217 (z_blk 217 27) [.ref 455, .int (nI i), .int (nI h), .int (nI o)] [] G M = z_ex 217 (z_blk 217 27) [.ref 455, .int (nI i), .int (nI h), .int (nI (o + 1))] [] G M := by
          conv => lhs; rw [zk_M_isSound_27]
          simp (disch := first | assumption | exact kr _ rfl | omega | exact Nat.le_of_ble_eq_true rfl) only [xo_5, xo_10_1i, xo_10_1r, xo_10_1n, xo_55, xo_0_1, xo_2_0, xo_17, xo_32, xo_45, xo_64_2, xk_v, xk_n, xo_49, xo_54, xo_10_2i, xo_10_2r, xo_10_2n, xo_10_3i, xo_10_3r, xo_10_3n, xo_0_3, zk_M_isSound_37, xo_63_2, zk_M_isSound_49, xo_0_2, xo_48, xo_20, xo_42, xo_72a, xo_72b, zk_M_isSound_93, xo_15_3i, xo_15_3r, xo_15_3n, xo_47, xo_15_1i, xo_15_1r, xo_15_1n, nI_add, pk_mul, Nat.add_zero, z_sA_s, z_sA_sA, z_u_s, r9, h0, hlt, zr_M_circleOf, hci, c_M_has, hh, z_b0, if_true, if_false, eq_self, Bool.true_eq_false, Bool.false_eq_true, and_true, true_and, and_false, false_and, or_true, true_or, or_false, false_or, ne_eq, not_true_eq_false, not_false_eq_true, decide_true, decide_false, z_sA_id]
        rw [step]
        exact ih (o + 1) h (by omega)
      · rw [hb] at hh
        rw [Bool.not_true, Bool.false_or, Bool.true_and]
        by_cases hc : M 458 (41 + 28 * o + 1) = M 458 (41 + 28 * i + 1)
        · rw [decide_eq_true hc, Bool.true_and]
          have step : z_ex 217 (z_blk 217 27) [.ref 455, .int (nI i), .int (nI h), .int (nI o)] [] G M = z_ex 217 (z_blk 217 27) [.ref 455, .int (nI i), .int (nI (h + (decide (M 458 (41 + 28 * o + 1) = nI o)).toNat)), .int (nI (o + 1))] [] G M := by
            by_cases hq : M 458 (41 + 28 * o + 1) = nI o
            · rw [decide_eq_true hq, Bool.toNat_true]
              rw [hq] at hc
              conv => lhs; rw [zk_M_isSound_27]
              simp (disch := first | assumption | exact kr _ rfl | omega | exact Nat.le_of_ble_eq_true rfl) only [xo_5, xo_10_1i, xo_10_1r, xo_10_1n, xo_55, xo_0_1, xo_2_0, xo_17, xo_32, xo_45, xo_64_2, xk_v, xk_n, xo_49, xo_54, xo_10_2i, xo_10_2r, xo_10_2n, xo_10_3i, xo_10_3r, xo_10_3n, xo_0_3, zk_M_isSound_37, xo_63_2, zk_M_isSound_52, xo_0_2, xo_48, zk_M_isSound_61, zk_M_isSound_66, xo_20, xo_42, xo_72a, xo_72b, zk_M_isSound_93, xo_15_3i, xo_15_3r, xo_15_3n, xo_47, xo_15_1i, xo_15_1r, xo_15_1n, nI_add, pk_mul, Nat.add_zero, z_sA_s, z_sA_sA, z_u_s, r9, c_M_m, h0, hlt, zr_M_circleOf, hci, c_M_has, hh, zr_M_isChief, c_M_isChief hM, hq, ← hc, z_b0, if_true, if_false, eq_self, Bool.true_eq_false, Bool.false_eq_true, and_true, true_and, and_false, false_and, or_true, true_or, or_false, false_or, ne_eq, not_true_eq_false, not_false_eq_true, decide_true, decide_false, z_sA_id]
            · rw [decide_eq_false hq, Bool.toNat_false]
              rw [hc] at hq
              conv => lhs; rw [zk_M_isSound_27]
              simp (disch := first | assumption | exact kr _ rfl | omega | exact Nat.le_of_ble_eq_true rfl) only [xo_5, xo_10_1i, xo_10_1r, xo_10_1n, xo_55, xo_0_1, xo_2_0, xo_17, xo_32, xo_45, xo_64_2, xk_v, xk_n, xo_49, xo_54, xo_10_2i, xo_10_2r, xo_10_2n, xo_10_3i, xo_10_3r, xo_10_3n, xo_0_3, zk_M_isSound_37, xo_63_2, zk_M_isSound_52, xo_0_2, xo_48, zk_M_isSound_65, zk_M_isSound_66, xo_20, xo_42, xo_72a, xo_72b, zk_M_isSound_93, xo_15_3i, xo_15_3r, xo_15_3n, xo_47, xo_15_1i, xo_15_1r, xo_15_1n, nI_add, pk_mul, Nat.add_zero, z_sA_s, z_sA_sA, z_u_s, r9, c_M_m, h0, hlt, zr_M_circleOf, hci, c_M_has, hh, zr_M_isChief, c_M_isChief hM, hq, hc, z_b0, if_true, if_false, eq_self, Bool.true_eq_false, Bool.false_eq_true, and_true, true_and, and_false, false_and, or_true, true_or, or_false, false_or, ne_eq, not_true_eq_false, not_false_eq_true, decide_true, decide_false, z_sA_id]
          rw [step]
          exact ih (o + 1) _ (by omega)
        · rw [decide_eq_false hc, Bool.false_and]
          refine ⟨fun _ => ?_, fun q => absurd q Bool.false_ne_true⟩
          by_cases hq : M 458 (41 + 28 * o + 1) = nI o
          · rw [hq] at hc
            conv => lhs; rw [zk_M_isSound_27]
            simp (disch := first | assumption | exact kr _ rfl | omega | exact Nat.le_of_ble_eq_true rfl) only [xo_5, xo_10_1i, xo_10_1r, xo_10_1n, xo_55, xo_0_1, xo_2_0, xo_17, xo_32, xo_45, xo_64_2, xk_v, xk_n, xo_49, xo_54, xo_10_2i, xo_10_2r, xo_10_2n, xo_10_3i, xo_10_3r, xo_10_3n, xo_0_3, zk_M_isSound_37, xo_63_2, zk_M_isSound_52, xo_0_2, xo_48, zk_M_isSound_61, zk_M_isSound_66, xo_20, xo_42, zk_M_isSound_91, xo_72a, xo_72b, xo_15_3i, xo_15_3r, xo_15_3n, xo_47, xo_15_1i, xo_15_1r, xo_15_1n, nI_add, pk_mul, Nat.add_zero, z_sA_s, z_sA_sA, z_u_s, r9, c_M_m, h0, hlt, zr_M_circleOf, hci, c_M_has, hh, zr_M_isChief, c_M_isChief hM, hq, hc, z_b0, if_true, if_false, eq_self, Bool.true_eq_false, Bool.false_eq_true, and_true, true_and, and_false, false_and, or_true, true_or, or_false, false_or, ne_eq, not_true_eq_false, not_false_eq_true, decide_true, decide_false, z_sA_id]
          · conv => lhs; rw [zk_M_isSound_27]
            simp (disch := first | assumption | exact kr _ rfl | omega | exact Nat.le_of_ble_eq_true rfl) only [xo_5, xo_10_1i, xo_10_1r, xo_10_1n, xo_55, xo_0_1, xo_2_0, xo_17, xo_32, xo_45, xo_64_2, xk_v, xk_n, xo_49, xo_54, xo_10_2i, xo_10_2r, xo_10_2n, xo_10_3i, xo_10_3r, xo_10_3n, xo_0_3, zk_M_isSound_37, xo_63_2, zk_M_isSound_52, xo_0_2, xo_48, zk_M_isSound_65, zk_M_isSound_66, xo_20, xo_42, zk_M_isSound_91, xo_72a, xo_72b, xo_15_3i, xo_15_3r, xo_15_3n, xo_47, xo_15_1i, xo_15_1r, xo_15_1n, nI_add, pk_mul, Nat.add_zero, z_sA_s, z_sA_sA, z_u_s, r9, c_M_m, h0, hlt, zr_M_circleOf, hci, c_M_has, hh, zr_M_isChief, c_M_isChief hM, hq, hc, z_b0, if_true, if_false, eq_self, Bool.true_eq_false, Bool.false_eq_true, and_true, true_and, and_false, false_and, or_true, true_or, or_false, false_or, ne_eq, not_true_eq_false, not_false_eq_true, decide_true, decide_false, z_sA_id]
  have out : ∀ (r i : Nat) (w1 w2 : Value), i + r = n → z_ex 217 (z_blk 217 2) [.ref 455, .int (nI i), w1, w2] [] G M = some (.inl (some (.int (z_b (z_al (fun i => z_al (f_sn1 n (M 458) i) n 0) r i)))), G, M) := by
    intro r
    induction r with
    | zero =>
      intro i w1 w2 e
      have hi : i = n := by omega
      subst hi
      conv => lhs; rw [zk_M_isSound_2]
      simp (disch := first | assumption | exact kr _ rfl | omega | exact Nat.le_of_ble_eq_true rfl) only [xo_5, xo_10_1i, xo_10_1r, xo_10_1n, xo_55, xo_0_1, xo_2_0, xo_17, xo_32, xo_45, xo_64_2, xk_v, xk_n, xo_49, xo_54, xo_10_2i, xo_10_2r, xo_10_2n, xo_10_3i, xo_10_3r, xo_10_3n, xo_0_3, xo_63_2, xo_0_2, xo_48, xo_20, xo_42, xo_72a, xo_72b, xo_15_3i, xo_15_3r, xo_15_3n, xo_47, xo_15_1i, xo_15_1r, xo_15_1n, zk_M_isSound_112, nI_add, pk_mul, Nat.add_zero, z_sA_s, z_sA_sA, z_u_s, r9, h0, hltn, if_true, if_false, eq_self, Bool.true_eq_false, Bool.false_eq_true, and_true, true_and, and_false, false_and, or_true, true_or, or_false, false_or, ne_eq, not_true_eq_false, not_false_eq_true, decide_true, decide_false, z_sA_id]
      rfl
    | succ r ih =>
      intro i w1 w2 e
      have hi : i < n := by omega
      have hlt : nI i < nI n := nI_lt hi (by omega)
      rw [z_al_s]
      by_cases hN : M 458 (41 + 28 * i) = 0
      · have e1 : z_ex 217 (z_blk 217 2) [.ref 455, .int (nI i), w1, w2] [] G M = z_ex 217 (z_blk 217 27) [.ref 455, .int (nI i), .int (nI 0), .int (nI 0)] [] G M := by
          conv => lhs; rw [zk_M_isSound_2]
          simp (disch := first | assumption | exact kr _ rfl | omega | exact Nat.le_of_ble_eq_true rfl) only [xo_5, xo_10_1i, xo_10_1r, xo_10_1n, xo_55, xo_0_1, xo_2_0, xo_17, xo_32, xo_45, zk_M_isSound_12, xo_64_2, xk_v, xk_n, xo_49, xo_54, zk_M_isSound_23, xo_10_2i, xo_10_2r, xo_10_2n, xo_10_3i, xo_10_3r, xo_10_3n, xo_0_3, xo_63_2, xo_0_2, xo_48, xo_20, xo_42, xo_72a, xo_72b, xo_15_3i, xo_15_3r, xo_15_3n, xo_47, xo_15_1i, xo_15_1r, xo_15_1n, nI_add, pk_mul, Nat.add_zero, z_sA_s, z_sA_sA, z_u_s, r9, h0, hlt, zr_M_isNormal, c_M_isNormal hM, hN, z_b0, if_true, if_false, eq_self, Bool.true_eq_false, Bool.false_eq_true, and_true, true_and, and_false, false_and, or_true, true_or, or_false, false_or, ne_eq, not_true_eq_false, not_false_eq_true, decide_true, decide_false, z_sA_id]
        obtain ⟨k1, k2⟩ := inn i hi n 0 0 (by omega)
        cases hal : z_al (f_sn1 n (M 458) i) n 0
        · rw [e1, k1 hal, Bool.false_and]; rfl
        · rw [Bool.true_and, e1, k2 hal]
          obtain ⟨c, cc1, cc2⟩ := F_1 hF hi
          have hle : z_fd (fun o h => h + ((f_ci n (M 458) i).testBit o && decide (M 458 (41 + 28 * o + 1) = nI o)).toNat) n 0 0 ≤ 1 := by
            have hal2 : ∀ r k, z_al (f_sn1 n (M 458) i) r k = true → ∀ o, k ≤ o → o < k + r → f_sn1 n (M 458) i o = true := by
              intro r
              induction r with
              | zero => intro k _ o o1 o2; omega
              | succ r ih2 =>
                intro k hk o o1 o2
                rw [z_al_s, Bool.and_eq_true] at hk
                by_cases e : o = k
                · subst e; exact hk.1
                · exact ih2 (k + 1) hk.2 o (by omega) (by omega)
            have hsn := hal2 n 0 hal
            have hcg : z_ct (fun o => (f_ci n (M 458) i).testBit o && decide (M 458 (41 + 28 * o + 1) = nI o)) n = z_ct (fun o => (f_ci n (M 458) i).testBit o && decide (o = c)) n := by
              refine z_ct_congr n (fun o ho => ?_)
              cases hb : (f_ci n (M 458) i).testBit o
              · rfl
              · have := hsn o (Nat.zero_le _) (by omega)
                have hf1 : f_sn1 n (M 458) i o = (!(f_ci n (M 458) i).testBit o || decide (M 458 (41 + 28 * o + 1) = M 458 (41 + 28 * i + 1))) := rfl
                rw [hf1, hb, Bool.not_true, Bool.false_or] at this
                rw [of_decide_eq_true this, cc2, Bool.true_and, Bool.true_and]
                exact decide_eq_decide.mpr ⟨fun q => ((nI_eq (by omega) (by omega)).mp q).symm, fun q => by rw [q]⟩
            have : z_ct (fun o => (f_ci n (M 458) i).testBit o && decide (M 458 (41 + 28 * o + 1) = nI o)) n ≤ 1 := by
              rw [hcg]; exact (z_ct_one _ c n).1
            exact this
          generalize z_fd (fun o h => h + ((f_ci n (M 458) i).testBit o && decide (M 458 (41 + 28 * o + 1) = nI o)).toNat) n 0 0 = h at hle ⊢
          have hgt : ¬ nI 1 < nI h := nI_nlt hle (by omega)
          rw [← ih (i + 1) (.int (nI h)) (.int (nI n)) (by omega)]
          simp (disch := first | assumption | exact kr _ rfl | omega | exact Nat.le_of_ble_eq_true rfl) only [xo_5, xo_10_1i, xo_10_1r, xo_10_1n, xo_55, xo_0_1, xo_2_0, xo_17, xo_32, xo_45, xo_64_2, xk_v, xk_n, xo_49, xo_54, xo_10_2i, xo_10_2r, xo_10_2n, xo_10_3i, xo_10_3r, xo_10_3n, xo_0_3, xo_63_2, xo_0_2, xo_48, xo_20, xo_42, xo_72a, xo_72b, xo_15_3i, xo_15_3r, xo_15_3n, zk_M_isSound_99, xo_47, zk_M_isSound_106, xo_15_1i, xo_15_1r, xo_15_1n, nI_add, pk_mul, Nat.add_zero, z_sA_s, z_sA_sA, z_u_s, hgt, if_true, if_false, eq_self, Bool.true_eq_false, Bool.false_eq_true, and_true, true_and, and_false, false_and, or_true, true_or, or_false, false_or, ne_eq, not_true_eq_false, not_false_eq_true, decide_true, decide_false, z_sA_id]
      · have hz : f_ci n (M 458) i = 0 := (f_ci_t hF hi).2.2 hN
        have hal : z_al (f_sn1 n (M 458) i) n 0 = true := by
          have : ∀ r k, z_al (f_sn1 n (M 458) i) r k = true := by
            intro r
            induction r with
            | zero => intro k; rfl
            | succ r ih2 =>
              intro k
              rw [z_al_s, ih2, Bool.and_true]
              unfold f_sn1
              rw [hz, Nat.zero_testBit]; rfl
          exact this n 0
        rw [hal, Bool.true_and, ← ih (i + 1) w1 w2 (by omega)]
        conv => lhs; rw [zk_M_isSound_2]
        simp (disch := first | assumption | exact kr _ rfl | omega | exact Nat.le_of_ble_eq_true rfl) only [xo_5, xo_10_1i, xo_10_1r, xo_10_1n, xo_55, xo_0_1, xo_2_0, xo_17, xo_32, xo_45, zk_M_isSound_12, xo_64_2, xk_v, xk_n, xo_49, zk_M_isSound_20, xo_54, xo_10_2i, xo_10_2r, xo_10_2n, xo_10_3i, xo_10_3r, xo_10_3n, xo_0_3, xo_63_2, xo_0_2, xo_48, xo_20, xo_42, xo_72a, xo_72b, xo_15_3i, xo_15_3r, xo_15_3n, xo_47, zk_M_isSound_106, xo_15_1i, xo_15_1r, xo_15_1n, nI_add, pk_mul, Nat.add_zero, z_sA_s, z_sA_sA, z_u_s, r9, h0, hlt, zr_M_isNormal, c_M_isNormal hM, hN, z_b0, if_true, if_false, eq_self, Bool.true_eq_false, Bool.false_eq_true, and_true, true_and, and_false, false_and, or_true, true_or, or_false, false_or, ne_eq, not_true_eq_false, not_false_eq_true, decide_true, decide_false, z_sA_id]
  rw [e0]
  exact out n 0 .null .null (by omega)
section
variable {G : zG} {b : Nat} {fl : Bool} {kp : Nat × Nat} {n J B Bf : Nat} {V : zM} {s : Nat → Int32} {i : Nat}
theorem s_S_isSound (hW : z_HW G b) (M : zM) (h : z_R fl kp n B V s) (hF : z_F n J Bf s) : z_call 101 [.ref b] G (wr M b V) = some (.inl (some (.int (z_b (f_sn n s)))), G, wr M b V) := by
  have hn : n ≤ 8 := hF.1.1.2
  have h0 : V 0 0 = nI n := h.1.1.trans hF.1.1.1
  have hltn : ¬ nI n < nI n := nI_nlt (Nat.le_refl _) (by omega)
  have inn : ∀ (i : Nat), i < n → ∀ (r o : Nat), o + r = n → z_ex 101 (z_blk 101 18) [.ref b, .int (nI i), .int (nI (f_ci n s i)), .int (nI o)] [] G (wr M b V) = if z_al (f_sn1 n s i) r o = true then z_ex 101 (z_blk 101 63) [.ref b, .int (nI i), .int (nI (f_ci n s i)), .int (nI n)] [] G (wr M b V) else some (.inl (some (.int (nI 0))), G, wr M b V) := by
    intro i hi r
    have hi8 : i < 8 := by omega
    obtain ⟨c1, _, _⟩ := f_ci_t hF hi
    have qi := rd_4 h hi
    induction r with
    | zero =>
      intro o e
      have ho : o = n := by omega
      subst ho
      rw [show z_al (f_sn1 o s i) 0 o = true from rfl, if_pos rfl]
      conv => lhs; rw [zk_S_isSound_18]
      simp (disch := first | assumption | omega | exact Nat.le_of_ble_eq_true rfl | decide) only [xo_5, xo_10_1i, xo_10_1r, xo_10_1n, xo_55, xo_0_1, xo_2_0, xw_16w hW, xw_16b hW, xo_45, xo_63_2, xk_v, xk_n, xo_10_2i, xo_10_2r, xo_10_2n, xo_10_3i, xo_10_3r, xo_10_3n, xo_0_3, xo_0_2, xo_26, xo_23, xo_48, xw_17w_5 hW, xw_34 hW, xo_42, xo_72a, xo_72b, xo_15_3i, xo_15_3r, xo_15_3n, xo_54, xo_15_1i, xo_15_1r, xo_15_1n, nI_add, pk_mul, Nat.add_zero, h0, hltn, if_true, if_false, eq_self, Bool.true_eq_false, Bool.false_eq_true]
    | succ r ih =>
      intro o e
      have ho : o < n := by omega
      have ho8 : o < 8 := by omega
      have hlt : nI o < nI n := nI_lt ho (by omega)
      have qo := rd_4 h ho
      rw [z_al_s, show f_sn1 n s i o = (!(f_ci n s i).testBit o || decide (s (41 + 28 * o + 1) = s (41 + 28 * i + 1))) from rfl]
      cases hb : (f_ci n s i).testBit o
      · have e2 : nI (f_ci n s i) &&& (nI 1 <<< (nI o &&& 31)) = 0 := (z_andN _ c1 o ho8).mpr hb
        rw [Bool.not_false, Bool.true_or, Bool.true_and, ← ih (o + 1) (by omega)]
        conv => lhs; rw [zk_S_isSound_18]
        simp (disch := first | assumption | omega | exact Nat.le_of_ble_eq_true rfl | decide) only [xo_5, xo_10_1i, xo_10_1r, xo_10_1n, xo_55, xo_0_1, xo_2_0, xw_16w hW, xw_16b hW, xo_45, xo_63_2, xk_v, xk_n, xo_10_2i, xo_10_2r, xo_10_2n, xo_10_3i, xo_10_3r, xo_10_3n, xo_0_3, zk_S_isSound_26, xo_0_2, xo_26, xo_23, xo_48, xw_17w_5 hW, xw_34 hW, xo_42, xo_72a, xo_72b, zk_S_isSound_57, xo_15_3i, xo_15_3r, xo_15_3n, xo_54, xo_15_1i, xo_15_1r, xo_15_1n, nI_add, pk_mul, Nat.add_zero, h0, hlt, e2, if_true, if_false, eq_self, Bool.true_eq_false, Bool.false_eq_true]
      · have e2 : ¬ nI (f_ci n s i) &&& (nI 1 <<< (nI o &&& 31)) = 0 := fun q => by
          have := (z_andN _ c1 o ho8).mp q
          rw [hb] at this; exact Bool.false_ne_true this.symm
        by_cases hc : s (41 + 28 * o + 1) = s (41 + 28 * i + 1)
        · rw [decide_eq_true hc, Bool.or_true, Bool.true_and, ← ih (o + 1) (by omega)]
          conv => lhs; rw [zk_S_isSound_18]
          simp (disch := first | assumption | omega | exact Nat.le_of_ble_eq_true rfl | decide) only [xo_5, xo_10_1i, xo_10_1r, xo_10_1n, xo_55, xo_0_1, xo_2_0, xw_16w hW, xw_16b hW, xo_45, xo_63_2, xk_v, xk_n, xo_10_2i, xo_10_2r, xo_10_2n, xo_10_3i, xo_10_3r, xo_10_3n, xo_0_3, zk_S_isSound_26, xo_0_2, xo_26, xo_23, xo_48, zk_S_isSound_34, xw_17w_5 hW, xw_34 hW, xo_42, xo_72a, xo_72b, zk_S_isSound_57, xo_15_3i, xo_15_3r, xo_15_3n, xo_54, xo_15_1i, xo_15_1r, xo_15_1n, nI_add, pk_mul, Nat.add_zero, h0, hlt, e2, qo, qi, hc, if_true, if_false, eq_self, Bool.true_eq_false, Bool.false_eq_true]
        · rw [decide_eq_false hc, Bool.not_true, Bool.false_or, Bool.false_and, if_neg (by decide)]
          conv => lhs; rw [zk_S_isSound_18]
          simp (disch := first | assumption | omega | exact Nat.le_of_ble_eq_true rfl | decide) only [xo_5, xo_10_1i, xo_10_1r, xo_10_1n, xo_55, xo_0_1, xo_2_0, xw_16w hW, xw_16b hW, xo_45, xo_63_2, xk_v, xk_n, xo_10_2i, xo_10_2r, xo_10_2n, xo_10_3i, xo_10_3r, xo_10_3n, xo_0_3, zk_S_isSound_26, xo_0_2, xo_26, xo_23, xo_48, zk_S_isSound_34, xw_17w_5 hW, xw_34 hW, xo_42, zk_S_isSound_55, xo_72a, xo_72b, xo_15_3i, xo_15_3r, xo_15_3n, xo_54, xo_15_1i, xo_15_1r, xo_15_1n, nI_add, pk_mul, Nat.add_zero, h0, hlt, e2, qo, qi, hc, if_true, if_false, eq_self, Bool.true_eq_false, Bool.false_eq_true]
  have out : ∀ (r i : Nat) (w1 w2 : Value), i + r = n → z_ex 101 (z_blk 101 2) [.ref b, .int (nI i), w1, w2] [] G (wr M b V) = some (.inl (some (.int (z_b (z_al (fun i => z_al (f_sn1 n s i) n 0) r i)))), G, wr M b V) := by
    intro r
    induction r with
    | zero =>
      intro i w1 w2 e
      have hi : i = n := by omega
      subst hi
      conv => lhs; rw [zk_S_isSound_2]
      simp (disch := first | assumption | omega | exact Nat.le_of_ble_eq_true rfl | decide) only [xo_5, xo_10_1i, xo_10_1r, xo_10_1n, xo_55, xo_0_1, xo_2_0, xw_16w hW, xw_16b hW, xo_45, xo_63_2, xk_v, xk_n, xo_10_2i, xo_10_2r, xo_10_2n, xo_10_3i, xo_10_3r, xo_10_3n, xo_0_3, xo_0_2, xo_26, xo_23, xo_48, xw_17w_5 hW, xw_34 hW, xo_42, xo_72a, xo_72b, xo_15_3i, xo_15_3r, xo_15_3n, xo_54, xo_15_1i, xo_15_1r, xo_15_1n, zk_S_isSound_69, nI_add, pk_mul, Nat.add_zero, h0, hltn, if_true, if_false, eq_self, Bool.true_eq_false, Bool.false_eq_true]
      rfl
    | succ r ih =>
      intro i w1 w2 e
      have hi : i < n := by omega
      have hlt : nI i < nI n := nI_lt hi (by omega)
      have hci := s_S_circleOf hW M h hF hi
      have e2 := inn i hi n 0 (by omega)
      rw [z_al_s]
      cases hal : z_al (f_sn1 n s i) n 0
      · rw [hal, if_neg (by decide)] at e2
        rw [Bool.false_and]
        conv => lhs; rw [zk_S_isSound_2]
        simp (disch := first | assumption | omega | exact Nat.le_of_ble_eq_true rfl | decide) only [xo_5, xo_10_1i, xo_10_1r, xo_10_1n, xo_55, xo_0_1, xo_2_0, xw_16w hW, xw_16b hW, xo_45, zk_S_isSound_10, xo_63_2, xk_v, xk_n, xo_10_2i, xo_10_2r, xo_10_2n, xo_10_3i, xo_10_3r, xo_10_3n, xo_0_3, xo_0_2, xo_26, xo_23, xo_48, xw_17w_5 hW, xw_34 hW, xo_42, xo_72a, xo_72b, xo_15_3i, xo_15_3r, xo_15_3n, xo_54, xo_15_1i, xo_15_1r, xo_15_1n, nI_add, pk_mul, Nat.add_zero, h0, hlt, hci, if_true, if_false, eq_self, Bool.true_eq_false, Bool.false_eq_true, e2]
        rfl
      · rw [hal, if_pos rfl] at e2
        rw [Bool.true_and, ← ih (i + 1) (.int (nI (f_ci n s i))) (.int (nI n)) (by omega)]
        conv => lhs; rw [zk_S_isSound_2]
        simp (disch := first | assumption | omega | exact Nat.le_of_ble_eq_true rfl | decide) only [xo_5, xo_10_1i, xo_10_1r, xo_10_1n, xo_55, xo_0_1, xo_2_0, xw_16w hW, xw_16b hW, xo_45, zk_S_isSound_10, xo_63_2, xk_v, xk_n, xo_10_2i, xo_10_2r, xo_10_2n, xo_10_3i, xo_10_3r, xo_10_3n, xo_0_3, xo_0_2, xo_26, xo_23, xo_48, xw_17w_5 hW, xw_34 hW, xo_42, xo_72a, xo_72b, xo_15_3i, xo_15_3r, xo_15_3n, xo_54, zk_S_isSound_63, xo_15_1i, xo_15_1r, xo_15_1n, nI_add, pk_mul, Nat.add_zero, h0, hlt, hci, if_true, if_false, eq_self, Bool.true_eq_false, Bool.false_eq_true, e2]
  have e0 : z_call 101 [.ref b] G (wr M b V) = z_ex 101 (z_blk 101 2) [.ref b, .int (nI 0), .null, .null] [] G (wr M b V) := by
    simp only [ze_S_isSound, zk_S_isSound_0, xo_5, xo_10_1i, xo_10_1r, xo_10_1n, xo_55, xo_0_1, xo_2_0, xo_16, xo_45, xo_63_2, xk_v, xk_n, xo_10_2i, xo_10_2r, xo_10_2n, xo_10_3i, xo_10_3r, xo_10_3n, xo_0_3, xo_0_2, xo_26, xo_23, xo_48, xo_17, xo_34, xo_42, xo_72a, xo_72b, xo_15_3i, xo_15_3r, xo_15_3n, xo_54, xo_15_1i, xo_15_1r, xo_15_1n]
  rw [e0]
  exact out n 0 .null .null (by omega)
theorem s_W_changesTold (hW : z_HW G b) (M : zM) (h : z_R fl kp n B V s) (hB : B < 2 ^ 31) : z_call 105 [.ref b] G (wr M b V) = some (.inl (some (.int (s 4165))), G, wr M b V) := by
  obtain ⟨⟨c, c1, c2, c3, c4⟩, _⟩ := h.2.2.2.2.2
  rw [c3]
  have hm : (if nI 40 < nI c then nI 40 else nI c) = nI (min c 40) := by
    by_cases hc : 40 < c
    · rw [if_pos (nI_lt hc (by omega)), Nat.min_eq_right (by omega)]
    · rw [if_neg (nI_nlt (by omega) (by omega)), Nat.min_eq_left (by omega)]
  simp (disch := first | assumption | omega | exact Nat.le_of_ble_eq_true rfl | decide) only [ze_W_changesTold, zk_W_changesTold_0, xo_2_0, xw_16w hW, xo_6, xo_87, xo_70, c2, hm]
theorem s_W_changeField (hW : z_HW G b) (M : zM) (h : z_R fl kp n B V s) (hB : B < 2 ^ 30) {k f : Nat} {c : Nat} (hc : s 4165 = nI c) (hc4 : c ≤ 40) (hk : k < c) (hf : f < 4) : z_call 126 [.ref b, .int (nI k), .int (nI f)] G (wr M b V) = some (.inl (some (.int (s (4166 + 4 * k + f)))), G, wr M b V) := by
  have ht := s_W_changesTold hW M h (by omega)
  obtain ⟨⟨x, c1, c2, c3, c4⟩, _⟩ := h.2.2.2.2.2
  have hcx : c = min x 40 := (nI_eq (by omega) (by omega)).mp (hc.symm.trans c3)
  subst hcx
  rw [c3] at ht
  have hsub : nI x - nI (min x 40) = nI (x - min x 40) := pk_sub (Nat.min_le_left _ _)
  have hrem := c_J_floorMod G (wr M b V) (x := x - min x 40 + k) (y := 40) (by omega) (by omega) (by omega)
  have hm : (x - min x 40 + k) % 40 < 40 := Nat.mod_lt _ (by omega)
  have hv := c4 k hk f hf
  simp (disch := first | assumption | omega | exact Nat.le_of_ble_eq_true rfl | decide) only [ze_W_changeField, zk_W_changeField_0, xo_2_0, xw_16w hW, xw_64w_1 hW, xk_v, xk_n, xo_21, xo_0_1, xo_20, xo_6, xo_63_2, xo_10_3i, xo_10_3r, xo_10_3n, xw_17w_7 hW, xo_0_3, xo_5, xo_22, xo_0_2, xw_32_8 hW, xo_70, c2, ht, hsub, nI_add, hrem, pk_mul, hv]
end
