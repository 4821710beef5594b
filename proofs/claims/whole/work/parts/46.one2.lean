/-! ===== circles, sets, ONE: in the class ===== -/
section
variable {G : zG} {b : Nat} {fl : Bool} {kp : Nat × Nat} {n J B Bf : Nat} {V : zM} {s : Nat → Int32} {i : Nat}
theorem s_S_awake (hW : z_HW G b) (M : zM) (h : z_R fl kp n B V s) (hF : z_F n J Bf s) : z_call 55 [.ref b] G (wr M b V) = some (.inl (some (.int (nI (z_bs (fun o => !decide (s (41 + 28 * o) = nI 2)) n)))), G, wr M b V) := by
  have hn : n ≤ 8 := hF.1.1.2
  have h0 : V 0 0 = nI n := h.1.1.trans hF.1.1.1
  have e0 : z_call 55 [.ref b] G (wr M b V) = z_ex 55 (z_blk 55 4) [.ref b, .int (nI 0), .int (nI 0)] [] G (wr M b V) := by
    simp only [ze_S_awake, zk_S_awake_0, xo_5, xo_10_1i, xo_10_1r, xo_10_1n, xo_10_2i, xo_10_2r, xo_10_2n, xo_55, xo_0_2, xo_2_0, xo_16, xo_45, xo_17, xo_34, xo_42, xo_0_1, xo_26, xo_24, xo_15_2i, xo_15_2r, xo_15_2n, xo_54, xo_70]
  have e := z_loop0 (fun o a => z_ex 55 (z_blk 55 4) [.ref b, .int (nI a), .int (nI o)] [] G (wr M b V)) (fun o a => if (!decide (s (41 + 28 * o) = nI 2)) = true then a ||| 2 ^ o else a) n (by
    intro o a ho
    have ho8 : o < 8 := by omega
    have hlt : nI o < nI n := nI_lt ho (by omega)
    have hb := z_bitN o ho8
    have r3 := rd_3 h ho
    by_cases hd : s (41 + 28 * o) = nI 2
    · rw [if_neg (by rw [decide_eq_true hd]; decide)]
      conv => lhs; rw [zk_S_awake_4]
      simp (disch := first | assumption | omega | exact Nat.le_of_ble_eq_true rfl | decide) only [xo_5, xo_10_1i, xo_10_1r, xo_10_1n, xo_10_2i, xo_10_2r, xo_10_2n, xo_55, xo_0_2, xo_2_0, xw_16w hW, xw_16b hW, xo_45, zk_S_awake_12, xw_17w_5 hW, xw_34 hW, xo_42, xo_0_1, xo_26, xo_24, zk_S_awake_31, xo_15_2i, xo_15_2r, xo_15_2n, xo_54, xo_70, nI_add, pk_mul, Nat.add_zero, h0, hlt, r3, hd, if_true, if_false, eq_self, Bool.true_eq_false, Bool.false_eq_true]
    · rw [if_pos (by rw [decide_eq_false hd]; decide)]
      conv => lhs; rw [zk_S_awake_4]
      simp (disch := first | assumption | omega | exact Nat.le_of_ble_eq_true rfl | decide) only [xo_5, xo_10_1i, xo_10_1r, xo_10_1n, xo_10_2i, xo_10_2r, xo_10_2n, xo_55, xo_0_2, xo_2_0, xw_16w hW, xw_16b hW, xo_45, zk_S_awake_12, xw_17w_5 hW, xw_34 hW, xo_42, zk_S_awake_25, xo_0_1, xo_26, xo_24, zk_S_awake_31, xo_15_2i, xo_15_2r, xo_15_2n, xo_54, xo_70, nI_add, pk_mul, Nat.add_zero, h0, hlt, r3, hd, hb, z_orNN, if_true, if_false, eq_self, Bool.true_eq_false, Bool.false_eq_true]) n 0 0 (by omega)
  rw [e0, e]
  have hlt : ¬ nI n < nI n := nI_nlt (Nat.le_refl _) (by omega)
  conv => lhs; rw [zk_S_awake_4]
  simp (disch := first | assumption | omega | exact Nat.le_of_ble_eq_true rfl | decide) only [xo_5, xo_10_1i, xo_10_1r, xo_10_1n, xo_10_2i, xo_10_2r, xo_10_2n, xo_55, xo_0_2, xo_2_0, xw_16w hW, xw_16b hW, xo_45, xw_17w_5 hW, xw_34 hW, xo_42, xo_0_1, xo_26, xo_24, xo_15_2i, xo_15_2r, xo_15_2n, xo_54, zk_S_awake_37, xo_70, nI_add, pk_mul, Nat.add_zero, h0, hlt, if_true, if_false, eq_self, Bool.true_eq_false, Bool.false_eq_true, z_bs]
theorem s_S_circleOf (hW : z_HW G b) (M : zM) (h : z_R fl kp n B V s) (hF : z_F n J Bf s) (hi : i < n) : z_call 53 [.ref b, .int (nI i)] G (wr M b V) = some (.inl (some (.int (nI (f_ci n s i)))), G, wr M b V) := by
  have hn : n ≤ 8 := hF.1.1.2
  have hi8 : i < 8 := by omega
  have h0 : V 0 0 = nI n := h.1.1.trans hF.1.1.1
  have q3 := rd_3 h hi
  have q6 := rd_6 h hi
  have hltn : ¬ nI n < nI n := nI_nlt (Nat.le_refl _) (by omega)
  unfold f_ci
  by_cases hN : s (41 + 28 * i) = 0
  · rw [if_pos hN]
    have e0 : z_call 53 [.ref b, .int (nI i)] G (wr M b V) = z_ex 53 (z_blk 53 16) [.ref b, .int (nI i), .int (nI 0), .int (nI 0), .null] [] G (wr M b V) := by
      simp (disch := first | assumption | omega | exact Nat.le_of_ble_eq_true rfl | decide) only [ze_S_circleOf, zk_S_circleOf_0, xo_5, xo_10_2i, xo_10_2r, xo_10_2n, xo_2_0, xw_17w_5 hW, xo_0_1, xw_34 hW, xw_16b hW, xw_16w hW, xo_49, zk_S_circleOf_14, xo_10_3i, xo_10_3r, xo_10_3n, xo_55, xo_0_3, xo_45, xo_13_4i, xo_13_4r, xo_13_4n, xo_3_4, xo_43, xo_0_2, xo_26, xo_24, xo_15_3i, xo_15_3r, xo_15_3n, xo_54, xo_70, q3, hN, if_true, if_false, eq_self, Bool.true_eq_false, Bool.false_eq_true]
    have e : ∀ r o a (w : Value), o + r = n → ∃ w', z_ex 53 (z_blk 53 16) [.ref b, .int (nI i), .int (nI a), .int (nI o), w] [] G (wr M b V) = z_ex 53 (z_blk 53 16) [.ref b, .int (nI i), .int (nI (z_fd (fun o a => if (decide (s (41 + 28 * o) = 0) && decide (s (41 + 28 * o + 3) = s (41 + 28 * i + 3))) = true then a ||| 2 ^ o else a) r o a)), .int (nI n), w'] [] G (wr M b V) := by
      intro r
      induction r with
      | zero => intro o a w e; exact ⟨w, by rw [show o = n by omega]; rfl⟩
      | succ r ih =>
        intro o a w e
        have ho8 : o < 8 := by omega
        have hlt : nI o < nI n := nI_lt (by omega) (by omega)
        have hb := z_bitN o ho8
        have r3 := rd_3 h (show o < n by omega)
        have r6 := rd_6 h (show o < n by omega)
        obtain ⟨w', e'⟩ := ih (o + 1) (if (decide (s (41 + 28 * o) = 0) && decide (s (41 + 28 * o + 3) = s (41 + 28 * i + 3))) = true then a ||| 2 ^ o else a) (.ref (b + (9 + 4 * o))) (by omega)
        refine ⟨w', Eq.trans ?_ e'⟩
        by_cases h1 : s (41 + 28 * o) = 0
        · by_cases h2 : s (41 + 28 * o + 3) = s (41 + 28 * i + 3)
          · rw [if_pos (by rw [decide_eq_true h1, decide_eq_true h2]; rfl)]
            conv => lhs; rw [zk_S_circleOf_16]
            simp (disch := first | assumption | omega | exact Nat.le_of_ble_eq_true rfl | decide) only [xo_5, xo_10_2i, xo_10_2r, xo_10_2n, xo_2_0, xw_17w_5 hW, xo_0_1, xw_34 hW, xw_16b hW, xw_16w hW, xo_49, xo_10_3i, xo_10_3r, xo_10_3n, xo_55, xo_0_3, xo_45, zk_S_circleOf_24, xo_13_4i, xo_13_4r, xo_13_4n, xo_3_4, zk_S_circleOf_40, xo_43, zk_S_circleOf_57, xo_0_2, xo_26, xo_24, zk_S_circleOf_63, xo_15_3i, xo_15_3r, xo_15_3n, xo_54, xo_70, nI_add, pk_mul, Nat.add_zero, h0, hlt, r3, r6, q6, h1, h2, hb, z_orNN, if_true, if_false, eq_self, Bool.true_eq_false, Bool.false_eq_true]
          · rw [if_neg (by rw [decide_eq_false h2, Bool.and_false]; decide)]
            conv => lhs; rw [zk_S_circleOf_16]
            simp (disch := first | assumption | omega | exact Nat.le_of_ble_eq_true rfl | decide) only [xo_5, xo_10_2i, xo_10_2r, xo_10_2n, xo_2_0, xw_17w_5 hW, xo_0_1, xw_34 hW, xw_16b hW, xw_16w hW, xo_49, xo_10_3i, xo_10_3r, xo_10_3n, xo_55, xo_0_3, xo_45, zk_S_circleOf_24, xo_13_4i, xo_13_4r, xo_13_4n, xo_3_4, zk_S_circleOf_40, xo_43, xo_0_2, xo_26, xo_24, zk_S_circleOf_63, xo_15_3i, xo_15_3r, xo_15_3n, xo_54, xo_70, nI_add, pk_mul, Nat.add_zero, h0, hlt, r3, r6, q6, h1, h2, if_true, if_false, eq_self, Bool.true_eq_false, Bool.false_eq_true]
        · rw [if_neg (by rw [decide_eq_false h1, Bool.false_and]; decide)]
          conv => lhs; rw [zk_S_circleOf_16]
          simp (disch := first | assumption | omega | exact Nat.le_of_ble_eq_true rfl | decide) only [xo_5, xo_10_2i, xo_10_2r, xo_10_2n, xo_2_0, xw_17w_5 hW, xo_0_1, xw_34 hW, xw_16b hW, xw_16w hW, xo_49, xo_10_3i, xo_10_3r, xo_10_3n, xo_55, xo_0_3, xo_45, zk_S_circleOf_24, xo_13_4i, xo_13_4r, xo_13_4n, xo_3_4, xo_43, xo_0_2, xo_26, xo_24, zk_S_circleOf_63, xo_15_3i, xo_15_3r, xo_15_3n, xo_54, xo_70, nI_add, pk_mul, Nat.add_zero, h0, hlt, r3, h1, if_true, if_false, eq_self, Bool.true_eq_false, Bool.false_eq_true]
    obtain ⟨w', e'⟩ := e n 0 0 .null (by omega)
    rw [e0, e']
    conv => lhs; rw [zk_S_circleOf_16]
    simp (disch := first | assumption | omega | exact Nat.le_of_ble_eq_true rfl | decide) only [xo_5, xo_10_2i, xo_10_2r, xo_10_2n, xo_2_0, xw_17w_5 hW, xo_0_1, xw_34 hW, xw_16b hW, xw_16w hW, xo_49, xo_10_3i, xo_10_3r, xo_10_3n, xo_55, xo_0_3, xo_45, xo_13_4i, xo_13_4r, xo_13_4n, xo_3_4, xo_43, xo_0_2, xo_26, xo_24, xo_15_3i, xo_15_3r, xo_15_3n, xo_54, zk_S_circleOf_69, xo_70, nI_add, pk_mul, Nat.add_zero, h0, hltn, if_true, if_false, eq_self, Bool.true_eq_false, Bool.false_eq_true, z_bs]
  · rw [if_neg hN]
    simp (disch := first | assumption | omega | exact Nat.le_of_ble_eq_true rfl | decide) only [ze_S_circleOf, zk_S_circleOf_0, xo_5, xo_10_2i, xo_10_2r, xo_10_2n, xo_2_0, xw_17w_5 hW, xo_0_1, xw_34 hW, xw_16b hW, xw_16w hW, xo_49, xo_10_3i, xo_10_3r, xo_10_3n, xo_55, xo_0_3, xo_45, xo_13_4i, xo_13_4r, xo_13_4n, xo_3_4, xo_43, xo_0_2, xo_26, xo_24, xo_15_3i, xo_15_3r, xo_15_3n, xo_54, zk_S_circleOf_69, xo_70, q3, hN, if_true, if_false, eq_self, Bool.true_eq_false, Bool.false_eq_true]
theorem z_fix (Q : Nat → Nat) (S : Nat) (h : Q S = S) : ∀ r k, z_fd (fun _ T => Q T) r k S = S
  | 0, _ => rfl
  | r + 1, k => by rw [z_fd_s, h]; exact z_fix Q S h r (k + 1)
theorem s_S_setOf (hW : z_HW G b) (M : zM) (h : z_R fl kp n B V s) (hF : z_F n J Bf s) (hi : i < n) : z_call 54 [.ref b, .int (nI i)] G (wr M b V) = some (.inl (some (.int (nI (f_so n s i)))), G, wr M b V) := by
  have hn : n ≤ 8 := hF.1.1.2
  have hi8 : i < 8 := by omega
  have h0 : V 0 0 = nI n := h.1.1.trans hF.1.1.1
  have hltn : ¬ nI n < nI n := nI_nlt (Nat.le_refl _) (by omega)
  have haw := s_S_awake hW M h hF
  have hawt := z_bs_t (fun o => !decide (s (41 + 28 * o) = nI 2)) n
  have haw8 := z_bs_lt (fun o => !decide (s (41 + 28 * o) = nI 2)) n hn
  have hb := z_bitN i hi8
  generalize z_bs (fun o => !decide (s (41 + 28 * o) = nI 2)) n = aw at haw hawt haw8
  have hs0 : aw &&& 2 ^ i = f_s0 s i := by
    apply Nat.eq_of_testBit_eq
    intro j
    rw [Nat.testBit_and, hawt, Nat.testBit_two_pow]
    unfold f_s0
    by_cases hd : s (41 + 28 * i) = nI 2
    · rw [if_pos hd, Nat.zero_testBit]
      by_cases e : i = j
      · subst e; rw [decide_eq_true hd]; simp
      · rw [decide_eq_false e, Bool.and_false]
    · rw [if_neg hd, Nat.testBit_two_pow]
      by_cases e : i = j
      · subst e; rw [decide_eq_false hd, decide_eq_true hi]; simp
      · rw [decide_eq_false e, Bool.and_false]
  obtain ⟨W, hWd⟩ : ∃ W : Nat → Nat, ∀ j, j < n → W j < 256 ∧ V 2 j = nI (W j) ∧ ∀ x, x < 8 → (W j).testBit x = (decide (x < n ∧ x ≠ j) && !zf_has (s (25 + j)) (nI x)) := by
    refine ⟨fun j => if hj : j < n then Classical.choose (h.2.1 j hj).1 else 0, fun j hj => ?_⟩
    dsimp only
    rw [dif_pos hj]
    exact Classical.choose_spec (h.2.1 j hj).1
  have hE : ∀ j x, j < n → (W j &&& aw).testBit x = (decide (x < n) && f_ed s j x) := by
    intro j x hj
    rw [Nat.testBit_and, hawt]
    by_cases hx : x < n
    · rw [(hWd j hj).2.2 x (by omega), decide_eq_true hx]
      unfold f_ed
      by_cases e : j = x
      · subst e
        rw [decide_eq_false (fun q => q.2 rfl : ¬ (j < n ∧ j ≠ j)), decide_eq_true (rfl : j = j)]; simp
      · rw [decide_eq_true (show x < n ∧ x ≠ j from ⟨hx, fun q => e q.symm⟩), decide_eq_false e]
        cases zf_has (s (25 + j)) (nI x) <;> cases decide (s (41 + 28 * x) = nI 2) <;> rfl
    · rw [decide_eq_false hx, Bool.false_and, Bool.false_and, Bool.and_false]
  have hop := z_c1_op (f_ed s) n (fun j => W j &&& aw) hE
  have hfin : f_so n s i = z_it (z_c1 (fun j => W j &&& aw) n) n (f_s0 s i) := z_it_eq (z_q2_op (f_ed s) n) hop (f_s0_b s hi)
  rw [hfin]
  have e0 : z_call 54 [.ref b, .int (nI i)] G (wr M b V) = z_ex 54 (z_blk 54 14) [.ref b, .int (nI i), .int (nI aw), .int (nI (f_s0 s i)), .int (nI 0), .null, .null] [] G (wr M b V) := by
    rw [← hs0]
    simp (disch := first | assumption | omega | exact Nat.le_of_ble_eq_true rfl | decide) only [ze_S_setOf, zk_S_setOf_0, xo_2_0, xo_63_1, xk_v, xk_n, xo_10_2i, xo_10_2r, xo_10_2n, xo_0_2, xo_5, xo_0_1, xo_26, xo_23, xo_10_3i, xo_10_3r, xo_10_3n, xo_11_4i, xo_11_4r, xo_11_4n, xo_55, xo_1_4, xw_16w hW, xo_45, xo_0_3, xo_11_5i, xo_11_5r, xo_11_5n, xo_11_6i, xo_11_6r, xo_11_6n, xo_1_6, xo_48, xo_1_5, xw_17w_4 hW, xw_32_2 hW, xo_24, xo_15_6i, xo_15_6r, xo_15_6n, xo_54, xo_43, xo_15_4i, xo_15_4r, xo_15_4n, xo_70, haw, hb, z_andNN]
  have in2 : ∀ (S rd : Nat) (w1 w2 : Value), S < 256 → z_ex 54 (z_blk 54 23) [.ref b, .int (nI i), .int (nI aw), .int (nI S), .int (nI rd), w1, w2] [] G (wr M b V) = z_ex 54 (z_blk 54 67) [.ref b, .int (nI i), .int (nI aw), .int (nI S), .int (nI rd), .int (nI (z_c1 (fun j => W j &&& aw) n S)), .int (nI n)] [] G (wr M b V) := by
    intro S rd w1 w2 hS
    have e1 : z_ex 54 (z_blk 54 23) [.ref b, .int (nI i), .int (nI aw), .int (nI S), .int (nI rd), w1, w2] [] G (wr M b V) = z_ex 54 (z_blk 54 29) [.ref b, .int (nI i), .int (nI aw), .int (nI S), .int (nI rd), .int (nI S), .int (nI 0)] [] G (wr M b V) := by
      simp only [xo_2_0, xo_63_1, xk_v, xk_n, xo_10_2i, xo_10_2r, xo_10_2n, xo_0_2, xo_5, xo_0_1, xo_26, xo_23, xo_10_3i, xo_10_3r, xo_10_3n, xo_11_4i, xo_11_4r, xo_11_4n, xo_55, xo_1_4, xo_16, xo_45, zk_S_setOf_23, xo_0_3, xo_11_5i, xo_11_5r, xo_11_5n, xo_11_6i, xo_11_6r, xo_11_6n, xo_1_6, xo_48, xo_1_5, xo_17, xo_32, xo_24, xo_15_6i, xo_15_6r, xo_15_6n, xo_54, xo_43, xo_15_4i, xo_15_4r, xo_15_4n, xo_70]
    have e := z_loop0 (fun j R => z_ex 54 (z_blk 54 29) [.ref b, .int (nI i), .int (nI aw), .int (nI S), .int (nI rd), .int (nI R), .int (nI j)] [] G (wr M b V)) (fun j R => if S.testBit j = true then R ||| (W j &&& aw) else R) n (by
      intro j R hj
      have hj8 : j < 8 := by omega
      have hlt : nI j < nI n := nI_lt hj (by omega)
      have hw2 := (hWd j hj).2.1
      cases hbt : S.testBit j
      · have e2 : nI S &&& (nI 1 <<< (nI j &&& 31)) = 0 := (z_andN S hS j hj8).mpr hbt
        rw [if_neg (by decide)]
        conv => lhs; rw [zk_S_setOf_29]
        simp (disch := first | assumption | omega | exact Nat.le_of_ble_eq_true rfl | decide) only [xo_2_0, xo_63_1, xk_v, xk_n, xo_10_2i, xo_10_2r, xo_10_2n, xo_0_2, xo_5, xo_0_1, xo_26, xo_23, xo_10_3i, xo_10_3r, xo_10_3n, xo_11_4i, xo_11_4r, xo_11_4n, xo_55, xo_1_4, xw_16w hW, xo_45, xo_0_3, xo_11_5i, xo_11_5r, xo_11_5n, xo_11_6i, xo_11_6r, xo_11_6n, xo_1_6, zk_S_setOf_38, xo_48, xo_1_5, xw_17w_4 hW, xw_32_2 hW, xo_24, zk_S_setOf_61, xo_15_6i, xo_15_6r, xo_15_6n, xo_54, xo_43, xo_15_4i, xo_15_4r, xo_15_4n, xo_70, nI_add, pk_mul, Nat.add_zero, h0, hlt, e2, if_true, if_false, eq_self, Bool.true_eq_false, Bool.false_eq_true]
      · have e2 : ¬ nI S &&& (nI 1 <<< (nI j &&& 31)) = 0 := fun q => by
          have := (z_andN S hS j hj8).mp q
          rw [hbt] at this; exact Bool.false_ne_true this.symm
        rw [if_pos rfl]
        conv => lhs; rw [zk_S_setOf_29]
        simp (disch := first | assumption | omega | exact Nat.le_of_ble_eq_true rfl | decide) only [xo_2_0, xo_63_1, xk_v, xk_n, xo_10_2i, xo_10_2r, xo_10_2n, xo_0_2, xo_5, xo_0_1, xo_26, xo_23, xo_10_3i, xo_10_3r, xo_10_3n, xo_11_4i, xo_11_4r, xo_11_4n, xo_55, xo_1_4, xw_16w hW, xo_45, xo_0_3, xo_11_5i, xo_11_5r, xo_11_5n, xo_11_6i, xo_11_6r, xo_11_6n, xo_1_6, zk_S_setOf_38, xo_48, zk_S_setOf_47, xo_1_5, xw_17w_4 hW, xw_32_2 hW, xo_24, zk_S_setOf_61, xo_15_6i, xo_15_6r, xo_15_6n, xo_54, xo_43, xo_15_4i, xo_15_4r, xo_15_4n, xo_70, nI_add, pk_mul, Nat.add_zero, h0, hlt, e2, hw2, z_andNN, z_orNN, if_true, if_false, eq_self, Bool.true_eq_false, Bool.false_eq_true]) n 0 S (by omega)
    rw [e1, e]
    conv => lhs; rw [zk_S_setOf_29]
    simp (disch := first | assumption | omega | exact Nat.le_of_ble_eq_true rfl | decide) only [xo_2_0, xo_63_1, xk_v, xk_n, xo_10_2i, xo_10_2r, xo_10_2n, xo_0_2, xo_5, xo_0_1, xo_26, xo_23, xo_10_3i, xo_10_3r, xo_10_3n, xo_11_4i, xo_11_4r, xo_11_4n, xo_55, xo_1_4, xw_16w hW, xo_45, xo_0_3, xo_11_5i, xo_11_5r, xo_11_5n, xo_11_6i, xo_11_6r, xo_11_6n, xo_1_6, xo_48, xo_1_5, xw_17w_4 hW, xw_32_2 hW, xo_24, xo_15_6i, xo_15_6r, xo_15_6n, xo_54, xo_43, xo_15_4i, xo_15_4r, xo_15_4n, xo_70, nI_add, pk_mul, Nat.add_zero, h0, hltn, if_true, if_false, eq_self, Bool.true_eq_false, Bool.false_eq_true, z_c1]
  have out : ∀ (r rd S : Nat) (w1 w2 : Value), rd + r = n → (∀ j, S.testBit j = true → j < n) → z_ex 54 (z_blk 54 14) [.ref b, .int (nI i), .int (nI aw), .int (nI S), .int (nI rd), w1, w2] [] G (wr M b V) = some (.inl (some (.int (nI (z_fd (fun _ T => z_c1 (fun j => W j &&& aw) n T) r rd S)))), G, wr M b V) := by
    intro r
    induction r with
    | zero =>
      intro rd S w1 w2 e _
      have hrd : rd = n := by omega
      subst hrd
      conv => lhs; rw [zk_S_setOf_14]
      simp (disch := first | assumption | omega | exact Nat.le_of_ble_eq_true rfl | decide) only [xo_2_0, xo_63_1, xk_v, xk_n, xo_10_2i, xo_10_2r, xo_10_2n, xo_0_2, xo_5, xo_0_1, xo_26, xo_23, xo_10_3i, xo_10_3r, xo_10_3n, xo_11_4i, xo_11_4r, xo_11_4n, xo_55, xo_1_4, xw_16w hW, xo_45, xo_0_3, xo_11_5i, xo_11_5r, xo_11_5n, xo_11_6i, xo_11_6r, xo_11_6n, xo_1_6, xo_48, xo_1_5, xw_17w_4 hW, xw_32_2 hW, xo_24, xo_15_6i, xo_15_6r, xo_15_6n, xo_54, xo_43, xo_15_4i, xo_15_4r, xo_15_4n, zk_S_setOf_85, xo_70, nI_add, pk_mul, Nat.add_zero, h0, hltn, if_true, if_false, eq_self, Bool.true_eq_false, Bool.false_eq_true, z_fd_0]
    | succ r ih =>
      intro rd S w1 w2 e hS
      have hlt : nI rd < nI n := nI_lt (by omega) (by omega)
      have hS8 := z_bits8 hn hS
      have e2 := in2 S rd w1 w2 hS8
      obtain ⟨_, _, _, q4⟩ := hop S hS
      have hQ8 := z_bits8 hn q4
      by_cases hfx : z_c1 (fun j => W j &&& aw) n S = S
      · have heq : nI (z_c1 (fun j => W j &&& aw) n S) = nI S := by rw [hfx]
        rw [z_fix _ S hfx]
        conv => lhs; rw [zk_S_setOf_14]
        simp (disch := first | assumption | omega | exact Nat.le_of_ble_eq_true rfl | decide) only [xo_2_0, xo_63_1, xk_v, xk_n, xo_10_2i, xo_10_2r, xo_10_2n, xo_0_2, xo_5, xo_0_1, xo_26, xo_23, xo_10_3i, xo_10_3r, xo_10_3n, xo_11_4i, xo_11_4r, xo_11_4n, xo_55, xo_1_4, xw_16w hW, xo_45, xo_0_3, xo_11_5i, xo_11_5r, xo_11_5n, xo_11_6i, xo_11_6r, xo_11_6n, xo_1_6, xo_48, xo_1_5, xw_17w_4 hW, xw_32_2 hW, xo_24, xo_15_6i, xo_15_6r, xo_15_6n, xo_54, zk_S_setOf_67, xo_43, zk_S_setOf_73, xo_15_4i, xo_15_4r, xo_15_4n, zk_S_setOf_85, xo_70, nI_add, pk_mul, Nat.add_zero, h0, hlt, e2, heq, if_true, if_false, eq_self, Bool.true_eq_false, Bool.false_eq_true]
      · have hne : ¬ nI (z_c1 (fun j => W j &&& aw) n S) = nI S := fun q => hfx ((nI_eq (by omega) (by omega)).mp q)
        rw [z_fd_s, ← ih (rd + 1) _ (.int (nI (z_c1 (fun j => W j &&& aw) n S))) (.int (nI n)) (by omega) q4]
        conv => lhs; rw [zk_S_setOf_14]
        simp (disch := first | assumption | omega | exact Nat.le_of_ble_eq_true rfl | decide) only [xo_2_0, xo_63_1, xk_v, xk_n, xo_10_2i, xo_10_2r, xo_10_2n, xo_0_2, xo_5, xo_0_1, xo_26, xo_23, xo_10_3i, xo_10_3r, xo_10_3n, xo_11_4i, xo_11_4r, xo_11_4n, xo_55, xo_1_4, xw_16w hW, xo_45, xo_0_3, xo_11_5i, xo_11_5r, xo_11_5n, xo_11_6i, xo_11_6r, xo_11_6n, xo_1_6, xo_48, xo_1_5, xw_17w_4 hW, xw_32_2 hW, xo_24, xo_15_6i, xo_15_6r, xo_15_6n, xo_54, zk_S_setOf_67, xo_43, zk_S_setOf_76, xo_15_4i, xo_15_4r, xo_15_4n, xo_70, nI_add, pk_mul, Nat.add_zero, h0, hlt, e2, hne, if_true, if_false, eq_self, Bool.true_eq_false, Bool.false_eq_true]
  rw [e0, out n 0 (f_s0 s i) .null .null (by omega) (f_s0_b s hi)]
  rfl
theorem s_S_isOne (hW : z_HW G b) (M : zM) (h : z_R fl kp n B V s) (hF : z_F n J Bf s) : z_call 52 [.ref b] G (wr M b V) = some (.inl (some (.int (z_b (f_one n s)))), G, wr M b V) := by
  have hn : n ≤ 8 := hF.1.1.2
  have h0 : V 0 0 = nI n := h.1.1.trans hF.1.1.1
  have hsplit : f_one n s = (z_al (fun k => !decide (s (41 + 28 * k) = nI 1)) n 0 && z_al (fun k => !decide (s (41 + 28 * k) = 0) || (decide (s (41 + 28 * k + 4) = nI (f_ci n s k)) && decide (s (41 + 28 * k + 4) = nI (f_so n s k)))) n 0) := by
    rw [← z_al_and]
    refine z_al_congr n 0 (fun j _ hj => ?_)
    obtain ⟨a, a1, a2⟩ := F_0 hF (show j < n by omega)
    unfold f_o1
    rw [a2]
    rcases (show a = 0 ∨ a = 1 ∨ a = 2 by omega) with e | e | e
    · subst e
      rw [decide_eq_false (show ¬ nI 0 = nI 2 by decide), decide_eq_true (show nI 0 = 0 by decide), decide_eq_false (show ¬ nI 0 = nI 1 by decide)]
      simp only [Bool.false_or, Bool.true_and, Bool.not_true, Bool.not_false]
      by_cases h2 : s (41 + 28 * j + 4) = nI (f_so n s j)
      · rw [h2, decide_eq_true (rfl : nI (f_so n s j) = nI (f_so n s j)), Bool.and_true, Bool.and_true]
        exact decide_eq_decide.mpr ⟨fun q => q.symm, fun q => q.symm⟩
      · rw [decide_eq_false h2, Bool.and_false, Bool.and_false]
    · subst e
      rw [decide_eq_false (show ¬ nI 1 = nI 2 by decide), decide_eq_false (show ¬ nI 1 = 0 by decide), decide_eq_true (rfl : nI 1 = nI 1)]
      simp
    · subst e
      rw [decide_eq_true (rfl : nI 2 = nI 2), decide_eq_false (show ¬ nI 2 = 0 by decide), decide_eq_false (show ¬ nI 2 = nI 1 by decide)]
      simp
  rw [hsplit]
  have second : ∀ r k (w : Value), k + r = n → z_ex 52 (z_blk 52 33) [.ref b, .int (nI k), w] [] G (wr M b V) = some (.inl (some (.int (z_b (z_al (fun k => !decide (s (41 + 28 * k) = 0) || (decide (s (41 + 28 * k + 4) = nI (f_ci n s k)) && decide (s (41 + 28 * k + 4) = nI (f_so n s k)))) r k)))), G, wr M b V) := by
    intro r
    induction r with
    | zero =>
      intro k w e
      have hlt : ¬ nI k < nI n := nI_nlt (by omega) (by omega)
      conv => lhs; rw [zk_S_isOne_33]
      simp (disch := first | assumption | omega | exact Nat.le_of_ble_eq_true rfl | decide) only [xo_5, xo_10_1i, xo_10_1r, xo_10_1n, xo_55, xo_0_1, xo_2_0, xw_16w hW, xw_16b hW, xo_45, xw_17w_5 hW, xw_34 hW, xo_43, xo_72a, xo_72b, xo_15_1i, xo_15_1r, xo_15_1n, xo_54, xo_12_2i, xo_12_2r, xo_12_2n, xo_2_2, xo_49, xo_63_2, xk_v, xk_n, xo_42, zk_S_isOne_87, nI_add, pk_mul, Nat.add_zero, h0, hlt, if_true, if_false, eq_self, Bool.true_eq_false, Bool.false_eq_true]
      rfl
    | succ r ih =>
      intro k w e
      have hk : k < n := by omega
      have hk8 : k < 8 := by omega
      have hlt : nI k < nI n := nI_lt hk (by omega)
      have r3 := rd_3 h hk
      have r7 := rd_7 h hk
      have hci := s_S_circleOf hW M h hF hk
      have hso := s_S_setOf hW M h hF hk
      rw [z_al_s]
      by_cases hN : s (41 + 28 * k) = 0
      · by_cases h1 : s (41 + 28 * k + 4) = nI (f_ci n s k)
        · by_cases h2 : s (41 + 28 * k + 4) = nI (f_so n s k)
          · rw [decide_eq_true h1, decide_eq_true h2, Bool.and_true, Bool.or_true, Bool.true_and, ← ih (k + 1) (.ref (b + (9 + 4 * k))) (by omega)]
            conv => lhs; rw [zk_S_isOne_33]
            rw [h1] at h2
            simp (disch := first | assumption | omega | exact Nat.le_of_ble_eq_true rfl | decide) only [xo_5, xo_10_1i, xo_10_1r, xo_10_1n, xo_55, xo_0_1, xo_2_0, xw_16w hW, xw_16b hW, xo_45, xw_17w_5 hW, xw_34 hW, xo_43, xo_72a, xo_72b, xo_15_1i, xo_15_1r, xo_15_1n, xo_54, zk_S_isOne_41, xo_12_2i, xo_12_2r, xo_12_2n, xo_2_2, xo_49, zk_S_isOne_55, xo_63_2, xk_v, xk_n, zk_S_isOne_67, xo_42, zk_S_isOne_81, nI_add, pk_mul, Nat.add_zero, h0, hlt, r3, r7, hci, hso, hN, h1, h2, if_true, if_false, eq_self, Bool.true_eq_false, Bool.false_eq_true]
          · rw [decide_eq_false h2, Bool.and_false, decide_eq_true hN, Bool.not_true, Bool.false_or, Bool.false_and]
            rw [h1] at h2
            conv => lhs; rw [zk_S_isOne_33]
            simp (disch := first | assumption | omega | exact Nat.le_of_ble_eq_true rfl | decide) only [xo_5, xo_10_1i, xo_10_1r, xo_10_1n, xo_55, xo_0_1, xo_2_0, xw_16w hW, xw_16b hW, xo_45, xw_17w_5 hW, xw_34 hW, xo_43, xo_72a, xo_72b, xo_15_1i, xo_15_1r, xo_15_1n, xo_54, zk_S_isOne_41, xo_12_2i, xo_12_2r, xo_12_2n, xo_2_2, xo_49, zk_S_isOne_55, xo_63_2, xk_v, xk_n, zk_S_isOne_67, xo_42, zk_S_isOne_79, nI_add, pk_mul, Nat.add_zero, h0, hlt, r3, r7, hci, hso, hN, h1, h2, if_true, if_false, eq_self, Bool.true_eq_false, Bool.false_eq_true]
            rfl
        · rw [decide_eq_false h1, Bool.false_and, decide_eq_true hN, Bool.not_true, Bool.false_or, Bool.false_and]
          conv => lhs; rw [zk_S_isOne_33]
          simp (disch := first | assumption | omega | exact Nat.le_of_ble_eq_true rfl | decide) only [xo_5, xo_10_1i, xo_10_1r, xo_10_1n, xo_55, xo_0_1, xo_2_0, xw_16w hW, xw_16b hW, xo_45, xw_17w_5 hW, xw_34 hW, xo_43, xo_72a, xo_72b, xo_15_1i, xo_15_1r, xo_15_1n, xo_54, zk_S_isOne_41, xo_12_2i, xo_12_2r, xo_12_2n, xo_2_2, xo_49, zk_S_isOne_55, xo_63_2, xk_v, xk_n, xo_42, zk_S_isOne_79, nI_add, pk_mul, Nat.add_zero, h0, hlt, r3, r7, hci, hN, h1, if_true, if_false, eq_self, Bool.true_eq_false, Bool.false_eq_true]
          rfl
      · rw [decide_eq_false hN, Bool.not_false, Bool.true_or, Bool.true_and, ← ih (k + 1) (.ref (b + (9 + 4 * k))) (by omega)]
        conv => lhs; rw [zk_S_isOne_33]
        simp (disch := first | assumption | omega | exact Nat.le_of_ble_eq_true rfl | decide) only [xo_5, xo_10_1i, xo_10_1r, xo_10_1n, xo_55, xo_0_1, xo_2_0, xw_16w hW, xw_16b hW, xo_45, xw_17w_5 hW, xw_34 hW, xo_43, xo_72a, xo_72b, xo_15_1i, xo_15_1r, xo_15_1n, xo_54, zk_S_isOne_41, xo_12_2i, xo_12_2r, xo_12_2n, xo_2_2, xo_49, xo_63_2, xk_v, xk_n, xo_42, zk_S_isOne_81, nI_add, pk_mul, Nat.add_zero, h0, hlt, r3, hN, if_true, if_false, eq_self, Bool.true_eq_false, Bool.false_eq_true]
  have first : ∀ r k, k + r = n → z_ex 52 (z_blk 52 2) [.ref b, .int (nI k), .null] [] G (wr M b V) = some (.inl (some (.int (z_b (z_al (fun k => !decide (s (41 + 28 * k) = nI 1)) r k && z_al (fun k => !decide (s (41 + 28 * k) = 0) || (decide (s (41 + 28 * k + 4) = nI (f_ci n s k)) && decide (s (41 + 28 * k + 4) = nI (f_so n s k)))) n 0)))), G, wr M b V) := by
    intro r
    induction r with
    | zero =>
      intro k e
      have hlt : ¬ nI k < nI n := nI_nlt (by omega) (by omega)
      have e2 := second n 0 .null (by omega)
      conv => lhs; rw [zk_S_isOne_2]
      simp (disch := first | assumption | omega | exact Nat.le_of_ble_eq_true rfl | decide) only [xo_5, xo_10_1i, xo_10_1r, xo_10_1n, xo_55, xo_0_1, xo_2_0, xw_16w hW, xw_16b hW, xo_45, xw_17w_5 hW, xw_34 hW, xo_43, xo_72a, xo_72b, xo_15_1i, xo_15_1r, xo_15_1n, xo_54, zk_S_isOne_31, xo_12_2i, xo_12_2r, xo_12_2n, xo_2_2, xo_49, xo_63_2, xk_v, xk_n, xo_42, nI_add, pk_mul, Nat.add_zero, h0, hlt, if_true, if_false, eq_self, Bool.true_eq_false, Bool.false_eq_true, e2]
      rfl
    | succ r ih =>
      intro k e
      have hk : k < n := by omega
      have hk8 : k < 8 := by omega
      have hlt : nI k < nI n := nI_lt hk (by omega)
      have r3 := rd_3 h hk
      rw [z_al_s]
      by_cases h1 : s (41 + 28 * k) = nI 1
      · rw [decide_eq_true h1, Bool.not_true, Bool.false_and, Bool.false_and]
        conv => lhs; rw [zk_S_isOne_2]
        simp (disch := first | assumption | omega | exact Nat.le_of_ble_eq_true rfl | decide) only [xo_5, xo_10_1i, xo_10_1r, xo_10_1n, xo_55, xo_0_1, xo_2_0, xw_16w hW, xw_16b hW, xo_45, zk_S_isOne_10, xw_17w_5 hW, xw_34 hW, xo_43, zk_S_isOne_23, xo_72a, xo_72b, xo_15_1i, xo_15_1r, xo_15_1n, xo_54, xo_12_2i, xo_12_2r, xo_12_2n, xo_2_2, xo_49, xo_63_2, xk_v, xk_n, xo_42, nI_add, pk_mul, Nat.add_zero, h0, hlt, r3, h1, if_true, if_false, eq_self, Bool.true_eq_false, Bool.false_eq_true]
        rfl
      · rw [decide_eq_false h1, Bool.not_false, Bool.true_and, ← ih (k + 1) (by omega)]
        conv => lhs; rw [zk_S_isOne_2]
        simp (disch := first | assumption | omega | exact Nat.le_of_ble_eq_true rfl | decide) only [xo_5, xo_10_1i, xo_10_1r, xo_10_1n, xo_55, xo_0_1, xo_2_0, xw_16w hW, xw_16b hW, xo_45, zk_S_isOne_10, xw_17w_5 hW, xw_34 hW, xo_43, xo_72a, xo_72b, zk_S_isOne_25, xo_15_1i, xo_15_1r, xo_15_1n, xo_54, xo_12_2i, xo_12_2r, xo_12_2n, xo_2_2, xo_49, xo_63_2, xk_v, xk_n, xo_42, nI_add, pk_mul, Nat.add_zero, h0, hlt, r3, h1, if_true, if_false, eq_self, Bool.true_eq_false, Bool.false_eq_true]
  have e0 : z_call 52 [.ref b] G (wr M b V) = z_ex 52 (z_blk 52 2) [.ref b, .int (nI 0), .null] [] G (wr M b V) := by
    simp only [ze_S_isOne, zk_S_isOne_0, xo_5, xo_10_1i, xo_10_1r, xo_10_1n, xo_55, xo_0_1, xo_2_0, xo_16, xo_45, xo_17, xo_34, xo_43, xo_72a, xo_72b, xo_15_1i, xo_15_1r, xo_15_1n, xo_54, xo_12_2i, xo_12_2r, xo_12_2n, xo_2_2, xo_49, xo_63_2, xk_v, xk_n, xo_42]
  rw [e0, first n 0 (by omega)]
end
