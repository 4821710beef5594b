/-! ===== the reference reads: ranks; words alike in both ===== -/
theorem mt_iff (f : Nat → Int32) (w : List Nat) : ∀ r k, y_mt f w r k = true ↔ ∀ j, k ≤ j → j < k + r → f j = nI (w.getD j 0)
  | 0, k => ⟨fun _ j h1 h2 => by omega, fun _ => rfl⟩
  | r + 1, k => by
    unfold y_mt
    rw [Bool.and_eq_true, decide_eq_true_iff, mt_iff f w r (k + 1)]
    constructor
    · intro ⟨h1, h2⟩ j a b
      by_cases e : j = k
      · subst e; exact h1
      · exact h2 j (by omega) (by omega)
    · intro h
      exact ⟨h k (by omega) (by omega), fun j a b => h j (by omega) (by omega)⟩
theorem we_sp (T : Nat → Int32) : ∀ r a, (∀ j, a ≤ j → j < y_we T r a → y_sm (T j) = true) ∧ (y_we T r a = a + r ∨ y_sm (T (y_we T r a)) = false)
  | 0, a => ⟨fun j h1 h2 => absurd h2 (by have : y_we T 0 a = a := rfl; omega), Or.inl rfl⟩
  | r + 1, a => by
    cases h : y_sm (T a) with
    | false =>
      have e : y_we T (r + 1) a = a := by rw [y_we, h, if_neg (by decide)]
      rw [e]
      exact ⟨fun j h1 h2 => by omega, Or.inr h⟩
    | true =>
      have e : y_we T (r + 1) a = y_we T r (a + 1) := by rw [y_we, h, if_pos rfl]
      rw [e]
      obtain ⟨h1, h2⟩ := we_sp T r (a + 1)
      refine ⟨fun j a1 a2 => ?_, ?_⟩
      · by_cases q : j = a
        · subst q; exact h
        · exact h1 j (by omega) a2
      · rw [show a + (r + 1) = a + 1 + r by omega]; exact h2
theorem sm_l : ∀ c, c < 123 → 97 ≤ c → y_sm (nI c) = true := by decide +kernel
theorem at_ne : ∀ c, c < 123 → nI 4294967295 ≠ nI c := by decide +kernel
theorem is_tk {T : Nat → Int32} {sz a : Nat} {w : List Nat} (hw : ∀ k, k < w.length → 97 ≤ w.getD k 0 ∧ w.getD k 0 < 123) (ha : a ≤ sz) : y_is T a (y_we T (sz - a) a) w = y_tk T sz a w ∧ (y_tk T sz a w = true → y_we T (sz - a) a = a + w.length) := by
  have wb := we_b T (sz - a) a
  obtain ⟨s1, s2⟩ := we_sp T (sz - a) a
  generalize y_we T (sz - a) a = e at wb s1 s2
  have key : y_tk T sz a w = true → e = a + w.length ∧ ∀ j, j < w.length → T (a + j) = nI (w.getD j 0) := by
    intro h
    unfold y_tk at h
    rw [Bool.and_eq_true, mt_iff] at h
    obtain ⟨h1, h2⟩ := h
    have h3 : ∀ j, j < w.length → a + j < sz ∧ T (a + j) = nI (w.getD j 0) := by
      intro j hj
      have q := h1 j (by omega) (by omega)
      unfold y_at at q
      by_cases l : a + j < sz
      · rw [if_pos l] at q; exact ⟨l, q⟩
      · rw [if_neg l] at q; exact absurd q (at_ne _ (hw j hj).2)
    refine ⟨?_, fun j hj => (h3 j hj).2⟩
    have c1 : ¬ e < a + w.length := by
      intro l
      obtain ⟨j, hj⟩ : ∃ j, e = a + j := ⟨e - a, by omega⟩
      subst hj
      obtain ⟨x1, x2⟩ := h3 j (by omega)
      rcases s2 with s2 | s2
      · omega
      · rw [x2, sm_l _ (hw j (by omega)).2 (hw j (by omega)).1] at s2
        exact absurd s2 (by decide)
    have c2 : ¬ a + w.length < e := by
      intro l
      have x := s1 (a + w.length) (by omega) l
      unfold y_at at h2
      rw [if_pos (by omega), x] at h2
      exact absurd h2 (by decide)
    omega
  refine ⟨?_, fun h => (key h).1⟩
  rw [Bool.eq_iff_iff]
  constructor
  · intro h
    unfold y_is at h
    rw [Bool.and_eq_true, decide_eq_true_iff, mt_iff] at h
    obtain ⟨h1, h2⟩ := h
    have he : e = a + w.length := by omega
    unfold y_tk
    rw [Bool.and_eq_true, mt_iff]
    refine ⟨fun j _ hj => ?_, ?_⟩
    · unfold y_at
      rw [if_pos (by omega)]
      exact h2 j (by omega) hj
    · rw [← he]
      unfold y_at
      by_cases l : e < sz
      · rw [if_pos l]
        rcases s2 with s2 | s2
        · omega
        · rw [s2]; rfl
      · rw [if_neg l]; decide
  · intro h
    obtain ⟨h1, h2⟩ := key h
    unfold y_is
    rw [Bool.and_eq_true, decide_eq_true_iff, mt_iff]
    exact ⟨by omega, fun j _ hj => h2 j (by omega)⟩
section
variable {G : zG} {sz a n L : Nat}
theorem c_M_readsRanks (hM : z_HM G) (hsz : sz ≤ 200) (T : Nat → Int32) (hY : ∀ k, k < sz → ∃ u, u < 256 ∧ T k = nI u) (hn : n ≤ 8) : ∀ r i S a M w2 w3 w4, i + r = n → z_DR M S → S 0 = nI n → M 455 3 = nI sz → M 455 4 = nI a → a ≤ sz → M 455 6 = 0 → M 457 = T → ∃ M', z_ex 174 (z_blk 174 2) [.ref 455, .int (nI i), w2, w3, w4] [] G M = some (.inl none, G, M') ∧ z_Td M M' ∧ z_Ym M M' (y_rks T sz r i S a) := by
  intro r
  induction r with
  | zero =>
    intro i S a M w2 w3 w4 hi hS hS0 h3 h4 ha h6 h457
    have hlt : ¬ nI i < nI n := nI_nlt (by omega) (by omega)
    have s0 : M 459 0 = nI n := (hS 0 (by omega)).trans hS0
    refine ⟨M, ?_, ⟨fun _ _ _ => rfl, fun _ _ _ _ _ => rfl⟩, fun k p q => (by cases q), fun S' b q => (by cases q; exact ⟨⟨h6, rfl, h4⟩, hS⟩)⟩
    obtain ⟨k0, ⟨r1, r8, r9, r10, r11, r12, r13, r17⟩, ⟨q1, q2⟩, ⟨q3, q4⟩, ⟨q5, q6⟩, ⟨q7, q8⟩, ⟨q9, q10⟩, ⟨q11, q12⟩, ⟨q13, q14⟩, ⟨q15, q16⟩, hp⟩ := id hM; have kr : ∀ a, z_rc a = 7 → z_kd G 455 = (0, z_rc a) := fun a h => (by rw [h]; exact k0)
    have hk : (0 : Nat) < (z_kd G 459).2 := by omega
    conv => lhs; rw [zk_M_readsRanks_2]
    simp (disch := first | assumption | exact kr _ rfl | omega | exact Nat.le_of_ble_eq_true rfl) only [xo_5, xo_10_1i, xo_10_1r, xo_10_1n, xo_55, xo_0_1, xo_2_0, xo_17, xo_32, xo_45, xo_64_1, xk_v, xk_n, xo_48, xo_6, xo_64_3, xo_10_2i, xo_10_2r, xo_10_2n, xo_10_3i, xo_10_3r, xo_10_3n, xo_11_4i, xo_11_4r, xo_11_4n, xo_1_4, xo_0_3, xo_20, xo_0_2, xo_43, xo_54, xo_24, xo_15_4i, xo_15_4r, xo_15_4n, xo_16, xo_33, xo_15_1i, xo_15_1r, xo_15_1n, zk_M_readsRanks_102, xo_69, r10, s0, hlt, if_true, if_false, eq_self, Bool.true_eq_false, Bool.false_eq_true, and_true, true_and, and_false, false_and, or_true, true_or, or_false, false_or, ne_eq, not_true_eq_false, not_false_eq_true, decide_true, decide_false, z_sA_id]
  | succ r ih =>
    intro i S a M w2 w3 w4 hi hS hS0 h3 h4 ha h6 h457
    have hlt : nI i < nI n := nI_lt (by omega) (by omega)
    have s0 : M 459 0 = nI n := (hS 0 (by omega)).trans hS0
    have cf := c_M_fine hM M
    rw [decide_eq_true h6] at cf
    obtain ⟨M1, c1, t1, f1, g1⟩ := c_M_number hM M h3 hsz h4 ha h6 (by rw [h457]; exact hY) (lo := 0) (hi := 99) (by omega) (by omega)
    rw [h457] at c1 f1 g1
    have d1 : M1 459 = M 459 := t1.1 459 (by omega)
    have hS1 : z_DR M1 S := fun k hk => by rw [d1]; exact hS k hk
    have e0 : ∀ v, z_call 168 [.ref 455, .int (nI 0), .int (nI 99)] G M = some (.inl (some (.int v)), G, M1) → z_ex 174 (z_blk 174 2) [.ref 455, .int (nI i), w2, w3, w4] [] G M = z_ex 174 (z_blk 174 32) [.ref 455, .int (nI i), .int v, .int (z_b false), .int (nI 0)] [] G M1 := by
      intro v hv
      have zf : z_b false = nI 0 := rfl
      rw [zf]
      obtain ⟨k0, ⟨r1, r8, r9, r10, r11, r12, r13, r17⟩, ⟨q1, q2⟩, ⟨q3, q4⟩, ⟨q5, q6⟩, ⟨q7, q8⟩, ⟨q9, q10⟩, ⟨q11, q12⟩, ⟨q13, q14⟩, ⟨q15, q16⟩, hp⟩ := id hM; have kr : ∀ a, z_rc a = 7 → z_kd G 455 = (0, z_rc a) := fun a h => (by rw [h]; exact k0)
      have hk : (0 : Nat) < (z_kd G 459).2 := by omega
      conv => lhs; rw [zk_M_readsRanks_2]
      simp (disch := first | assumption | exact kr _ rfl | omega | exact Nat.le_of_ble_eq_true rfl) only [xo_5, xo_10_1i, xo_10_1r, xo_10_1n, xo_55, xo_0_1, xo_2_0, xo_17, xo_32, xo_45, zk_M_readsRanks_12, xo_64_1, xk_v, xk_n, xo_48, zk_M_readsRanks_19, xo_6, xo_64_3, xo_10_2i, xo_10_2r, xo_10_2n, xo_10_3i, xo_10_3r, xo_10_3n, xo_11_4i, xo_11_4r, xo_11_4n, xo_1_4, xo_0_3, xo_20, xo_0_2, xo_43, xo_54, xo_24, xo_15_4i, xo_15_4r, xo_15_4n, xo_16, xo_33, xo_15_1i, xo_15_1r, xo_15_1n, xo_69, r10, s0, hlt, cf, z_b0, hv, if_true, if_false, eq_self, Bool.true_eq_false, Bool.false_eq_true, and_true, true_and, and_false, false_and, or_true, true_or, or_false, false_or, ne_eq, not_true_eq_false, not_false_eq_true, decide_true, decide_false, z_sA_id]
    have el : ∀ v u j h, j + u = i → z_ex 174 (z_blk 174 32) [.ref 455, .int (nI i), .int v, .int (z_b h), .int (nI j)] [] G M1 = z_ex 174 (z_blk 174 66) [.ref 455, .int (nI i), .int v, .int (z_b (h || y_had S v u j)), .int (nI i)] [] G M1 := by
      obtain ⟨k0, ⟨r1, r8, r9, r10, r11, r12, r13, r17⟩, ⟨q1, q2⟩, ⟨q3, q4⟩, ⟨q5, q6⟩, ⟨q7, q8⟩, ⟨q9, q10⟩, ⟨q11, q12⟩, ⟨q13, q14⟩, ⟨q15, q16⟩, hp⟩ := id hM; have kr : ∀ a, z_rc a = 7 → z_kd G 455 = (0, z_rc a) := fun a h => (by rw [h]; exact k0)
      intro v u
      induction u with
      | zero =>
        intro j h hj
        have hj' : j = i := by omega
        subst hj'
        have hl : ¬ nI j < nI j := nI_nlt (Nat.le_refl _) (by omega)
        conv => lhs; rw [zk_M_readsRanks_32]
        simp (disch := first | assumption | exact kr _ rfl | omega | exact Nat.le_of_ble_eq_true rfl) only [xo_5, xo_10_1i, xo_10_1r, xo_10_1n, xo_55, xo_0_1, xo_2_0, xo_17, xo_32, xo_45, xo_64_1, xk_v, xk_n, xo_48, xo_6, xo_64_3, xo_10_2i, xo_10_2r, xo_10_2n, xo_10_3i, xo_10_3r, xo_10_3n, xo_11_4i, xo_11_4r, xo_11_4n, xo_1_4, xo_0_3, xo_20, xo_0_2, xo_43, xo_54, xo_24, xo_15_4i, xo_15_4r, xo_15_4n, xo_16, xo_33, xo_15_1i, xo_15_1r, xo_15_1n, xo_69, hl, y_had, Bool.or_false, if_true, if_false, eq_self, Bool.true_eq_false, Bool.false_eq_true, and_true, true_and, and_false, false_and, or_true, true_or, or_false, false_or, ne_eq, not_true_eq_false, not_false_eq_true, decide_true, decide_false, z_sA_id]
      | succ u ihu =>
        intro j h hj
        have hl : nI j < nI i := nI_lt (by omega) (by omega)
        have hk : 33 + j < (z_kd G 459).2 := by omega
        have ej := hS1 (33 + j) (by omega)
        unfold y_had
        by_cases hc : S (33 + j) = v
        · rw [if_pos hc]
          have o1 : z_b h ||| nI 1 = z_b true := by have := or_b h true; rwa [Bool.or_true] at this
          have e2 := ihu (j + 1) true (by omega)
          rw [Bool.true_or] at e2
          rw [Bool.or_true, ← e2]
          conv => lhs; rw [zk_M_readsRanks_32]
          simp (disch := first | assumption | exact kr _ rfl | omega | exact Nat.le_of_ble_eq_true rfl) only [xo_5, xo_10_1i, xo_10_1r, xo_10_1n, xo_55, xo_0_1, xo_2_0, xo_17, xo_32, xo_45, xo_64_1, xk_v, xk_n, xo_48, xo_6, xo_64_3, xo_10_2i, xo_10_2r, xo_10_2n, xo_10_3i, xo_10_3r, xo_10_3n, xo_11_4i, xo_11_4r, xo_11_4n, xo_1_4, zk_M_readsRanks_38, xo_0_3, xo_20, xo_0_2, xo_43, zk_M_readsRanks_53, xo_54, zk_M_readsRanks_58, xo_24, xo_15_4i, xo_15_4r, xo_15_4n, xo_16, xo_33, xo_15_1i, xo_15_1r, xo_15_1n, xo_69, hl, r10, nI_add, ej, hc, o1, if_true, if_false, eq_self, Bool.true_eq_false, Bool.false_eq_true, and_true, true_and, and_false, false_and, or_true, true_or, or_false, false_or, ne_eq, not_true_eq_false, not_false_eq_true, decide_true, decide_false, z_sA_id]
        · rw [if_neg hc]
          have o1 : z_b h ||| nI 0 = z_b h := by have := or_b h false; rwa [Bool.or_false] at this
          rw [← ihu (j + 1) h (by omega)]
          conv => lhs; rw [zk_M_readsRanks_32]
          simp (disch := first | assumption | exact kr _ rfl | omega | exact Nat.le_of_ble_eq_true rfl) only [xo_5, xo_10_1i, xo_10_1r, xo_10_1n, xo_55, xo_0_1, xo_2_0, xo_17, xo_32, xo_45, xo_64_1, xk_v, xk_n, xo_48, xo_6, xo_64_3, xo_10_2i, xo_10_2r, xo_10_2n, xo_10_3i, xo_10_3r, xo_10_3n, xo_11_4i, xo_11_4r, xo_11_4n, xo_1_4, zk_M_readsRanks_38, xo_0_3, xo_20, xo_0_2, xo_43, xo_54, zk_M_readsRanks_57, zk_M_readsRanks_58, xo_24, xo_15_4i, xo_15_4r, xo_15_4n, xo_16, xo_33, xo_15_1i, xo_15_1r, xo_15_1n, xo_69, hl, r10, nI_add, ej, hc, o1, if_true, if_false, eq_self, Bool.true_eq_false, Bool.false_eq_true, and_true, true_and, and_false, false_and, or_true, true_or, or_false, false_or, ne_eq, not_true_eq_false, not_false_eq_true, decide_true, decide_false, z_sA_id]
    have e3 : ∀ (M2 : zM) (v : Int32) (w3 w4 : Value), z_ex 174 (z_blk 174 86) [.ref 455, .int (nI i), .int v, w3, w4] [] G M2 = z_ex 174 (z_blk 174 2) [.ref 455, .int (nI (i + 1)), .int v, w3, w4] [] G (z_sA M2 459 (z_u (M2 459) (33 + i) v)) := by
      intro M2 v w3 w4
      obtain ⟨k0, ⟨r1, r8, r9, r10, r11, r12, r13, r17⟩, ⟨q1, q2⟩, ⟨q3, q4⟩, ⟨q5, q6⟩, ⟨q7, q8⟩, ⟨q9, q10⟩, ⟨q11, q12⟩, ⟨q13, q14⟩, ⟨q15, q16⟩, hp⟩ := id hM; have kr : ∀ a, z_rc a = 7 → z_kd G 455 = (0, z_rc a) := fun a h => (by rw [h]; exact k0)
      have hk : 33 + i < (z_kd G 459).2 := by omega
      simp (disch := first | assumption | exact kr _ rfl | omega | exact Nat.le_of_ble_eq_true rfl) only [xo_5, xo_10_1i, xo_10_1r, xo_10_1n, xo_55, xo_0_1, xo_2_0, xo_17, xo_32, xo_45, xo_64_1, xk_v, xk_n, xo_48, xo_6, xo_64_3, xo_10_2i, xo_10_2r, xo_10_2n, xo_10_3i, xo_10_3r, xo_10_3n, xo_11_4i, xo_11_4r, xo_11_4n, xo_1_4, xo_0_3, xo_20, xo_0_2, xo_43, xo_54, xo_24, xo_15_4i, xo_15_4r, xo_15_4n, xo_16, zk_M_readsRanks_86, xo_33, xo_15_1i, xo_15_1r, xo_15_1n, xo_69, r10, nI_add, if_true, if_false, eq_self, Bool.true_eq_false, Bool.false_eq_true, and_true, true_and, and_false, false_and, or_true, true_or, or_false, false_or, ne_eq, not_true_eq_false, not_false_eq_true, decide_true, decide_false, z_sA_id]
    have cf1 := c_M_fine hM M1
    unfold y_rks
    generalize hq : y_num T sz 0 99 a = q at c1 f1 g1
    rcases q with ⟨k, p⟩ | ⟨b, v, p⟩
    · obtain ⟨⟨g6, g7⟩, hk12⟩ := f1 k p rfl
      have n6 : ¬ M1 455 6 = 0 := by rw [g6]; rcases hk12 with h | h <;> subst h <;> decide
      rw [decide_eq_false n6] at cf1
      have e1 := el (nI 0) i 0 false (by omega)
      have c1' : z_call 168 [.ref 455, .int (nI 0), .int (nI 99)] G M = some (.inl (some (.int (nI 0))), G, M1) := c1
      have o6 : z_sA M1 459 (z_u (M1 459) (33 + i) (nI 0)) 455 = M1 455 := z_sA_n _ _ _ _ (by omega)
      have stop := l_rk_stop (n := n) hM (z_sA M1 459 (z_u (M1 459) (33 + i) (nI 0))) (by rw [o6]; exact n6) (by rw [z_sA_s, z_u_n _ _ _ _ (by omega), d1]; exact s0) hn (i := i + 1) (by omega) (.int (nI 0)) (.int (z_b (false || y_had S (nI 0) i 0))) (.int (nI i))
      refine ⟨z_sA M1 459 (z_u (M1 459) (33 + i) (nI 0)), ?_, Td_trans (Td_T t1) (Td_9 _ _), fun k' p' q => (by cases q; rw [o6]; exact ⟨⟨g6, g7⟩, by omega⟩), fun S' b q => (by cases q)⟩
      rw [e0 _ c1', e1, ← stop, ← e3 M1 (nI 0)]
      obtain ⟨k0, ⟨r1, r8, r9, r10, r11, r12, r13, r17⟩, ⟨q1, q2⟩, ⟨q3, q4⟩, ⟨q5, q6⟩, ⟨q7, q8⟩, ⟨q9, q10⟩, ⟨q11, q12⟩, ⟨q13, q14⟩, ⟨q15, q16⟩, hp⟩ := id hM; have kr : ∀ a, z_rc a = 7 → z_kd G 455 = (0, z_rc a) := fun a h => (by rw [h]; exact k0)
      simp (disch := first | assumption | exact kr _ rfl | omega | exact Nat.le_of_ble_eq_true rfl) only [xo_5, xo_10_1i, xo_10_1r, xo_10_1n, xo_55, xo_0_1, xo_2_0, xo_17, xo_32, xo_45, xo_64_1, xk_v, xk_n, xo_48, xo_6, xo_64_3, xo_10_2i, xo_10_2r, xo_10_2n, xo_10_3i, xo_10_3r, xo_10_3n, xo_11_4i, xo_11_4r, xo_11_4n, xo_1_4, xo_0_3, xo_20, xo_0_2, xo_43, xo_54, xo_24, xo_15_4i, xo_15_4r, xo_15_4n, zk_M_readsRanks_66, xo_16, xo_33, xo_15_1i, xo_15_1r, xo_15_1n, xo_69, cf1, z_b0, if_true, if_false, eq_self, Bool.true_eq_false, Bool.false_eq_true, and_true, true_and, and_false, false_and, or_true, true_or, or_false, false_or, ne_eq, not_true_eq_false, not_false_eq_true, decide_true, decide_false, z_sA_id]
    · obtain ⟨n1, n2, n3, n4⟩ := num_b ha hq
      obtain ⟨g6, g7, g4, g15⟩ := g1 b v p rfl
      rw [decide_eq_true g6] at cf1
      have e1 := el (nI v) i 0 false (by omega)
      rw [Bool.false_or] at e1
      have c1' : z_call 168 [.ref 455, .int (nI 0), .int (nI 99)] G M = some (.inl (some (.int (nI v))), G, M1) := c1
      dsimp only
      cases hh : y_had S (nI v) i 0 with
      | true =>
        rw [if_pos rfl]
        rw [hh] at e1
        have hw := c_M_wrong0 hM M1 g6 (nI 3) (nI p)
        have m6 := (mw_67 M1 (nI 3) (nI p))
        have tw := Tm_mw M1 (nI 3) (nI p)
        generalize mw M1 (nI 3) (nI p) = M2 at hw m6 tw
        have o6 : z_sA M2 459 (z_u (M2 459) (33 + i) (nI v)) 455 = M2 455 := z_sA_n _ _ _ _ (by omega)
        have stop := l_rk_stop (n := n) hM (z_sA M2 459 (z_u (M2 459) (33 + i) (nI v))) (by rw [o6, m6.1]; decide) (by rw [z_sA_s, z_u_n _ _ _ _ (by omega), tw.1 459 (by omega), d1]; exact s0) hn (i := i + 1) (by omega) (.int (nI v)) (.int (z_b true)) (.int (nI i))
        refine ⟨z_sA M2 459 (z_u (M2 459) (33 + i) (nI v)), ?_, Td_trans (Td_T t1) (Td_trans (Td_T tw) (Td_9 _ _)), fun k' p' q => (by cases q; rw [o6]; exact ⟨m6, by omega⟩), fun S' b q => (by cases q)⟩
        rw [e0 _ c1', e1, ← stop, ← e3 M2 (nI v)]
        obtain ⟨k0, ⟨r1, r8, r9, r10, r11, r12, r13, r17⟩, ⟨q1, q2⟩, ⟨q3, q4⟩, ⟨q5, q6⟩, ⟨q7, q8⟩, ⟨q9, q10⟩, ⟨q11, q12⟩, ⟨q13, q14⟩, ⟨q15, q16⟩, hp⟩ := id hM; have kr : ∀ a, z_rc a = 7 → z_kd G 455 = (0, z_rc a) := fun a h => (by rw [h]; exact k0)
        simp (disch := first | assumption | exact kr _ rfl | omega | exact Nat.le_of_ble_eq_true rfl) only [xo_5, xo_10_1i, xo_10_1r, xo_10_1n, xo_55, xo_0_1, xo_2_0, xo_17, xo_32, xo_45, xo_64_1, xk_v, xk_n, xo_48, xo_6, xo_64_3, xo_10_2i, xo_10_2r, xo_10_2n, xo_10_3i, xo_10_3r, xo_10_3n, xo_11_4i, xo_11_4r, xo_11_4n, xo_1_4, xo_0_3, xo_20, xo_0_2, xo_43, xo_54, xo_24, xo_15_4i, xo_15_4r, xo_15_4n, zk_M_readsRanks_66, zk_M_readsRanks_73, zk_M_readsRanks_77, xo_16, xo_33, xo_15_1i, xo_15_1r, xo_15_1n, xo_69, cf1, z_b0, g15, hw, if_true, if_false, eq_self, Bool.true_eq_false, Bool.false_eq_true, and_true, true_and, and_false, false_and, or_true, true_or, or_false, false_or, ne_eq, not_true_eq_false, not_false_eq_true, decide_true, decide_false, z_sA_id]
      | false =>
        rw [if_neg (by decide)]
        rw [hh] at e1
        have o6 : z_sA M1 459 (z_u (M1 459) (33 + i) (nI v)) 455 = M1 455 := z_sA_n _ _ _ _ (by omega)
        obtain ⟨M', c2, t2, y2⟩ := ih (i + 1) (z_u S (33 + i) (nI v)) b (z_sA M1 459 (z_u (M1 459) (33 + i) (nI v))) (.int (nI v)) (.int (z_b false)) (.int (nI i)) (by omega) (DR_u hS1 _ _) (by rw [z_u_n _ _ _ _ (by omega)]; exact hS0) (by rw [o6, t1.2 3 (by omega) (by omega) (by omega) (by omega)]; exact h3) (by rw [o6]; exact g4) n1 (by rw [o6]; exact g6) (by rw [z_sA_n _ _ _ _ (by omega), t1.1 457 (by omega)]; exact h457)
        refine ⟨M', ?_, Td_trans (Td_T t1) (Td_trans (Td_9 _ _) t2), y2.1, fun S' b' q => ?_⟩
        · rw [e0 _ c1', e1, ← c2, ← e3 M1 (nI v)]
          obtain ⟨k0, ⟨r1, r8, r9, r10, r11, r12, r13, r17⟩, ⟨q1, q2⟩, ⟨q3, q4⟩, ⟨q5, q6⟩, ⟨q7, q8⟩, ⟨q9, q10⟩, ⟨q11, q12⟩, ⟨q13, q14⟩, ⟨q15, q16⟩, hp⟩ := id hM; have kr : ∀ a, z_rc a = 7 → z_kd G 455 = (0, z_rc a) := fun a h => (by rw [h]; exact k0)
          simp (disch := first | assumption | exact kr _ rfl | omega | exact Nat.le_of_ble_eq_true rfl) only [xo_5, xo_10_1i, xo_10_1r, xo_10_1n, xo_55, xo_0_1, xo_2_0, xo_17, xo_32, xo_45, xo_64_1, xk_v, xk_n, xo_48, xo_6, xo_64_3, xo_10_2i, xo_10_2r, xo_10_2n, xo_10_3i, xo_10_3r, xo_10_3n, xo_11_4i, xo_11_4r, xo_11_4n, xo_1_4, xo_0_3, xo_20, xo_0_2, xo_43, xo_54, xo_24, xo_15_4i, xo_15_4r, xo_15_4n, zk_M_readsRanks_66, zk_M_readsRanks_73, xo_16, xo_33, xo_15_1i, xo_15_1r, xo_15_1n, xo_69, cf1, z_b0, if_true, if_false, eq_self, Bool.true_eq_false, Bool.false_eq_true, and_true, true_and, and_false, false_and, or_true, true_or, or_false, false_or, ne_eq, not_true_eq_false, not_false_eq_true, decide_true, decide_false, z_sA_id]
        · obtain ⟨⟨u1, u2, u3⟩, u4⟩ := y2.2 S' b' q
          rw [o6] at u2
          exact ⟨⟨u1, u2.trans g7, u3⟩, u4⟩
end
