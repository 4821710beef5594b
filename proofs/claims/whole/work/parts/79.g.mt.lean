/-! ===== the reference reads a whole text ===== -/
def z_Tt (M M' : zM) : Prop := (∀ q, q ≠ 455 → q ≠ 459 → M' q = M q) ∧ (M' 455 0 = nI 0 ∧ M' 455 2 = nI 0) ∧ ∀ f, f ≠ 0 → f ≠ 2 → f ≠ 3 → f ≠ 4 → f ≠ 6 → f ≠ 7 → f ≠ 15 → f ≠ 16 → M' 455 f = M 455 f
theorem Tt_l {M M1 M2 : zM} (h : z_Tt M M1) (g : z_Tl M1 M2) : z_Tt M M2 := ⟨fun q a b => (g.1 q a b).trans (h.1 q a b), ⟨(g.2 0 (by omega) (by omega) (by omega) (by omega) (by omega)).trans h.2.1.1, (g.2 2 (by omega) (by omega) (by omega) (by omega) (by omega)).trans h.2.1.2⟩, fun f a b c d e1 e2 e3 e4 => (g.2 f d e1 e2 e3 e4).trans (h.2.2 f a b c d e1 e2 e3 e4)⟩
theorem Tl_9 {M M' : zM} (h : ∀ q, q ≠ 459 → M' q = M q) : z_Tl M M' := ⟨fun q _ b => h q b, fun f _ _ _ _ _ => by rw [h 455 (by omega)]⟩
section
variable {G : zG} {sz : Nat}
theorem m_text_f (hM : z_HM G) (M : zM) {x : Int32} (hx : zf_in x (nI 0) (M 455 2) = false) : z_call 159 [.ref 455, .int x] G M = some (.inl (some (.int (nI 0))), G, rfm M 1 1) := by
  have hb := bd_1 hM M (a := 1) (k := 1) (by omega) (by omega)
  have e2 : th0 M 455 2 = M 455 2 := th0_fn M (by omega)
  obtain ⟨k0, ⟨r1, r8, r9, r10, r11, r12, r13, r17⟩, ⟨q1, q2⟩, ⟨q3, q4⟩, ⟨q5, q6⟩, ⟨q7, q8⟩, ⟨q9, q10⟩, ⟨q11, q12⟩, ⟨q13, q14⟩, ⟨q15, q16⟩, hp⟩ := id hM; have kr : ∀ a, z_rc a = 7 → z_kd G 455 = (0, z_rc a) := fun a h => (by rw [h]; exact k0)
  simp (disch := first | assumption | exact kr _ rfl | omega | exact Nat.le_of_ble_eq_true rfl) only [ze_M_text, zk_M_text_0, xo_2_0, xo_5, xo_18, xo_0_1, xo_16, xo_63_3, xk_v, xk_n, xo_49, zk_M_text_18, xo_54, xo_55, zk_M_text_23, xo_64_4, xo_48, zk_M_text_31, xo_70, xo_64_1, xo_41, xo_10_2i, xo_10_2r, xo_10_2n, xo_79, xo_64_2, xo_0_2, xo_64_3, xo_6, xo_42, xo_21, xo_17, xo_32, th0_f, e2, c_M_in, hx, z_b0, hb, one0, zer0, if_true, if_false, eq_self, Bool.true_eq_false, Bool.false_eq_true, and_true, true_and, and_false, false_and, or_true, true_or, or_false, false_or, ne_eq, not_true_eq_false, not_false_eq_true, decide_true, decide_false, z_sA_id]
theorem l_M_text (hM : z_HM G) (M : zM) (hx : zf_in (nI sz) (nI 0) (M 455 2) = true) (hsz : sz ≤ 200) (hY : ∀ k, k < sz → ∃ u, u < 256 ∧ M 457 k = nI u) (hSt : z_St G M) : ∃ M' w2, z_call 159 [.ref 455, .int (nI sz)] G M = z_ex 159 (z_blk 159 125) [.ref 455, .int (nI sz), w2] [] G M' ∧ z_Tt M M' ∧ (∀ k p, y_text (M 457) sz = .inl (k, p) → (M' 455 6 = nI k ∧ M' 455 7 = nI p) ∧ 1 ≤ k ∧ k ≤ 4) ∧ ∀ n S, y_text (M 457) sz = .inr (n, S) → M' 455 6 = 0 ∧ M' 455 7 = nI 4294967295 ∧ z_DR M' S := by
  have hb := bd_0 hM M (nI 1) (nI 1)
  have e2 : th0 M 455 2 = M 455 2 := th0_fn M (by omega)
  obtain ⟨M0, hM0⟩ : ∃ M0, M0 = z_sA (th0 M) 455 (z_u (z_u (z_u (z_u (z_u (z_u (th0 M 455) 2 (nI 0)) 3 (nI sz)) 4 (nI 0)) 6 (nI 0)) 7 (nI 4294967295)) 16 (nI 0)) := ⟨_, rfl⟩
  have f0 : z_Tt M M0 := by
    refine ⟨fun q a b => by rw [hM0, z_sA_n _ _ _ _ a, th0_o M a], ⟨?_, ?_⟩, fun f a b c d e1 e2 e3 e4 => ?_⟩
    · rw [hM0, z_sA_s, z_u_n _ _ _ _ (by omega), z_u_n _ _ _ _ (by omega), z_u_n _ _ _ _ (by omega), z_u_n _ _ _ _ (by omega), z_u_n _ _ _ _ (by omega), z_u_n _ _ _ _ (by omega)]; exact th0_f0 M
    · rw [hM0, z_sA_s, z_u_n _ _ _ _ (by omega), z_u_n _ _ _ _ (by omega), z_u_n _ _ _ _ (by omega), z_u_n _ _ _ _ (by omega), z_u_n _ _ _ _ (by omega), z_u_s]
    · rw [hM0, z_sA_s, z_u_n _ _ _ _ e4, z_u_n _ _ _ _ e2, z_u_n _ _ _ _ e1, z_u_n _ _ _ _ d, z_u_n _ _ _ _ c, z_u_n _ _ _ _ b]; exact th0_fn M a
  have b3 : M0 455 3 = nI sz := by rw [hM0, z_sA_s, z_u_n _ _ _ _ (by omega), z_u_n _ _ _ _ (by omega), z_u_n _ _ _ _ (by omega), z_u_n _ _ _ _ (by omega), z_u_s]
  have b4 : M0 455 4 = nI 0 := by rw [hM0, z_sA_s, z_u_n _ _ _ _ (by omega), z_u_n _ _ _ _ (by omega), z_u_n _ _ _ _ (by omega), z_u_s]
  have b6 : M0 455 6 = 0 := by rw [hM0, z_sA_s, z_u_n _ _ _ _ (by omega), z_u_n _ _ _ _ (by omega), z_u_s]; decide
  have b7 : M0 455 7 = nI 4294967295 := by rw [hM0, z_sA_s, z_u_n _ _ _ _ (by omega), z_u_s]
  have b16 : M0 455 16 = nI 0 := by rw [hM0, z_sA_s, z_u_s]
  have e0 : z_call 159 [.ref 455, .int (nI sz)] G M = z_k 64 159 [(41, 0, 0, 0, 67), (2, 0, 0, 0, 68), (16, 7, 4, 57, 69), (10, 2, 0, 0, 72), (2, 0, 0, 0, 73), (79, 13, 0, 152, 74), (64, 164, 2, 115, 76), (49, 88, 82, 0, 79)] [.ref 455, .int (nI sz), .null] [] (z_call 162 [.ref 455] G M0) := by
    rw [hM0]
    obtain ⟨k0, ⟨r1, r8, r9, r10, r11, r12, r13, r17⟩, ⟨q1, q2⟩, ⟨q3, q4⟩, ⟨q5, q6⟩, ⟨q7, q8⟩, ⟨q9, q10⟩, ⟨q11, q12⟩, ⟨q13, q14⟩, ⟨q15, q16⟩, hp⟩ := id hM; have kr : ∀ a, z_rc a = 7 → z_kd G 455 = (0, z_rc a) := fun a h => (by rw [h]; exact k0)
    simp (disch := first | assumption | exact kr _ rfl | omega | exact Nat.le_of_ble_eq_true rfl) only [ze_M_text, zk_M_text_0, xo_2_0, xo_5, xo_18, xo_0_1, xo_16, xo_63_3, xk_v, xk_n, xo_49, xo_54, zk_M_text_22, xo_55, zk_M_text_23, xo_64_4, xo_48, xo_70, zk_M_text_33, xo_64_1, xo_41, xo_10_2i, xo_10_2r, xo_10_2n, xo_79, xo_64_2, xo_0_2, xo_64_3, xo_6, xo_42, xo_21, xo_17, xo_32, th0_f, e2, c_M_in, hx, z_b0, hb, one0, zer0, z_sA_s, z_sA_sA, if_true, if_false, eq_self, Bool.true_eq_false, Bool.false_eq_true, and_true, true_and, and_false, false_and, or_true, true_or, or_false, false_or, ne_eq, not_true_eq_false, not_false_eq_true, decide_true, decide_false, z_sA_id]
  clear hM0
  obtain ⟨T, hT⟩ : ∃ T, M 457 = T := ⟨_, rfl⟩
  rw [hT] at hY ⊢
  have b457 : M0 457 = T := (f0.1 457 (by omega) (by omega)).trans hT
  have c1 := c_M_here hM M0 b3 hsz b4 (by omega)
  rw [b457, Nat.sub_zero] at c1
  have sb := sk_b T sz 0
  have sst := sk_id (T := T) (sz := sz) (a := 0) (by omega)
  rw [Nat.sub_zero] at sst
  unfold y_text y_hd
  generalize y_sk T sz 0 = e at c1 sb sst
  have m3 := (ma_f M0 e (f := 3) (by omega)).trans b3
  have m4 := ma_4 M0 e
  have m6 := (ma_f M0 e (f := 6) (by omega)).trans b6
  have m7 := (ma_f M0 e (f := 7) (by omega)).trans b7
  have m16 := (ma_f M0 e (f := 16) (by omega)).trans b16
  have mt := Tt_l f0 (Tl_d (Td_T (Tm_ma M0 e)))
  generalize ma M0 e = M1 at c1 m3 m4 m6 m7 m16 mt
  have m457 : M1 457 = T := (mt.1 457 (by omega) (by omega)).trans hT
  have ct := c_M_takes hM M1 m3 hsz m4 (by omega) m6 (by rw [m457]; exact sst) (p := 13) (by omega) (by omega) (by decide)
  rw [m457, show z_tx 13 = z_tx 6 from rfl] at ct
  have ik := is_tk (T := T) (sz := sz) (a := e) (wl_7 6 (by omega) (by omega)) (by omega)
  rw [ik.1]
  have ik2 := ik.2
  clear ik
  have wb := we_b T (sz - e) e
  generalize y_we T (sz - e) e = w at ik2 wb
  have stop : ∀ (M2 : zM) (w2 : Value), ¬ M2 455 6 = 0 → z_ex 159 (z_blk 159 103) [.ref 455, .int (nI sz), w2] [] G M2 = z_ex 159 (z_blk 159 125) [.ref 455, .int (nI sz), w2] [] G M2 := by
    intro M2 w2 n6
    have cf2 := c_M_fine hM M2
    rw [decide_eq_false n6] at cf2
    obtain ⟨k0, ⟨r1, r8, r9, r10, r11, r12, r13, r17⟩, ⟨q1, q2⟩, ⟨q3, q4⟩, ⟨q5, q6⟩, ⟨q7, q8⟩, ⟨q9, q10⟩, ⟨q11, q12⟩, ⟨q13, q14⟩, ⟨q15, q16⟩, hp⟩ := id hM; have kr : ∀ a, z_rc a = 7 → z_kd G 455 = (0, z_rc a) := fun a h => (by rw [h]; exact k0)
    conv => lhs; rw [zk_M_text_103]
    simp (disch := first | assumption | exact kr _ rfl | omega | exact Nat.le_of_ble_eq_true rfl) only [xo_2_0, xo_5, xo_18, xo_0_1, xo_16, xo_63_3, xk_v, xk_n, xo_49, xo_54, xo_55, xo_64_4, xo_48, xo_70, xo_64_1, xo_41, xo_10_2i, xo_10_2r, xo_10_2n, xo_79, xo_64_2, xo_0_2, xo_64_3, xo_6, xo_42, xo_21, xo_17, xo_32, cf2, z_b0, if_true, if_false, eq_self, Bool.true_eq_false, Bool.false_eq_true, and_true, true_and, and_false, false_and, or_true, true_or, or_false, false_or, ne_eq, not_true_eq_false, not_false_eq_true, decide_true, decide_false, z_sA_id]
  have tail : ∀ (M2 M3 M4 M5 : zM) (v : Int32) (w2 : Value), z_call 168 [.ref 455, .int (nI 2), .int (nI 8)] G M2 = some (.inl (some (.int v)), G, M3) → z_call 148 [.ref 455, .int v] G M3 = some (.inl none, G, M4) → z_call 171 [.ref 455] G M4 = some (.inl none, G, M5) → z_ex 159 (z_blk 159 88) [.ref 455, .int (nI sz), w2] [] G M2 = z_ex 159 (z_blk 159 103) [.ref 455, .int (nI sz), w2] [] G M5 := by
    intro M2 M3 M4 M5 v w2 x1 x2 x3
    obtain ⟨k0, ⟨r1, r8, r9, r10, r11, r12, r13, r17⟩, ⟨q1, q2⟩, ⟨q3, q4⟩, ⟨q5, q6⟩, ⟨q7, q8⟩, ⟨q9, q10⟩, ⟨q11, q12⟩, ⟨q13, q14⟩, ⟨q15, q16⟩, hp⟩ := id hM; have kr : ∀ a, z_rc a = 7 → z_kd G 455 = (0, z_rc a) := fun a h => (by rw [h]; exact k0)
    simp (disch := first | assumption | exact kr _ rfl | omega | exact Nat.le_of_ble_eq_true rfl) only [xo_2_0, xo_5, xo_18, xo_0_1, xo_16, xo_63_3, xk_v, xk_n, xo_49, xo_54, xo_55, xo_64_4, xo_48, xo_70, xo_64_1, xo_41, xo_10_2i, xo_10_2r, xo_10_2n, xo_79, xo_64_2, xo_0_2, xo_64_3, zk_M_text_88, xo_6, xo_42, xo_21, xo_17, xo_32, x1, x2, x3, if_true, if_false, eq_self, Bool.true_eq_false, Bool.false_eq_true, and_true, true_and, and_false, false_and, or_true, true_or, or_false, false_or, ne_eq, not_true_eq_false, not_false_eq_true, decide_true, decide_false, z_sA_id]
  cases hq : y_tk T sz e (z_tx 6) with
  | false =>
    rw [hq] at ct
    rw [if_neg (by decide)] at ct ⊢
    have hw := c_M_wrong0 hM M1 m6 (nI 1) (nI e)
    have x67 := mw_67 M1 (nI 1) (nI e)
    have tw := Tm_mw M1 (nI 1) (nI e)
    generalize mw M1 (nI 1) (nI e) = M2 at hw x67 tw
    have n6 : ¬ M2 455 6 = 0 := by rw [x67.1]; decide
    have y1 := c_M_number1 hM M2 n6 (nI 2) (nI 8)
    obtain ⟨M4, y2, y3, _⟩ := c_M_freshDraft hM M2 (n := 2) (by omega)
    have o4 : M4 455 = M2 455 := y3 455 (by omega)
    have y4 := c_M_ends1 hM M4 (by rw [o4]; exact n6)
    refine ⟨M4, .int (nI e), ?_, Tt_l mt (Tl_trans (Tl_d (Td_T tw)) (Tl_9 y3)), fun k p q => (by cases q; rw [o4]; exact ⟨x67, by omega⟩), fun n S q => (by cases q)⟩
    rw [← stop M4 (.int (nI e)) (by rw [o4]; exact n6), ← tail M2 M2 M4 M4 (nI 2) (.int (nI e)) y1 y2 y4, e0, c1]
    obtain ⟨k0, ⟨r1, r8, r9, r10, r11, r12, r13, r17⟩, ⟨q1, q2⟩, ⟨q3, q4⟩, ⟨q5, q6⟩, ⟨q7, q8⟩, ⟨q9, q10⟩, ⟨q11, q12⟩, ⟨q13, q14⟩, ⟨q15, q16⟩, hp⟩ := id hM; have kr : ∀ a, z_rc a = 7 → z_kd G 455 = (0, z_rc a) := fun a h => (by rw [h]; exact k0)
    simp (disch := first | assumption | exact kr _ rfl | omega | exact Nat.le_of_ble_eq_true rfl) only [xo_2_0, xo_5, xo_18, xo_0_1, xo_16, xo_63_3, xk_v, xk_n, xo_49, xo_54, xo_55, xo_64_4, xo_48, xo_70, xo_64_1, xo_41, xo_10_2i, xo_10_2r, xo_10_2n, xo_79, xo_64_2, zk_M_text_82, xo_0_2, xo_64_3, xo_6, xo_42, xo_21, xo_17, xo_32, m4, ct, z_b0, hw, if_true, if_false, eq_self, Bool.true_eq_false, Bool.false_eq_true, and_true, true_and, and_false, false_and, or_true, true_or, or_false, false_or, ne_eq, not_true_eq_false, not_false_eq_true, decide_true, decide_false, z_sA_id]
  | true =>
    rw [hq] at ct
    rw [if_pos rfl, ← ik2 hq] at ct
    rw [if_pos rfl]
    have k3 := (ma_f M1 w (f := 3) (by omega)).trans m3
    have k4 := ma_4 M1 w
    have k6 := (ma_f M1 w (f := 6) (by omega)).trans m6
    have k7 := (ma_f M1 w (f := 7) (by omega)).trans m7
    have k16 := (ma_f M1 w (f := 16) (by omega)).trans m16
    have kt := Tt_l mt (Tl_d (Td_T (Tm_ma M1 w)))
    generalize ma M1 w = M2 at ct k3 k4 k6 k7 k16 kt
    have k457 : M2 457 = T := (kt.1 457 (by omega) (by omega)).trans hT
    have e1 : z_call 159 [.ref 455, .int (nI sz)] G M = z_ex 159 (z_blk 159 88) [.ref 455, .int (nI sz), .int (nI e)] [] G M2 := by
      rw [e0, c1]
      obtain ⟨k0, ⟨r1, r8, r9, r10, r11, r12, r13, r17⟩, ⟨q1, q2⟩, ⟨q3, q4⟩, ⟨q5, q6⟩, ⟨q7, q8⟩, ⟨q9, q10⟩, ⟨q11, q12⟩, ⟨q13, q14⟩, ⟨q15, q16⟩, hp⟩ := id hM; have kr : ∀ a, z_rc a = 7 → z_kd G 455 = (0, z_rc a) := fun a h => (by rw [h]; exact k0)
      simp (disch := first | assumption | exact kr _ rfl | omega | exact Nat.le_of_ble_eq_true rfl) only [xo_41, xo_2_0, xo_5, xo_18, xo_0_1, xo_16, xo_63_3, xk_v, xk_n, xo_49, xo_54, xo_55, xo_64_4, xo_48, xo_70, xo_64_1, xo_41, xo_10_2i, xo_10_2r, xo_10_2n, xo_79, xo_64_2, xo_0_2, xo_64_3, xo_6, xo_42, xo_21, xo_17, xo_32, m4, ct, z_b0, if_true, if_false, eq_self, Bool.true_eq_false, Bool.false_eq_true, and_true, true_and, and_false, false_and, or_true, true_or, or_false, false_or, ne_eq, not_true_eq_false, not_false_eq_true, decide_true, decide_false, z_sA_id]
    obtain ⟨M3, y1, t3, f3, g3⟩ := c_M_number hM M2 k3 hsz k4 (by omega) k6 (by rw [k457]; exact hY) (lo := 2) (hi := 8) (by omega) (by omega)
    rw [k457] at y1 f3 g3
    generalize hqn : y_num T sz 2 8 w = q at y1 f3 g3
    rcases q with ⟨k, p⟩ | ⟨b, v, p⟩
    · obtain ⟨x67, xk⟩ := f3 k p rfl
      have n6 : ¬ M3 455 6 = 0 := by rw [x67.1]; exact nI_ne0 (by omega) (by omega)
      have y1' : z_call 168 [.ref 455, .int (nI 2), .int (nI 8)] G M2 = some (.inl (some (.int (nI 2))), G, M3) := y1
      obtain ⟨M4, y2, y3, _⟩ := c_M_freshDraft hM M3 (n := 2) (by omega)
      have o4 : M4 455 = M3 455 := y3 455 (by omega)
      have y4 := c_M_ends1 hM M4 (by rw [o4]; exact n6)
      refine ⟨M4, .int (nI e), ?_, Tt_l kt (Tl_trans (Tl_d (Td_T t3)) (Tl_9 y3)), fun k' p' q => (by cases q; rw [o4]; exact ⟨x67, by omega⟩), fun n S q => (by cases q)⟩
      rw [← stop M4 (.int (nI e)) (by rw [o4]; exact n6), ← tail M2 M3 M4 M4 (nI 2) (.int (nI e)) y1' y2 y4, e1]
    · obtain ⟨n1, n2, n3, n4⟩ := num_b (by omega) hqn
      obtain ⟨g6, g7, g4, _⟩ := g3 b v p rfl
      have y1' : z_call 168 [.ref 455, .int (nI 2), .int (nI 8)] G M2 = some (.inl (some (.int (nI v))), G, M3) := y1
      obtain ⟨M4, y2, y3, y5⟩ := c_M_freshDraft hM M3 (n := v) (by omega)
      have o4 : M4 455 = M3 455 := y3 455 (by omega)
      have q4 := Tt_l kt (Tl_trans (Tl_d (Td_T t3)) (Tl_9 y3))
      have q457 : M4 457 = T := (q4.1 457 (by omega) (by omega)).trans hT
      have p3 : M4 455 3 = nI sz := by rw [o4, t3.2 3 (by omega) (by omega) (by omega) (by omega)]; exact k3
      have p16 : M4 455 16 = nI 0 := by rw [o4, t3.2 16 (by omega) (by omega) (by omega) (by omega)]; exact k16
      obtain ⟨M5, y4, t5, _, f5, g5⟩ := c_M_ends hM M4 p3 hsz (by rw [o4]; exact g4) n1 (by rw [o4]; exact g6)
      rw [q457] at f5 g5
      have e3 := tail M2 M3 M4 M5 (nI v) (.int (nI e)) y1' y2 y4
      have q5 := Tt_l q4 (Tl_d (Td_T t5))
      dsimp only [y_h2]
      generalize hqe : y_en T sz b = q at f5 g5
      rcases q with ⟨k, p'⟩ | c
      · obtain ⟨x67, xk⟩ := f5 k p' rfl
        have n6 : ¬ M5 455 6 = 0 := by rw [x67.1]; exact nI_ne0 (by omega) (by omega)
        refine ⟨M5, .int (nI e), ?_, q5, fun k' p' q => (by cases q; exact ⟨x67, by omega⟩), fun n S q => (by cases q)⟩
        rw [e1, e3, stop M5 _ n6]
      · obtain ⟨x6, x7, x4⟩ := g5 c rfl
        obtain ⟨z1, z2⟩ := en_b n1 hqe
        have sb2 := sk_b T (sz - c) c
        have r7 : M5 455 7 = nI 4294967295 := x7.trans (by rw [o4]; exact g7.trans k7)
        have y5' : z_DR M5 (y_S0 v) := fun k hk => by rw [t5.1 459 (by omega)]; exact y5 k hk
        obtain ⟨M6, v1, v2, v3, v4⟩ := l_M_lines hM hsz T hY n3 (.int (nI sz)) (.int (nI e)) 201 (y_S0 v) 0 c M5 z2 (by omega) y5' rfl ((t5.2 3 (by omega) (by omega) (by omega) (by omega)).trans p3) x4 x6 ((t5.2 16 (by omega) (by omega) (by omega) (by omega)).trans p16) (by omega) ((q5.1 457 (by omega) (by omega)).trans hT) (fun p hp => by rw [q5.1 p (by omega) (by omega)]; exact hSt p hp)
        dsimp only [y_x2]
        refine ⟨M6, .int (nI e), by rw [e1, e3, v1], Tt_l q5 v2, fun k' p' q => ?_, fun n S q => ?_⟩
        · generalize y_ml T sz v 201 (y_S0 v) 0 (y_sk T (sz - c) c) = x at q v3
          rcases x with f | S'
          · cases q; exact v3 _ _ rfl
          · cases q
        · generalize y_ml T sz v 201 (y_S0 v) 0 (y_sk T (sz - c) c) = x at q v4
          rcases x with f | S'
          · cases q
          · cases q
            obtain ⟨u1, u2, u3⟩ := v4 _ rfl
            exact ⟨u1, u2.trans r7, u3⟩
end
