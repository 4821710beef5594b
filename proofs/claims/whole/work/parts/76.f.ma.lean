/-! ===== the reference acts ===== -/
def z_Rm (c : Nat) (M M' : zM) (t : Nat → Int32) : Prop := (∀ f, f ≠ 14 → f ≠ 18 → M' 455 f = M 455 f) ∧ M' 455 14 = nI (min (c + 1) 8) ∧ (∀ k, k < min c 7 → ∀ a, a < 4326 → M' (463 + k) a = M (463 + k + (c + 1 - min (c + 1) 8)) a) ∧ (∀ a, a < 4326 → M' (463 + min c 7) a = M 458 a) ∧ (∀ q, q ≠ 455 → q ≠ 458 → q ≠ 471 → (q < 463 ∨ 470 < q) → M' q = M q) ∧ M' 458 = t
section
variable {G : zG} {n J B c : Nat}
theorem m_rem (hM : z_HM G) (M : zM) (hc : c ≤ 8) (h : M 455 14 = nI c) : ∃ M1, z_call 178 [.ref 455] G (th0 M) = some (.inl none, G, M1) ∧ z_Rm c (th0 M) M1 (M 458) := by
  obtain ⟨M1, c1, p1, p2, p3, p4⟩ := c_M_remembers hM (th0 M) (c := c) hc (by rw [th0_fn M (by omega)]; exact h)
  refine ⟨M1, c1, fun f h1 _ => by rw [p1, z_u_n _ _ _ _ h1], by rw [p1, z_u_s], p2, p3, fun q h1 _ _ h4 => p4 q h1 h4, ?_⟩
  rw [p4 458 (by omega) (by omega), th0_o M (by omega)]
theorem Rm_8 {M M1 : zM} {s : Nat → Int32} (h : z_Rm c M M1 s) (t : Nat → Int32) : z_Rm c M (z_sA M1 458 t) t := by
  obtain ⟨p1, p2, p3, p4, p5, p6⟩ := h
  refine ⟨fun f a b => by rw [z_sA_n _ _ _ _ (by omega)]; exact p1 f a b, by rw [z_sA_n _ _ _ _ (by omega)]; exact p2, fun k hk a ha => by rw [z_sA_n _ _ _ _ (by omega)]; exact p3 k hk a ha, fun a ha => by rw [z_sA_n _ _ _ _ (by omega)]; exact p4 a ha, fun q h1 h2 h3 h4 => by rw [z_sA_n _ _ _ _ h2]; exact p5 q h1 h2 h3 h4, z_sA_s _ _ _⟩
theorem Rm_t {M M1 : zM} {s : Nat → Int32} (h : z_Rm c M M1 s) (v : Int32) (t nw : Nat → Int32) (hh : Nat) : z_Rm c M (mm (z_sA M1 455 (z_u (M1 455) 18 v)) t nw hh) t := by
  obtain ⟨p1, p2, p3, p4, p5, p6⟩ := h
  have e1 : ∀ q, q ≠ 455 → q ≠ 458 → q ≠ 471 → mm (z_sA M1 455 (z_u (M1 455) 18 v)) t nw hh q = M1 q := fun q a b d => by rw [mm_o _ _ _ _ a b d, z_sA_n _ _ _ _ a]
  have e2 : ∀ f, f ≠ 18 → mm (z_sA M1 455 (z_u (M1 455) 18 v)) t nw hh 455 f = M1 455 f := fun f hf => by rw [mm_m, z_u_n _ _ _ _ hf, z_sA_s, z_u_n _ _ _ _ hf]
  refine ⟨fun f a b => by rw [e2 f b]; exact p1 f a b, by rw [e2 14 (by omega)]; exact p2, fun k hk a ha => by rw [e1 _ (by omega) (by omega) (by omega)]; exact p3 k hk a ha, fun a ha => by rw [e1 _ (by omega) (by omega) (by omega)]; exact p4 a ha, fun q h1 h2 h3 h4 => by rw [e1 q h1 h2 h3]; exact p5 q h1 h2 h3 h4, mm_s _ _ _ _⟩
theorem m_ticks_f (hM : z_HM G) (M : zM) {x : Int32} (ht : zf_in x (nI 1) (nI 100) = false) : z_call 177 [.ref 455, .int x] G M = some (.inl (some (.int (nI 0))), G, rfm M 1 1) := by
  have hb := bd_1 hM M (a := 1) (k := 1) (by omega) (by omega)
  obtain ⟨k0, ⟨r1, r8, r9, r10, r11, r12, r13, r17⟩, ⟨q1, q2⟩, ⟨q3, q4⟩, ⟨q5, q6⟩, ⟨q7, q8⟩, ⟨q9, q10⟩, ⟨q11, q12⟩, ⟨q13, q14⟩, ⟨q15, q16⟩, hp⟩ := id hM; have kr : ∀ a, z_rc a = 7 → z_kd G 455 = (0, z_rc a) := fun a h => (by rw [h]; exact k0)
  simp (disch := first | assumption | exact kr _ rfl | omega | exact Nat.le_of_ble_eq_true rfl) only [ze_M_ticks, zk_M_ticks_0, xo_2_0, xo_5, xo_18, xo_0_1, xo_6, xo_63_3, xk_v, xk_n, xo_49, zk_M_ticks_16, xo_54, xo_55, zk_M_ticks_21, xo_64_4, xo_48, zk_M_ticks_29, xo_70, xo_64_1, xo_64_2, th0_f, c_M_in, ht, z_b0, hb, one0, zer0, if_true, if_false, eq_self, Bool.true_eq_false, Bool.false_eq_true, and_true, true_and, and_false, false_and, or_true, true_or, or_false, false_or, ne_eq, not_true_eq_false, not_false_eq_true, decide_true, decide_false, z_sA_id]
theorem m_ticks (hM : z_HM G) (M : zM) (hF : z_F n J B (M 458)) (hB : B ≤ 60000000) (hc : c ≤ 8) (h : M 455 14 = nI c) {N : Nat} (h1 : 1 ≤ N) (hN : N ≤ 100) : ∃ M', z_call 177 [.ref 455, .int (nI N)] G M = some (.inl (some (.int (nI (f_ra n N (M 458)).2))), G, M') ∧ z_Rm c (th0 M) M' (f_ra n N (M 458)).1 := by
  have hb := bd_0 hM M (nI 1) (nI 1)
  have ht := in_t1 h1 hN (by omega)
  obtain ⟨M1, c1, p⟩ := m_rem hM M hc h
  have e8 : M1 458 = M 458 := p.2.2.2.2.2
  obtain ⟨nw, c2⟩ := c_M_ticksOf hM M1 (n := n) (J := J) (B := B) (N := N) (by rw [e8]; exact hF) hN (by omega)
  rw [e8] at c2
  refine ⟨_, ?_, Rm_t p (nI 0) (f_ra n N (M 458)).1 nw (f_ra n N (M 458)).2⟩
  unfold f_ra
  obtain ⟨k0, ⟨r1, r8, r9, r10, r11, r12, r13, r17⟩, ⟨q1, q2⟩, ⟨q3, q4⟩, ⟨q5, q6⟩, ⟨q7, q8⟩, ⟨q9, q10⟩, ⟨q11, q12⟩, ⟨q13, q14⟩, ⟨q15, q16⟩, hp⟩ := id hM; have kr : ∀ a, z_rc a = 7 → z_kd G 455 = (0, z_rc a) := fun a h => (by rw [h]; exact k0)
  simp (disch := first | assumption | exact kr _ rfl | omega | exact Nat.le_of_ble_eq_true rfl) only [ze_M_ticks, zk_M_ticks_0, xo_2_0, xo_5, xo_18, xo_0_1, xo_6, xo_63_3, xk_v, xk_n, xo_49, xo_54, zk_M_ticks_20, xo_55, zk_M_ticks_21, xo_64_4, xo_48, xo_70, zk_M_ticks_31, xo_64_1, xo_64_2, th0_f, c_M_in, ht, z_b0, hb, c1, c2, one0, zer0, if_true, if_false, eq_self, Bool.true_eq_false, Bool.false_eq_true, and_true, true_and, and_false, false_and, or_true, true_or, or_false, false_or, ne_eq, not_true_eq_false, not_false_eq_true, decide_true, decide_false, z_sA_id]
theorem m_cut_f (hM : z_HM G) (M : zM) (h0 : M 458 0 = nI n) (hn : n ≤ 8) {x : Int32} (hx : zf_in x (nI 0) (nI (2 ^ n - 1)) = false) : z_call 199 [.ref 455, .int x] G M = some (.inl (some (.int (nI 0))), G, rfm M 1 1) := by
  have e8 : th0 M 458 = M 458 := th0_o M (by omega)
  have hb := bd_1 hM M (a := 1) (k := 1) (by omega) (by omega)
  have hs := m_set hM (th0 M) (n := n) (by rw [e8]; exact h0) hn x
  obtain ⟨k0, ⟨r1, r8, r9, r10, r11, r12, r13, r17⟩, ⟨q1, q2⟩, ⟨q3, q4⟩, ⟨q5, q6⟩, ⟨q7, q8⟩, ⟨q9, q10⟩, ⟨q11, q12⟩, ⟨q13, q14⟩, ⟨q15, q16⟩, hp⟩ := id hM; have kr : ∀ a, z_rc a = 7 → z_kd G 455 = (0, z_rc a) := fun a h => (by rw [h]; exact k0)
  simp (disch := first | assumption | exact kr _ rfl | omega | exact Nat.le_of_ble_eq_true rfl) only [ze_M_cut, zk_M_cut_0, xo_2_0, xo_5, xo_18, xo_0_1, xo_64_2, xk_v, xk_n, xo_49, zk_M_cut_14, xo_54, xo_55, zk_M_cut_19, xo_64_4, xo_48, zk_M_cut_27, xo_70, xo_64_1, th0_f, hs, hx, z_b0, hb, one0, zer0, if_true, if_false, eq_self, Bool.true_eq_false, Bool.false_eq_true, and_true, true_and, and_false, false_and, or_true, true_or, or_false, false_or, ne_eq, not_true_eq_false, not_false_eq_true, decide_true, decide_false, z_sA_id]
theorem m_cut (hM : z_HM G) (M : zM) (h0 : M 458 0 = nI n) (hn : n ≤ 8) (hc : c ≤ 8) (h : M 455 14 = nI c) {x : Int32} (hx : zf_in x (nI 0) (nI (2 ^ n - 1)) = true) : ∃ M', z_call 199 [.ref 455, .int x] G M = some (.inl (some (.int (nI (f_cu x n (M 458)).2))), G, M') ∧ z_Rm c (th0 M) M' (f_cu x n (M 458)).1 := by
  have e8 : th0 M 458 = M 458 := th0_o M (by omega)
  have hb := bd_0 hM M (nI 1) (nI 1)
  have hs := m_set hM (th0 M) (n := n) (by rw [e8]; exact h0) hn x
  obtain ⟨M1, c1, p⟩ := m_rem hM M hc h
  have e9 : M1 458 = M 458 := p.2.2.2.2.2
  have g := c_M_cuts hM M1 (n := n) (by rw [e9]; exact h0) hn x
  rw [e9] at g
  refine ⟨_, ?_, Rm_8 p _⟩
  obtain ⟨k0, ⟨r1, r8, r9, r10, r11, r12, r13, r17⟩, ⟨q1, q2⟩, ⟨q3, q4⟩, ⟨q5, q6⟩, ⟨q7, q8⟩, ⟨q9, q10⟩, ⟨q11, q12⟩, ⟨q13, q14⟩, ⟨q15, q16⟩, hp⟩ := id hM; have kr : ∀ a, z_rc a = 7 → z_kd G 455 = (0, z_rc a) := fun a h => (by rw [h]; exact k0)
  simp (disch := first | assumption | exact kr _ rfl | omega | exact Nat.le_of_ble_eq_true rfl) only [ze_M_cut, zk_M_cut_0, xo_2_0, xo_5, xo_18, xo_0_1, xo_64_2, xk_v, xk_n, xo_49, xo_54, zk_M_cut_18, xo_55, zk_M_cut_19, xo_64_4, xo_48, xo_70, zk_M_cut_29, xo_64_1, th0_f, hs, hx, z_b0, hb, c1, g, one0, zer0, if_true, if_false, eq_self, Bool.true_eq_false, Bool.false_eq_true, and_true, true_and, and_false, false_and, or_true, true_or, or_false, false_or, ne_eq, not_true_eq_false, not_false_eq_true, decide_true, decide_false, z_sA_id]
theorem m_heal (hM : z_HM G) (M : zM) (h0 : M 458 0 = nI n) (hn : n ≤ 8) (hL : z_Lk n (M 458)) (hc : c ≤ 8) (h : M 455 14 = nI c) : ∃ M', z_call 202 [.ref 455] G M = some (.inl (some (.int (nI (f_hc n (M 458) / 2)))), G, M') ∧ z_Rm c (th0 M) M' (f_he n (M 458)) := by
  obtain ⟨M1, c1, p⟩ := m_rem hM M hc h
  have e9 : M1 458 = M 458 := p.2.2.2.2.2
  have g := c_M_heals hM M1 (n := n) (by rw [e9]; exact h0) hn (by rw [e9]; exact hL)
  rw [e9] at g
  refine ⟨_, ?_, Rm_8 p _⟩
  obtain ⟨k0, ⟨r1, r8, r9, r10, r11, r12, r13, r17⟩, ⟨q1, q2⟩, ⟨q3, q4⟩, ⟨q5, q6⟩, ⟨q7, q8⟩, ⟨q9, q10⟩, ⟨q11, q12⟩, ⟨q13, q14⟩, ⟨q15, q16⟩, hp⟩ := id hM; have kr : ∀ a, z_rc a = 7 → z_kd G 455 = (0, z_rc a) := fun a h => (by rw [h]; exact k0)
  simp (disch := first | assumption | exact kr _ rfl | omega | exact Nat.le_of_ble_eq_true rfl) only [ze_M_heal, zk_M_heal_0, xo_2_0, xo_5, xo_18, xo_64_1, xk_v, xk_n, xo_70, th0_f, c1, g, if_true, if_false, eq_self, Bool.true_eq_false, Bool.false_eq_true, and_true, true_and, and_false, false_and, or_true, true_or, or_false, false_or, ne_eq, not_true_eq_false, not_false_eq_true, decide_true, decide_false, z_sA_id]
theorem m_fall_f0 (hM : z_HM G) (M : zM) {x : Int32} (hF : z_F n J B (M 458)) (hx : x < 0 ∨ ¬ x < nI n) : z_call 204 [.ref 455, .int x] G M = some (.inl (some (.int (nI 0))), G, rfm M 1 0) := by
  have e8 : th0 M 458 = M 458 := th0_o M (by omega)
  have hr := m_mem_f hM (th0 M) (n := n) (x := x) (by rw [e8]; exact hF.1.1.1) hF.1.1.2 (by have := hF.2.1; omega) hx
  have hb := bd_1 hM M (a := 1) (k := 0) (by omega) (by omega)
  obtain ⟨k0, ⟨r1, r8, r9, r10, r11, r12, r13, r17⟩, ⟨q1, q2⟩, ⟨q3, q4⟩, ⟨q5, q6⟩, ⟨q7, q8⟩, ⟨q9, q10⟩, ⟨q11, q12⟩, ⟨q13, q14⟩, ⟨q15, q16⟩, hp⟩ := id hM; have kr : ∀ a, z_rc a = 7 → z_kd G 455 = (0, z_rc a) := fun a h => (by rw [h]; exact k0)
  simp (disch := first | assumption | exact kr _ rfl | omega | exact Nat.le_of_ble_eq_true rfl) only [ze_M_fall, zk_M_fall_0, xo_2_0, xo_5, xo_18, xo_0_1, xo_64_2, xk_v, xk_n, xo_49, zk_M_fall_14, xo_54, xo_55, zk_M_fall_19, xo_64_4, xo_48, zk_M_fall_41, xo_70, xo_64_1, th0_f, hr, hb, one0, zer0, if_true, if_false, eq_self, Bool.true_eq_false, Bool.false_eq_true, and_true, true_and, and_false, false_and, or_true, true_or, or_false, false_or, ne_eq, not_true_eq_false, not_false_eq_true, decide_true, decide_false, z_sA_id]
theorem m_fall_f1 (hM : z_HM G) (M : zM) {i : Nat} (hF : z_F n J B (M 458)) (hi : i < n) (hd : M 458 (41 + 28 * i) = nI 2) : z_call 204 [.ref 455, .int (nI i)] G M = some (.inl (some (.int (nI 0))), G, rfm M 2 2) := by
  have e8 : th0 M 458 = M 458 := th0_o M (by omega)
  have hn := hF.1.1.2
  have hr := m_mem_t hM (th0 M) (n := n) (i := i) (by rw [e8]; exact hF.1.1.1) hF.1.1.2 hi
  have hb0 := bd_0 hM M (nI 1) (nI 0)
  have hb := bd_1 hM M (a := 2) (k := 2) (by omega) (by omega)
  have d := c_M_isDown hM (th0 M) (i := i) (by omega)
  rw [e8, decide_eq_true hd] at d
  have z1 : z_b true = nI 1 := rfl
  rw [z1] at d
  obtain ⟨k0, ⟨r1, r8, r9, r10, r11, r12, r13, r17⟩, ⟨q1, q2⟩, ⟨q3, q4⟩, ⟨q5, q6⟩, ⟨q7, q8⟩, ⟨q9, q10⟩, ⟨q11, q12⟩, ⟨q13, q14⟩, ⟨q15, q16⟩, hp⟩ := id hM; have kr : ∀ a, z_rc a = 7 → z_kd G 455 = (0, z_rc a) := fun a h => (by rw [h]; exact k0)
  simp (disch := first | assumption | exact kr _ rfl | omega | exact Nat.le_of_ble_eq_true rfl) only [ze_M_fall, zk_M_fall_0, xo_2_0, xo_5, xo_18, xo_0_1, xo_64_2, xk_v, xk_n, xo_49, xo_54, zk_M_fall_18, xo_55, zk_M_fall_19, xo_64_4, zk_M_fall_27, xo_48, zk_M_fall_41, xo_70, xo_64_1, th0_f, hr, hb0, d, hb, one0, zer0, if_true, if_false, eq_self, Bool.true_eq_false, Bool.false_eq_true, and_true, true_and, and_false, false_and, or_true, true_or, or_false, false_or, ne_eq, not_true_eq_false, not_false_eq_true, decide_true, decide_false, z_sA_id]
theorem m_fall (hM : z_HM G) (M : zM) {i : Nat} (hF : z_F n J B (M 458)) (hi : i < n) (hd : ¬ M 458 (41 + 28 * i) = nI 2) (hc : c ≤ 8) (h : M 455 14 = nI c) : ∃ M', z_call 204 [.ref 455, .int (nI i)] G M = some (.inl (some (.int (nI (f_lc i (M 458))))), G, M') ∧ z_Rm c (th0 M) M' (f_fa i (M 458)) := by
  have e8 : th0 M 458 = M 458 := th0_o M (by omega)
  have hn := hF.1.1.2
  have hr := m_mem_t hM (th0 M) (n := n) (i := i) (by rw [e8]; exact hF.1.1.1) hF.1.1.2 hi
  have hb0 := bd_0 hM M (nI 1) (nI 0)
  have hb := bd_0 hM M (nI 2) (nI 2)
  have d := c_M_isDown hM (th0 M) (i := i) (by omega)
  rw [e8, decide_eq_false hd] at d
  have z1 : z_b false = nI 0 := rfl
  rw [z1] at d
  obtain ⟨M1, c1, p⟩ := m_rem hM M hc h
  have e9 : M1 458 = M 458 := p.2.2.2.2.2
  have g := c_M_falls hM M1 (i := i) (n := n) (J := J) (B := B) (by rw [e9]; exact hF) hi
  rw [e9] at g
  refine ⟨_, ?_, Rm_8 p _⟩
  obtain ⟨k0, ⟨r1, r8, r9, r10, r11, r12, r13, r17⟩, ⟨q1, q2⟩, ⟨q3, q4⟩, ⟨q5, q6⟩, ⟨q7, q8⟩, ⟨q9, q10⟩, ⟨q11, q12⟩, ⟨q13, q14⟩, ⟨q15, q16⟩, hp⟩ := id hM; have kr : ∀ a, z_rc a = 7 → z_kd G 455 = (0, z_rc a) := fun a h => (by rw [h]; exact k0)
  simp (disch := first | assumption | exact kr _ rfl | omega | exact Nat.le_of_ble_eq_true rfl) only [ze_M_fall, zk_M_fall_0, xo_2_0, xo_5, xo_18, xo_0_1, xo_64_2, xk_v, xk_n, xo_49, xo_54, zk_M_fall_18, xo_55, zk_M_fall_19, xo_64_4, zk_M_fall_27, xo_48, xo_70, zk_M_fall_43, xo_64_1, th0_f, hr, hb0, d, hb, c1, g, one0, zer0, if_true, if_false, eq_self, Bool.true_eq_false, Bool.false_eq_true, and_true, true_and, and_false, false_and, or_true, true_or, or_false, false_or, ne_eq, not_true_eq_false, not_false_eq_true, decide_true, decide_false, z_sA_id]
theorem m_rise_f0 (hM : z_HM G) (M : zM) {x : Int32} (hF : z_F n J B (M 458)) (hx : x < 0 ∨ ¬ x < nI n) : z_call 207 [.ref 455, .int x] G M = some (.inl (some (.int (nI 0))), G, rfm M 1 0) := by
  have e8 : th0 M 458 = M 458 := th0_o M (by omega)
  have hr := m_mem_f hM (th0 M) (n := n) (x := x) (by rw [e8]; exact hF.1.1.1) hF.1.1.2 (by have := hF.2.1; omega) hx
  have hb := bd_1 hM M (a := 1) (k := 0) (by omega) (by omega)
  obtain ⟨k0, ⟨r1, r8, r9, r10, r11, r12, r13, r17⟩, ⟨q1, q2⟩, ⟨q3, q4⟩, ⟨q5, q6⟩, ⟨q7, q8⟩, ⟨q9, q10⟩, ⟨q11, q12⟩, ⟨q13, q14⟩, ⟨q15, q16⟩, hp⟩ := id hM; have kr : ∀ a, z_rc a = 7 → z_kd G 455 = (0, z_rc a) := fun a h => (by rw [h]; exact k0)
  simp (disch := first | assumption | exact kr _ rfl | omega | exact Nat.le_of_ble_eq_true rfl) only [ze_M_rise, zk_M_rise_0, xo_2_0, xo_5, xo_18, xo_0_1, xo_64_2, xk_v, xk_n, xo_49, zk_M_rise_14, xo_54, xo_55, zk_M_rise_19, xo_64_4, xo_48, zk_M_rise_49, xo_70, xo_64_1, xo_17, xo_63_2, xo_32, th0_f, hr, hb, one0, zer0, if_true, if_false, eq_self, Bool.true_eq_false, Bool.false_eq_true, and_true, true_and, and_false, false_and, or_true, true_or, or_false, false_or, ne_eq, not_true_eq_false, not_false_eq_true, decide_true, decide_false, z_sA_id]
theorem m_rise_f1 (hM : z_HM G) (M : zM) {i : Nat} (hF : z_F n J B (M 458)) (hi : i < n) (hd : ¬ M 458 (41 + 28 * i) = nI 2) : z_call 207 [.ref 455, .int (nI i)] G M = some (.inl (some (.int (nI 0))), G, rfm M 2 2) := by
  have e8 : th0 M 458 = M 458 := th0_o M (by omega)
  have hn := hF.1.1.2
  have hr := m_mem_t hM (th0 M) (n := n) (i := i) (by rw [e8]; exact hF.1.1.1) hF.1.1.2 hi
  have hb0 := bd_0 hM M (nI 1) (nI 0)
  have hb := bd_1 hM M (a := 2) (k := 2) (by omega) (by omega)
  have d := c_M_isDown hM (th0 M) (i := i) (by omega)
  rw [e8, decide_eq_false hd] at d
  have z1 : z_b false = nI 0 := rfl
  rw [z1] at d
  obtain ⟨k0, ⟨r1, r8, r9, r10, r11, r12, r13, r17⟩, ⟨q1, q2⟩, ⟨q3, q4⟩, ⟨q5, q6⟩, ⟨q7, q8⟩, ⟨q9, q10⟩, ⟨q11, q12⟩, ⟨q13, q14⟩, ⟨q15, q16⟩, hp⟩ := id hM; have kr : ∀ a, z_rc a = 7 → z_kd G 455 = (0, z_rc a) := fun a h => (by rw [h]; exact k0)
  simp (disch := first | assumption | exact kr _ rfl | omega | exact Nat.le_of_ble_eq_true rfl) only [ze_M_rise, zk_M_rise_0, xo_2_0, xo_5, xo_18, xo_0_1, xo_64_2, xk_v, xk_n, xo_49, xo_54, zk_M_rise_18, xo_55, zk_M_rise_19, xo_64_4, zk_M_rise_27, zk_M_rise_36, zk_M_rise_41, xo_48, zk_M_rise_49, xo_70, xo_64_1, xo_17, xo_63_2, xo_32, th0_f, hr, hb0, d, hb, one0, zer0, if_true, if_false, eq_self, Bool.true_eq_false, Bool.false_eq_true, and_true, true_and, and_false, false_and, or_true, true_or, or_false, false_or, ne_eq, not_true_eq_false, not_false_eq_true, decide_true, decide_false, z_sA_id]
theorem m_rise (hM : z_HM G) (M : zM) {i : Nat} (hF : z_F n J B (M 458)) (hi : i < n) (hd : M 458 (41 + 28 * i) = nI 2) (hc : c ≤ 8) (h : M 455 14 = nI c) : ∃ M', z_call 207 [.ref 455, .int (nI i)] G M = some (.inl (some (.int (f_al i (M 458) (41 + 28 * i + 3)))), G, M') ∧ z_Rm c (th0 M) M' (f_al i (M 458)) := by
  have e8 : th0 M 458 = M 458 := th0_o M (by omega)
  have hn := hF.1.1.2
  have hr := m_mem_t hM (th0 M) (n := n) (i := i) (by rw [e8]; exact hF.1.1.1) hF.1.1.2 hi
  have hb0 := bd_0 hM M (nI 1) (nI 0)
  have hb := bd_0 hM M (nI 2) (nI 2)
  have d := c_M_isDown hM (th0 M) (i := i) (by omega)
  rw [e8, decide_eq_true hd] at d
  have z1 : z_b true = nI 1 := rfl
  rw [z1] at d
  obtain ⟨M1, c1, p⟩ := m_rem hM M hc h
  have e9 : M1 458 = M 458 := p.2.2.2.2.2
  have g := c_M_goesAlone hM M1 (n := n) (i := i) (by rw [e9]; exact hF.1) (by omega)
  rw [e9] at g
  refine ⟨_, ?_, Rm_8 p _⟩
  obtain ⟨k0, ⟨r1, r8, r9, r10, r11, r12, r13, r17⟩, ⟨q1, q2⟩, ⟨q3, q4⟩, ⟨q5, q6⟩, ⟨q7, q8⟩, ⟨q9, q10⟩, ⟨q11, q12⟩, ⟨q13, q14⟩, ⟨q15, q16⟩, hp⟩ := id hM; have kr : ∀ a, z_rc a = 7 → z_kd G 455 = (0, z_rc a) := fun a h => (by rw [h]; exact k0)
  simp (disch := first | assumption | exact kr _ rfl | omega | exact Nat.le_of_ble_eq_true rfl) only [ze_M_rise, zk_M_rise_0, xo_2_0, xo_5, xo_18, xo_0_1, xo_64_2, xk_v, xk_n, xo_49, xo_54, zk_M_rise_18, xo_55, zk_M_rise_19, xo_64_4, zk_M_rise_27, zk_M_rise_40, zk_M_rise_41, xo_48, xo_70, zk_M_rise_51, xo_64_1, xo_17, xo_63_2, xo_32, th0_f, hr, hb0, d, hb, c1, g, r9, c_M_m, nI_add, pk_mul, Nat.add_zero, z_sA_s, z_sA_sA, z_u_s, one0, zer0, if_true, if_false, eq_self, Bool.true_eq_false, Bool.false_eq_true, and_true, true_and, and_false, false_and, or_true, true_or, or_false, false_or, ne_eq, not_true_eq_false, not_false_eq_true, decide_true, decide_false, z_sA_id]
theorem m_rule_f (hM : z_HM G) (M : zM) {x v : Int32} (hS : z_St G M) (hx : q_rule x v = false) : z_call 208 [.ref 455, .int x, .int v] G M = some (.inl (some (.int (nI 0))), G, rfm M 1 1) := by
  have hb := bd_1 hM M (a := 1) (k := 1) (by omega) (by omega)
  have hS' : z_St G (th0 M) := fun p hp => by rw [th0_o M (by omega)]; exact hS p hp
  have hr := m_rule hS' x v
  obtain ⟨k0, ⟨r1, r8, r9, r10, r11, r12, r13, r17⟩, ⟨q1, q2⟩, ⟨q3, q4⟩, ⟨q5, q6⟩, ⟨q7, q8⟩, ⟨q9, q10⟩, ⟨q11, q12⟩, ⟨q13, q14⟩, ⟨q15, q16⟩, hp⟩ := id hM; have kr : ∀ a, z_rc a = 7 → z_kd G 455 = (0, z_rc a) := fun a h => (by rw [h]; exact k0)
  simp (disch := first | assumption | exact kr _ rfl | omega | exact Nat.le_of_ble_eq_true rfl) only [ze_M_rule, zk_M_rule_0, xo_2_0, xo_5, xo_18, xo_0_1, xo_0_2, xo_63_2, xk_v, xk_n, xo_49, zk_M_rule_14, xo_54, xo_55, zk_M_rule_19, xo_64_4, xo_48, zk_M_rule_27, xo_70, xo_64_1, xo_17, xo_20, xo_32, xo_10_3i, xo_10_3r, xo_10_3n, xo_33, xo_0_3, th0_f, hr, hx, z_b0, hb, one0, zer0, if_true, if_false, eq_self, Bool.true_eq_false, Bool.false_eq_true, and_true, true_and, and_false, false_and, or_true, true_or, or_false, false_or, ne_eq, not_true_eq_false, not_false_eq_true, decide_true, decide_false, z_sA_id]
theorem m_rule_t (hM : z_HM G) (M : zM) {k : Nat} (hk : k < 4) {v : Int32} (hS : z_St G M) (hx : q_rule (nI k) v = true) (hc : c ≤ 8) (h : M 455 14 = nI c) : ∃ M', z_call 208 [.ref 455, .int (nI k), .int v] G M = some (.inl (some (.int (M 458 (2 + k)))), G, M') ∧ z_Rm c (th0 M) M' (z_u (M 458) (2 + k) v) := by
  have hb := bd_0 hM M (nI 1) (nI 1)
  have hS' : z_St G (th0 M) := fun p hp => by rw [th0_o M (by omega)]; exact hS p hp
  have hr := m_rule hS' (nI k) v
  obtain ⟨M1, c1, p⟩ := m_rem hM M hc h
  have e9 : M1 458 = M 458 := p.2.2.2.2.2
  refine ⟨_, ?_, Rm_8 p _⟩
  obtain ⟨k0, ⟨r1, r8, r9, r10, r11, r12, r13, r17⟩, ⟨q1, q2⟩, ⟨q3, q4⟩, ⟨q5, q6⟩, ⟨q7, q8⟩, ⟨q9, q10⟩, ⟨q11, q12⟩, ⟨q13, q14⟩, ⟨q15, q16⟩, hp⟩ := id hM; have kr : ∀ a, z_rc a = 7 → z_kd G 455 = (0, z_rc a) := fun a h => (by rw [h]; exact k0)
  simp (disch := first | assumption | exact kr _ rfl | omega | exact Nat.le_of_ble_eq_true rfl) only [ze_M_rule, zk_M_rule_0, xo_2_0, xo_5, xo_18, xo_0_1, xo_0_2, xo_63_2, xk_v, xk_n, xo_49, xo_54, zk_M_rule_18, xo_55, zk_M_rule_19, xo_64_4, xo_48, xo_70, zk_M_rule_29, xo_64_1, xo_17, xo_20, xo_32, xo_10_3i, xo_10_3r, xo_10_3n, xo_33, xo_0_3, th0_f, hr, hx, z_b0, hb, c1, e9, r9, nI_add, pk_mul, Nat.add_zero, z_sA_s, z_sA_sA, z_u_s, one0, zer0, if_true, if_false, eq_self, Bool.true_eq_false, Bool.false_eq_true, and_true, true_and, and_false, false_and, or_true, true_or, or_false, false_or, ne_eq, not_true_eq_false, not_false_eq_true, decide_true, decide_false, z_sA_id]
end
