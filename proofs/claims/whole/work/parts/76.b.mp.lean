/-! ===== the reference on paper ===== -/
def z_Pq (M M' : zM) : Prop := (∀ q, q ≠ 455 → q ≠ 458 → q ≠ 460 → q ≠ 461 → q ≠ 471 → M' q = M q) ∧ (∀ a, a < 4326 → M' 458 a = M 458 a) ∧ ∀ f, f ≠ 18 → f ≠ 19 → M' 455 f = M 455 f
theorem Pq_refl (M : zM) : z_Pq M M := ⟨fun _ _ _ _ _ _ => rfl, fun _ _ => rfl, fun _ _ _ => rfl⟩
theorem Pq_trans {M M' M'' : zM} (h : z_Pq M M') (g : z_Pq M' M'') : z_Pq M M'' := ⟨fun q a b c d e => (g.1 q a b c d e).trans (h.1 q a b c d e), fun a ha => (g.2.1 a ha).trans (h.2.1 a ha), fun f a b => (g.2.2 f a b).trans (h.2.2 f a b)⟩
/-- the row is kept at 460 -/
def pp (M : zM) : zM := z_sA M 460 (z_cp 4326 (M 458) (M 460))
theorem pp_8 (M : zM) : pp M 458 = M 458 := z_sA_n _ _ _ _ (by omega)
theorem pp_f (M : zM) : z_sA M 460 (z_cp 4326 (M 458) (M 460)) = pp M := rfl
theorem Pq_pap (M : zM) (t s nw : Nat → Int32) (h : Nat) : z_Pq M (z_sA (mm (z_sA (pp M) 458 t) s nw h) 458 (z_cp 4326 (mm (z_sA (pp M) 458 t) s nw h 460) (mm (z_sA (pp M) 458 t) s nw h 458))) := by
  refine ⟨fun q h1 h2 h3 h4 h5 => ?_, fun a ha => ?_, fun f h1 h2 => ?_⟩
  · rw [z_sA_n _ _ _ _ h2, mm_o _ _ _ _ h1 h2 h5, z_sA_n _ _ _ _ h2]; exact z_sA_n _ _ _ _ h3
  · rw [z_sA_s, z_cp_lt ha, mm_o _ _ _ _ (by omega) (by omega) (by omega), z_sA_n _ _ _ _ (by omega)]
    unfold pp
    rw [z_sA_s, z_cp_lt ha]
  · rw [z_sA_n _ _ _ _ (by omega), mm_m, z_u_n _ _ _ _ h1, z_sA_n _ _ _ _ (by omega)]
    unfold pp
    rw [z_sA_n _ _ _ _ (by omega)]
section
variable {G : zG} {n J B : Nat}
theorem pp_copy (hM : z_HM G) (M : zM) : z_call 150 [.ref 458, .ref 460] G M = some (.inl none, G, pp M) := by
  obtain ⟨k0, ⟨r1, r8, r9, r10, r11, r12, r13, r17⟩, ⟨q1, q2⟩, ⟨q3, q4⟩, ⟨q5, q6⟩, ⟨q7, q8⟩, ⟨q9, q10⟩, ⟨q11, q12⟩, ⟨q13, q14⟩, ⟨q15, q16⟩, hp⟩ := id hM; have kr : ∀ a, z_rc a = 7 → z_kd G 455 = (0, z_rc a) := fun a h => (by rw [h]; exact k0)
  exact c_M_copies M (by omega) (by omega) (by assumption) (by omega) (by assumption) (by omega)
theorem pp_back (hM : z_HM G) (M : zM) : z_call 150 [.ref 460, .ref 458] G M = some (.inl none, G, z_sA M 458 (z_cp 4326 (M 460) (M 458))) := by
  obtain ⟨k0, ⟨r1, r8, r9, r10, r11, r12, r13, r17⟩, ⟨q1, q2⟩, ⟨q3, q4⟩, ⟨q5, q6⟩, ⟨q7, q8⟩, ⟨q9, q10⟩, ⟨q11, q12⟩, ⟨q13, q14⟩, ⟨q15, q16⟩, hp⟩ := id hM; have kr : ∀ a, z_rc a = 7 → z_kd G 455 = (0, z_rc a) := fun a h => (by rw [h]; exact k0)
  exact c_M_copies M (by omega) (by omega) (by assumption) (by omega) (by assumption) (by omega)
theorem m_until (hM : z_HM G) (M : zM) (hF : z_F n J B (M 458)) (hB : B ≤ 70000000) : ∃ M', z_call 234 [.ref 455] G M = some (.inl (some (.int (z_on (f_un n 300 (M 458))))), G, M') ∧ z_Pq (th0 M) M' := by
  have e8 : th0 M 458 = M 458 := th0_o M (by omega)
  have c1 := pp_copy hM (th0 M)
  have e9 : pp (th0 M) 458 = M 458 := (pp_8 _).trans e8
  obtain ⟨s, nw, h, c2⟩ := c_M_untilNow hM (pp (th0 M)) (n := n) (J := J) (B := B) (by rw [e9]; exact hF) hB
  rw [e9] at c2
  have c3 := pp_back hM (mm (pp (th0 M)) s nw h)
  have hq := Pq_pap (th0 M) (pp (th0 M) 458) s nw h
  rw [z_sA_id] at hq
  refine ⟨_, ?_, hq⟩
  obtain ⟨k0, ⟨r1, r8, r9, r10, r11, r12, r13, r17⟩, ⟨q1, q2⟩, ⟨q3, q4⟩, ⟨q5, q6⟩, ⟨q7, q8⟩, ⟨q9, q10⟩, ⟨q11, q12⟩, ⟨q13, q14⟩, ⟨q15, q16⟩, hp⟩ := id hM; have kr : ∀ a, z_rc a = 7 → z_kd G 455 = (0, z_rc a) := fun a h => (by rw [h]; exact k0)
  simp (disch := first | assumption | exact kr _ rfl | omega | exact Nat.le_of_ble_eq_true rfl) only [ze_M_until, zk_M_until_0, xo_2_0, xo_5, xo_18, xo_17, xo_63_2, xk_v, xk_n, xo_64_1, xo_10_1i, xo_10_1r, xo_10_1n, xo_0_1, xo_70, th0_f, r9, r11, c1, c2, c3, if_true, if_false, eq_self, Bool.true_eq_false, Bool.false_eq_true, and_true, true_and, and_false, false_and, or_true, true_or, or_false, false_or, ne_eq, not_true_eq_false, not_false_eq_true, decide_true, decide_false, z_sA_id]
theorem m_untilFall (hM : z_HM G) (M : zM) (hF : z_F n J B (M 458)) (hB : B ≤ 60000000) {i : Nat} (hi : i < n) : ∃ M', z_call 237 [.ref 455, .int (nI i)] G M = some (.inl (some (.int (z_on (f_un n 300 (f_tu i (M 458)))))), G, M') ∧ z_Pq M M' := by
  have hn := hF.1.1.2
  have c1 := pp_copy hM M
  have e9 : pp M 458 = M 458 := pp_8 _
  have hF' : z_F n J B (pp M 458) := by rw [e9]; exact hF
  have d := c_M_isDown hM (pp M) (i := i) (by omega)
  rw [e9] at d
  have g1 := c_M_goesAlone hM (pp M) (n := n) (i := i) hF'.1 (by omega)
  have g2 := c_M_falls hM (pp M) (i := i) hF' hi
  rw [e9] at g1 g2
  have hT := F_tu hF hi (by omega)
  obtain ⟨s, nw, h, c2⟩ := c_M_untilNow hM (z_sA (pp M) 458 (f_tu i (M 458))) (n := n) (J := J) (B := B + 1) (by rw [z_sA_s]; exact hT) (by omega)
  rw [z_sA_s] at c2
  have c3 := pp_back hM (mm (z_sA (pp M) 458 (f_tu i (M 458))) s nw h)
  refine ⟨_, ?_, Pq_pap M (f_tu i (M 458)) s nw h⟩
  obtain ⟨k0, ⟨r1, r8, r9, r10, r11, r12, r13, r17⟩, ⟨q1, q2⟩, ⟨q3, q4⟩, ⟨q5, q6⟩, ⟨q7, q8⟩, ⟨q9, q10⟩, ⟨q11, q12⟩, ⟨q13, q14⟩, ⟨q15, q16⟩, hp⟩ := id hM; have kr : ∀ a, z_rc a = 7 → z_kd G 455 = (0, z_rc a) := fun a h => (by rw [h]; exact k0)
  unfold f_tu at c2 c3 ⊢
  by_cases hd : M 458 (41 + 28 * i) = nI 2
  · rw [if_pos hd] at c2 c3 ⊢
    rw [decide_eq_true hd] at d
    simp (disch := first | assumption | exact kr _ rfl | omega | exact Nat.le_of_ble_eq_true rfl) only [ze_M_untilFall, zk_M_untilFall_0, xo_2_0, xo_17, xo_63_2, xk_v, xk_n, xo_0_1, xo_64_2, xo_48, zk_M_untilFall_19, xo_54, xo_41, xo_55, zk_M_untilFall_33, xo_64_1, xo_10_2i, xo_10_2r, xo_10_2n, xo_0_2, xo_70, r9, r11, c1, d, g1, c2, c3, z_b0, if_true, if_false, eq_self, Bool.true_eq_false, Bool.false_eq_true, and_true, true_and, and_false, false_and, or_true, true_or, or_false, false_or, ne_eq, not_true_eq_false, not_false_eq_true, decide_true, decide_false, z_sA_id]
  · rw [if_neg hd] at c2 c3 ⊢
    rw [decide_eq_false hd] at d
    simp (disch := first | assumption | exact kr _ rfl | omega | exact Nat.le_of_ble_eq_true rfl) only [ze_M_untilFall, zk_M_untilFall_0, xo_2_0, xo_17, xo_63_2, xk_v, xk_n, xo_0_1, xo_64_2, xo_48, xo_54, zk_M_untilFall_27, xo_41, xo_55, zk_M_untilFall_33, xo_64_1, xo_10_2i, xo_10_2r, xo_10_2n, xo_0_2, xo_70, r9, r11, c1, d, g2, c2, c3, z_b0, if_true, if_false, eq_self, Bool.true_eq_false, Bool.false_eq_true, and_true, true_and, and_false, false_and, or_true, true_or, or_false, false_or, ne_eq, not_true_eq_false, not_false_eq_true, decide_true, decide_false, z_sA_id]
theorem m_untilBy_f (hM : z_HM G) (M : zM) {x : Int32} (hF : z_F n J B (M 458)) (hx : x < 0 ∨ ¬ x < nI n) : z_call 236 [.ref 455, .int x] G M = some (.inl (some (.int (nI 0))), G, rfm M 1 0) := by
  have e8 : th0 M 458 = M 458 := th0_o M (by omega)
  have hr := m_mem_f hM (th0 M) (n := n) (x := x) (by rw [e8]; exact hF.1.1.1) hF.1.1.2 (by have := hF.2.1; omega) hx
  have hb := bd_1 hM M (a := 1) (k := 0) (by omega) (by omega)
  obtain ⟨k0, ⟨r1, r8, r9, r10, r11, r12, r13, r17⟩, ⟨q1, q2⟩, ⟨q3, q4⟩, ⟨q5, q6⟩, ⟨q7, q8⟩, ⟨q9, q10⟩, ⟨q11, q12⟩, ⟨q13, q14⟩, ⟨q15, q16⟩, hp⟩ := id hM; have kr : ∀ a, z_rc a = 7 → z_kd G 455 = (0, z_rc a) := fun a h => (by rw [h]; exact k0)
  simp (disch := first | assumption | exact kr _ rfl | omega | exact Nat.le_of_ble_eq_true rfl) only [ze_M_untilBy, zk_M_untilBy_0, xo_2_0, xo_5, xo_18, xo_0_1, xo_64_2, xk_v, xk_n, xo_49, zk_M_untilBy_14, xo_54, xo_55, zk_M_untilBy_19, xo_64_4, xo_48, zk_M_untilBy_27, xo_70, th0_f, hr, hb, one0, zer0, if_true, if_false, eq_self, Bool.true_eq_false, Bool.false_eq_true, and_true, true_and, and_false, false_and, or_true, true_or, or_false, false_or, ne_eq, not_true_eq_false, not_false_eq_true, decide_true, decide_false, z_sA_id]
theorem m_untilBy (hM : z_HM G) (M : zM) (hF : z_F n J B (M 458)) (hB : B ≤ 60000000) {i : Nat} (hi : i < n) : ∃ M', z_call 236 [.ref 455, .int (nI i)] G M = some (.inl (some (.int (z_on (f_un n 300 (f_tu i (M 458)))))), G, M') ∧ z_Pq (th0 M) M' := by
  have e8 : th0 M 458 = M 458 := th0_o M (by omega)
  have hF' : z_F n J B (th0 M 458) := by rw [e8]; exact hF
  have hr := m_mem_t hM (th0 M) (n := n) (i := i) hF'.1.1.1 hF.1.1.2 hi
  have hb := bd_0 hM M (nI 1) (nI 0)
  obtain ⟨M', c, q⟩ := m_untilFall hM (th0 M) hF' hB hi
  rw [e8] at c
  refine ⟨M', ?_, q⟩
  obtain ⟨k0, ⟨r1, r8, r9, r10, r11, r12, r13, r17⟩, ⟨q1, q2⟩, ⟨q3, q4⟩, ⟨q5, q6⟩, ⟨q7, q8⟩, ⟨q9, q10⟩, ⟨q11, q12⟩, ⟨q13, q14⟩, ⟨q15, q16⟩, hp⟩ := id hM; have kr : ∀ a, z_rc a = 7 → z_kd G 455 = (0, z_rc a) := fun a h => (by rw [h]; exact k0)
  simp (disch := first | assumption | exact kr _ rfl | omega | exact Nat.le_of_ble_eq_true rfl) only [ze_M_untilBy, zk_M_untilBy_0, xo_2_0, xo_5, xo_18, xo_0_1, xo_64_2, xk_v, xk_n, xo_49, xo_54, zk_M_untilBy_18, xo_55, zk_M_untilBy_19, xo_64_4, xo_48, xo_70, zk_M_untilBy_29, th0_f, hr, hb, c, one0, zer0, if_true, if_false, eq_self, Bool.true_eq_false, Bool.false_eq_true, and_true, true_and, and_false, false_and, or_true, true_or, or_false, false_or, ne_eq, not_true_eq_false, not_false_eq_true, decide_true, decide_false, z_sA_id]
/-- a rule is another one -/
theorem F_ru {s : Nat → Int32} (hF : z_F n J B s) {k : Nat} (hk : k < 4) {v : Int32} (hv : zf_in v (q_lo k) (q_hi k) = true) : z_F n J B (z_u s (2 + k) v) := by
  obtain ⟨⟨⟨a1, a2⟩, ⟨m, a3, a4⟩, c, a5, a6⟩, b, ⟨j1, j2⟩, ⟨d, d1, d2, d3⟩, f, l⟩ := hF
  have e : ∀ a, a ≠ 2 + k → z_u s (2 + k) v a = s a := fun a ha => z_u_n _ _ _ _ ha
  refine ⟨⟨⟨(e 0 (by omega)).trans a1, a2⟩, ⟨m, a3, (e 8 (by omega)).trans a4⟩, c, a5, (e 4165 (by omega)).trans a6⟩, b, ⟨(e 1 (by omega)).trans j1, j2⟩, ?_, fun i g hi hg => by rw [e _ (by omega)]; exact f i g hi hg, fun q hq => ?_⟩
  · by_cases h3 : k = 3
    · subst h3
      have hv2 : ¬ v < nI 1 ∧ ¬ nI 3 < v := of_decide_eq_true hv
      have hz : ¬ v < 0 := fun q => hv2.1 (Int32.lt_trans q (by decide))
      obtain ⟨j, hj, ej⟩ := nI_of hz
      subst ej
      refine ⟨j, ?_, ?_, z_u_s _ _ _⟩
      · exact Nat.le_of_not_lt (fun q => hv2.1 (nI_lt q (by omega)))
      · exact Nat.le_of_not_lt (fun q => hv2.2 (nI_lt q hj))
    · exact ⟨d, d1, d2, (e 5 (by omega)).trans d3⟩
  · rw [e 8 (by omega)] at hq
    have := l q hq
    have e2 : (fun t => z_u s (2 + k) v (265 + 13 * q + t)) = fun t => s (265 + 13 * q + t) := by funext t; exact e _ (by omega)
    rw [e2]; exact this
theorem m_untilRule_f (hM : z_HM G) (M : zM) {x v : Int32} (hS : z_St G M) (hx : q_rule x v = false) : z_call 239 [.ref 455, .int x, .int v] G M = some (.inl (some (.int (nI 0))), G, rfm M 1 1) := by
  have hr := m_rule (M := th0 M) (fun p hp => ⟨(hS p hp).1, fun k hk => by rw [th0_o M (by omega)]; exact (hS p hp).2 k hk⟩) x v
  have hb := bd_1 hM M (a := 1) (k := 1) (by omega) (by omega)
  obtain ⟨k0, ⟨r1, r8, r9, r10, r11, r12, r13, r17⟩, ⟨q1, q2⟩, ⟨q3, q4⟩, ⟨q5, q6⟩, ⟨q7, q8⟩, ⟨q9, q10⟩, ⟨q11, q12⟩, ⟨q13, q14⟩, ⟨q15, q16⟩, hp⟩ := id hM; have kr : ∀ a, z_rc a = 7 → z_kd G 455 = (0, z_rc a) := fun a h => (by rw [h]; exact k0)
  simp (disch := first | assumption | exact kr _ rfl | omega | exact Nat.le_of_ble_eq_true rfl) only [ze_M_untilRule, zk_M_untilRule_0, xo_2_0, xo_5, xo_18, xo_0_1, xo_0_2, xo_63_2, xk_v, xk_n, xo_49, zk_M_untilRule_14, xo_54, xo_55, zk_M_untilRule_19, xo_64_4, xo_48, zk_M_untilRule_27, xo_70, xo_17, xo_20, xo_33, xo_64_1, xo_10_3i, xo_10_3r, xo_10_3n, xo_0_3, th0_f, hr, hx, z_b0, hb, one0, zer0, if_true, if_false, eq_self, Bool.true_eq_false, Bool.false_eq_true, and_true, true_and, and_false, false_and, or_true, true_or, or_false, false_or, ne_eq, not_true_eq_false, not_false_eq_true, decide_true, decide_false, z_sA_id]
theorem m_untilRule (hM : z_HM G) (M : zM) (hF : z_F n J B (M 458)) (hB : B ≤ 60000000) {k : Nat} (hk : k < 4) {v : Int32} (hS : z_St G M) (hx : q_rule (nI k) v = true) (hv : zf_in v (q_lo k) (q_hi k) = true) : ∃ M', z_call 239 [.ref 455, .int (nI k), .int v] G M = some (.inl (some (.int (z_on (f_un n 300 (z_u (M 458) (2 + k) v))))), G, M') ∧ z_Pq (th0 M) M' := by
  have hr := m_rule (M := th0 M) (fun p hp => ⟨(hS p hp).1, fun k hk => by rw [th0_o M (by omega)]; exact (hS p hp).2 k hk⟩) (nI k) v
  have hb := bd_0 hM M (nI 1) (nI 1)
  have e8 : th0 M 458 = M 458 := th0_o M (by omega)
  have c1 := pp_copy hM (th0 M)
  have e9 : pp (th0 M) 458 = M 458 := (pp_8 _).trans e8
  obtain ⟨s, nw, h, c2⟩ := c_M_untilNow hM (z_sA (pp (th0 M)) 458 (z_u (M 458) (2 + k) v)) (n := n) (J := J) (B := B) (by rw [z_sA_s]; exact F_ru hF hk hv) (by omega)
  rw [z_sA_s] at c2
  have c3 := pp_back hM (mm (z_sA (pp (th0 M)) 458 (z_u (M 458) (2 + k) v)) s nw h)
  refine ⟨_, ?_, Pq_pap (th0 M) (z_u (M 458) (2 + k) v) s nw h⟩
  obtain ⟨k0, ⟨r1, r8, r9, r10, r11, r12, r13, r17⟩, ⟨q1, q2⟩, ⟨q3, q4⟩, ⟨q5, q6⟩, ⟨q7, q8⟩, ⟨q9, q10⟩, ⟨q11, q12⟩, ⟨q13, q14⟩, ⟨q15, q16⟩, hp⟩ := id hM; have kr : ∀ a, z_rc a = 7 → z_kd G 455 = (0, z_rc a) := fun a h => (by rw [h]; exact k0)
  simp (disch := first | assumption | exact kr _ rfl | omega | exact Nat.le_of_ble_eq_true rfl) only [ze_M_untilRule, zk_M_untilRule_0, xo_2_0, xo_5, xo_18, xo_0_1, xo_0_2, xo_63_2, xk_v, xk_n, xo_49, xo_54, zk_M_untilRule_18, xo_55, zk_M_untilRule_19, xo_64_4, xo_48, xo_70, zk_M_untilRule_29, xo_17, xo_20, xo_33, xo_64_1, xo_10_3i, xo_10_3r, xo_10_3n, xo_0_3, th0_f, nI_add, r9, r11, hr, hx, z_b0, hb, c1, e9, c2, c3, one0, zer0, if_true, if_false, eq_self, Bool.true_eq_false, Bool.false_eq_true, and_true, true_and, and_false, false_and, or_true, true_or, or_false, false_or, ne_eq, not_true_eq_false, not_false_eq_true, decide_true, decide_false, z_sA_id]
theorem m_untilLinks_f (hM : z_HM G) (M : zM) (h0 : M 458 0 = nI n) (hn : n ≤ 8) {w x : Int32} (hx : (w < 0 ∨ ¬ w < nI 2) ∨ (w = nI 1 ∧ zf_in x (nI 0) (nI (2 ^ n - 1)) = false)) : z_call 240 [.ref 455, .int w, .int x] G M = some (.inl (some (.int (nI 0))), G, rfm M 1 1) := by
  have e8 : th0 M 458 = M 458 := th0_o M (by omega)
  have hb := bd_1 hM M (a := 1) (k := 1) (by omega) (by omega)
  have hs := m_set hM (th0 M) (n := n) (by rw [e8]; exact h0) hn x
  obtain ⟨k0, ⟨r1, r8, r9, r10, r11, r12, r13, r17⟩, ⟨q1, q2⟩, ⟨q3, q4⟩, ⟨q5, q6⟩, ⟨q7, q8⟩, ⟨q9, q10⟩, ⟨q11, q12⟩, ⟨q13, q14⟩, ⟨q15, q16⟩, hp⟩ := id hM; have kr : ∀ a, z_rc a = 7 → z_kd G 455 = (0, z_rc a) := fun a h => (by rw [h]; exact k0)
  rcases hx with hx | ⟨e, hx⟩
  · have ht := in_f (x := w) (k := 1) (by omega) hx
    simp (disch := first | assumption | exact kr _ rfl | omega | exact Nat.le_of_ble_eq_true rfl) only [ze_M_untilLinks, zk_M_untilLinks_0, xo_2_0, xo_5, xo_18, xo_0_1, xo_63_3, xk_v, xk_n, xo_48, xo_43, xo_0_2, xo_64_2, xo_49, zk_M_untilLinks_28, xo_54, xo_55, zk_M_untilLinks_33, xo_64_4, zk_M_untilLinks_41, xo_70, xo_17, xo_63_2, xo_64_1, xo_10_3i, xo_10_3r, xo_10_3n, xo_11_4i, xo_11_4r, xo_11_4n, xo_1_4, th0_f, c_M_in, ht, z_b0, hb, one0, zer0, if_true, if_false, eq_self, Bool.true_eq_false, Bool.false_eq_true, and_true, true_and, and_false, false_and, or_true, true_or, or_false, false_or, ne_eq, not_true_eq_false, not_false_eq_true, decide_true, decide_false, z_sA_id]
  · subst e
    have ht := in_t (i := 1) (k := 1) (by omega) (by omega)
    simp (disch := first | assumption | exact kr _ rfl | omega | exact Nat.le_of_ble_eq_true rfl) only [ze_M_untilLinks, zk_M_untilLinks_0, xo_2_0, xo_5, xo_18, xo_0_1, xo_63_3, xk_v, xk_n, xo_48, zk_M_untilLinks_15, xo_43, zk_M_untilLinks_20, xo_0_2, xo_64_2, xo_49, zk_M_untilLinks_28, xo_54, xo_55, zk_M_untilLinks_33, xo_64_4, zk_M_untilLinks_41, xo_70, xo_17, xo_63_2, xo_64_1, xo_10_3i, xo_10_3r, xo_10_3n, xo_11_4i, xo_11_4r, xo_11_4n, xo_1_4, th0_f, c_M_in, ht, hs, hx, z_b0, hb, one0, zer0, if_true, if_false, eq_self, Bool.true_eq_false, Bool.false_eq_true, and_true, true_and, and_false, false_and, or_true, true_or, or_false, false_or, ne_eq, not_true_eq_false, not_false_eq_true, decide_true, decide_false, z_sA_id]
theorem m_untilLinks0 (hM : z_HM G) (M : zM) (hF : z_F n J B (M 458)) (hB : B ≤ 60000000) (hL : z_Lk n (M 458)) (x : Int32) : ∃ M', z_call 240 [.ref 455, .int (nI 0), .int x] G M = some (.inl (some (.int (z_on (f_un n 300 (f_he n (M 458)))))), G, M') ∧ z_Pq (th0 M) M' := by
  have hb := bd_0 hM M (nI 1) (nI 1)
  have e8 : th0 M 458 = M 458 := th0_o M (by omega)
  have c1 := pp_copy hM (th0 M)
  have e9 : pp (th0 M) 458 = M 458 := (pp_8 _).trans e8
  have g := c_M_heals hM (pp (th0 M)) (n := n) (by rw [e9]; exact hF.1.1.1) hF.1.1.2 (by rw [e9]; exact hL)
  rw [e9] at g
  obtain ⟨s, nw, h, c2⟩ := c_M_untilNow hM (z_sA (pp (th0 M)) 458 (f_he n (M 458))) (n := n) (J := J) (B := B) (by rw [z_sA_s]; exact F_he hF) (by omega)
  rw [z_sA_s] at c2
  have c3 := pp_back hM (mm (z_sA (pp (th0 M)) 458 (f_he n (M 458))) s nw h)
  refine ⟨_, ?_, Pq_pap (th0 M) (f_he n (M 458)) s nw h⟩
  have ht := in_t (i := 0) (k := 1) (by omega) (by omega)
  have n01 : (nI 0 = nI 1) = False := by decide
  obtain ⟨k0, ⟨r1, r8, r9, r10, r11, r12, r13, r17⟩, ⟨q1, q2⟩, ⟨q3, q4⟩, ⟨q5, q6⟩, ⟨q7, q8⟩, ⟨q9, q10⟩, ⟨q11, q12⟩, ⟨q13, q14⟩, ⟨q15, q16⟩, hp⟩ := id hM; have kr : ∀ a, z_rc a = 7 → z_kd G 455 = (0, z_rc a) := fun a h => (by rw [h]; exact k0)
  simp (disch := first | assumption | exact kr _ rfl | omega | exact Nat.le_of_ble_eq_true rfl) only [ze_M_untilLinks, zk_M_untilLinks_0, xo_2_0, xo_5, xo_18, xo_0_1, xo_63_3, xk_v, xk_n, xo_48, zk_M_untilLinks_15, xo_43, xo_0_2, xo_64_2, xo_49, xo_54, zk_M_untilLinks_32, xo_55, zk_M_untilLinks_33, xo_64_4, xo_70, zk_M_untilLinks_43, xo_17, xo_63_2, zk_M_untilLinks_58, xo_64_1, zk_M_untilLinks_70, xo_10_3i, xo_10_3r, xo_10_3n, xo_11_4i, xo_11_4r, xo_11_4n, xo_1_4, th0_f, r9, r11, c_M_in, ht, n01, z_b0, hb, c1, g, c2, c3, one0, zer0, if_true, if_false, eq_self, Bool.true_eq_false, Bool.false_eq_true, and_true, true_and, and_false, false_and, or_true, true_or, or_false, false_or, ne_eq, not_true_eq_false, not_false_eq_true, decide_true, decide_false, z_sA_id]
theorem m_untilLinks1 (hM : z_HM G) (M : zM) (hF : z_F n J B (M 458)) (hB : B ≤ 60000000) {x : Int32} (hx : zf_in x (nI 0) (nI (2 ^ n - 1)) = true) : ∃ M', z_call 240 [.ref 455, .int (nI 1), .int x] G M = some (.inl (some (.int (z_on (f_un n 300 (f_cu x n (M 458)).1)))), G, M') ∧ z_Pq (th0 M) M' := by
  have hb := bd_0 hM M (nI 1) (nI 1)
  have e8 : th0 M 458 = M 458 := th0_o M (by omega)
  have c1 := pp_copy hM (th0 M)
  have e9 : pp (th0 M) 458 = M 458 := (pp_8 _).trans e8
  have hs := m_set hM (th0 M) (n := n) (by rw [e8]; exact hF.1.1.1) hF.1.1.2 x
  have g := c_M_cuts hM (pp (th0 M)) (n := n) (by rw [e9]; exact hF.1.1.1) hF.1.1.2 x
  rw [e9] at g
  obtain ⟨s, nw, h, c2⟩ := c_M_untilNow hM (z_sA (pp (th0 M)) 458 (f_cu x n (M 458)).1) (n := n) (J := J) (B := B) (by rw [z_sA_s]; exact F_cu hF x) (by omega)
  rw [z_sA_s] at c2
  have c3 := pp_back hM (mm (z_sA (pp (th0 M)) 458 (f_cu x n (M 458)).1) s nw h)
  refine ⟨_, ?_, Pq_pap (th0 M) (f_cu x n (M 458)).1 s nw h⟩
  have ht := in_t (i := 1) (k := 1) (by omega) (by omega)
  obtain ⟨k0, ⟨r1, r8, r9, r10, r11, r12, r13, r17⟩, ⟨q1, q2⟩, ⟨q3, q4⟩, ⟨q5, q6⟩, ⟨q7, q8⟩, ⟨q9, q10⟩, ⟨q11, q12⟩, ⟨q13, q14⟩, ⟨q15, q16⟩, hp⟩ := id hM; have kr : ∀ a, z_rc a = 7 → z_kd G 455 = (0, z_rc a) := fun a h => (by rw [h]; exact k0)
  simp (disch := first | assumption | exact kr _ rfl | omega | exact Nat.le_of_ble_eq_true rfl) only [ze_M_untilLinks, zk_M_untilLinks_0, xo_2_0, xo_5, xo_18, xo_0_1, xo_63_3, xk_v, xk_n, xo_48, zk_M_untilLinks_15, xo_43, zk_M_untilLinks_20, xo_0_2, xo_64_2, xo_49, xo_54, zk_M_untilLinks_32, xo_55, zk_M_untilLinks_33, xo_64_4, xo_70, zk_M_untilLinks_43, xo_17, xo_63_2, xo_64_1, zk_M_untilLinks_65, zk_M_untilLinks_70, xo_10_3i, xo_10_3r, xo_10_3n, xo_11_4i, xo_11_4r, xo_11_4n, xo_1_4, th0_f, r9, r11, c_M_in, ht, hs, hx, z_b0, hb, c1, g, c2, c3, one0, zer0, if_true, if_false, eq_self, Bool.true_eq_false, Bool.false_eq_true, and_true, true_and, and_false, false_and, or_true, true_or, or_false, false_or, ne_eq, not_true_eq_false, not_false_eq_true, decide_true, decide_false, z_sA_id]
end
