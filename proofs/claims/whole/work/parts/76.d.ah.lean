/-! ===== the reference: ahead, storms ===== -/
def f_ra (n N : Nat) (s : Nat → Int32) : (Nat → Int32) × Nat := z_fd (fun _ a => f_rn n a) N 0 (s, 0)
def q_ah (n J : Nat) (s : Nat → Int32) (N w : Nat) : Int32 := if w = 0 then nI (f_cs n (f_ra n N s).1) else if w = 1 then f_tw n J (f_ra n N s).1 else if w = 2 then (f_ra n N s).1 7 else if w = 3 then nI (f_ra n N s).2 else (f_cc n (f_ra n N s).1).1
theorem in_t1 {i k : Nat} (h1 : 1 ≤ i) (h : i ≤ k) (hk : k ≤ 1000000) : zf_in (nI i) (nI 1) (nI k) = true := by
  unfold zf_in
  exact decide_eq_true ⟨nI_nlt h1 (by omega), nI_nlt h (by omega)⟩
theorem rg_2 (x : Int32) (k : Nat) (hk : k ≤ 1000000) : (∃ i, 1 ≤ i ∧ i ≤ k ∧ x = nI i) ∨ zf_in x (nI 1) (nI k) = false := by
  by_cases h : zf_in x (nI 1) (nI k) = true
  · refine Or.inl ?_
    unfold zf_in at h
    obtain ⟨h1, h2⟩ := of_decide_eq_true h
    by_cases h0 : x < 0
    · exact absurd (Int32.lt_trans h0 (by decide : (0 : Int32) < nI 1)) h1
    · obtain ⟨j, hj, e⟩ := nI_of h0
      subst e
      refine ⟨j, ?_, ?_, rfl⟩
      · exact Nat.le_of_not_lt (fun q => h1 (nI_lt q (by omega)))
      · exact Nat.le_of_not_lt (fun q => h2 (nI_lt q hj))
  · exact Or.inr (by simpa using h)
theorem F_ra {n J Bf : Nat} {s : Nat → Int32} (hF : z_F n J Bf s) (hBf : Bf ≤ 70000000) : ∀ N, N ≤ 100 → z_F n J (Bf + 308 * N) (f_ra n N s).1 := by
  intro N
  induction N with
  | zero => intro _; exact hF
  | succ N ih =>
    intro hN
    unfold f_ra
    rw [z_fd_r]
    exact z_F_mono (by omega) (F_tk (ih (by omega)) (by omega))
section
variable {G : zG} {n J B : Nat}
theorem m_ahead_f (hM : z_HM G) (M : zM) {x w : Int32} (hx : zf_in x (nI 1) (nI 100) = false ∨ zf_in w (nI 0) (nI 4) = false) : z_call 241 [.ref 455, .int x, .int w] G M = some (.inl (some (.int (nI 0))), G, rfm M 1 1) := by
  have hb := bd_1 hM M (a := 1) (k := 1) (by omega) (by omega)
  obtain ⟨k0, ⟨r1, r8, r9, r10, r11, r12, r13, r17⟩, ⟨q1, q2⟩, ⟨q3, q4⟩, ⟨q5, q6⟩, ⟨q7, q8⟩, ⟨q9, q10⟩, ⟨q11, q12⟩, ⟨q13, q14⟩, ⟨q15, q16⟩, hp⟩ := id hM; have kr : ∀ a, z_rc a = 7 → z_kd G 455 = (0, z_rc a) := fun a h => (by rw [h]; exact k0)
  cases ht : zf_in x (nI 1) (nI 100)
  · simp (disch := first | assumption | exact kr _ rfl | omega | exact Nat.le_of_ble_eq_true rfl) only [ze_M_ahead, zk_M_ahead_0, xo_2_0, xo_5, xo_18, xo_0_1, xo_6, xo_63_3, xk_v, xk_n, xo_48, xo_0_2, xo_49, zk_M_ahead_25, xo_54, xo_55, zk_M_ahead_30, xo_64_4, zk_M_ahead_38, xo_70, xo_17, xo_63_2, xo_64_2, xo_10_3i, xo_10_3r, xo_10_3n, xo_64_1, xo_43, xo_32, xo_0_3, xo_11_4i, xo_11_4r, xo_11_4n, xo_1_4, th0_f, c_M_in, ht, z_b0, hb, one0, zer0, if_true, if_false, eq_self, Bool.true_eq_false, Bool.false_eq_true, and_true, true_and, and_false, false_and, or_true, true_or, or_false, false_or, ne_eq, not_true_eq_false, not_false_eq_true, decide_true, decide_false, z_sA_id]
  · have hw := hx.resolve_left (by rw [ht]; decide)
    simp (disch := first | assumption | exact kr _ rfl | omega | exact Nat.le_of_ble_eq_true rfl) only [ze_M_ahead, zk_M_ahead_0, xo_2_0, xo_5, xo_18, xo_0_1, xo_6, xo_63_3, xk_v, xk_n, xo_48, zk_M_ahead_16, xo_0_2, xo_49, zk_M_ahead_25, xo_54, xo_55, zk_M_ahead_30, xo_64_4, zk_M_ahead_38, xo_70, xo_17, xo_63_2, xo_64_2, xo_10_3i, xo_10_3r, xo_10_3n, xo_64_1, xo_43, xo_32, xo_0_3, xo_11_4i, xo_11_4r, xo_11_4n, xo_1_4, th0_f, c_M_in, ht, hw, z_b0, hb, one0, zer0, if_true, if_false, eq_self, Bool.true_eq_false, Bool.false_eq_true, and_true, true_and, and_false, false_and, or_true, true_or, or_false, false_or, ne_eq, not_true_eq_false, not_false_eq_true, decide_true, decide_false, z_sA_id]
theorem Pq_18 (M : zM) (v : Int32) (s nw : Nat → Int32) (h : Nat) : z_Pq M (z_sA (mm (z_sA (pp M) 455 (z_u (pp M 455) 18 v)) s nw h) 458 (z_cp 4326 (mm (z_sA (pp M) 455 (z_u (pp M 455) 18 v)) s nw h 460) (mm (z_sA (pp M) 455 (z_u (pp M 455) 18 v)) s nw h 458))) := by
  refine ⟨fun q h1 h2 h3 h4 h5 => ?_, fun a ha => ?_, fun f h1 h2 => ?_⟩
  · rw [z_sA_n _ _ _ _ h2, mm_o _ _ _ _ h1 h2 h5, z_sA_n _ _ _ _ h1]; exact z_sA_n _ _ _ _ h3
  · rw [z_sA_s, z_cp_lt ha, mm_o _ _ _ _ (by omega) (by omega) (by omega), z_sA_n _ _ _ _ (by omega)]
    unfold pp
    rw [z_sA_s, z_cp_lt ha]
  · rw [z_sA_n _ _ _ _ (by omega), mm_m, z_u_n _ _ _ _ h1, z_sA_s, z_u_n _ _ _ _ h1]
    unfold pp
    rw [z_sA_n _ _ _ _ (by omega)]
theorem m_ahead (hM : z_HM G) (M : zM) (hF : z_F n J B (M 458)) (hB : B ≤ 60000000) {N w : Nat} (h1 : 1 ≤ N) (hN : N ≤ 100) (hw : w < 5) : ∃ M', z_call 241 [.ref 455, .int (nI N), .int (nI w)] G M = some (.inl (some (.int (q_ah n J (M 458) N w))), G, M') ∧ z_Pq (th0 M) M' := by
  have hb := bd_0 hM M (nI 1) (nI 1)
  have e8 : th0 M 458 = M 458 := th0_o M (by omega)
  have c1 := pp_copy hM (th0 M)
  have e9 : pp (th0 M) 458 = M 458 := (pp_8 _).trans e8
  obtain ⟨nw, c2⟩ := c_M_ticksOf hM (pp (th0 M)) (n := n) (J := J) (B := B) (N := N) (by rw [e9]; exact hF) hN (by omega)
  rw [e9] at c2
  have hq := Pq_18 (th0 M) (nI 0) (f_ra n N (M 458)).1 nw (f_ra n N (M 458)).2
  have hF2 := F_ra hF (by omega) N hN
  generalize hg : f_ra n N (M 458) = g at hq hF2
  unfold f_ra at hg
  rw [hg] at c2
  generalize hM3 : mm (z_sA (pp (th0 M)) 455 (z_u (pp (th0 M) 455) 18 (nI 0))) g.1 nw g.2 = M3 at c2 hq
  have e3 : M3 458 = g.1 := by rw [← hM3]; exact mm_s _ _ _ _
  have c3 := pp_back hM M3
  have d0 := c_M_circles hM M3 (n := n) (J := J) (B := B + 308 * N) (by rw [e3]; exact hF2)
  have d1 := c_M_twice hM M3 (n := n) (J := J) (by rw [e3]; exact hF2.1.1.1) hF2.1.1.2 (by rw [e3]; exact hF2.2.2.1.1) hF2.2.2.1.2.2
  have d4 := c_M_commonChief hM M3 (n := n) (J := J) (B := B + 308 * N) (by rw [e3]; exact hF2)
  rw [e3] at d0 d1 d4
  refine ⟨_, ?_, hq⟩
  have ht := in_t1 h1 hN (by omega)
  have ht2 := in_t (i := w) (k := 4) (by omega) (by omega)
  unfold q_ah f_ra
  rw [hg]
  obtain ⟨k0, ⟨r1, r8, r9, r10, r11, r12, r13, r17⟩, ⟨q1, q2⟩, ⟨q3, q4⟩, ⟨q5, q6⟩, ⟨q7, q8⟩, ⟨q9, q10⟩, ⟨q11, q12⟩, ⟨q13, q14⟩, ⟨q15, q16⟩, hp⟩ := id hM; have kr : ∀ a, z_rc a = 7 → z_kd G 455 = (0, z_rc a) := fun a h => (by rw [h]; exact k0)
  match w, hw with
  | 0, _ => simp (disch := first | assumption | exact kr _ rfl | omega | exact Nat.le_of_ble_eq_true rfl) only [ze_M_ahead, zk_M_ahead_0, xo_2_0, xo_5, xo_18, xo_0_1, xo_6, xo_63_3, xk_v, xk_n, xo_48, zk_M_ahead_16, xo_0_2, xo_49, xo_54, zk_M_ahead_29, xo_55, zk_M_ahead_30, xo_64_4, xo_70, zk_M_ahead_40, xo_17, xo_63_2, xo_64_2, xo_10_3i, xo_10_3r, xo_10_3n, zk_M_ahead_61, xo_64_1, xo_43, xo_32, xo_0_3, zk_M_ahead_108, xo_11_4i, xo_11_4r, xo_11_4n, xo_1_4, th0_f, r9, r11, c_M_in, ht, ht2, z_b0, hb, c1, c2, c3, d0, one0, zer0, if_true, if_false, eq_self, Bool.true_eq_false, Bool.false_eq_true, and_true, true_and, and_false, false_and, or_true, true_or, or_false, false_or, ne_eq, not_true_eq_false, not_false_eq_true, decide_true, decide_false, z_sA_id]
  | 1, _ => simp (disch := first | assumption | exact kr _ rfl | omega | exact Nat.le_of_ble_eq_true rfl) only [ze_M_ahead, zk_M_ahead_0, xo_2_0, xo_5, xo_18, xo_0_1, xo_6, xo_63_3, xk_v, xk_n, xo_48, zk_M_ahead_16, xo_0_2, xo_49, xo_54, zk_M_ahead_29, xo_55, zk_M_ahead_30, xo_64_4, xo_70, zk_M_ahead_40, xo_17, xo_63_2, xo_64_2, xo_10_3i, xo_10_3r, xo_10_3n, xo_64_1, zk_M_ahead_68, xo_43, zk_M_ahead_73, xo_32, xo_0_3, zk_M_ahead_108, xo_11_4i, xo_11_4r, xo_11_4n, xo_1_4, th0_f, r9, r11, c_M_in, ht, ht2, z_b0, hb, c1, c2, c3, d1, one0, zer0, Nat.one_ne_zero, if_true, if_false, eq_self, Bool.true_eq_false, Bool.false_eq_true, and_true, true_and, and_false, false_and, or_true, true_or, or_false, false_or, ne_eq, not_true_eq_false, not_false_eq_true, decide_true, decide_false, z_sA_id]
  | 2, _ =>
    have n1 : (nI 2 = 0) = False := by decide
    have n2 : (nI 2 = nI 1) = False := by decide
    simp (disch := first | assumption | exact kr _ rfl | omega | exact Nat.le_of_ble_eq_true rfl) only [ze_M_ahead, zk_M_ahead_0, xo_2_0, xo_5, xo_18, xo_0_1, xo_6, xo_63_3, xk_v, xk_n, xo_48, zk_M_ahead_16, xo_0_2, xo_49, xo_54, zk_M_ahead_29, xo_55, zk_M_ahead_30, xo_64_4, xo_70, zk_M_ahead_40, xo_17, xo_63_2, xo_64_2, xo_10_3i, xo_10_3r, xo_10_3n, xo_64_1, zk_M_ahead_68, xo_43, zk_M_ahead_80, zk_M_ahead_85, xo_32, xo_0_3, zk_M_ahead_108, xo_11_4i, xo_11_4r, xo_11_4n, xo_1_4, th0_f, r9, r11, c_M_in, ht, ht2, z_b0, hb, c1, c2, c3, e3, n1, n2, one0, zer0, show (2 = 0) = False by decide, show (2 = 1) = False by decide, if_true, if_false, eq_self, Bool.true_eq_false, Bool.false_eq_true, and_true, true_and, and_false, false_and, or_true, true_or, or_false, false_or, ne_eq, not_true_eq_false, not_false_eq_true, decide_true, decide_false, z_sA_id]
  | 3, _ =>
    have n1 : (nI 3 = 0) = False := by decide
    have n2 : (nI 3 = nI 1) = False := by decide
    have n3 : (nI 3 = nI 2) = False := by decide
    simp (disch := first | assumption | exact kr _ rfl | omega | exact Nat.le_of_ble_eq_true rfl) only [ze_M_ahead, zk_M_ahead_0, xo_2_0, xo_5, xo_18, xo_0_1, xo_6, xo_63_3, xk_v, xk_n, xo_48, zk_M_ahead_16, xo_0_2, xo_49, xo_54, zk_M_ahead_29, xo_55, zk_M_ahead_30, xo_64_4, xo_70, zk_M_ahead_40, xo_17, xo_63_2, xo_64_2, xo_10_3i, xo_10_3r, xo_10_3n, xo_64_1, zk_M_ahead_68, xo_43, zk_M_ahead_80, xo_32, zk_M_ahead_95, zk_M_ahead_100, xo_0_3, zk_M_ahead_108, xo_11_4i, xo_11_4r, xo_11_4n, xo_1_4, th0_f, r9, r11, c_M_in, ht, ht2, z_b0, hb, c1, c2, c3, n1, n2, n3, one0, zer0, show (3 = 0) = False by decide, show (3 = 1) = False by decide, show (3 = 2) = False by decide, if_true, if_false, eq_self, Bool.true_eq_false, Bool.false_eq_true, and_true, true_and, and_false, false_and, or_true, true_or, or_false, false_or, ne_eq, not_true_eq_false, not_false_eq_true, decide_true, decide_false, z_sA_id]
  | 4, _ =>
    have n1 : (nI 4 = 0) = False := by decide
    have n2 : (nI 4 = nI 1) = False := by decide
    have n3 : (nI 4 = nI 2) = False := by decide
    have n4 : (nI 4 = nI 3) = False := by decide
    simp (disch := first | assumption | exact kr _ rfl | omega | exact Nat.le_of_ble_eq_true rfl) only [ze_M_ahead, zk_M_ahead_0, xo_2_0, xo_5, xo_18, xo_0_1, xo_6, xo_63_3, xk_v, xk_n, xo_48, zk_M_ahead_16, xo_0_2, xo_49, xo_54, zk_M_ahead_29, xo_55, zk_M_ahead_30, xo_64_4, xo_70, zk_M_ahead_40, xo_17, xo_63_2, xo_64_2, xo_10_3i, xo_10_3r, xo_10_3n, xo_64_1, zk_M_ahead_68, xo_43, zk_M_ahead_80, xo_32, zk_M_ahead_95, xo_0_3, zk_M_ahead_104, zk_M_ahead_108, xo_11_4i, xo_11_4r, xo_11_4n, xo_1_4, th0_f, r9, r11, c_M_in, ht, ht2, z_b0, hb, c1, c2, c3, d4, n1, n2, n3, n4, one0, zer0, show (4 = 0) = False by decide, show (4 = 1) = False by decide, show (4 = 2) = False by decide, show (4 = 3) = False by decide, if_true, if_false, eq_self, Bool.true_eq_false, Bool.false_eq_true, and_true, true_and, and_false, false_and, or_true, true_or, or_false, false_or, ne_eq, not_true_eq_false, not_false_eq_true, decide_true, decide_false, z_sA_id]
  | k + 5, h => exact absurd h (by omega)
end
