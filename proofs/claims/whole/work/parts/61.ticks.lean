/-! ===== the reference ticks ===== -/
theorem c_M_ticksOf {G : zG} (hM : z_HM G) (M : zM) {n J B N : Nat} (hF : z_F n J B (M 458)) (hN : N ≤ 100) (hB : B ≤ 70000000) : ∃ nw, z_call 179 [.ref 455, .int (nI N)] G M = some (.inl (some (.int (nI (z_fd (fun _ a => f_rn n a) N 0 (M 458, 0)).2))), G, mm (z_sA M 455 (z_u (M 455) 18 (nI 0))) (z_fd (fun _ a => f_rn n a) N 0 (M 458, 0)).1 nw (z_fd (fun _ a => f_rn n a) N 0 (M 458, 0)).2) := by
  have hM' := hM
  obtain ⟨k0, ⟨r1, r8, r9, r10, r11, r12, r13, r17⟩, ⟨q1, q2⟩, ⟨q3, q4⟩, ⟨q5, q6⟩, ⟨q7, q8⟩, ⟨q9, q10⟩, ⟨q11, q12⟩, ⟨q13, q14⟩, ⟨q15, q16⟩, hp⟩ := id hM; have kr : ∀ a, z_rc a = 7 → z_kd G 455 = (0, z_rc a) := fun a h => (by rw [h]; exact k0)
  have h18 : z_sA M 455 (z_u (M 455) 18 (nI 0)) 455 18 = nI 0 := by rw [z_sA_s, z_u_s]
  have h458 : z_sA M 455 (z_u (M 455) 18 (nI 0)) 458 = M 458 := z_sA_n _ _ _ _ (by omega)
  have e0 : z_call 179 [.ref 455, .int (nI N)] G M = z_ex 179 (z_blk 179 7) [.ref 455, .int (nI N), .int (nI 0)] [] G (z_sA M 455 (z_u (M 455) 18 (nI 0))) := by
    simp (disch := first | assumption | exact kr _ rfl | omega | exact Nat.le_of_ble_eq_true rfl) only [ze_M_ticksOf, zk_M_ticksOf_0, xo_2_0, xo_5, xo_18, xo_10_2i, xo_10_2r, xo_10_2n, xo_55, xo_0_2, xo_0_1, xo_45, xo_64_1, xk_v, xk_n, xo_15_2i, xo_15_2r, xo_15_2n, xo_54, xo_16, xo_70]
  generalize z_sA M 455 (z_u (M 455) 18 (nI 0)) = M0 at e0 h18 h458 ⊢
  have e1 : M0 = mm M0 (M 458) (M0 471) 0 := by
    unfold mm
    rw [← h458, show M0 455 18 + nI 0 = M0 455 18 by rw [h18]; decide]
    have e2 : z_u (M0 455) 18 (M0 455 18) = M0 455 := by funext a; by_cases ha : a = 18; (· subst ha; rw [z_u_s]); (· rw [z_u_n _ _ _ _ ha])
    rw [e2, z_sA_id, z_sA_id, z_sA_id]
  have e : ∀ r k s nw h, k + r = N → z_F n J (B + 308 * k) s → ∃ nw', z_ex 179 (z_blk 179 7) [.ref 455, .int (nI N), .int (nI k)] [] G (mm M0 s nw h) = some (.inl (some (.int (nI (z_fd (fun _ a => f_rn n a) r k (s, h)).2))), G, mm M0 (z_fd (fun _ a => f_rn n a) r k (s, h)).1 nw' (z_fd (fun _ a => f_rn n a) r k (s, h)).2) := by
    intro r
    induction r with
    | zero =>
      intro k s nw h hk hF
      have hk' : k = N := by omega
      subst hk'
      have hlt : ¬ nI k < nI k := nI_nlt (Nat.le_refl _) (by omega)
      have hr : mm M0 s nw h 455 18 = nI h := by rw [mm_m, z_u_s, h18, nI_add, Nat.zero_add]
      refine ⟨nw, ?_⟩
      rw [z_fd_0]
      conv => lhs; rw [zk_M_ticksOf_7]
      simp (disch := first | assumption | exact kr _ rfl | omega | exact Nat.le_of_ble_eq_true rfl) only [xo_2_0, xo_5, xo_18, xo_10_2i, xo_10_2r, xo_10_2n, xo_55, xo_0_2, xo_0_1, xo_45, xo_64_1, xk_v, xk_n, xo_15_2i, xo_15_2r, xo_15_2n, xo_54, zk_M_ticksOf_22, xo_16, xo_70, hlt, hr, if_true, if_false, eq_self, Bool.true_eq_false, Bool.false_eq_true, and_true, true_and, and_false, false_and, or_true, true_or, or_false, false_or, ne_eq, not_true_eq_false, not_false_eq_true, decide_true, decide_false, z_sA_id]
    | succ r ih =>
      intro k s nw h hk hF
      have hlt : nI k < nI N := nI_lt (by omega) (by omega)
      obtain ⟨nw1, t1, t2⟩ := c_M_tick hM' (mm M0 s nw h) (n := n) (J := J) (B := B + 308 * k) (by rw [mm_s]; exact hF) (by omega)
      rw [mm_s, mm_mm] at t1
      rw [mm_s] at t2
      obtain ⟨nw2, u1⟩ := ih (k + 1) (f_tk n s) nw1 (h + f_hn n s) (by omega) (z_F_mono (by omega) t2)
      refine ⟨nw2, ?_⟩
      rw [z_fd_s]
      refine Eq.trans ?_ u1
      conv => lhs; rw [zk_M_ticksOf_7]
      simp (disch := first | assumption | exact kr _ rfl | omega | exact Nat.le_of_ble_eq_true rfl) only [xo_2_0, xo_5, xo_18, xo_10_2i, xo_10_2r, xo_10_2n, xo_55, xo_0_2, xo_0_1, xo_45, zk_M_ticksOf_12, xo_64_1, xk_v, xk_n, xo_15_2i, xo_15_2r, xo_15_2n, xo_54, xo_16, xo_70, nI_add, pk_mul, Nat.add_zero, z_sA_s, z_sA_sA, z_u_s, hlt, zr_M_tick, t1, if_true, if_false, eq_self, Bool.true_eq_false, Bool.false_eq_true, and_true, true_and, and_false, false_and, or_true, true_or, or_false, false_or, ne_eq, not_true_eq_false, not_false_eq_true, decide_true, decide_false, z_sA_id]
  obtain ⟨nw, u⟩ := e N 0 (M 458) (M0 471) 0 (by omega) (by rw [Nat.mul_zero, Nat.add_zero]; exact hF)
  rw [← e1] at u
  exact ⟨nw, e0.trans u⟩
