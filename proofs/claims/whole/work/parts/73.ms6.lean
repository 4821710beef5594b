/-! ===== the reference's storm, whole ===== -/
theorem md_in (M : zM) (x : Int32) : z_sA M 455 (z_u (M 455) 19 x) = md M x (M 458) := by
  unfold md
  have e : z_sA M 455 (z_u (M 455) 19 x) 458 = M 458 := z_sA_n _ _ _ _ (by omega)
  conv => rhs; rw [← e]
  rw [z_sA_id]
theorem c_M_storm {G : zG} (hM : z_HM G) {b d n J B Bf : Nat} (hW : z_HW G b) (hd : d < b ∨ b + 41 ≤ d) (h32 : 32 ≤ d) (hD : z_kd G d = (0, 0)) (M0 V M : zM) (x : Int32) (hx : M0 d 0 = x) (h : z_R false (0, 0) n B V (M 458)) (hF : z_F n J Bf (M 458)) (hB : B ≤ 80000000) (hBf : Bf ≤ 50000000) : ∃ M' s' nw hh, z_call 244 [.ref 455, .int x] G M = some (.inl (some (.int (z_on (f_un n 300 (f_st n (M 458, x)).1)))), G, mm (md M' (f_st n (M 458, x)).2 (f_st n (M 458, x)).1) s' nw hh) ∧ z_Qm M M' := by
  have hM' := hM
  obtain ⟨V1, M1, w3, w4, e1, m1, o1, ⟨B1, b1, R1⟩, B2, b2, F1⟩ := l_C_storm2 (J := J) hW hd h32 hD 8 0 B Bf M0 V (M 458) .null .null (by omega) h hF (by omega) (by omega)
  rw [hx] at R1 F1
  obtain ⟨M2, w5, w6, a2, q2⟩ := l_M_storm7 (J := J) hM hW hd h32 hD x 8 0 B Bf M0 V (M 458) M x .null .null (by omega) hx h hF (by omega) (by omega)
  obtain ⟨s', nw, hh, a3⟩ := l_M_storm112 hM M2 F1 (R1_c R1) (by omega) (z_fd (fun _ p => f_s3 n p) 8 0 (M 458, x)).2 x (.int (nI 8)) w5 w6
  refine ⟨M2, s', nw, hh, ?_, q2⟩
  have e0 : z_call 244 [.ref 455, .int x] G M = z_ex 244 (z_blk 244 7) [.ref 455, .int x, .int (nI 0), .null, .null] [] G (md M x (M 458)) := by
    obtain ⟨k0, ⟨r1, r8, r9, r10, r11, r12, r13, r17⟩, ⟨q1, q2⟩, ⟨q3, q4⟩, ⟨q5, q6⟩, ⟨q7, q8⟩, ⟨q9, q10⟩, ⟨q11, q12⟩, ⟨q13, q14⟩, ⟨q15, q16⟩, hp⟩ := id hM; have kr : ∀ a, z_rc a = 7 → z_kd G 455 = (0, z_rc a) := fun a h => (by rw [h]; exact k0)
    simp (disch := first | assumption | exact kr _ rfl | omega | exact Nat.le_of_ble_eq_true rfl) only [ze_M_storm, zk_M_storm_0, xo_2_0, xo_0_1, xo_18, xo_5, xo_10_2i, xo_10_2r, xo_10_2n, xo_55, xo_0_2, xo_6, xo_45, xo_64_2, xk_v, xk_n, xo_10_3i, xo_10_3r, xo_10_3n, xo_0_3, xo_49, xo_17, xo_32, xo_11_4i, xo_11_4r, xo_11_4n, xo_1_4, xo_48, xo_54, xo_41, xo_43, xo_26, xo_64_1, xo_20, xo_15_2i, xo_15_2r, xo_15_2n, xo_70, md_in]
  rw [e0, a2, a3]
  rfl
