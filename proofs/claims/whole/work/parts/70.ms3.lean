/-! ===== the reference's storm: the ticks behind a blow ===== -/
/-- memories that differ in the row, the letter in hand, the seed and the count alone -/
def z_Qm (M M' : zM) : Prop := (∀ q, q ≠ 455 → q ≠ 458 → q ≠ 471 → M' q = M q) ∧ ∀ f, f ≠ 18 → f ≠ 19 → M' 455 f = M 455 f
theorem z_Qm_refl (M : zM) : z_Qm M M := ⟨fun _ _ _ _ => rfl, fun _ _ _ => rfl⟩
theorem z_Qm_trans {M M' M'' : zM} (h : z_Qm M M') (g : z_Qm M' M'') : z_Qm M M'' := ⟨fun q a b c => (g.1 q a b c).trans (h.1 q a b c), fun f a b => (g.2 f a b).trans (h.2 f a b)⟩
theorem l_M_storm93 {G : zG} (hM : z_HM G) (M : zM) {n J B : Nat} {s : Nat → Int32} (hF : z_F n J B s) (hB : B ≤ 70000000) (x : Int32) (k : Nat) (w1 : Int32) (w3 w4 : Value) : ∃ M', z_ex 244 (z_blk 244 93) [.ref 455, .int w1, .int (nI k), w3, w4] [] G (md M x s) = z_ex 244 (z_blk 244 7) [.ref 455, .int w1, .int (nI (k + 1)), w3, w4] [] G (md M' (f_s2 n (s, x)).2 (f_s2 n (s, x)).1) ∧ z_Qm M M' := by
  have d1 := md_draw hM M x s (k := 12) (by omega) (by omega)
  obtain ⟨i, i1, i2⟩ := f_dvN (f_dr x) (k := 12) (by omega) (by omega)
  have hz : z_n (f_dv (f_dr x) (nI 12)) = i := by rw [i2]; exact z_nN (by omega)
  rw [i2] at d1
  obtain ⟨nw, t1⟩ := c_M_ticksOf hM (md M (f_dr x) s) (n := n) (J := J) (B := B) (N := i + 1) (by rw [md_s]; exact hF) (by omega) hB
  rw [md_s, f_rn_t] at t1
  generalize (z_fd (fun _ a => f_rn n a) (i + 1) 0 (s, 0)).2 = c at t1
  unfold f_s2
  dsimp only
  rw [hz]
  generalize f_tn n (i + 1) s = t at t1 ⊢
  generalize hN : mm (z_sA (md M (f_dr x) s) 455 (z_u (md M (f_dr x) s 455) 18 (nI 0))) t nw c = N at t1
  have n1 : N 458 = t := by rw [← hN, mm_s]
  have n2 : N 455 = z_u (z_u (z_u (M 455) 19 (f_dr x)) 18 (nI 0)) 18 (nI 0 + nI c) := by
    rw [← hN, mm_m, z_sA_s, md_m, z_u_s]
  have n3 : N 455 19 = f_dr x := by rw [n2, z_u_n _ _ _ _ (by omega), z_u_n _ _ _ _ (by omega), z_u_s]
  have e : md N (f_dr x) t = N := by rw [← n1, ← n3]; exact md_id N
  refine ⟨N, ?_, fun q q1 q2 q3 => ?_, fun f f1 f2 => ?_⟩
  · rw [e]
    obtain ⟨k0, ⟨r1, r8, r9, r10, r11, r12, r13, r17⟩, ⟨q1, q2⟩, ⟨q3, q4⟩, ⟨q5, q6⟩, ⟨q7, q8⟩, ⟨q9, q10⟩, ⟨q11, q12⟩, ⟨q13, q14⟩, ⟨q15, q16⟩, hp⟩ := id hM; have kr : ∀ a, z_rc a = 7 → z_kd G 455 = (0, z_rc a) := fun a h => (by rw [h]; exact k0)
    simp (disch := first | assumption | exact kr _ rfl | omega | exact Nat.le_of_ble_eq_true rfl) only [xo_2_0, xo_0_1, xo_18, xo_5, xo_10_2i, xo_10_2r, xo_10_2n, xo_55, xo_0_2, xo_6, xo_45, xo_64_2, xk_v, xk_n, xo_10_3i, xo_10_3r, xo_10_3n, xo_0_3, xo_49, xo_17, xo_32, xo_11_4i, xo_11_4r, xo_11_4n, xo_1_4, xo_48, xo_54, xo_41, xo_43, xo_26, xo_64_1, zk_M_storm_93, xo_20, xo_15_2i, xo_15_2r, xo_15_2n, xo_70, nI_add, pk_mul, Nat.add_zero, z_sA_s, z_sA_sA, z_u_s, d1, zr_M_draw, zr_M_ticksOf, t1, if_true, if_false, eq_self, Bool.true_eq_false, Bool.false_eq_true, and_true, true_and, and_false, false_and, or_true, true_or, or_false, false_or, ne_eq, not_true_eq_false, not_false_eq_true, decide_true, decide_false, z_sA_id]
  · rw [← hN]
    unfold mm md
    rw [z_sA_n _ _ _ _ q2, z_sA_n _ _ _ _ q3, z_sA_n _ _ _ _ q1, z_sA_n _ _ _ _ q1, z_sA_n _ _ _ _ q2, z_sA_n _ _ _ _ q1]
  · rw [n2, z_u_n _ _ _ _ f1, z_u_n _ _ _ _ f1, z_u_n _ _ _ _ f2]
