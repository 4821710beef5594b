/-! ===== the class's storm: one blow ===== -/
def f_s1 (n : Nat) (p : (Nat → Int32) × Int32) : (Nat → Int32) × Int32 :=
  if f_dv (f_dr p.2) (nI 4) = 0 then (f_tu (z_n (f_dv (f_dr (f_dr p.2)) (nI n))) p.1, f_dr (f_dr p.2))
  else if f_dv (f_dr p.2) (nI 4) = nI 1 then ((f_cu (f_dv (f_dr (f_dr p.2)) (nI (2 ^ n))) n p.1).1, f_dr (f_dr p.2))
  else (f_he n p.1, f_dr p.2)
theorem xd_64 {G : zG} {d : Nat} (hD : z_kd G d = (0, 0)) (h32 : 32 ≤ d) (M : zM) (m c pc : Nat) (ops : List zO) (ls st : List Value) (w1 : Value) (hc : z_cat st ≤ 8) (hv : z_cat [.ref d, w1] ≤ 2) : z_ex m ((64, 146, 2, c, pc) :: ops) ls (w1 :: .ref d :: st) G M = z_k 64 m ops ls st (z_call 146 [.ref d, w1] G M) := xo_64_2 (hk := hD) (hp := h32) (hc := hc) (hv := hv) ..
theorem z_drw_0 (M : zM) (d : Nat) : z_drw M d d 0 = f_dr (M d 0) := by unfold z_drw; rw [z_sA_s, z_u_s]
theorem z_drw_n (M : zM) (d q : Nat) (h : q ≠ d) : z_drw M d q = M q := by unfold z_drw; rw [z_sA_n _ _ _ _ h]
theorem z_2n : ∀ n, n ≤ 8 → nI 1 <<< (nI n &&& 31) = nI (2 ^ n) := by decide +kernel
theorem z_2n_le : ∀ n, n ≤ 8 → 1 ≤ 2 ^ n ∧ 2 ^ n ≤ 256 := by decide
theorem l_C_storm8 {G : zG} {b d n J B Bf : Nat} (hW : z_HW G b) (hd : d < b ∨ b + 41 ≤ d) (h32 : 32 ≤ d) (hD : z_kd G d = (0, 0)) (M V : zM) {s : Nat → Int32} (h : z_R false (0, 0) n B V s) (hF : z_F n J Bf s) (hB : B ≤ 100000000) (hBf : Bf ≤ 70000000) (x : Int32) (w3 w4 : Value) : ∃ V' M' w, z_ex 145 (z_blk 145 8) [.ref b, .ref d, .int x, w3, w4] [] G (wr M b V) = z_ex 145 (z_blk 145 61) [.ref b, .ref d, .int x, .int w, w4] [] G (wr M' b V') ∧ M' d 0 = (f_s1 n (s, M d 0)).2 ∧ (∀ q, q ≠ d → M' q = M q) ∧ z_R false (0, 0) n (B + 1) V' (f_s1 n (s, M d 0)).1 ∧ z_F n J (Bf + 1) (f_s1 n (s, M d 0)).1 := by
  have hn : n ≤ 8 := hF.1.1.2
  have hn2 : 2 ≤ n := hF.2.1
  have h0 : V 0 0 = nI n := h.1.1.trans hF.1.1.1
  obtain ⟨hp1, hp2⟩ := z_2n_le n hn
  have hn256 : n ≤ 256 := by omega
  have hn1 : 1 ≤ n := by omega
  have hBs : B < 2 ^ 31 - 1 := by omega
  have hB8 : Bf ≤ 100000000 := by omega
  have hle1 : B ≤ B + 1 := by omega
  have hle2 : Bf ≤ Bf + 1 := by omega
  have d1 := s_D_next hd h32 hD M V (k := 4) (by omega) (by omega)
  have dn := s_D_next hd h32 hD (z_drw M d) V hn1 hn256
  have dp := s_D_next hd h32 hD (z_drw M d) V hp1 hp2
  rw [z_drw_0] at dn dp
  have x64 := xd_64 hD h32
  have h2n := z_2n n hn
  unfold f_s1
  dsimp only
  by_cases c0 : f_dv (f_dr (M d 0)) (nI 4) = 0
  · rw [if_pos c0]
    obtain ⟨i, i1, i2⟩ := f_dvN (f_dr (f_dr (M d 0))) hn1 hn256
    have hz : z_n (f_dv (f_dr (f_dr (M d 0))) (nI n)) = i := by rw [i2]; exact z_nN (by omega)
    rw [i2] at dn
    rw [hz]
    obtain ⟨V1, t1, t2⟩ := s_W_turn hW (z_drw (z_drw M d) d) h hF i1 hBs
    refine ⟨V1, z_drw (z_drw M d) d, f_dv (f_dr (M d 0)) (nI 4), ?_, by rw [z_drw_0, z_drw_0], fun q hq => by rw [z_drw_n _ _ _ hq, z_drw_n _ _ _ hq], t2, F_tu hF i1 hB8⟩
    simp (disch := first | assumption | omega | exact Nat.le_of_ble_eq_true rfl | decide) only [xo_5, xo_10_2i, xo_10_2r, xo_10_2n, xo_55, xo_0_2, xo_6, xo_45, zk_C_storm_8, xo_2_1, xo_64_2, xw_64w_2 hW, xk_v, xk_n, xo_10_3i, xo_10_3r, xo_10_3n, xo_0_3, xo_49, zk_C_storm_18, xo_2_0, xw_16w hW, xw_16b hW, xo_54, xo_43, xo_26, xo_41, xw_64w_1 hW, xo_20, xo_11_4i, xo_11_4r, xo_11_4n, xo_1_4, xo_53, xo_15_4i, xo_15_4r, xo_15_4n, xo_15_2i, xo_15_2r, xo_15_2n, xw_17w_5 hW, xw_34 hW, xo_69, x64, nI_add, pk_mul, Nat.add_zero, h0, d1, dn, c0, t1, if_true, if_false, eq_self, Bool.true_eq_false, Bool.false_eq_true]
  · rw [if_neg c0]
    by_cases c1 : f_dv (f_dr (M d 0)) (nI 4) = nI 1
    · rw [if_pos c1]
      obtain ⟨u, u1, u2⟩ := f_dvN (f_dr (f_dr (M d 0))) hp1 hp2
      rw [u2] at dp
      rw [u2]
      obtain ⟨V1, t1, t2⟩ := s_W_sever hW (z_drw (z_drw M d) d) h hF (u := u) (by omega)
      refine ⟨V1, z_drw (z_drw M d) d, f_dv (f_dr (M d 0)) (nI 4), ?_, by rw [z_drw_0, z_drw_0], fun q hq => by rw [z_drw_n _ _ _ hq, z_drw_n _ _ _ hq], z_R_mono hle1 t2, z_F_mono hle2 (F_cu hF _)⟩
      simp (disch := first | assumption | omega | exact Nat.le_of_ble_eq_true rfl | decide) only [xo_5, xo_10_2i, xo_10_2r, xo_10_2n, xo_55, xo_0_2, xo_6, xo_45, zk_C_storm_8, xo_2_1, xo_64_2, xw_64w_2 hW, xk_v, xk_n, xo_10_3i, xo_10_3r, xo_10_3n, xo_0_3, xo_49, xo_2_0, xw_16w hW, xw_16b hW, xo_54, zk_C_storm_33, xo_43, zk_C_storm_38, xo_26, xo_41, xw_64w_1 hW, xo_20, xo_11_4i, xo_11_4r, xo_11_4n, xo_1_4, xo_53, xo_15_4i, xo_15_4r, xo_15_4n, xo_15_2i, xo_15_2r, xo_15_2n, xw_17w_5 hW, xw_34 hW, xo_69, x64, nI_add, pk_mul, Nat.add_zero, h0, h2n, d1, dp, c0, c1, t1, if_true, if_false, eq_self, Bool.true_eq_false, Bool.false_eq_true]
      rw [if_neg (show ¬ nI 1 = 0 by decide)]
    · rw [if_neg c1]
      obtain ⟨V1, t1, t2⟩ := s_W_mend hW (z_drw M d) h hF
      refine ⟨V1, z_drw M d, f_dv (f_dr (M d 0)) (nI 4), ?_, by rw [z_drw_0], fun q hq => by rw [z_drw_n _ _ _ hq], z_R_mono hle1 t2, z_F_mono hle2 (F_he hF)⟩
      simp (disch := first | assumption | omega | exact Nat.le_of_ble_eq_true rfl | decide) only [xo_5, xo_10_2i, xo_10_2r, xo_10_2n, xo_55, xo_0_2, xo_6, xo_45, zk_C_storm_8, xo_2_1, xo_64_2, xw_64w_2 hW, xk_v, xk_n, xo_10_3i, xo_10_3r, xo_10_3n, xo_0_3, xo_49, xo_2_0, xw_16w hW, xw_16b hW, xo_54, zk_C_storm_33, xo_43, xo_26, xo_41, zk_C_storm_56, xw_64w_1 hW, xo_20, xo_11_4i, xo_11_4r, xo_11_4n, xo_1_4, xo_53, xo_15_4i, xo_15_4r, xo_15_4n, xo_15_2i, xo_15_2r, xo_15_2n, xw_17w_5 hW, xw_34 hW, xo_69, x64, nI_add, pk_mul, Nat.add_zero, h0, d1, c0, c1, t1, if_true, if_false, eq_self, Bool.true_eq_false, Bool.false_eq_true]
