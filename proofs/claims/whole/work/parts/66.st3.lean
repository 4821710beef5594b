/-! ===== the class's storm: eight blows ===== -/
def f_s2 (n : Nat) (p : (Nat → Int32) × Int32) : (Nat → Int32) × Int32 := (f_tn n (z_n (f_dv (f_dr p.2) (nI 12)) + 1) p.1, f_dr p.2)
theorem l_C_storm61 {G : zG} {b d n J B Bf k : Nat} (hW : z_HW G b) (hd : d < b ∨ b + 41 ≤ d) (h32 : 32 ≤ d) (hD : z_kd G d = (0, 0)) (M V : zM) {s : Nat → Int32} (h : z_R false (0, 0) n B V s) (hF : z_F n J Bf s) (hB : B ≤ 90000000) (hBf : Bf ≤ 60000000) (w3 : Int32) (w4 : Value) : ∃ V', z_ex 145 (z_blk 145 61) [.ref b, .ref d, .int (nI k), .int w3, w4] [] G (wr M b V) = z_ex 145 (z_blk 145 2) [.ref b, .ref d, .int (nI (k + 1)), .int w3, .int (nI 0)] [] G (wr (z_drw M d) b V') ∧ z_R false (0, 0) n (B + 3696) V' (f_s2 n (s, M d 0)).1 ∧ z_F n J (Bf + 3696) (f_s2 n (s, M d 0)).1 := by
  have b3 : B + 3696 ≤ 100000000 := Nat.le_trans (Nat.add_le_add_right hB 3696) (Nat.le_of_ble_eq_true rfl)
  have b4 : Bf + 3696 ≤ 70000000 := Nat.le_trans (Nat.add_le_add_right hBf 3696) (Nat.le_of_ble_eq_true rfl)
  have b5 : B ≤ 100000000 := Nat.le_trans hB (Nat.le_of_ble_eq_true rfl)
  have d1 := s_D_next hd h32 hD M V (k := 12) (by omega) (by omega)
  obtain ⟨i, i1, i2⟩ := f_dvN (f_dr (M d 0)) (k := 12) (by omega) (by omega)
  have hz : z_n (f_dv (f_dr (M d 0)) (nI 12)) = i := by rw [i2]; exact z_nN (by omega)
  rw [i2] at d1
  have hN : 308 * (i + 1) ≤ 3696 := Nat.mul_le_mul_left 308 (show i + 1 ≤ 12 by omega)
  have b1 : B + 308 * (i + 1) ≤ B + 3696 := Nat.add_le_add_left hN B
  have b2 : Bf + 308 * (i + 1) ≤ Bf + 3696 := Nat.add_le_add_left hN Bf
  obtain ⟨V1, e1, R1, F1⟩ := l_C_storm71 (J := J) hW (z_drw M d) (nI k) w3 d (i + 1) B Bf V s (by omega) h hF b5 (Nat.le_trans b2 b4) (Nat.le_trans b1 b3)
  have x64 := xd_64 hD h32
  unfold f_s2
  dsimp only
  rw [hz]
  refine ⟨V1, ?_, z_R_mono b1 R1, z_F_mono b2 F1⟩
  have e0 : z_ex 145 (z_blk 145 61) [.ref b, .ref d, .int (nI k), .int w3, w4] [] G (wr M b V) = z_ex 145 (z_blk 145 71) [.ref b, .ref d, .int (nI k), .int w3, .int (nI (i + 1))] [] G (wr (z_drw M d) b V) := by
    simp (disch := first | assumption | omega | exact Nat.le_of_ble_eq_true rfl | decide) only [xo_5, xo_10_2i, xo_10_2r, xo_10_2n, xo_55, xo_0_2, xo_6, xo_45, xo_2_1, xo_64_2, xw_64w_2 hW, xk_v, xk_n, xo_10_3i, xo_10_3r, xo_10_3n, xo_0_3, xo_49, xo_2_0, xw_16w hW, xw_16b hW, xo_54, xo_43, xo_26, xo_41, xw_64w_1 hW, zk_C_storm_61, xo_20, xo_11_4i, xo_11_4r, xo_11_4n, xo_1_4, xo_53, xo_15_4i, xo_15_4r, xo_15_4n, xo_15_2i, xo_15_2r, xo_15_2n, xw_17w_5 hW, xw_34 hW, xo_69, x64, nI_add, pk_mul, Nat.add_zero, d1, if_true, if_false, eq_self, Bool.true_eq_false, Bool.false_eq_true]
  rw [e0, e1]
  simp (disch := first | assumption | omega | exact Nat.le_of_ble_eq_true rfl | decide) only [xo_5, xo_10_2i, xo_10_2r, xo_10_2n, xo_55, xo_0_2, xo_6, xo_45, xo_2_1, xo_64_2, xw_64w_2 hW, xk_v, xk_n, xo_10_3i, xo_10_3r, xo_10_3n, xo_0_3, xo_49, xo_2_0, xw_16w hW, xw_16b hW, xo_54, xo_43, xo_26, xo_41, xw_64w_1 hW, xo_20, xo_11_4i, xo_11_4r, xo_11_4n, xo_1_4, xo_53, xo_15_4i, xo_15_4r, xo_15_4n, zk_C_storm_87, xo_15_2i, xo_15_2r, xo_15_2n, xw_17w_5 hW, xw_34 hW, xo_69, nI_add, pk_mul, Nat.add_zero, if_true, if_false, eq_self, Bool.true_eq_false, Bool.false_eq_true]
def f_s3 (n : Nat) (p : (Nat → Int32) × Int32) : (Nat → Int32) × Int32 := f_s2 n (f_s1 n p)
theorem l_C_storm2 {G : zG} {b d n J : Nat} (hW : z_HW G b) (hd : d < b ∨ b + 41 ≤ d) (h32 : 32 ≤ d) (hD : z_kd G d = (0, 0)) : ∀ (r k B Bf : Nat) (M V : zM) (s : Nat → Int32) (w3 w4 : Value), k + r = 8 → z_R false (0, 0) n B V s → z_F n J Bf s → B ≤ 80000000 + 3697 * k → Bf ≤ 50000000 + 3697 * k → ∃ V' M' w3' w4', z_ex 145 (z_blk 145 2) [.ref b, .ref d, .int (nI k), w3, w4] [] G (wr M b V) = z_ex 145 (z_blk 145 93) [.ref b, .ref d, .int (nI 8), w3', w4'] [] G (wr M' b V') ∧ M' d 0 = (z_fd (fun _ p => f_s3 n p) r k (s, M d 0)).2 ∧ (∀ q, q ≠ d → M' q = M q) ∧ (∃ B', B' ≤ 80000000 + 3697 * 8 ∧ z_R false (0, 0) n B' V' (z_fd (fun _ p => f_s3 n p) r k (s, M d 0)).1) ∧ ∃ B', B' ≤ 50000000 + 3697 * 8 ∧ z_F n J B' (z_fd (fun _ p => f_s3 n p) r k (s, M d 0)).1 := by
  intro r
  induction r with
  | zero =>
    intro k B Bf M V s w3 w4 e h hF hB hBf
    have hk : k = 8 := by omega
    subst hk
    have hlt : ¬ nI 8 < nI 8 := nI_nlt (Nat.le_refl _) (by omega)
    refine ⟨V, M, w3, w4, ?_, rfl, fun _ _ => rfl, ⟨B, hB, h⟩, ⟨Bf, hBf, hF⟩⟩
    conv => lhs; rw [zk_C_storm_2]
    simp (disch := first | assumption | omega | exact Nat.le_of_ble_eq_true rfl | decide) only [xo_5, xo_10_2i, xo_10_2r, xo_10_2n, xo_55, xo_0_2, xo_6, xo_45, xo_2_1, xo_64_2, xw_64w_2 hW, xk_v, xk_n, xo_10_3i, xo_10_3r, xo_10_3n, xo_0_3, xo_49, xo_2_0, xw_16w hW, xw_16b hW, xo_54, xo_43, xo_26, xo_41, xw_64w_1 hW, xo_20, xo_11_4i, xo_11_4r, xo_11_4n, xo_1_4, xo_53, xo_15_4i, xo_15_4r, xo_15_4n, xo_15_2i, xo_15_2r, xo_15_2n, xw_17w_5 hW, xw_34 hW, xo_69, hlt, if_true, if_false, eq_self, Bool.true_eq_false, Bool.false_eq_true]
  | succ r ih =>
    intro k B Bf M V s w3 w4 e h hF hB hBf
    have hlt : nI k < nI 8 := nI_lt (by omega) (by omega)
    have hm : 3697 * k ≤ 29576 := Nat.mul_le_mul_left 3697 (show k ≤ 8 by omega)
    have c1 : B + 1 + 3696 ≤ 80000000 + 3697 * (k + 1) := by rw [Nat.mul_succ]; omega
    have c2 : Bf + 1 + 3696 ≤ 50000000 + 3697 * (k + 1) := by rw [Nat.mul_succ]; omega
    have c3 : B + 1 ≤ 90000000 := by omega
    have c4 : Bf + 1 ≤ 60000000 := by omega
    obtain ⟨V1, M1, w, e1, m1, o1, R1, F1⟩ := l_C_storm8 hW hd h32 hD M V h hF (by omega) (by omega) (nI k) w3 w4
    obtain ⟨V2, e2, R2, F2⟩ := l_C_storm61 (k := k) hW hd h32 hD M1 V1 R1 F1 c3 c4 w w4
    have hp : (f_s2 n ((f_s1 n (s, M d 0)).1, M1 d 0)) = f_s3 n (s, M d 0) := by rw [m1]; rfl
    rw [hp] at R2 F2
    have hx : z_drw M1 d d 0 = (f_s3 n (s, M d 0)).2 := by rw [z_drw_0, m1]; rfl
    obtain ⟨V3, M3, w5, w6, e3, m3, o3, R3, F3⟩ := ih (k + 1) (B + 1 + 3696) (Bf + 1 + 3696) (z_drw M1 d) V2 (f_s3 n (s, M d 0)).1 (.int w) (.int (nI 0)) (by omega) R2 F2 c1 c2
    rw [hx] at m3 R3 F3
    rw [z_fd_s]
    refine ⟨V3, M3, w5, w6, ?_, m3, fun q hq => by rw [o3 q hq, z_drw_n _ _ _ hq, o1 q hq], R3, F3⟩
    rw [← e3, ← e2, ← e1]
    conv => lhs; rw [zk_C_storm_2]
    simp (disch := first | assumption | omega | exact Nat.le_of_ble_eq_true rfl | decide) only [xo_5, xo_10_2i, xo_10_2r, xo_10_2n, xo_55, xo_0_2, xo_6, xo_45, xo_2_1, xo_64_2, xw_64w_2 hW, xk_v, xk_n, xo_10_3i, xo_10_3r, xo_10_3n, xo_0_3, xo_49, xo_2_0, xw_16w hW, xw_16b hW, xo_54, xo_43, xo_26, xo_41, xw_64w_1 hW, xo_20, xo_11_4i, xo_11_4r, xo_11_4n, xo_1_4, xo_53, xo_15_4i, xo_15_4r, xo_15_4n, xo_15_2i, xo_15_2r, xo_15_2n, xw_17w_5 hW, xw_34 hW, xo_69, hlt, if_true, if_false, eq_self, Bool.true_eq_false, Bool.false_eq_true]
