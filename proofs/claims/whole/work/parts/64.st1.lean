/-! ===== the class's storm: a draw beside a world, some exchanges ===== -/
theorem wr_ud (M : zM) (b : Nat) (V : zM) {d : Nat} (hd : d < b ∨ b + 41 ≤ d) (f : Nat → Int32) : z_sA (wr M b V) d f = wr (z_sA M d f) b V := by
  funext q
  by_cases hq : q = d
  · subst hq; rw [z_sA_s, wr_o _ _ _ _ hd, z_sA_s]
  · rw [z_sA_n _ _ _ _ hq]
    unfold wr
    rw [z_sA_n _ _ _ _ hq]
def z_drw (M : zM) (d : Nat) : zM := z_sA M d (z_u (M d) 0 (f_dr (M d 0)))
theorem s_D_next {G : zG} {b d : Nat} (hd : d < b ∨ b + 41 ≤ d) (h32 : 32 ≤ d) (hD : z_kd G d = (0, 0)) (M V : zM) {k : Nat} (h1 : 1 ≤ k) (hk : k ≤ 256) : z_call 146 [.ref d, .int (nI k)] G (wr M b V) = some (.inl (some (.int (f_dv (f_dr (M d 0)) (nI k)))), G, wr (z_drw M d) b V) := by
  have hp : (0 : Int32) < nI k := by
    have := nI_lt (a := 0) (b := k) (by omega) (by omega)
    rw [nI_0] at this; exact this
  have e := c_D_next h32 hD (wr M b V) hp
  rw [wr_o _ _ _ _ hd, wr_ud _ _ _ hd] at e
  exact e
theorem nI_m1 (k : Nat) : nI (k + 1 + 4294967295) = nI k := by
  rw [← nI_add, ← nI_add, Int32.add_assoc, show nI 1 + nI 4294967295 = nI 0 by decide, nI_add, Nat.add_zero]
def f_tn (n : Nat) (N : Nat) (s : Nat → Int32) : Nat → Int32 := z_fd (fun _ t => f_tk n t) N 0 s
theorem f_tn_s (n N : Nat) (s : Nat → Int32) : f_tn n (N + 1) s = f_tn n N (f_tk n s) := by
  have e : ∀ r k s, z_fd (fun _ t => f_tk n t) r (k + 1) s = z_fd (fun _ t => f_tk n t) r k s := by
    intro r
    induction r with
    | zero => intro k s; rfl
    | succ r ih => intro k s; rw [z_fd_s, z_fd_s]; exact ih (k + 1) _
  unfold f_tn
  rw [z_fd_s]; exact e N 0 _
theorem f_rn_t (n : Nat) : ∀ N k (s : Nat → Int32) h, (z_fd (fun _ a => f_rn n a) N k (s, h)).1 = f_tn n N s
  | 0, _, _, _ => rfl
  | N + 1, k, s, h => by rw [z_fd_s, f_tn_s]; exact f_rn_t n N (k + 1) (f_tk n s) (h + f_hn n s)
theorem l_C_storm71 {G : zG} {b : Nat} {n J : Nat} (hW : z_HW G b) (M : zM) (x y : Int32) (d : Nat) : ∀ (N B Bf : Nat) (V : zM) (s : Nat → Int32), N ≤ 100 → z_R false (0, 0) n B V s → z_F n J Bf s → B ≤ 100000000 → Bf + 308 * N ≤ 70000000 → B + 308 * N ≤ 100000000 → ∃ V', z_ex 145 (z_blk 145 71) [.ref b, .ref d, .int x, .int y, .int (nI N)] [] G (wr M b V) = z_ex 145 (z_blk 145 87) [.ref b, .ref d, .int x, .int y, .int (nI 0)] [] G (wr M b V') ∧ z_R false (0, 0) n (B + 308 * N) V' (f_tn n N s) ∧ z_F n J (Bf + 308 * N) (f_tn n N s) := by
  intro N
  induction N with
  | zero =>
    intro B Bf V s hN h hF hB hBf hB2
    have hp0 : ¬ (0 : Int32) < nI 0 := by decide
    refine ⟨V, ?_, h, hF⟩
    conv => lhs; rw [zk_C_storm_71]
    simp (disch := first | assumption | omega | exact Nat.le_of_ble_eq_true rfl | decide) only [xo_5, xo_10_2i, xo_10_2r, xo_10_2n, xo_55, xo_0_2, xo_6, xo_45, xo_2_1, xo_64_2, xw_64w_2 hW, xk_v, xk_n, xo_10_3i, xo_10_3r, xo_10_3n, xo_0_3, xo_49, xo_2_0, xw_16w hW, xw_16b hW, xo_54, xo_43, xo_26, xo_41, xw_64w_1 hW, xo_20, xo_11_4i, xo_11_4r, xo_11_4n, xo_1_4, xo_53, xo_15_4i, xo_15_4r, xo_15_4n, xo_15_2i, xo_15_2r, xo_15_2n, xw_17w_5 hW, xw_34 hW, xo_69, hp0, if_true, if_false, eq_self, Bool.true_eq_false, Bool.false_eq_true]
  | succ N ih =>
    intro B Bf V s hN h hF hB hBf hB2
    have hp : (0 : Int32) < nI (N + 1) := by
      have := nI_lt (a := 0) (b := N + 1) (by omega) (by omega)
      rw [nI_0] at this; exact this
    have a1 : N ≤ 100 := by omega
    have a7 : ∀ c, c + 308 + 308 * N = c + 308 * (N + 1) := fun c => by rw [Nat.mul_succ, Nat.add_assoc, Nat.add_comm 308]
    have a3 : Bf + 308 + 308 * N ≤ 70000000 := by rw [a7]; exact hBf
    have a4 : B + 308 + 308 * N ≤ 100000000 := by rw [a7]; exact hB2
    have a2 : B + 308 ≤ 100000000 := Nat.le_trans (Nat.le_add_right _ _) a4
    have a5 : B + 308 + 308 * N ≤ B + 308 * (N + 1) := Nat.le_of_eq (a7 B)
    have a6 : Bf + 308 + 308 * N ≤ Bf + 308 * (N + 1) := Nat.le_of_eq (a7 Bf)
    obtain ⟨V1, e1, R1, F1⟩ := s_W_exchange hW M h hF (by omega) (by omega)
    have R2 : z_R false (0, 0) n (B + 308) V1 (f_tk n s) := R_wks R1 F1
    have F2 : z_F n J (Bf + 308) (f_tk n s) := F_tk hF (by omega)
    have ih2 := ih (B + 308) (Bf + 308) V1 (f_tk n s) a1 R2 F2 a2 a3 a4
    obtain ⟨V2, e2, R3, F3⟩ := ih2
    rw [f_tn_s]
    refine ⟨V2, ?_, z_R_mono a5 R3, z_F_mono a6 F3⟩
    rw [← e2]
    conv => lhs; rw [zk_C_storm_71]
    simp (disch := first | assumption | omega | exact Nat.le_of_ble_eq_true rfl | decide) only [xo_5, xo_10_2i, xo_10_2r, xo_10_2n, xo_55, xo_0_2, xo_6, xo_45, xo_2_1, xo_64_2, xw_64w_2 hW, xk_v, xk_n, xo_10_3i, xo_10_3r, xo_10_3n, xo_0_3, xo_49, xo_2_0, xw_16w hW, xw_16b hW, xo_54, xo_43, xo_26, xo_41, xw_64w_1 hW, xo_20, xo_11_4i, xo_11_4r, xo_11_4n, xo_1_4, xo_53, zk_C_storm_76, xo_15_4i, xo_15_4r, xo_15_4n, xo_15_2i, xo_15_2r, xo_15_2n, xw_17w_5 hW, xw_34 hW, xo_69, nI_add, pk_mul, Nat.add_zero, hp, e1, nI_m1, if_true, if_false, eq_self, Bool.true_eq_false, Bool.false_eq_true]
