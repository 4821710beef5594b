/-! ===== units, tallies, ticks: in both ===== -/
theorem f_pt_8 (J u : Nat) (hJ : J ≤ 6) : ∀ (f k p : Nat), p < 256 → ∃ q, q < 256 ∧ f_pt J u f k (nI p) = nI q
  | 0, _, p, hp => ⟨p, hp, rfl⟩
  | f + 1, k, p, hp => by
    unfold f_pt
    split
    · rw [z_bitN k (by omega), z_orN p hp k (by omega)]
      exact f_pt_8 J u hJ f (k + u) _ (z_or8 hp (by omega))
    · exact ⟨p, hp, rfl⟩
theorem f_po_8 {n J B i : Nat} {s : Nat → Int32} (hF : z_F n J B s) : ∃ q, q < 256 ∧ f_po n s i = nI q := by
  obtain ⟨hJ, hJ1, hJ6⟩ := hF.2.2.1
  unfold f_po
  split
  · rw [hJ, z_nN (show J < 2 ^ 31 by omega)]
    exact f_pt_8 J _ hJ6 7 _ 0 (by omega)
  · exact ⟨0, by omega, rfl⟩
section
variable {G : zG} {b : Nat} {fl : Bool} {kp : Nat × Nat} {n J B Bf : Nat} {V : zM} {s : Nat → Int32} {i : Nat}
theorem s_W_partOf (hW : z_HW G b) (M : zM) (h : z_R fl kp n B V s) (hF : z_F n J Bf s) (hi : i < n) : z_call 79 [.ref b, .ref (b + (9 + 4 * i))] G (wr M b V) = some (.inl (some (.int (f_po n s i))), G, wr M b V) := by
  have hn : n ≤ 8 := hF.1.1.2
  have hi8 : i < 8 := by omega
  obtain ⟨hJ, hJ1, hJ6⟩ := hF.2.2.1
  obtain ⟨u, u1, u2, u3⟩ := F_4 hF hi
  obtain ⟨a, a1, a2, a3⟩ := z_grT h hn hi u1
  have r3 := rd_3 h hi
  have r7 := rd_7 h hi
  rw [u3] at r7
  have hbc := c_J_bitCount G (wr M b V) u1
  have hbc2 := c_J_bitCount G (wr M b V) (k := u &&& a) (z_and8 u1)
  rw [a3] at hbc2
  have hu0 : 0 < z_pc u := zf_has_pos u u1 i hi8 (by rw [z_hasN u u1 i hi8]; exact u2)
  have hpc : z_pc u ≤ 8 := by unfold z_pc; omega
  have hpn : ¬ nI (z_pc u) = 0 := nI_ne0 hu0 (by omega)
  have h01 : V 0 1 = nI J := h.1.2.1.trans hJ
  unfold f_po
  rw [hJ, z_nN (show J < 2 ^ 31 by omega), u3, z_nN (show u < 2 ^ 31 by omega), z_hasN u u1 i hi8, u2]
  by_cases hN : s (41 + 28 * i) = 0
  · rw [if_pos ⟨hN, rfl⟩]
    have hg : f_gr n s i (nI u) ≤ 8 := Nat.le_trans (z_ct_le _ _) hn
    have e : ∀ f k p, J < k + f → k ≤ 100 → z_ex 79 (z_blk 79 37) [.ref b, .ref (b + (9 + 4 * i)), .int (nI (z_pc u)), .int p, .int (nI k)] [] G (wr M b V) = some (.inl (some (.int (f_pt J (z_pc u) f k p))), G, wr M b V) := by
      intro f
      induction f with
      | zero =>
        intro k p hk hk2
        have hlt : ¬ nI k < nI J := nI_nlt (by omega) (by omega)
        conv => lhs; rw [zk_W_partOf_37]
        simp (disch := first | assumption | omega | exact Nat.le_of_ble_eq_true rfl | decide) only [xo_2_1, xw_16b hW, xw_16w hW, xo_63_1, xk_v, xk_n, xo_10_2i, xo_10_2r, xo_10_2n, xo_49, xo_0_2, xo_5, xo_70, xo_10_3i, xo_10_3r, xo_10_3n, xo_23, xo_11_4i, xo_11_4r, xo_11_4n, xo_55, xo_1_4, xo_2_0, xo_45, xo_0_3, xo_26, xo_24, xo_20, xo_54, zk_W_partOf_62, nI_add, pk_mul, Nat.add_zero, h01, hlt, if_true, if_false, eq_self, Bool.true_eq_false, Bool.false_eq_true, f_pt]
      | succ f ih =>
        intro k p hk hk2
        by_cases hkJ : k < J
        · have hlt : nI k < nI J := nI_lt hkJ (by omega)
          have := ih (k + z_pc u) (p ||| (nI 1 <<< (nI k &&& 31))) (by omega) (by omega)
          conv => lhs; rw [zk_W_partOf_37]
          simp (disch := first | assumption | omega | exact Nat.le_of_ble_eq_true rfl | decide) only [xo_2_1, xw_16b hW, xw_16w hW, xo_63_1, xk_v, xk_n, xo_10_2i, xo_10_2r, xo_10_2n, xo_49, xo_0_2, xo_5, xo_70, xo_10_3i, xo_10_3r, xo_10_3n, xo_23, xo_11_4i, xo_11_4r, xo_11_4n, xo_55, xo_1_4, xo_2_0, xo_45, zk_W_partOf_46, xo_0_3, xo_26, xo_24, xo_20, xo_54, nI_add, pk_mul, Nat.add_zero, h01, hlt, if_true, if_false, eq_self, Bool.true_eq_false, Bool.false_eq_true, this, f_pt, hkJ]
        · have hlt : ¬ nI k < nI J := nI_nlt (by omega) (by omega)
          conv => lhs; rw [zk_W_partOf_37]
          simp (disch := first | assumption | omega | exact Nat.le_of_ble_eq_true rfl | decide) only [xo_2_1, xw_16b hW, xw_16w hW, xo_63_1, xk_v, xk_n, xo_10_2i, xo_10_2r, xo_10_2n, xo_49, xo_0_2, xo_5, xo_70, xo_10_3i, xo_10_3r, xo_10_3n, xo_23, xo_11_4i, xo_11_4r, xo_11_4n, xo_55, xo_1_4, xo_2_0, xo_45, xo_0_3, xo_26, xo_24, xo_20, xo_54, zk_W_partOf_62, nI_add, pk_mul, Nat.add_zero, h01, hlt, if_true, if_false, eq_self, Bool.true_eq_false, Bool.false_eq_true, f_pt, hkJ]
    have e7 := e 7 (f_gr n s i (nI u)) (nI 0) (by omega) (by omega)
    have eand := z_andNN u a
    simp (disch := first | assumption | omega | exact Nat.le_of_ble_eq_true rfl | decide) only [ze_W_partOf, zk_W_partOf_0, xo_2_1, xw_16b hW, xw_16w hW, xo_63_1, xk_v, xk_n, xo_10_2i, xo_10_2r, xo_10_2n, xo_49, zk_W_partOf_15, xo_0_2, xo_5, xo_70, zk_W_partOf_21, xo_10_3i, xo_10_3r, xo_10_3n, xo_23, xo_11_4i, xo_11_4r, xo_11_4n, xo_55, xo_1_4, xo_2_0, xo_45, xo_0_3, xo_26, xo_24, xo_20, xo_54, r3, r7, a2, hN, hpn, eand, hbc, hbc2, if_true, if_false, eq_self, Bool.true_eq_false, Bool.false_eq_true, e7]
  · rw [if_neg (fun q => hN q.1)]
    simp (disch := first | assumption | omega | exact Nat.le_of_ble_eq_true rfl | decide) only [ze_W_partOf, zk_W_partOf_0, xo_2_1, xw_16b hW, xw_16w hW, xo_63_1, xk_v, xk_n, xo_10_2i, xo_10_2r, xo_10_2n, xo_49, xo_0_2, zk_W_partOf_19, xo_5, xo_70, xo_10_3i, xo_10_3r, xo_10_3n, xo_23, xo_11_4i, xo_11_4r, xo_11_4n, xo_55, xo_1_4, xo_2_0, xo_45, xo_0_3, xo_26, xo_24, xo_20, xo_54, r3, r7, hN, hbc, if_true, if_false, eq_self, Bool.true_eq_false, Bool.false_eq_true]
theorem s_W_labour (hW : z_HW G b) (M : zM) (h : z_R true kp n B V s) (hF : z_F n J Bf s) (hi : i < n) : ∃ V', z_call 78 [.ref b, .ref (b + (9 + 4 * i))] G (wr M b V) = some (.inl none, G, wr M b V') ∧ z_R true kp n B V' (f_wk n i s) := by
  have hn : n ≤ 8 := hF.1.1.2
  have hi8 : i < 8 := by omega
  obtain ⟨hJ, hJ1, hJ6⟩ := hF.2.2.1
  have hpo := s_W_partOf hW M h hF hi
  obtain ⟨p, p1, p2⟩ := f_po_8 (i := i) hF
  have h01 : V 0 1 = nI J := h.1.2.1.trans hJ
  have hm1 : ∀ b, b < 6 → (nI b = nI 4294967295) = False := by
    intro b hb
    refine eq_false (fun q => ?_)
    have : ∀ b, b < 6 → nI b ≠ nI 4294967295 := by decide +kernel
    exact this b hb q
  obtain ⟨l1, l2, l3⟩ := h.2.2.2.1 rfl i hi
  unfold f_wk
  rw [hJ, z_nN (show J < 2 ^ 31 by omega)]
  have hb := f_be_lt s i (f_po n s i) J hJ6
  rw [p2] at hpo hb ⊢
  have e := z_loop (fun k b' => z_ex 78 (z_blk 78 11) [.ref b, .ref (b + (9 + 4 * i)), .int (nI p), .int (z_j6 b'), .int (nI k)] [] G (wr M b V)) (fun k b => if zf_has (nI p) (nI k) = true ∧ (b = 6 ∨ s (41 + 28 * i + (8 + k)) < s (41 + 28 * i + (8 + b))) then k else b) J (fun k b => k ≤ 6 ∧ b ≤ 6) (by
    intro k c hk hb
    refine ⟨?_, by omega, by split <;> omega⟩
    have hlt : nI k < nI J := nI_lt hk (by omega)
    have hk6 : z_j6 k = nI k := if_neg (by omega)
    have lk := l1 k (by omega)
    cases hh : p.testBit k
    · have e2 : nI p &&& (nI 1 <<< (nI k &&& 31)) = 0 := (z_andN p p1 k (by omega)).mpr hh
      rw [if_neg (fun q => by rw [z_hasN p p1 k (by omega), hh] at q; exact Bool.false_ne_true q.1)]
      conv => lhs; rw [zk_W_labour_11]
      simp (disch := first | assumption | omega | exact Nat.le_of_ble_eq_true rfl | decide) only [xo_2_0, xo_2_1, xw_64w_2 hW, xk_v, xk_n, xo_10_2i, xo_10_2r, xo_10_2n, xo_5, xo_10_3i, xo_10_3r, xo_10_3n, xo_11_4i, xo_11_4r, xo_11_4n, xo_55, xo_1_4, xw_16w hW, xo_45, zk_W_labour_20, xo_0_2, xo_26, xo_23, xo_48, xo_0_3, xo_42, xw_17b_12 hW, xw_17b_13 hW, xw_32_l hW, xw_32_k hW, zk_W_labour_53, xo_15_4i, xo_15_4r, xo_15_4n, xo_54, xo_40, xo_20, xw_33_l hW, xw_33_k hW, xo_69, nI_add, pk_mul, Nat.add_zero, h01, hlt, e2, if_true, if_false, eq_self, Bool.true_eq_false, Bool.false_eq_true]
    · have e2 : ¬ nI p &&& (nI 1 <<< (nI k &&& 31)) = 0 := fun q => by
        have := (z_andN p p1 k (by omega)).mp q
        rw [hh] at this; exact Bool.false_ne_true this.symm
      have hhas : zf_has (nI p) (nI k) = true := by rw [z_hasN p p1 k (by omega)]; exact hh
      by_cases hb6 : c = 6
      · rw [if_pos ⟨hhas, Or.inl hb6⟩]
        have hbj : z_j6 c = nI 4294967295 := if_pos hb6
        conv => lhs; rw [zk_W_labour_11]
        simp (disch := first | assumption | omega | exact Nat.le_of_ble_eq_true rfl | decide) only [xo_2_0, xo_2_1, xw_64w_2 hW, xk_v, xk_n, xo_10_2i, xo_10_2r, xo_10_2n, xo_5, xo_10_3i, xo_10_3r, xo_10_3n, xo_11_4i, xo_11_4r, xo_11_4n, xo_55, xo_1_4, xw_16w hW, xo_45, zk_W_labour_20, xo_0_2, xo_26, xo_23, xo_48, zk_W_labour_29, xo_0_3, xo_42, xw_17b_12 hW, xw_17b_13 hW, xw_32_l hW, xw_32_k hW, zk_W_labour_50, zk_W_labour_53, xo_15_4i, xo_15_4r, xo_15_4n, xo_54, xo_40, xo_20, xw_33_l hW, xw_33_k hW, xo_69, nI_add, pk_mul, Nat.add_zero, h01, hlt, e2, hbj, hk6, if_true, if_false, eq_self, Bool.true_eq_false, Bool.false_eq_true]
      · have hbj : z_j6 c = nI c := if_neg hb6
        have hne := hm1 c (by omega)
        have lc := l1 c (by omega)
        by_cases hr : s (41 + 28 * i + (8 + k)) < s (41 + 28 * i + (8 + c))
        · rw [if_pos ⟨hhas, Or.inr hr⟩]
          conv => lhs; rw [zk_W_labour_11]
          simp (disch := first | assumption | omega | exact Nat.le_of_ble_eq_true rfl | decide) only [xo_2_0, xo_2_1, xw_64w_2 hW, xk_v, xk_n, xo_10_2i, xo_10_2r, xo_10_2n, xo_5, xo_10_3i, xo_10_3r, xo_10_3n, xo_11_4i, xo_11_4r, xo_11_4n, xo_55, xo_1_4, xw_16w hW, xo_45, zk_W_labour_20, xo_0_2, xo_26, xo_23, xo_48, zk_W_labour_29, xo_0_3, xo_42, zk_W_labour_34, xw_17b_12 hW, xw_17b_13 hW, xw_32_l hW, xw_32_k hW, zk_W_labour_50, zk_W_labour_53, xo_15_4i, xo_15_4r, xo_15_4n, xo_54, xo_40, xo_20, xw_33_l hW, xw_33_k hW, xo_69, nI_add, pk_mul, Nat.add_zero, h01, hlt, e2, hbj, hk6, hne, lk, lc, hr, if_true, if_false, eq_self, Bool.true_eq_false, Bool.false_eq_true]
        · rw [if_neg (fun q => q.2.elim hb6 hr)]
          conv => lhs; rw [zk_W_labour_11]
          simp (disch := first | assumption | omega | exact Nat.le_of_ble_eq_true rfl | decide) only [xo_2_0, xo_2_1, xw_64w_2 hW, xk_v, xk_n, xo_10_2i, xo_10_2r, xo_10_2n, xo_5, xo_10_3i, xo_10_3r, xo_10_3n, xo_11_4i, xo_11_4r, xo_11_4n, xo_55, xo_1_4, xw_16w hW, xo_45, zk_W_labour_20, xo_0_2, xo_26, xo_23, xo_48, zk_W_labour_29, xo_0_3, xo_42, zk_W_labour_34, xw_17b_12 hW, xw_17b_13 hW, xw_32_l hW, xw_32_k hW, zk_W_labour_53, xo_15_4i, xo_15_4r, xo_15_4n, xo_54, xo_40, xo_20, xw_33_l hW, xw_33_k hW, xo_69, nI_add, pk_mul, Nat.add_zero, h01, hlt, e2, hbj, hne, lk, lc, hr, if_true, if_false, eq_self, Bool.true_eq_false, Bool.false_eq_true]) J 0 6 (by omega) (by omega)
  have hlt : ¬ nI J < nI J := nI_nlt (Nat.le_refl _) (by omega)
  have e0 : z_call 78 [.ref b, .ref (b + (9 + 4 * i))] G (wr M b V) = z_ex 78 (z_blk 78 11) [.ref b, .ref (b + (9 + 4 * i)), .int (nI p), .int (z_j6 6), .int (nI 0)] [] G (wr M b V) := by
    simp (disch := first | assumption | omega | exact Nat.le_of_ble_eq_true rfl | decide) only [ze_W_labour, zk_W_labour_0, xo_2_0, xo_2_1, xw_64w_2 hW, xk_v, xk_n, xo_10_2i, xo_10_2r, xo_10_2n, xo_5, xo_10_3i, xo_10_3r, xo_10_3n, xo_11_4i, xo_11_4r, xo_11_4n, xo_55, xo_1_4, xw_16w hW, xo_45, xo_0_2, xo_26, xo_23, xo_48, xo_0_3, xo_42, xw_17b_12 hW, xw_17b_13 hW, xw_32_l hW, xw_32_k hW, xo_15_4i, xo_15_4r, xo_15_4n, xo_54, xo_40, xo_20, xw_33_l hW, xw_33_k hW, xo_69, hpo, z_j6, if_true, if_false, eq_self, Bool.true_eq_false, Bool.false_eq_true]
  have e1 : z_call 78 [.ref b, .ref (b + (9 + 4 * i))] G (wr M b V) = z_ex 78 (z_blk 78 11) [.ref b, .ref (b + (9 + 4 * i)), .int (nI p), .int (z_j6 (f_be s i (nI p) J)), .int (nI J)] [] G (wr M b V) := e0.trans e
  rw [e1]
  generalize f_be s i (nI p) J = c at hb ⊢
  by_cases hb6 : c = 6
  · have hbj : z_j6 c = nI 4294967295 := if_pos hb6
    rw [if_pos hb6]
    refine ⟨V, ?_, h⟩
    conv => lhs; rw [zk_W_labour_11]
    simp (disch := first | assumption | omega | exact Nat.le_of_ble_eq_true rfl | decide) only [xo_2_0, xo_2_1, xw_64w_2 hW, xk_v, xk_n, xo_10_2i, xo_10_2r, xo_10_2n, xo_5, xo_10_3i, xo_10_3r, xo_10_3n, xo_11_4i, xo_11_4r, xo_11_4n, xo_55, xo_1_4, xw_16w hW, xo_45, xo_0_2, xo_26, xo_23, xo_48, xo_0_3, xo_42, xw_17b_12 hW, xw_17b_13 hW, xw_32_l hW, xw_32_k hW, xo_15_4i, xo_15_4r, xo_15_4n, xo_54, zk_W_labour_59, xo_40, xo_20, xw_33_l hW, xw_33_k hW, zk_W_labour_84, xo_69, nI_add, pk_mul, Nat.add_zero, h01, hlt, hbj, if_true, if_false, eq_self, Bool.true_eq_false, Bool.false_eq_true]
  · have hbj : z_j6 c = nI c := if_neg hb6
    have hne := hm1 c (by omega)
    rw [if_neg hb6]
    have R1 := R_mb h hn hi (c := 10 + 4 * i) (k := c) (f := 8 + c) (Or.inl ⟨rfl, by omega, rfl⟩) (V (10 + 4 * i) c + nI 1) (s (41 + 28 * i + (8 + c)) + nI 1) (fun _ => by rw [l1 c (by omega)])
    have R2 := R_mb R1 hn hi (c := 11 + 4 * i) (k := c) (f := 14 + c) (Or.inr (Or.inl ⟨rfl, by omega, rfl⟩)) (V (11 + 4 * i) c + nI 1) (s (41 + 28 * i + (14 + c)) + nI 1) (fun _ => by rw [l2 c (by omega)])
    refine ⟨_, ?_, R2⟩
    conv => lhs; rw [zk_W_labour_11]
    simp (disch := first | assumption | omega | exact Nat.le_of_ble_eq_true rfl | decide) only [xo_2_0, xo_2_1, xw_64w_2 hW, xk_v, xk_n, xo_10_2i, xo_10_2r, xo_10_2n, xo_5, xo_10_3i, xo_10_3r, xo_10_3n, xo_11_4i, xo_11_4r, xo_11_4n, xo_55, xo_1_4, xw_16w hW, xo_45, xo_0_2, xo_26, xo_23, xo_48, xo_0_3, xo_42, xw_17b_12 hW, xw_17b_13 hW, xw_32_l hW, xw_32_k hW, xo_15_4i, xo_15_4r, xo_15_4n, xo_54, zk_W_labour_59, zk_W_labour_64, xo_40, xo_20, xw_33_l hW, xw_33_k hW, zk_W_labour_84, xo_69, nI_add, pk_mul, Nat.add_zero, z_w_s, z_w_n, h01, hlt, hbj, hne, if_true, if_false, eq_self, Bool.true_eq_false, Bool.false_eq_true]
end
theorem f_gr_u (n : Nat) (s : Nat → Int32) (q : Nat) (v : Int32) (i : Nat) (set : Int32) (hn : n ≤ 8) (hi : i < 8) (h : 41 ≤ q) : f_gr n (z_u s q v) i set = f_gr n s i set :=
  z_ct_congr n (fun k hk => by rw [z_u_n _ _ (33 + i) _ (by omega), z_u_n _ _ (33 + k) _ (by omega)])
theorem f_po_u (n : Nat) (s : Nat → Int32) (q : Nat) (v : Int32) (i j : Nat) (hn : n ≤ 8) (hi : i < 8) (h : ∃ k, k < 7 ∧ q = 41 + 28 * j + (21 + k)) : f_po n (z_u s q v) i = f_po n s i := by
  obtain ⟨k, k1, k2⟩ := h
  unfold f_po
  rw [z_u_n _ _ (41 + 28 * i) _ (by omega), z_u_n _ _ (41 + 28 * i + 4) _ (by omega), z_u_n _ _ 1 _ (by omega), f_gr_u n s q v i _ hn hi (by omega)]
theorem z_fd_congI {α : Type} {f g : Nat → α → α} (I : Nat → α → Prop) : ∀ (n k : Nat) (a : α), I k a → (∀ j a, k ≤ j → j < k + n → I j a → f j a = g j a ∧ I (j + 1) (g j a)) → z_fd f n k a = z_fd g n k a
  | 0, _, _, _, _ => rfl
  | n + 1, k, a, h, hs => by
    obtain ⟨e1, h1⟩ := hs k a (Nat.le_refl k) (by omega) h
    rw [z_fd_s, z_fd_s, e1]
    exact z_fd_congI I n (k + 1) (g k a) h1 (fun j b h1 h2 h3 => hs j b (by omega) (by omega) h3)
theorem z_fd_push {α : Type} {f : Nat → α → α} (g : α → α) (I : α → Prop) : ∀ (n k : Nat) (a : α), I a → (∀ j a, k ≤ j → j < k + n → I a → f j (g a) = g (f j a) ∧ I (f j a)) → z_fd f n k (g a) = g (z_fd f n k a)
  | 0, _, _, _, _ => rfl
  | n + 1, k, a, h, hs => by
    obtain ⟨e1, h1⟩ := hs k a (Nat.le_refl k) (by omega) h
    rw [z_fd_s, z_fd_s, e1]
    exact z_fd_push g I n (k + 1) (f k a) h1 (fun j b h1 h2 h3 => hs j b (by omega) (by omega) h3)
theorem z_fd_fuse {α : Type} {f g : Nat → α → α} (I : α → Prop) (N : Nat) (hc : ∀ i j a, i < N → j < N → I a → f i (g j a) = g j (f i a)) (hf : ∀ i a, i < N → I a → I (f i a)) (hg : ∀ i a, i < N → I a → I (g i a)) : ∀ (n k : Nat) (a : α), k + n ≤ N → I a → z_fd (fun i a => g i (f i a)) n k a = z_fd g n k (z_fd f n k a)
  | 0, _, _, _, _ => rfl
  | n + 1, k, a, hk, h => by
    have h1 := hf k a (by omega) h
    have h2 := hg k (f k a) (by omega) h1
    have h3 := z_fd_fuse I N hc hf hg n (k + 1) (g k (f k a)) (by omega) h2
    have h4 := z_fd_push (f := f) (g k) I n (k + 1) (f k a) h1 (fun j b j1 j2 j3 => ⟨hc j k b (by omega) (by omega) j3, hf j b (by omega) j3⟩)
    rw [z_fd_s, z_fd_s, z_fd_s, ← h4]
    exact h3
theorem f_be_u (s : Nat → Int32) (q : Nat) (v : Int32) (i j : Nat) (part : Int32) (J : Nat) (hJ : J ≤ 6) (h : ∃ k, k < 7 ∧ q = 41 + 28 * j + (21 + k)) : f_be (z_u s q v) i part J = f_be s i part J := by
  obtain ⟨k, k1, k2⟩ := h
  refine z_fd_congI (fun _ b => b ≤ 6) J 0 6 (by omega) (fun o b o1 o2 o3 => ⟨?_, ?_⟩)
  · rw [z_u_n _ _ (41 + 28 * i + (8 + o)) _ (by omega), z_u_n _ _ (41 + 28 * i + (8 + b)) _ (by omega)]
  · split <;> omega
theorem f_wk_ta {n J B : Nat} {s : Nat → Int32} (hF : z_F n J B s) {i j : Nat} (hi : i < n) (hj : j < n) : f_wk n i (f_ta j s) = f_ta j (f_wk n i s) := by
  have hn : n ≤ 8 := hF.1.1.2
  obtain ⟨hJ, hJ1, hJ6⟩ := hF.2.2.1
  have hz : z_n (s 1) = J := by rw [hJ]; exact z_nN (by omega)
  obtain ⟨a, a1, a2⟩ := F_0 hF hj
  have hza : z_n (s (41 + 28 * j)) = a := by rw [a2]; exact z_nN (by omega)
  have hb := f_be_lt s i (f_po n s i) J hJ6
  unfold f_ta
  rw [hza]
  unfold f_wk
  rw [f_po_u n s _ _ i j hn (by omega) ⟨a, by omega, rfl⟩, z_u_n _ _ 1 _ (by omega), hz, f_be_u s _ _ i j _ J hJ6 ⟨a, by omega, rfl⟩]
  generalize f_be s i (f_po n s i) J = c at hb ⊢
  by_cases hc : c = 6
  · rw [if_pos hc, if_pos hc, hza]
  · rw [if_neg hc, if_neg hc]
    rw [z_u_n _ _ (41 + 28 * i + (8 + c)) _ (by omega), z_u_n _ _ (41 + 28 * i + (14 + c)) _ (by omega), z_u_n _ _ (41 + 28 * j) _ (by omega), z_u_n _ _ (41 + 28 * j) _ (by omega), hza, z_u_n _ _ (41 + 28 * j + (21 + a)) _ (by omega), z_u_n _ _ (41 + 28 * j + (21 + a)) _ (by omega)]
    rw [z_u_comm s _ _ _ _ (show 41 + 28 * j + (21 + a) ≠ 41 + 28 * i + (8 + c) by omega), z_u_comm _ (41 + 28 * j + (21 + a)) _ _ _ (by omega)]
theorem z_fuse {n J B : Nat} (s : Nat → Int32) (hF : z_F n J B s) : z_fd (fun i t => f_ta i (f_wk n i t)) n 0 s = z_fd f_ta n 0 (z_fd (f_wk n) n 0 s) :=
  z_fd_fuse (f := f_wk n) (g := f_ta) (z_F n J B) n (fun i j a hi hj ha => f_wk_ta ha hi hj) (fun i a hi ha => (FX_wk ha hi).1) (fun i a hi ha => (FX_ta ha hi).1) n 0 s (by omega) hF
theorem F_tk {n J Bf : Nat} {s : Nat → Int32} (hF : z_F n J Bf s) (hBf : Bf ≤ 80000000) : z_F n J (Bf + 308) (f_tk n s) := by
  have hn : n ≤ 8 := hF.1.1.2
  have F0 : z_F n J Bf (z_u s 6 (s 6 + nI 1)) := F_6u hF
  obtain ⟨m, hm, e8, z8⟩ := z_F_m F0
  have hAI : z_AI n J Bf m (s 6 + nI 1) 0 (0, z_u s 6 (s 6 + nI 1), 0) := ⟨F0, (z_u_s s 6 (s 6 + nI 1) : z_u s 6 (s 6 + nI 1) 6 = s 6 + nI 1), Nat.zero_le _, by dsimp only; omega, fun p p1 p2 => by dsimp only at p1 p2; omega, hm⟩
  have hA := z_fd_inv (f := fun _ a => f_as n a) (fun k a => k ≤ m → z_AI n J Bf m (s 6 + nI 1) k a) m 0 (0, z_u s 6 (s 6 + nI 1), 0) (fun _ => hAI) (fun j a _ hj ha _ => z_AI_step (ha (by omega)) (by omega) (by omega))
  have hA2 := hA (by omega)
  rw [Nat.zero_add] at hA2
  have F1 : z_F n J (Bf + m) (f_ar n (z_u s 6 (s 6 + nI 1))).2.1 := by unfold f_ar; rw [z8]; exact hA2.1
  have F2 := (F_rgs F1 (by omega)).1
  have F3 := (F_tas (F_wks F2).1).1
  exact z_F_mono (by omega) F3
theorem s_W_tick {G : zG} {b : Nat} {n J B Bf : Nat} {V : zM} {s : Nat → Int32} (hW : z_HW G b) (M : zM) (h : z_R true (0, 0) n B V s) (hF : z_F n J Bf s) (hB : B ≤ 1000000000) (hBf : Bf ≤ 80000000) : ∃ V1 V', z_call 34 [.ref b] G (wr M b V) = some (.inl (some (.int (nI (f_hn n s)))), G, wr M b V1) ∧ z_call 77 [.ref b] G (wr M b V1) = some (.inl none, G, wr M b V') ∧ z_R true (0, 0) n (B + 308) V' (f_tk n s) := by
  have hn : n ≤ 8 := hF.1.1.2
  obtain ⟨V1, e1, R1, F1⟩ := s_W_exchange hW M h hF hB hBf
  have hfu : f_tk n s = z_fd (fun i t => f_ta i (f_wk n i t)) n 0 (f_ex n s) := (z_fuse (f_ex n s) F1).symm
  rw [hfu]
  generalize f_ex n s = s1 at R1 F1 ⊢
  obtain ⟨V2, e2, R2, F2⟩ := z_sim (fun i U => z_ex 77 (z_blk 77 2) [.ref b, .int (nI i)] [] G (wr M b U)) (fun i t => f_ta i (f_wk n i t)) (fun i U r => z_R true (0, 0) n (B + 308) U r ∧ z_F n J (Bf + 308) r) n (by
    intro i U r hi hI
    obtain ⟨hR, hT⟩ := hI
    have hi8 : i < 8 := by omega
    have h0 : U 0 0 = nI n := hR.1.1.trans hT.1.1.1
    have hlt : nI i < nI n := nI_lt hi (by omega)
    obtain ⟨V3, e3, R3⟩ := s_W_labour hW M hR hT hi
    have F3 := (FX_wk hT hi).1
    have r3 := rd_3 R3 hi
    obtain ⟨a, a1, a2⟩ := F_0 F3 hi
    rw [a2] at r3
    have R4 := R_ta R3 hn hi (k := a) (by omega)
    refine ⟨_, ?_, z_R_s R4 ?_, (FX_ta F3 hi).1⟩
    · conv => lhs; rw [zk_W_toil_2]
      simp (disch := first | assumption | omega | exact Nat.le_of_ble_eq_true rfl | decide) only [xo_5, xo_10_1i, xo_10_1r, xo_10_1n, xo_55, xo_0_1, xo_2_0, xw_16w hW, xw_16b hW, xo_45, zk_W_toil_10, xw_17w_5 hW, xw_17b_14 hW, xw_34 hW, xw_64w_2 hW, xk_v, xk_n, xo_40, xw_32_t hW, xo_20, xw_33_t hW, xo_15_1i, xo_15_1r, xo_15_1n, xo_54, xo_69, nI_add, pk_mul, Nat.add_zero, h0, hlt, if_true, if_false, eq_self, Bool.true_eq_false, Bool.false_eq_true, e3, r3]
    · unfold f_ta
      rw [a2, z_nN (show a < 2 ^ 31 by omega)]) n 0 V1 s1 (by omega) ⟨R1, F1⟩
  refine ⟨V1, V2, e1, ?_, R2⟩
  have h0 : V2 0 0 = nI n := R2.1.1.trans F2.1.1.1
  have hltn : ¬ nI n < nI n := nI_nlt (Nat.le_refl _) (by omega)
  have e0 : z_call 77 [.ref b] G (wr M b V1) = z_ex 77 (z_blk 77 2) [.ref b, .int (nI 0)] [] G (wr M b V1) := by
    simp (disch := first | assumption | omega | exact Nat.le_of_ble_eq_true rfl | decide) only [ze_W_toil, zk_W_toil_0, xo_5, xo_10_1i, xo_10_1r, xo_10_1n, xo_55, xo_0_1, xo_2_0, xw_16w hW, xw_16b hW, xo_45, xw_17w_5 hW, xw_17b_14 hW, xw_34 hW, xw_64w_2 hW, xk_v, xk_n, xo_40, xw_32_t hW, xo_20, xw_33_t hW, xo_15_1i, xo_15_1r, xo_15_1n, xo_54, xo_69]
  rw [e0]
  refine e2.trans ?_
  conv => lhs; rw [zk_W_toil_2]
  simp (disch := first | assumption | omega | exact Nat.le_of_ble_eq_true rfl | decide) only [xo_5, xo_10_1i, xo_10_1r, xo_10_1n, xo_55, xo_0_1, xo_2_0, xw_16w hW, xw_16b hW, xo_45, xw_17w_5 hW, xw_17b_14 hW, xw_34 hW, xw_64w_2 hW, xk_v, xk_n, xo_40, xw_32_t hW, xo_20, xw_33_t hW, xo_15_1i, xo_15_1r, xo_15_1n, xo_54, zk_W_toil_49, xo_69, nI_add, pk_mul, Nat.add_zero, h0, hltn, if_true, if_false, eq_self, Bool.true_eq_false, Bool.false_eq_true]
def f_rn (n : Nat) (a : (Nat → Int32) × Nat) : (Nat → Int32) × Nat := (f_tk n a.1, a.2 + f_hn n a.1)
theorem s_W_run {G : zG} {b : Nat} {n J B Bf N : Nat} {V : zM} {s : Nat → Int32} (hW : z_HW G b) (M : zM) (h : z_R true (0, 0) n B V s) (hF : z_F n J Bf s) (hN : N ≤ 100) (hB : B ≤ 100000000) (hBf : Bf ≤ 70000000) : ∃ V', z_call 76 [.ref b, .int (nI N)] G (wr M b V) = some (.inl (some (.int (nI (z_fd (fun _ a => f_rn n a) N 0 (s, 0)).2))), G, wr M b V') ∧ z_R true (0, 0) n (B + 308 * N) V' (z_fd (fun _ a => f_rn n a) N 0 (s, 0)).1 ∧ z_F n J (Bf + 308 * N) (z_fd (fun _ a => f_rn n a) N 0 (s, 0)).1 := by
  obtain ⟨V1, e1, R1, F1⟩ := z_sim2 (fun k U (a : (Nat → Int32) × Nat) => z_ex 76 (z_blk 76 4) [.ref b, .int (nI N), .int (nI a.2), .int (nI k)] [] G (wr M b U)) (fun _ a => f_rn n a) (fun k U a => z_R true (0, 0) n (B + 308 * k) U a.1 ∧ z_F n J (Bf + 308 * k) a.1) N (by
    intro k U a hk hI
    obtain ⟨hR, hT⟩ := hI
    have hlt : nI k < nI N := nI_lt hk (by omega)
    obtain ⟨V1, V2, e1, e2, R2⟩ := s_W_tick hW M hR hT (by omega) (by omega)
    refine ⟨V2, ?_, z_R_mono (by omega) R2, z_F_mono (by omega) (F_tk hT (by omega))⟩
    conv => lhs; rw [zk_W_run_4]
    simp (disch := first | assumption | omega | exact Nat.le_of_ble_eq_true rfl | decide) only [xo_5, xo_10_2i, xo_10_2r, xo_10_2n, xo_10_3i, xo_10_3r, xo_10_3n, xo_55, xo_0_3, xo_0_1, xo_45, zk_W_run_9, xo_0_2, xo_2_0, xw_64w_1 hW, xk_v, xk_n, xo_20, xo_15_3i, xo_15_3r, xo_15_3n, xo_54, xo_70, nI_add, pk_mul, Nat.add_zero, hlt, if_true, if_false, eq_self, Bool.true_eq_false, Bool.false_eq_true, e1, e2, f_rn]) N 0 V (s, 0) (by omega) ⟨h, hF⟩
  refine ⟨V1, ?_, R1, F1⟩
  have hlt : ¬ nI N < nI N := nI_nlt (Nat.le_refl _) (by omega)
  have e0 : z_call 76 [.ref b, .int (nI N)] G (wr M b V) = z_ex 76 (z_blk 76 4) [.ref b, .int (nI N), .int (nI 0), .int (nI 0)] [] G (wr M b V) := by
    simp only [ze_W_run, zk_W_run_0, xo_5, xo_10_2i, xo_10_2r, xo_10_2n, xo_10_3i, xo_10_3r, xo_10_3n, xo_55, xo_0_3, xo_0_1, xo_45, xo_0_2, xo_2_0, xo_64_1, xk_v, xk_n, xo_20, xo_15_3i, xo_15_3r, xo_15_3n, xo_54, xo_70]
  rw [e0]
  refine e1.trans ?_
  conv => lhs; rw [zk_W_run_4]
  simp (disch := first | assumption | omega | exact Nat.le_of_ble_eq_true rfl | decide) only [xo_5, xo_10_2i, xo_10_2r, xo_10_2n, xo_10_3i, xo_10_3r, xo_10_3n, xo_55, xo_0_3, xo_0_1, xo_45, xo_0_2, xo_2_0, xw_64w_1 hW, xk_v, xk_n, xo_20, xo_15_3i, xo_15_3r, xo_15_3n, xo_54, zk_W_run_26, xo_70, nI_add, pk_mul, Nat.add_zero, hlt, if_true, if_false, eq_self, Bool.true_eq_false, Bool.false_eq_true]
