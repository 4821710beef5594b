/-! ===== the class's world begins ===== -/
theorem z_ww (V : zM) (k j : Nat) (x y : Int32) : z_w (z_w V k j x) k j y = z_w V k j y := by
  unfold z_w; rw [z_sA_s, z_u_u, z_sA_sA]
def z_Bc (n : Nat) (S : Nat → Int32) (U : zM) : Prop := (U 0 0 = nI n ∧ U 0 1 = S 1 ∧ U 0 2 = 0 ∧ U 0 8 = nI 0) ∧ (∀ k, k < 4 → U 1 k = S (2 + k)) ∧ (∀ i, i < n → U 2 i = nI (g_ot n i)) ∧ (U 4 1 = nI 0 ∧ U 4 2 = nI 0 ∧ U 4 3 = nI 0) ∧ (∀ k, k < 8 → U 6 k = 0) ∧ (∀ k, k < 8 → U 7 k = 0) ∧ (∀ i, i < 8 → U (9 + 4 * i) 0 = nI i) ∧ ∀ i, i < n → z_Bm n S i U
section
variable {G : zG} {b p n : Nat}
theorem l_W_begin82 (hW : z_HW G b) (hP : z_HP G p) (hd : p + 3 ≤ b ∨ b + 41 ≤ p) (M U : zM) {S : Nat → Int32} (hn : n ≤ 8) (hS : ∀ i, i < n → M (p + 2) i = S (33 + i)) {i : Nat} (hi : i < n) (h0 : U 0 0 = nI n) (h1 : U (9 + 4 * i) 1 = S (33 + i)) : ∀ r j a, j + r = n → a < 256 → (∀ k, k < 8 → a.testBit k = decide (k < j ∧ S (33 + i) < S (33 + k))) → ∃ a', a' < 256 ∧ (∀ k, k < 8 → a'.testBit k = decide (k < n ∧ S (33 + i) < S (33 + k))) ∧ z_ex 8 (z_blk 8 82) [.ref b, .ref p, .int (nI i), .ref (b + (9 + 4 * i)), .int (nI j)] [] G (wr M b (z_w U (9 + 4 * i) 2 (nI a))) = z_ex 8 (z_blk 8 124) [.ref b, .ref p, .int (nI i), .ref (b + (9 + 4 * i)), .int (nI n)] [] G (wr M b (z_w U (9 + 4 * i) 2 (nI a'))) := by
  intro r
  induction r with
  | zero =>
    intro j a hj ha hb
    have ej : j = n := by omega
    subst ej
    refine ⟨a, ha, hb, ?_⟩
    have hlt : ¬ nI j < nI j := nI_nlt (Nat.le_refl _) (by omega)
    have h00 : z_w U (9 + 4 * i) 2 (nI a) 0 0 = nI j := by rw [z_w_n _ _ _ _ _ _ (by omega)]; exact h0
    conv => lhs; rw [zk_W_begin_82]
    simp (disch := first | assumption | omega | exact Nat.le_of_ble_eq_true rfl | decide) only [xo_2_0, xo_2_1, xo_16, xw_16w hW, xw_16b hW, xw_18w hW, xw_18b hW, xo_5, xo_17, xw_17w_3 hW, xw_17w_6 hW, xw_17w_5 hW, xo_80, xw_64a_1 hW, xw_64w_1 hW, xw_64b_1 hW, xk_v, xk_n, xo_41, xo_10_2i, xo_10_2r, xo_10_2n, xo_55, xo_0_2, xo_45, xw_34 hW, xo_12_3i, xo_12_3r, xo_12_3n, xo_2_3, xw_32_1 hW, xo_32, xo_11_4i, xo_11_4r, xo_11_4n, xo_1_4, xo_47, xo_39i, xo_39r, xo_26, xo_24, xo_15_4i, xo_15_4r, xo_15_4n, xo_54, xw_64w_2 hW, xo_15_2i, xo_15_2r, xo_15_2n, xo_69, h00, hlt, if_true, if_false, eq_self, Bool.true_eq_false, Bool.false_eq_true]
  | succ r ih =>
    intro j a hj ha hb
    have hj8 : j < 8 := by omega
    have hi8 : i < 8 := by omega
    have hlt : nI j < nI n := nI_lt (by omega) (by omega)
    have h00 : z_w U (9 + 4 * i) 2 (nI a) 0 0 = nI n := by rw [z_w_n _ _ _ _ _ _ (by omega)]; exact h0
    have h11 : z_w U (9 + 4 * i) 2 (nI a) (9 + 4 * i) 1 = S (33 + i) := by rw [z_w_n _ _ _ _ _ _ (by omega)]; exact h1
    have hr := hS j (by omega)
    by_cases hq : S (33 + i) < S (33 + j)
    · obtain ⟨a', c1, c2, c3⟩ := ih (j + 1) (a ||| 2 ^ j) (by omega) (z_or8 ha hj8) (fun k hk => by
        rw [Nat.testBit_or, hb k hk, Nat.testBit_two_pow, Bool.eq_iff_iff, Bool.or_eq_true, decide_eq_true_eq, decide_eq_true_eq, decide_eq_true_eq]
        constructor
        · rintro (⟨x, y⟩ | x)
          · exact ⟨by omega, y⟩
          · subst x; exact ⟨by omega, hq⟩
        · rintro ⟨x, y⟩
          by_cases e : j = k
          · exact Or.inr e
          · exact Or.inl ⟨by omega, y⟩)
      refine ⟨a', c1, c2, ?_⟩
      rw [← c3]
      conv => lhs; rw [zk_W_begin_82]
      simp (disch := first | assumption | omega | exact Nat.le_of_ble_eq_true rfl | decide) only [xo_2_0, xo_2_1, xo_16, xw_16w hW, xw_16b hW, xw_18w hW, xw_18b hW, xo_5, xo_17, xw_17w_3 hW, xw_17w_6 hW, xw_17w_5 hW, xo_80, xw_64a_1 hW, xw_64w_1 hW, xw_64b_1 hW, xk_v, xk_n, xo_41, xo_10_2i, xo_10_2r, xo_10_2n, xo_55, xo_0_2, xo_45, xw_34 hW, xo_12_3i, xo_12_3r, xo_12_3n, xo_2_3, xw_32_1 hW, xo_32, xo_11_4i, xo_11_4r, xo_11_4n, xo_1_4, zk_W_begin_91, xo_47, zk_W_begin_105, xo_39i, xo_39r, xo_26, xo_24, zk_W_begin_118, xo_15_4i, xo_15_4r, xo_15_4n, xo_54, xw_64w_2 hW, xo_15_2i, xo_15_2r, xo_15_2n, xo_69, xs_17_3 hP, xs_32 hP hd, h00, h11, hr, hlt, hq, z_w_s, z_ww, z_bitN j hj8, z_orN a ha j hj8, nI_add, if_true, if_false, eq_self, Bool.true_eq_false, Bool.false_eq_true]
    · obtain ⟨a', c1, c2, c3⟩ := ih (j + 1) a (by omega) ha (fun k hk => by
        rw [hb k hk, Bool.eq_iff_iff, decide_eq_true_eq, decide_eq_true_eq]
        constructor
        · rintro ⟨x, y⟩; exact ⟨by omega, y⟩
        · rintro ⟨x, y⟩
          by_cases e : k = j
          · subst e; exact absurd y hq
          · exact ⟨by omega, y⟩)
      refine ⟨a', c1, c2, ?_⟩
      rw [← c3]
      conv => lhs; rw [zk_W_begin_82]
      simp (disch := first | assumption | omega | exact Nat.le_of_ble_eq_true rfl | decide) only [xo_2_0, xo_2_1, xo_16, xw_16w hW, xw_16b hW, xw_18w hW, xw_18b hW, xo_5, xo_17, xw_17w_3 hW, xw_17w_6 hW, xw_17w_5 hW, xo_80, xw_64a_1 hW, xw_64w_1 hW, xw_64b_1 hW, xk_v, xk_n, xo_41, xo_10_2i, xo_10_2r, xo_10_2n, xo_55, xo_0_2, xo_45, xw_34 hW, xo_12_3i, xo_12_3r, xo_12_3n, xo_2_3, xw_32_1 hW, xo_32, xo_11_4i, xo_11_4r, xo_11_4n, xo_1_4, zk_W_begin_91, xo_47, xo_39i, xo_39r, xo_26, xo_24, zk_W_begin_118, xo_15_4i, xo_15_4r, xo_15_4n, xo_54, xw_64w_2 hW, xo_15_2i, xo_15_2r, xo_15_2n, xo_69, xs_17_3 hP, xs_32 hP hd, h00, h11, hr, hlt, hq, nI_add, if_true, if_false, eq_self, Bool.true_eq_false, Bool.false_eq_true]
def z_Bi (n c i : Nat) (S : Nat → Int32) (V3 U : zM) : Prop := (∀ q, q < 9 → q ≠ 0 → q ≠ 8 → U q = V3 q) ∧ (∀ f, f ≠ 8 → U 0 f = V3 0 f) ∧ U 0 8 = nI (c + i) ∧ (∀ j, j < 8 → U (9 + 4 * j) 0 = nI j) ∧ ∀ j, j < i → z_Bm n S j U
theorem l_W_begin49 (hW : z_HW G b) (hP : z_HP G p) (hd : p + 3 ≤ b ∨ b + 41 ≤ p) (M V3 : zM) {S : Nat → Int32} {c : Nat} (hn : n ≤ 8) (hc : c < 2 ^ 31 - 100) (hS : ∀ i, i < n → M (p + 2) i = S (33 + i)) (h00 : V3 0 0 = nI n) (h02 : V3 0 2 = 0) (h10 : V3 1 0 = S 2) : ∀ r i U w3 w4, i + r = n → z_Bi n c i S V3 U → ∃ U', z_ex 8 (z_blk 8 49) [.ref b, .ref p, .int (nI i), w3, w4] [] G (wr M b U) = some (.inl none, G, wr M b (z_w U' 0 8 (nI 0))) ∧ z_Bi n c n S V3 U' := by
  intro r
  induction r with
  | zero =>
    intro i U w3 w4 hi hI
    have ei : i = n := by omega
    subst ei
    refine ⟨U, ?_, hI⟩
    have u00 : U 0 0 = nI i := (hI.2.1 0 (by omega)).trans h00
    have hlt : ¬ nI i < nI i := nI_nlt (Nat.le_refl _) (by omega)
    conv => lhs; rw [zk_W_begin_49]
    simp (disch := first | assumption | omega | exact Nat.le_of_ble_eq_true rfl | decide) only [xo_2_0, xo_2_1, xo_16, xw_16w hW, xw_16b hW, xw_18w hW, xw_18b hW, xo_5, xo_17, xw_17w_3 hW, xw_17w_6 hW, xw_17w_5 hW, xo_80, xw_64a_1 hW, xw_64w_1 hW, xw_64b_1 hW, xk_v, xk_n, xo_41, xo_10_2i, xo_10_2r, xo_10_2n, xo_55, xo_0_2, xo_45, xw_34 hW, xo_12_3i, xo_12_3r, xo_12_3n, xo_2_3, xw_32_1 hW, xo_32, xo_11_4i, xo_11_4r, xo_11_4n, xo_1_4, xo_47, xo_39i, xo_39r, xo_26, xo_24, xo_15_4i, xo_15_4r, xo_15_4n, xo_54, xw_64w_2 hW, xo_15_2i, xo_15_2r, xo_15_2n, zk_W_begin_139, xo_69, u00, hlt, if_true, if_false, eq_self, Bool.true_eq_false, Bool.false_eq_true]
  | succ r ih =>
    intro i U w3 w4 hi hI
    have hi8 : i < 8 := by omega
    have hlt : nI i < nI n := nI_lt (by omega) (by omega)
    obtain ⟨i1, i2, i3, i4, i5⟩ := hI
    have u00 : U 0 0 = nI n := (i2 0 (by omega)).trans h00
    have hr := hS i (by omega)
    obtain ⟨U1, hU1⟩ : ∃ U1, U1 = z_w U (9 + 4 * i) 1 (S (33 + i)) := ⟨_, rfl⟩
    have v00 : U1 0 0 = nI n := by rw [hU1, z_w_n _ _ _ _ _ _ (by omega)]; exact u00
    have v1 : U1 (9 + 4 * i) 1 = S (33 + i) := by rw [hU1, z_w_s]
    have vo : ∀ q, q ≠ 9 + 4 * i → U1 q = U q := fun q hq => by rw [hU1, z_w_c _ _ _ _ _ hq]
    have vN : U1 (9 + 4 * i) 0 = nI i := by rw [hU1, z_w_n _ _ _ _ _ _ (by omega)]; exact i4 i hi8
    have e1 : z_ex 8 (z_blk 8 49) [.ref b, .ref p, .int (nI i), w3, w4] [] G (wr M b U) = z_ex 8 (z_blk 8 82) [.ref b, .ref p, .int (nI i), .ref (b + (9 + 4 * i)), .int (nI 0)] [] G (wr M b (z_w U1 (9 + 4 * i) 2 (nI 0))) := by
      rw [hU1]
      conv => lhs; rw [zk_W_begin_49]
      simp (disch := first | assumption | omega | exact Nat.le_of_ble_eq_true rfl | decide) only [xo_2_0, xo_2_1, xo_16, xw_16w hW, xw_16b hW, xw_18w hW, xw_18b hW, xo_5, xo_17, xw_17w_3 hW, xw_17w_6 hW, xw_17w_5 hW, xo_80, xw_64a_1 hW, xw_64w_1 hW, xw_64b_1 hW, xk_v, xk_n, xo_41, xo_10_2i, xo_10_2r, xo_10_2n, xo_55, xo_0_2, xo_45, zk_W_begin_57, xw_34 hW, xo_12_3i, xo_12_3r, xo_12_3n, xo_2_3, xw_32_1 hW, xo_32, xo_11_4i, xo_11_4r, xo_11_4n, xo_1_4, xo_47, xo_39i, xo_39r, xo_26, xo_24, xo_15_4i, xo_15_4r, xo_15_4n, xo_54, xw_64w_2 hW, xo_15_2i, xo_15_2r, xo_15_2n, xo_69, xs_17_3 hP, xs_32 hP hd, u00, hr, hlt, if_true, if_false, eq_self, Bool.true_eq_false, Bool.false_eq_true]
    clear hU1
    obtain ⟨a, a1, a2, a3⟩ := l_W_begin82 hW hP hd M U1 hn hS (i := i) (by omega) v00 v1 n 0 0 (by omega) (by omega) (fun k _ => by rw [Nat.zero_testBit]; exact (decide_eq_false (fun q => by omega)).symm)
    obtain ⟨U2, hU2⟩ : ∃ U2, U2 = z_w U1 (9 + 4 * i) 2 (nI a) := ⟨_, rfl⟩
    have q2 : ∀ q, q ≠ 9 + 4 * i → U2 q = U q := fun q hq => by rw [hU2, z_w_c _ _ _ _ _ hq]; exact vo q hq
    have q0 : U2 (9 + 4 * i) 0 = nI i := by rw [hU2, z_w_n _ _ _ _ _ _ (by omega)]; exact vN
    have q1 : U2 (9 + 4 * i) 1 = S (33 + i) := by rw [hU2, z_w_n _ _ _ _ _ _ (by omega)]; exact v1
    have qa : U2 (9 + 4 * i) 2 = nI a := by rw [hU2, z_w_s]
    rw [← hU2] at a3
    clear hU2
    have q8 : U2 0 8 = nI (c + i) := by rw [q2 0 (by omega)]; exact i3
    have w8 : g_wi i U2 0 8 = nI (c + i) := by
      unfold g_wi
      rw [zw_n _ _ _ _ (by omega), zw_n _ _ _ _ (by omega), zw_n _ _ _ _ (by omega), z_w_c _ _ _ _ _ (by omega), z_w_c _ _ _ _ _ (by omega)]; exact q8
    have cw := c_B_wipe hW M U2 hi8
    have ca := c_W_goAlone hW M (g_wi i U2) (c := c + i) hi8 (by omega) w8
    obtain ⟨b1, b2, b3, b4, b5⟩ := Bm_al (n := n) (S := S) (U := U2) hi8 (c := c + i) (by omega) q8 (by rw [q2 0 (by omega), i2 2 (by omega)]; exact h02) (by rw [q2 1 (by omega), i1 1 (by omega) (by omega) (by omega)]; exact h10) q0 q1 ⟨a, a1, qa, a2⟩
    obtain ⟨U3, hU3⟩ : ∃ U3, U3 = g_al i (g_wi i U2) := ⟨_, rfl⟩
    rw [← hU3] at b1 b2 b3 b4 b5 ca
    clear hU3
    obtain ⟨U', f1, f2⟩ := ih (i + 1) U3 (.ref (b + (9 + 4 * i))) (.int (nI n)) (by omega) ⟨fun q h1 h2 h3 => (b2 q h2 h3 (by omega)).trans ((q2 q (by omega)).trans (i1 q h1 h2 h3)), fun f hf => (b3 f hf).trans (by rw [q2 0 (by omega)]; exact i2 f hf), by rw [b4, Nat.add_assoc], fun j hj => by
      by_cases e : j = i
      · subst e; exact b5
      · rw [b2 _ (by omega) (by omega) (by omega), q2 _ (by omega)]; exact i4 j hj, fun j hj => by
      by_cases e : j = i
      · subst e; exact b1
      · exact Bm_eq (i5 j (by omega)) (fun q x y => (b2 q (by omega) (by omega) (by omega)).trans (q2 q (by omega)))⟩
    refine ⟨U', ?_, f2⟩
    rw [e1, a3, ← f1]
    simp (disch := first | assumption | omega | exact Nat.le_of_ble_eq_true rfl | decide) only [xo_2_0, xo_2_1, xo_16, xw_16w hW, xw_16b hW, xw_18w hW, xw_18b hW, xo_5, xo_17, xw_17w_3 hW, xw_17w_6 hW, xw_17w_5 hW, xo_80, xw_64a_1 hW, xw_64w_1 hW, xw_64b_1 hW, xk_v, xk_n, xo_41, xo_10_2i, xo_10_2r, xo_10_2n, xo_55, xo_0_2, xo_45, xw_34 hW, xo_12_3i, xo_12_3r, xo_12_3n, xo_2_3, xw_32_1 hW, xo_32, xo_11_4i, xo_11_4r, xo_11_4n, xo_1_4, xo_47, xo_39i, xo_39r, xo_26, xo_24, xo_15_4i, xo_15_4r, xo_15_4n, xo_54, zk_W_begin_124, xw_64w_2 hW, xo_15_2i, xo_15_2r, xo_15_2n, xo_69, cw, ca, nI_add, if_true, if_false, eq_self, Bool.true_eq_false, Bool.false_eq_true]
theorem c_W_begin (hW : z_HW G b) (hP : z_HP G p) (hd : p + 3 ≤ b ∨ b + 41 ≤ p) (M V : zM) {S : Nat → Int32} {c : Nat} (hn : n ≤ 8) (hS : z_SUp p n M S) (h8 : V 0 8 = nI c) (hc : c < 2 ^ 31 - 100) (hN : ∀ i, i < 8 → V (9 + 4 * i) 0 = nI i) : ∃ V', z_call 8 [.ref b, .ref p] G (wr M b V) = some (.inl none, G, wr M b V') ∧ z_Bc n S V' := by
  obtain ⟨⟨s1, s2⟩, s3, s4, s5⟩ := hS
  obtain ⟨V2, e0, a1, a2, a3, a4, a5, a6⟩ : ∃ V2, z_call 8 [.ref b, .ref p] G (wr M b V) = z_ex 8 [(64, 11, 1, 61, 43), (41, 0, 0, 0, 46), (5, 0, 0, 0, 47), (10, 2, 0, 0, 48), (55, 49, 0, 0, 49)] [.ref b, .ref p, .null, .null, .null] [.ref b] G (wr M b V2) ∧ (V2 0 0 = nI n ∧ V2 0 1 = S 1 ∧ V2 0 2 = 0 ∧ V2 0 8 = nI c) ∧ (∀ k, k < 4 → V2 1 k = S (2 + k)) ∧ (V2 4 1 = nI 0 ∧ V2 4 2 = nI 0 ∧ V2 4 3 = nI 0) ∧ (∀ k, k < 8 → V2 6 k = 0) ∧ (∀ k, k < 8 → V2 7 k = 0) ∧ ∀ q, 8 < q → V2 q = V q := by
    have cw := fun U => c_A_wipe hW M U
    refine ⟨z_zw (z_zw (z_w (z_w (z_w (z_sA (z_w (z_w (z_w V 0 0 (nI n)) 0 1 (S 1)) 0 2 (nI 0)) 1 (va_cpy (M (p + 1)) (z_w (z_w (z_w V 0 0 (nI n)) 0 1 (S 1)) 0 2 (nI 0) 1) 0 0 4)) 4 1 (nI 0)) 4 2 (nI 0)) 4 3 (nI 0)) 6 8) 7 8, ?_, ⟨?_, ?_, ?_, ?_⟩, fun k hk => ?_, ⟨?_, ?_, ?_⟩, fun k hk => ?_, fun k hk => ?_, fun q hq => ?_⟩
    · simp (disch := first | assumption | omega | exact Nat.le_of_ble_eq_true rfl | decide) only [ze_W_begin, zk_W_begin_0, xo_2_0, xo_2_1, xo_5, xs_16 hP hd, xw_18w hW, xs_17_2 hP, xw_17w_3 hW, xs_80 hP hW hd, xw_17w_6 hW, xw_64a_1 hW, cw, xk_n, s1, s3]
    · rw [zw_n _ _ _ _ (by omega), zw_n _ _ _ _ (by omega), z_w_c _ _ _ _ _ (by omega), z_w_c _ _ _ _ _ (by omega), z_w_c _ _ _ _ _ (by omega), z_sA_n _ _ _ _ (by omega)]; simp (disch := omega) only [z_w_n, z_w_s]
    · rw [zw_n _ _ _ _ (by omega), zw_n _ _ _ _ (by omega), z_w_c _ _ _ _ _ (by omega), z_w_c _ _ _ _ _ (by omega), z_w_c _ _ _ _ _ (by omega), z_sA_n _ _ _ _ (by omega)]; simp (disch := omega) only [z_w_n, z_w_s]
    · rw [zw_n _ _ _ _ (by omega), zw_n _ _ _ _ (by omega), z_w_c _ _ _ _ _ (by omega), z_w_c _ _ _ _ _ (by omega), z_w_c _ _ _ _ _ (by omega), z_sA_n _ _ _ _ (by omega), z_w_s]; rfl
    · rw [zw_n _ _ _ _ (by omega), zw_n _ _ _ _ (by omega), z_w_c _ _ _ _ _ (by omega), z_w_c _ _ _ _ _ (by omega), z_w_c _ _ _ _ _ (by omega), z_sA_n _ _ _ _ (by omega)]; simp (disch := omega) only [z_w_n]; exact h8
    · rw [zw_n _ _ _ _ (by omega), zw_n _ _ _ _ (by omega), z_w_c _ _ _ _ _ (by omega), z_w_c _ _ _ _ _ (by omega), z_w_c _ _ _ _ _ (by omega), z_sA_s, pk_cpy_in (by omega) (by omega), show 0 + (k - 0) = k by omega]; exact s4 k hk
    · rw [zw_n _ _ _ _ (by omega), zw_n _ _ _ _ (by omega)]; simp (disch := omega) only [z_w_n, z_w_s]
    · rw [zw_n _ _ _ _ (by omega), zw_n _ _ _ _ (by omega)]; simp (disch := omega) only [z_w_n, z_w_s]
    · rw [zw_n _ _ _ _ (by omega), zw_n _ _ _ _ (by omega)]; simp (disch := omega) only [z_w_n, z_w_s]
    · rw [zw_n _ _ _ _ (by omega)]; exact zw_s _ _ _ _ hk
    · exact zw_s _ _ _ _ hk
    · rw [zw_n _ _ _ _ (by omega), zw_n _ _ _ _ (by omega), z_w_c _ _ _ _ _ (by omega), z_w_c _ _ _ _ _ (by omega), z_w_c _ _ _ _ _ (by omega), z_sA_n _ _ _ _ (by omega), z_w_c _ _ _ _ _ (by omega), z_w_c _ _ _ _ _ (by omega), z_w_c _ _ _ _ _ (by omega)]
  have cm := c_W_mend hW M V2 a1.1 hn
  obtain ⟨V3, hV3⟩ : ∃ V3, V3 = g_me n V2 := ⟨_, rfl⟩
  have m2 : ∀ i, i < n → V3 2 i = nI (g_ot n i) := fun i hi => by rw [hV3]; exact g_me_i n V2 i hi
  have mo : ∀ q, q ≠ 2 → V3 q = V2 q := fun q hq => by rw [hV3]; exact g_me_c n V2 q hq
  rw [← hV3] at cm
  clear hV3
  obtain ⟨U', f1, f2⟩ := l_W_begin49 hW hP hd M V3 (S := S) (c := c) hn hc s5 (by rw [mo 0 (by omega)]; exact a1.1) (by rw [mo 0 (by omega)]; exact a1.2.2.1) (by rw [mo 1 (by omega)]; exact a2 0 (by omega)) n 0 V3 .null .null (by omega) ⟨fun _ _ _ _ => rfl, fun _ _ => rfl, by rw [mo 0 (by omega)]; exact a1.2.2.2, fun j hj => by rw [mo _ (by omega), a6 _ (by omega)]; exact hN j hj, fun j hj => absurd hj (by omega)⟩
  obtain ⟨g1, g2, g3, g4, g5⟩ := f2
  refine ⟨z_w U' 0 8 (nI 0), ?_, ⟨?_, ?_, ?_, ?_⟩, fun k hk => ?_, fun i hi => ?_, ⟨?_, ?_, ?_⟩, fun k hk => ?_, fun k hk => ?_, fun i hi => ?_, fun i hi => ?_⟩
  rotate_left
  · rw [z_w_n _ _ _ _ _ _ (by omega), g2 0 (by omega), mo 0 (by omega)]; exact a1.1
  · rw [z_w_n _ _ _ _ _ _ (by omega), g2 1 (by omega), mo 0 (by omega)]; exact a1.2.1
  · rw [z_w_n _ _ _ _ _ _ (by omega), g2 2 (by omega), mo 0 (by omega)]; exact a1.2.2.1
  · exact z_w_s U' 0 8 (nI 0)
  · rw [z_w_c _ _ _ _ _ (by omega), g1 1 (by omega) (by omega) (by omega), mo 1 (by omega)]; exact a2 k hk
  · rw [z_w_c _ _ _ _ _ (by omega), g1 2 (by omega) (by omega) (by omega)]; exact m2 i hi
  · rw [z_w_c _ _ _ _ _ (by omega), g1 4 (by omega) (by omega) (by omega), mo 4 (by omega)]; exact a3.1
  · rw [z_w_c _ _ _ _ _ (by omega), g1 4 (by omega) (by omega) (by omega), mo 4 (by omega)]; exact a3.2.1
  · rw [z_w_c _ _ _ _ _ (by omega), g1 4 (by omega) (by omega) (by omega), mo 4 (by omega)]; exact a3.2.2
  · rw [z_w_c _ _ _ _ _ (by omega), g1 6 (by omega) (by omega) (by omega), mo 6 (by omega)]; exact a4 k hk
  · rw [z_w_c _ _ _ _ _ (by omega), g1 7 (by omega) (by omega) (by omega), mo 7 (by omega)]; exact a5 k hk
  · rw [z_w_c _ _ _ _ _ (by omega)]; exact g4 i hi
  · exact Bm_eq (g5 i hi) (fun q _ _ => z_w_c _ _ _ _ _ (by omega))
  · rw [e0, ← f1]
    simp (disch := first | assumption | omega | exact Nat.le_of_ble_eq_true rfl | decide) only [xw_64w_1 hW, cm, xk_v, xo_41, xo_5, xo_10_2i, xo_10_2r, xo_10_2n, xo_55, if_true, if_false, eq_self, Bool.true_eq_false, Bool.false_eq_true]
end
/-- the two, begun, are alike -/
theorem R_bg {n : Nat} {S t : Nat → Int32} {U : zM} (hS : z_SF n S) (hn : n ≤ 8) (h : z_Bg n S t) (g : z_Bc n S U) : z_R true (0, 0) n 0 U t := by
  obtain ⟨s0, _, _, s3, s4⟩ := hS
  obtain ⟨h1, h2⟩ := h
  obtain ⟨⟨g00, g01, g02, g08⟩, g1, g2, ⟨g41, g42, g43⟩, g6, g7, gN, gm⟩ := g
  have fz : ∀ e i f, 8 ≤ f → f ≠ 24 → y_fm e i f = 0 := fun e i f a c => by
    unfold y_fm
    rw [if_neg (by omega), if_neg (by omega), if_neg (by omega), if_neg (by omega), if_neg (by omega), if_neg (by omega), if_neg (by omega)]
  have z0 : nI 0 = 0 := rfl
  refine ⟨⟨?_, ?_, ?_, fun k hk => ?_, ?_, fun k hk => ?_, fun k hk => ?_⟩, fun i hi => ?_, fun i hi => ?_, fun _ i hi => ?_, ⟨rfl, 0, by omega, g41, by omega, by omega, g42, ?_, by show 0 + (0 - 0) ≤ 300; omega, fun j hj => absurd hj (by show ¬ j < 0; omega), fun j _ hj => absurd hj (by omega)⟩, ⟨0, by omega, g08, ?_, fun p hp => absurd hp (by omega)⟩, gN⟩
  · rw [g00, h1 0 (by omega) (by omega), s0]
  · rw [g01, h1 1 (by omega) (by omega)]
  · rw [g02, h1 6 (by omega) (by omega), s3 6 (by omega) (by omega)]
  · rw [g1 k hk, h1 _ (by omega) (by omega)]
  · rw [g43, h1 7 (by omega) (by omega), s3 7 (by omega) (by omega)]; rfl
  · rw [g6 k hk, h1 _ (by omega) (by omega), s3 _ (by omega) (by omega)]
  · rw [g7 k hk, h1 _ (by omega) (by omega), s3 _ (by omega) (by omega)]
  · have e : t (25 + i) = nI 0 := by rw [h1 _ (by omega) (by omega), s3 _ (by omega) (by omega)]; rfl
    refine ⟨⟨g_ot n i, g_ot_8 hn, g2 i hi, fun j hj => ?_⟩, 0, by omega, e, fun j _ hb => ?_⟩
    · rw [e, z_hasN 0 (by omega) j hj, g_ot_t hn (by omega) hj, Nat.zero_testBit, Bool.not_false, Bool.and_true]
    · rw [Nat.zero_testBit] at hb; cases hb
  · obtain ⟨m1, ⟨a, a1, a2, a3⟩, m3, m4, m5, m6⟩ := gm i hi
    refine ⟨gN i (by omega), by rw [m1, h1 _ (by omega) (by omega)], ⟨a, a1, a2, fun j hj => by rw [h1 (33 + i) (by omega) (by omega), h1 (33 + j) (by omega) (by omega)]; exact a3 j hj⟩, fun f f3 f12 => ?_⟩
    have hmf : z_mf f < 28 := by unfold z_mf; split <;> (try split) <;> omega
    rw [m3 f f3 f12, h2 i hi _ hmf]
  · obtain ⟨m1, _, m3, m4, m5, m6⟩ := gm i hi
    refine ⟨fun k hk => ?_, fun k hk => ?_, fun k hk => ?_⟩
    · rw [m4 k hk, h2 i hi _ (by omega), fz _ _ _ (by omega) (by omega)]
    · rw [m5 k hk, h2 i hi _ (by omega), fz _ _ _ (by omega) (by omega)]
    · rw [m6 k hk, h2 i hi _ (by omega)]
  · show t 8 = nI 0
    rw [h1 8 (by omega) (by omega), s3 8 (by omega) (by omega)]; rfl
  · show t 4165 = nI 0
    rw [h1 _ (by omega) (by omega), s4 _ (by omega)]; rfl
