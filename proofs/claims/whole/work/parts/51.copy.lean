/-! ===== a world is copied ===== -/
section
variable {G : zG} {b d : Nat}
theorem s_B_copyFrom (hW : z_HW G b) (hD : z_HW G d) (dj : d + 41 ≤ b ∨ b + 41 ≤ d) (M V : zM) {i : Nat} (hi : i < 8) : ∃ V', z_call 27 [.ref (b + (9 + 4 * i)), .ref (d + (9 + 4 * i))] G (wr M b V) = some (.inl none, G, wr M b V') ∧ (∀ c, (c < 9 + 4 * i ∨ 13 + 4 * i ≤ c) → V' c = V c) ∧ V' (9 + 4 * i) 0 = V (9 + 4 * i) 0 ∧ (∀ f, 1 ≤ f → f < 12 → V' (9 + 4 * i) f = M (d + (9 + 4 * i)) f) ∧ (∀ k, k < 6 → V' (10 + 4 * i) k = M (d + (10 + 4 * i)) k) ∧ (∀ k, k < 6 → V' (11 + 4 * i) k = M (d + (11 + 4 * i)) k) ∧ (∀ k, k < 7 → V' (12 + 4 * i) k = M (d + (12 + 4 * i)) k) := by
  have e : z_call 27 [.ref (b + (9 + 4 * i)), .ref (d + (9 + 4 * i))] G (wr M b V) = z_ex 27 [(2, 1, 0, 0, 88), (17, 2, 12, 9, 89), (5, 0, 0, 0, 92), (2, 0, 0, 0, 93), (17, 2, 12, 9, 94), (5, 0, 0, 0, 97), (6, 6, 0, 0, 98), (80, 0, 0, 64, 100), (2, 1, 0, 0, 103), (17, 2, 13, 15, 104), (5, 0, 0, 0, 107), (2, 0, 0, 0, 108), (17, 2, 13, 15, 109), (5, 0, 0, 0, 112), (6, 6, 0, 0, 113), (80, 0, 0, 64, 115), (2, 1, 0, 0, 118), (17, 2, 14, 18, 119), (5, 0, 0, 0, 122), (2, 0, 0, 0, 123), (17, 2, 14, 18, 124), (5, 0, 0, 0, 127), (6, 7, 0, 0, 128), (80, 0, 0, 64, 130), (69, 0, 0, 0, 133)] [.ref (b + (9 + 4 * i)), .ref (d + (9 + 4 * i))] [] G (wr M b (z_w (z_w (z_w (z_w (z_w (z_w (z_w (z_w (z_w (z_w (z_w V (9 + 4 * i) 1 (M (d + (9 + 4 * i)) 1)) (9 + 4 * i) 2 (M (d + (9 + 4 * i)) 2)) (9 + 4 * i) 3 (M (d + (9 + 4 * i)) 3)) (9 + 4 * i) 4 (M (d + (9 + 4 * i)) 4)) (9 + 4 * i) 5 (M (d + (9 + 4 * i)) 5)) (9 + 4 * i) 6 (M (d + (9 + 4 * i)) 6)) (9 + 4 * i) 7 (M (d + (9 + 4 * i)) 7)) (9 + 4 * i) 8 (M (d + (9 + 4 * i)) 8)) (9 + 4 * i) 9 (M (d + (9 + 4 * i)) 9)) (9 + 4 * i) 10 (M (d + (9 + 4 * i)) 10)) (9 + 4 * i) 11 (M (d + (9 + 4 * i)) 11))) := by
    simp (disch := first | assumption | omega | exact Nat.le_of_ble_eq_true rfl | decide) only [ze_B_copyFrom, zk_B_copyFrom_0, xo_2_0, xo_2_1, xw_18b hW, xv_16b hW hD dj]
  have hV1 : ∃ V1, z_call 27 [.ref (b + (9 + 4 * i)), .ref (d + (9 + 4 * i))] G (wr M b V) = z_ex 27 [(2, 1, 0, 0, 88), (17, 2, 12, 9, 89), (5, 0, 0, 0, 92), (2, 0, 0, 0, 93), (17, 2, 12, 9, 94), (5, 0, 0, 0, 97), (6, 6, 0, 0, 98), (80, 0, 0, 64, 100), (2, 1, 0, 0, 103), (17, 2, 13, 15, 104), (5, 0, 0, 0, 107), (2, 0, 0, 0, 108), (17, 2, 13, 15, 109), (5, 0, 0, 0, 112), (6, 6, 0, 0, 113), (80, 0, 0, 64, 115), (2, 1, 0, 0, 118), (17, 2, 14, 18, 119), (5, 0, 0, 0, 122), (2, 0, 0, 0, 123), (17, 2, 14, 18, 124), (5, 0, 0, 0, 127), (6, 7, 0, 0, 128), (80, 0, 0, 64, 130), (69, 0, 0, 0, 133)] [.ref (b + (9 + 4 * i)), .ref (d + (9 + 4 * i))] [] G (wr M b V1) ∧ (∀ c, c ≠ 9 + 4 * i → V1 c = V c) ∧ V1 (9 + 4 * i) 0 = V (9 + 4 * i) 0 ∧ (∀ f, 1 ≤ f → f < 12 → V1 (9 + 4 * i) f = M (d + (9 + 4 * i)) f) := by
    refine ⟨_, e, fun c hc => ?_, ?_, fun f f1 f2 => ?_⟩
    · simp only [z_w_c _ _ _ _ _ hc]
    · simp (disch := omega) only [z_w_n]
    · rcases (show f = 1 ∨ f = 2 ∨ f = 3 ∨ f = 4 ∨ f = 5 ∨ f = 6 ∨ f = 7 ∨ f = 8 ∨ f = 9 ∨ f = 10 ∨ f = 11 by omega) with e | e | e | e | e | e | e | e | e | e | e <;> subst e <;> simp (disch := omega) only [z_w_n, z_w_s]
  obtain ⟨V1, e1, q1, q2, q3⟩ := hV1
  refine ⟨z_sA (z_sA (z_sA V1 (10 + 4 * i) (va_cpy (M (d + (10 + 4 * i))) (V1 (10 + 4 * i)) 0 0 6)) (11 + 4 * i) (va_cpy (M (d + (11 + 4 * i))) (V1 (11 + 4 * i)) 0 0 6)) (12 + 4 * i) (va_cpy (M (d + (12 + 4 * i))) (V1 (12 + 4 * i)) 0 0 7), ?_, fun c hc => ?_, ?_, fun f f1 f2 => ?_, fun k hk => ?_, fun k hk => ?_, fun k hk => ?_⟩
  · rw [e1]
    simp (disch := first | assumption | omega) only [xo_2_0, xo_2_1, xo_5, xo_6, xo_69, xw_17b_12 hW, xw_17b_13 hW, xw_17b_14 hW, xv_17b_12 hW hD dj, xv_17b_13 hW hD dj, xv_17b_14 hW hD dj, xv_80_l hW hD dj, xv_80_k hW hD dj, xv_80_t hW hD dj, z_sA_n]
  · rw [z_sA_n _ _ _ _ (by omega), z_sA_n _ _ _ _ (by omega), z_sA_n _ _ _ _ (by omega)]; exact q1 c (by omega)
  · rw [z_sA_n _ _ _ _ (by omega), z_sA_n _ _ _ _ (by omega), z_sA_n _ _ _ _ (by omega)]; exact q2
  · rw [z_sA_n _ _ _ _ (by omega), z_sA_n _ _ _ _ (by omega), z_sA_n _ _ _ _ (by omega)]; exact q3 f f1 f2
  · rw [z_sA_n _ _ _ _ (by omega), z_sA_n _ _ _ _ (by omega), z_sA_s, pk_cpy_in (by omega) (by omega)]; congr 1; omega
  · rw [z_sA_n _ _ _ _ (by omega), z_sA_s, pk_cpy_in (by omega) (by omega)]; congr 1; omega
  · rw [z_sA_s, pk_cpy_in (by omega) (by omega)]; congr 1; omega
theorem s_A_copyFrom (hW : z_HW G b) (hD : z_HW G d) (dj : d + 41 ≤ b ∨ b + 41 ≤ d) (M V : zM) {sz : Nat} (hsz : sz ≤ 600) (hs : M (d + 4) 1 = nI sz) : ∃ V', z_call 26 [.ref (b + 4), .ref (d + 4)] G (wr M b V) = some (.inl none, G, wr M b V') ∧ (∀ c, c ≠ 4 → c ≠ 5 → c ≠ 6 → c ≠ 7 → V' c = V c) ∧ (∀ f, 1 ≤ f → f < 4 → V' 4 f = M (d + 4) f) ∧ (∀ a, a < sz * 12 → V' 5 a = M (d + 5) a) ∧ (∀ k, k < 8 → V' 6 k = M (d + 6) k) ∧ (∀ k, k < 8 → V' 7 k = M (d + 7) k) := by
  refine ⟨z_sA (z_sA (z_w (z_w (z_w (z_sA V 5 (va_cpy (M (d + 5)) (V 5) 0 0 (sz * 12))) 4 1 (nI sz)) 4 2 (M (d + 4) 2)) 4 3 (M (d + 4) 3)) 6 (va_cpy (M (d + 6)) (V 6) 0 0 8)) 7 (va_cpy (M (d + 7)) (V 7) 0 0 8), ?_, fun c h4 h5 h6 h7 => ?_, fun f f1 f2 => ?_, fun a ha => ?_, fun k hk => ?_, fun k hk => ?_⟩
  · simp (disch := first | assumption | omega) only [ze_A_copyFrom, zk_A_copyFrom_0, xo_2_0, xo_2_1, xo_5, xo_6, xo_22, xo_69, xw_17a_0 hW, xw_17a_4 hW, xw_17a_5 hW, xv_17a_0 hW hD dj, xv_17a_4 hW hD dj, xv_17a_5 hW hD dj, xv_16a hW hD dj, xw_18a hW, hs, pk_mul, xv_80_5 hW hD dj, xv_80_6 hW hD dj, xv_80_7 hW hD dj, z_sA_n, z_w_c]
  · rw [z_sA_n _ _ _ _ h7, z_sA_n _ _ _ _ h6, z_w_c _ _ _ _ _ h4, z_w_c _ _ _ _ _ h4, z_w_c _ _ _ _ _ h4, z_sA_n _ _ _ _ h5]
  · rw [z_sA_n _ _ _ _ (by omega), z_sA_n _ _ _ _ (by omega)]
    rcases (show f = 1 ∨ f = 2 ∨ f = 3 by omega) with e | e | e
    · subst e; rw [z_w_n _ _ _ _ _ _ (by omega), z_w_n _ _ _ _ _ _ (by omega), z_w_s, hs]
    · subst e; rw [z_w_n _ _ _ _ _ _ (by omega), z_w_s]
    · subst e; rw [z_w_s]
  · rw [z_sA_n _ _ _ _ (by omega), z_sA_n _ _ _ _ (by omega), z_w_c _ _ _ _ _ (by omega), z_w_c _ _ _ _ _ (by omega), z_w_c _ _ _ _ _ (by omega), z_sA_s, pk_cpy_in (by omega) (by omega)]; congr 1; omega
  · rw [z_sA_n _ _ _ _ (by omega), z_sA_s, pk_cpy_in (by omega) (by omega)]; congr 1; omega
  · rw [z_sA_s, pk_cpy_in (by omega) (by omega)]; congr 1; omega
theorem s_W_copyFrom {fl : Bool} {n J B Bf : Nat} {s : Nat → Int32} (hW : z_HW G b) (hD : z_HW G d) (dj : d + 41 ≤ b ∨ b + 41 ≤ d) (M V : zM) (h : z_R fl (0, 0) n B (fun k => M (d + k)) s) (hF : z_F n J Bf s) (hN : ∀ i, i < 8 → V (9 + 4 * i) 0 = nI i) : ∃ V', z_call 25 [.ref b, .ref d] G (wr M b V) = some (.inl none, G, wr M b V') ∧ z_R fl (0, 0) n B V' s := by
  have hn : n ≤ 8 := hF.1.1.2
  obtain ⟨h0, h1, h2, h3, h4, h5⟩ := id h
  obtain ⟨q1, q2, q3, q4, q5, q6, q7⟩ := id h0
  obtain ⟨gk, sz, g1, g2, g3, g4, g5, g6, g7, g8, g9⟩ := id h4
  have hMn : M d 0 = nI n := by have := q1.trans hF.1.1.1; exact this
  -- what is copied ahead of the letters
  have hV1 : ∃ V1, z_call 25 [.ref b, .ref d] G (wr M b V) = z_ex 25 [(2, 0, 0, 0, 79), (17, 5, 6, 27, 80), (2, 1, 0, 0, 83), (17, 5, 6, 27, 84), (64, 26, 2, 82, 87), (5, 0, 0, 0, 90), (10, 2, 0, 0, 91), (55, 92, 0, 0, 92)] [.ref b, .ref d, .null] [] G (wr M b V1) ∧ (∀ c, c ≠ 0 → c ≠ 1 → c ≠ 2 → c ≠ 8 → V1 c = V c) ∧ (V1 0 0 = M d 0 ∧ V1 0 1 = M d 1 ∧ V1 0 2 = M d 2 ∧ V1 0 8 = M d 8) ∧ (∀ k, k < 4 → V1 1 k = M (d + 1) k) ∧ (∀ k, k < 8 → V1 2 k = M (d + 2) k) ∧ (∀ k, k < 160 → V1 8 k = M (d + 8) k) := by
    refine ⟨z_sA (z_sA (z_sA (z_w (z_w (z_w (z_w V 0 0 (M d 0)) 0 1 (M d 1)) 0 2 (M d 2)) 0 8 (M d 8)) 1 (va_cpy (M (d + 1)) (V 1) 0 0 4)) 2 (va_cpy (M (d + 2)) (V 2) 0 0 8)) 8 (va_cpy (M (d + 8)) (V 8) 0 0 160), ?_, fun c c0 c1 c2 c8 => ?_, ⟨?_, ?_, ?_, ?_⟩, fun k hk => ?_, fun k hk => ?_, fun k hk => ?_⟩
    · simp (disch := first | assumption | omega) only [ze_W_copyFrom, zk_W_copyFrom_0, xo_2_0, xo_2_1, xo_5, xo_6, xw_17w_3 hW, xw_17w_4 hW, xw_17w_7 hW, xv_17w_3 hW hD dj, xv_17w_4 hW hD dj, xv_17w_7 hW hD dj, xv_16w hW hD dj, xw_18w hW, xw_36_8 hW, xv_80_1 hW hD dj, xv_80_2 hW hD dj, xv_80_8 hW hD dj, z_sA_n, z_w_c]
    · rw [z_sA_n _ _ _ _ c8, z_sA_n _ _ _ _ c2, z_sA_n _ _ _ _ c1, z_w_c _ _ _ _ _ c0, z_w_c _ _ _ _ _ c0, z_w_c _ _ _ _ _ c0, z_w_c _ _ _ _ _ c0]
    · rw [z_sA_n _ _ _ _ (by omega), z_sA_n _ _ _ _ (by omega), z_sA_n _ _ _ _ (by omega)]; simp (disch := omega) only [z_w_n, z_w_s]
    · rw [z_sA_n _ _ _ _ (by omega), z_sA_n _ _ _ _ (by omega), z_sA_n _ _ _ _ (by omega)]; simp (disch := omega) only [z_w_n, z_w_s]
    · rw [z_sA_n _ _ _ _ (by omega), z_sA_n _ _ _ _ (by omega), z_sA_n _ _ _ _ (by omega)]; simp (disch := omega) only [z_w_n, z_w_s]
    · rw [z_sA_n _ _ _ _ (by omega), z_sA_n _ _ _ _ (by omega), z_sA_n _ _ _ _ (by omega)]; simp (disch := omega) only [z_w_n, z_w_s]
    · rw [z_sA_n _ _ _ _ (by omega), z_sA_n _ _ _ _ (by omega), z_sA_s, pk_cpy_in (by omega) (by omega)]; congr 1; omega
    · rw [z_sA_n _ _ _ _ (by omega), z_sA_s, pk_cpy_in (by omega) (by omega)]; congr 1; omega
    · rw [z_sA_s, pk_cpy_in (by omega) (by omega)]; congr 1; omega
  obtain ⟨V1, e1, a1, ⟨a20, a21, a22, a28⟩, a3, a4, a5⟩ := hV1
  obtain ⟨V2, e2, b1, b2, b3, b4, b5⟩ := s_A_copyFrom hW hD dj M V1 (sz := sz) g1 g2
  have h20 : V2 0 0 = nI n := by rw [b1 0 (by omega) (by omega) (by omega) (by omega), a20]; exact hMn
  obtain ⟨V3, e3, c0, c1, c2, c3⟩ := z_sim (fun i U => z_ex 25 (z_blk 25 92) [.ref b, .ref d, .int (nI i)] [] G (wr M b U)) (fun _ (a : Unit) => a) (fun i U _ => (∀ c, c < 9 → U c = V2 c) ∧ (∀ j, i ≤ j → j < 8 → U (9 + 4 * j) = V2 (9 + 4 * j)) ∧ (∀ j, j < 8 → U (9 + 4 * j) 0 = V2 (9 + 4 * j) 0) ∧ (∀ j, j < i → (∀ f, 1 ≤ f → f < 12 → U (9 + 4 * j) f = M (d + (9 + 4 * j)) f) ∧ (∀ k, k < 6 → U (10 + 4 * j) k = M (d + (10 + 4 * j)) k) ∧ (∀ k, k < 6 → U (11 + 4 * j) k = M (d + (11 + 4 * j)) k) ∧ (∀ k, k < 7 → U (12 + 4 * j) k = M (d + (12 + 4 * j)) k))) n (by
    intro i U _ hi hI
    obtain ⟨i0, i1, i2, i3⟩ := hI
    have hi8 : i < 8 := by omega
    have hlt : nI i < nI n := nI_lt hi (by omega)
    have hU0 : U 0 0 = nI n := by rw [i0 0 (by omega)]; exact h20
    obtain ⟨U', e, u1, u2, u3, u4, u5, u6⟩ := s_B_copyFrom hW hD dj M U hi8
    refine ⟨U', ?_, fun c hc => by rw [u1 c (by omega)]; exact i0 c hc, fun j j1 j2 => by rw [u1 _ (by omega)]; exact i1 j (by omega) j2, fun j hj => ?_, fun j hj => ?_⟩
    · conv => lhs; rw [zk_W_copyFrom_92]
      simp (disch := first | assumption | omega | exact Nat.le_of_ble_eq_true rfl | decide) only [xo_2_0, xo_2_1, xw_16w hW, xw_18w hW, xw_17w_3 hW, xw_17w_4 hW, xw_17w_7 hW, xw_17w_6 hW, xw_17w_5 hW, xo_5, xo_80, xo_6, xw_36_1 hW, xw_36_2 hW, xw_36_8 hW, xo_36, xw_64a_2 hW, xw_64b_2 hW, xk_v, xk_n, xo_10_2i, xo_10_2r, xo_10_2n, xo_55, xo_0_2, xo_45, zk_W_copyFrom_100, xw_34 hW, xo_15_2i, xo_15_2r, xo_15_2n, xo_54, xo_69, xv_17w_5 hW hD dj, xv_34 hW hD dj, nI_add, pk_mul, Nat.add_zero, hU0, hlt, if_true, if_false, eq_self, Bool.true_eq_false, Bool.false_eq_true, e]
    · by_cases e : j = i
      · subst e; rw [u2]; exact i2 j hj
      · rw [u1 _ (by omega)]; exact i2 j hj
    · by_cases e : j = i
      · subst e; exact ⟨u3, u4, u5, u6⟩
      · rw [u1 _ (by omega), u1 _ (by omega), u1 _ (by omega), u1 _ (by omega)]; exact i3 j (by omega)) n 0 V2 () (by omega) ⟨fun _ _ => rfl, fun _ _ _ => rfl, fun _ _ => rfl, fun j hj => absurd hj (Nat.not_lt_zero j)⟩
  have hltn : ¬ nI n < nI n := nI_nlt (Nat.le_refl _) (by omega)
  have h30 : V3 0 0 = nI n := by rw [c0 0 (by omega)]; exact h20
  refine ⟨V3, ?_, ?_⟩
  · rw [e1]
    have : z_ex 25 [(2, 0, 0, 0, 79), (17, 5, 6, 27, 80), (2, 1, 0, 0, 83), (17, 5, 6, 27, 84), (64, 26, 2, 82, 87), (5, 0, 0, 0, 90), (10, 2, 0, 0, 91), (55, 92, 0, 0, 92)] [.ref b, .ref d, .null] [] G (wr M b V1) = z_ex 25 (z_blk 25 92) [.ref b, .ref d, .int (nI 0)] [] G (wr M b V2) := by
      simp (disch := first | assumption | omega | exact Nat.le_of_ble_eq_true rfl | decide) only [xo_2_0, xo_2_1, xw_17w_6 hW, xv_17w_6 hW hD dj, xw_64a_2 hW, e2, xk_n, xo_5, xo_10_2i, xo_10_2r, xo_10_2n, xo_55]
    rw [this]
    refine e3.trans ?_
    conv => lhs; rw [zk_W_copyFrom_92]
    simp (disch := first | assumption | omega | exact Nat.le_of_ble_eq_true rfl | decide) only [xo_2_0, xo_2_1, xw_16w hW, xw_18w hW, xw_17w_3 hW, xw_17w_4 hW, xw_17w_7 hW, xw_17w_6 hW, xw_17w_5 hW, xo_5, xo_80, xo_6, xw_36_1 hW, xw_36_2 hW, xw_36_8 hW, xo_36, xw_64a_2 hW, xw_64b_2 hW, xk_v, xk_n, xo_10_2i, xo_10_2r, xo_10_2n, xo_55, xo_0_2, xo_45, xw_34 hW, xo_15_2i, xo_15_2r, xo_15_2n, xo_54, zk_W_copyFrom_121, xo_69, nI_add, pk_mul, Nat.add_zero, h30, hltn, if_true, if_false, eq_self, Bool.true_eq_false, Bool.false_eq_true]
  · have k0 : ∀ f, f = 0 ∨ f = 1 ∨ f = 2 ∨ f = 8 → V3 0 f = M d f := fun f hf => by
      rw [c0 0 (by omega), b1 0 (by omega) (by omega) (by omega) (by omega)]
      rcases hf with e | e | e | e <;> subst e
      · exact a20
      · exact a21
      · exact a22
      · exact a28
    have k1 : ∀ k, k < 4 → V3 1 k = M (d + 1) k := fun k hk => by rw [c0 1 (by omega), b1 1 (by omega) (by omega) (by omega) (by omega)]; exact a3 k hk
    have k2 : ∀ k, k < 8 → V3 2 k = M (d + 2) k := fun k hk => by rw [c0 2 (by omega), b1 2 (by omega) (by omega) (by omega) (by omega)]; exact a4 k hk
    have k8 : ∀ k, k < 160 → V3 8 k = M (d + 8) k := fun k hk => by rw [c0 8 (by omega), b1 8 (by omega) (by omega) (by omega) (by omega)]; exact a5 k hk
    have k4 : ∀ f, 1 ≤ f → f < 4 → V3 4 f = M (d + 4) f := fun f f1 f2 => by rw [c0 4 (by omega)]; exact b2 f f1 f2
    have k5 : ∀ a, a < sz * 12 → V3 5 a = M (d + 5) a := fun a ha => by rw [c0 5 (by omega)]; exact b3 a ha
    have k6 : ∀ k, k < 8 → V3 6 k = M (d + 6) k := fun k hk => by rw [c0 6 (by omega)]; exact b4 k hk
    have k7 : ∀ k, k < 8 → V3 7 k = M (d + 7) k := fun k hk => by rw [c0 7 (by omega)]; exact b5 k hk
    have kN : ∀ j, j < 8 → V3 (9 + 4 * j) 0 = nI j := fun j hj => by
      rw [c2 j hj, b1 _ (by omega) (by omega) (by omega) (by omega), a1 _ (by omega) (by omega) (by omega) (by omega)]; exact hN j hj
    refine ⟨⟨by rw [k0 0 (by omega)]; exact q1, by rw [k0 1 (by omega)]; exact q2, by rw [k0 2 (by omega)]; exact q3, fun k hk => by rw [k1 k hk]; exact q4 k hk, by rw [k4 3 (by omega) (by omega)]; exact q5, fun k hk => by rw [k6 k hk]; exact q6 k hk, fun k hk => by rw [k7 k hk]; exact q7 k hk⟩, fun i hi => ?_, fun i hi => ?_, fun e i hi => ?_, ?_, ?_⟩
    · obtain ⟨⟨w, w1, w2, w3⟩, w4⟩ := h1 i hi
      exact ⟨⟨w, w1, by rw [k2 i (by omega)]; exact w2, w3⟩, w4⟩
    · obtain ⟨p1, p2, ⟨a, r1, r2, r3⟩, p4⟩ := h2 i hi
      obtain ⟨t1, _, _, _⟩ := c3 i hi
      exact ⟨kN i (by omega), by rw [t1 1 (by omega) (by omega)]; exact p2, ⟨a, r1, by rw [t1 2 (by omega) (by omega)]; exact r2, r3⟩, fun f f3 f12 => by rw [t1 f (by omega) f12]; exact p4 f f3 f12⟩
    · obtain ⟨p1, p2, p3⟩ := h3 e i hi
      obtain ⟨_, t2, t3, t4⟩ := c3 i hi
      exact ⟨fun k hk => by rw [t2 k hk]; exact p1 k hk, fun k hk => by rw [t3 k hk]; exact p2 k hk, fun k hk => by rw [t4 k hk]; exact p3 k hk⟩
    · refine ⟨rfl, sz, g1, by rw [k4 1 (by omega) (by omega)]; exact g2, g3, g4, by rw [k4 2 (by omega) (by omega)]; exact g5, g6, g7, fun j hj => absurd hj (Nat.not_lt_zero j), fun j j1 j2 => ?_⟩
      exact z_LR_eq (g9 j j1 j2) (fun t ht => by rw [k5 _ (by omega)]) (fun _ _ => rfl)
    · obtain ⟨⟨c, r1, r2, r3, r4⟩, r5⟩ := h5
      refine ⟨⟨c, r1, by rw [k0 8 (by omega)]; exact r2, r3, fun p hp f hf => ?_⟩, kN⟩
      have hm : (c - min c 40 + p) % 40 < 40 := Nat.mod_lt _ (by omega)
      rw [k8 _ (by omega)]; exact r4 p hp f hf
end
