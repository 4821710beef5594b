/-! ===== the class's reader: a line ===== -/
theorem y_ln6 (T : Nat → Int32) (a e : Nat) : y_ln T a e ≤ 6 := by unfold y_ln; (repeat' split) <;> omega
theorem rks_b {T : Nat → Int32} {sz : Nat} : ∀ r i S a S' b, a ≤ sz → y_rks T sz r i S a = .inr (S', b) → a ≤ b := by
  intro r
  induction r with
  | zero => intro i S a S' b _ h; cases h; exact Nat.le_refl _
  | succ r ih =>
    intro i S a S' b ha h
    unfold y_rks at h
    generalize hq : y_num T sz 0 99 a = q at h
    rcases q with f | ⟨c, v, p⟩
    · cases h
    · have nb := num_b ha hq
      dsimp only at h
      split at h
      · cases h
      · have := ih _ _ _ _ _ nb.1 h
        omega
theorem t1_b {T : Nat → Int32} {sz lo hi a k b : Nat} {S S' : Nat → Int32} (ha : a ≤ sz) (h : y_t1 S k (y_num T sz lo hi a) = .inr (S', b)) : a ≤ b := by
  generalize hq : y_num T sz lo hi a = q at h
  rcases q with f | ⟨c, v, p⟩
  · cases h
  · have nb := num_b ha hq
    cases h
    omega
theorem tl_b {T : Nat → Int32} {sz n L a b : Nat} {S S' : Nat → Int32} (ha : a ≤ sz) (h : y_tl T sz n S L a = .inr (S', b)) : a ≤ b ∧ y_ln T a (y_we T (sz - a) a) < 6 := by
  have wb := we_b T (sz - a) a
  have l6 := y_ln6 T a (y_we T (sz - a) a)
  unfold y_tl at h
  generalize y_we T (sz - a) a = e at wb l6 h ⊢
  generalize y_ln T a e = k at l6 h ⊢
  split at h
  · cases h
  · split at h
    · cases h
    · split at h
      · have := rks_b _ _ _ _ _ _ (by omega) h; omega
      · split at h
        · have := t1_b (by omega) h; omega
        · have := t1_b (by omega) h; omega
theorem lt_a : ∀ L, L < 64 → ∀ k, k < 6 → (nI L &&& (nI 1 <<< (nI k &&& 31)) = 0 ↔ L.testBit k = false) := by decide +kernel
theorem lt_o : ∀ L, L < 64 → ∀ k, k < 6 → nI L ||| (nI 1 <<< (nI k &&& 31)) = nI (L ||| 2 ^ k) ∧ L ||| 2 ^ k < 64 := by decide +kernel
section
variable {G : zG} {sz a n L : Nat}
theorem c_T_takeLine (hT : z_HT G) (M : zM) (h4 : M 35 4 = nI sz) (hsz : sz ≤ 200) (h5 : M 35 5 = nI a) (ha : a ≤ sz) (hY : ∀ k, k < sz → ∃ u, u < 256 ∧ M 33 k = nI u) {S : Nat → Int32} (hS : z_SU n M S) (hn : n ≤ 8) (hSt : z_St G M) (h8 : M 35 8 = nI L) (hL : L < 64) : ∃ M', z_call 70 [.ref 35] G M = some (.inl (some (.int (z_b (y_tl (M 33) sz n S L a).isRight))), G, M') ∧ z_TS M M' ∧ (∀ S' b, y_tl (M 33) sz n S L a = .inr (S', b) → M' 35 8 = nI (L ||| 2 ^ y_ln (M 33) a (y_we (M 33) (sz - a) a))) ∧ z_Yo n sz M' (y_tl (M 33) sz n S L a) := by
  have c1 := c_T_wordEnd hT M h4 hsz h5 ha
  have wb := we_b (M 33) (sz - a) a
  have c2 := c_T_lineOf hT M h5 (e := y_we (M 33) (sz - a) a) (by omega) (by omega)
  have l6 := y_ln6 (M 33) a (y_we (M 33) (sz - a) a)
  unfold y_tl
  generalize y_we (M 33) (sz - a) a = e at c1 c2 wb l6
  generalize y_ln (M 33) a e = k at c2 l6
  have hT0 := hT
  obtain ⟨k35, ⟨r0, r3⟩, k36, ⟨s2, s3⟩, ⟨p1, p2⟩, ⟨p3, p4⟩, p5, p6⟩ := id hT; have kt : ∀ a, z_rc a = 4 → z_kd G 35 = (0, z_rc a) := fun a h => (by rw [h]; exact k35)
  have h0 : z_rf G 35 0 ≠ 0 := by omega
  by_cases hk6 : k = 6
  · subst hk6
    rw [if_pos rfl]
    have lv : y_lv 6 = nI 4294967295 := rfl
    rw [lv] at c2
    have hf := c_T_fails hT0 M (nI 1) (nI a)
    refine ⟨tf M (nI 1) (nI a), ?_, TS_T (T_tf _ _ _), fun S' b q => (by cases q), fun k' p' q => (by cases q; exact tf_12 _ _ _), fun S' b q => (by cases q)⟩
    simp (disch := first | assumption | exact kt _ rfl | omega | exact Nat.le_of_ble_eq_true rfl | decide) only [ze_T_takeLine, zk_T_takeLine_0, xo_2_0, xo_64_1, xk_v, xk_n, xo_10_1i, xo_10_1r, xo_10_1n, xo_0_1, xo_64_2, xo_10_2i, xo_10_2r, xo_10_2n, xo_0_2, xo_5, xo_43, zk_T_takeLine_16, xo_16, xo_64_3, xo_72a, xo_72b, xo_26, xo_23, xo_48, xo_39i, xo_39r, xo_24, xo_18, xo_49, xo_6, xo_10_3i, xo_10_3r, xo_10_3n, xo_17, xo_0_3, xo_21, c1, c2, h5, hf, if_true, if_false, eq_self, Bool.true_eq_false, Bool.false_eq_true]
    rfl
  · rw [if_neg hk6]
    have hk : k < 6 := by omega
    have lv : y_lv k = nI k := if_neg hk6
    rw [lv] at c2
    have kn := nIm k (by omega)
    by_cases ht : L.testBit k = true
    · rw [if_pos ht]
      have hz : (nI L &&& (nI 1 <<< (nI k &&& 31)) = 0) = False := eq_false (fun q => by rw [(lt_a L hL k hk).mp q] at ht; exact absurd ht (by decide))
      have hf := c_T_fails hT0 M (nI 4) (nI a)
      refine ⟨tf M (nI 4) (nI a), ?_, TS_T (T_tf _ _ _), fun S' b q => (by cases q), fun k' p' q => (by cases q; exact tf_12 _ _ _), fun S' b q => (by cases q)⟩
      simp (disch := first | assumption | exact kt _ rfl | omega | exact Nat.le_of_ble_eq_true rfl | decide) only [ze_T_takeLine, zk_T_takeLine_0, xo_2_0, xo_64_1, xk_v, xk_n, xo_10_1i, xo_10_1r, xo_10_1n, xo_0_1, xo_64_2, xo_10_2i, xo_10_2r, xo_10_2n, xo_0_2, xo_5, xo_43, xo_16, xo_64_3, xo_72a, xo_72b, zk_T_takeLine_26, xo_26, xo_23, xo_48, zk_T_takeLine_37, xo_39i, xo_39r, xo_24, xo_18, xo_49, xo_6, xo_10_3i, xo_10_3r, xo_10_3n, xo_17, xo_0_3, xo_21, c1, c2, kn, h5, h8, hz, hf, if_true, if_false, eq_self, Bool.true_eq_false, Bool.false_eq_true]
      rfl
    · rw [if_neg ht]
      have ht' : L.testBit k = false := by simpa using ht
      have hz : (nI L &&& (nI 1 <<< (nI k &&& 31)) = 0) = True := eq_true ((lt_a L hL k hk).mpr ht')
      obtain ⟨ho, ho2⟩ := lt_o L hL k hk
      have eM : ∀ x y, z_sA (z_sA M 35 x) 35 y = z_sA M 35 y := fun x y => z_sA_sA _ _ _ _
      have b4 : z_sA M 35 (z_u (z_u (M 35) 8 (nI (L ||| 2 ^ k))) 5 (nI e)) 35 4 = nI sz := by rw [z_sA_s, z_u_n _ _ _ _ (by omega), z_u_n _ _ _ _ (by omega)]; exact h4
      have b5 : z_sA M 35 (z_u (z_u (M 35) 8 (nI (L ||| 2 ^ k))) 5 (nI e)) 35 5 = nI e := by rw [z_sA_s, z_u_s]
      have b8 : z_sA M 35 (z_u (z_u (M 35) 8 (nI (L ||| 2 ^ k))) 5 (nI e)) 35 8 = nI (L ||| 2 ^ k) := by rw [z_sA_s, z_u_n _ _ _ _ (by omega), z_u_s]
      have bo : ∀ q, q ≠ 35 → z_sA M 35 (z_u (z_u (M 35) 8 (nI (L ||| 2 ^ k))) 5 (nI e)) q = M q := fun q hq => z_sA_n _ _ _ _ hq
      have e0 : z_call 70 [.ref 35] G M = z_ex 70 (if nI k = 0 then z_blk 70 68 else z_blk 70 73) [.ref 35, .int (nI e), .int (nI k), .null] [] G (z_sA M 35 (z_u (z_u (M 35) 8 (nI (L ||| 2 ^ k))) 5 (nI e))) := by
        by_cases hk1 : nI k = 0
        · have hk0 : (nI k = 0) = True := eq_true hk1
          simp (disch := first | assumption | exact kt _ rfl | omega | exact Nat.le_of_ble_eq_true rfl | decide) only [ze_T_takeLine, zk_T_takeLine_0, xo_2_0, xo_64_1, xk_v, xk_n, xo_10_1i, xo_10_1r, xo_10_1n, xo_0_1, xo_64_2, xo_10_2i, xo_10_2r, xo_10_2n, xo_0_2, xo_5, xo_43, xo_16, xo_64_3, xo_72a, xo_72b, zk_T_takeLine_26, xo_26, xo_23, xo_48, zk_T_takeLine_47, xo_39i, xo_39r, xo_24, xo_18, xo_49, xo_6, xo_10_3i, xo_10_3r, xo_10_3n, xo_17, xo_0_3, xo_21, c1, c2, kn, h5, h8, hz, ho, z_sA_s, z_sA_sA, hk0, if_true, if_false, eq_self, Bool.true_eq_false, Bool.false_eq_true]
        · have hk0 : (nI k = 0) = False := eq_false hk1
          simp (disch := first | assumption | exact kt _ rfl | omega | exact Nat.le_of_ble_eq_true rfl | decide) only [ze_T_takeLine, zk_T_takeLine_0, xo_2_0, xo_64_1, xk_v, xk_n, xo_10_1i, xo_10_1r, xo_10_1n, xo_0_1, xo_64_2, xo_10_2i, xo_10_2r, xo_10_2n, xo_0_2, xo_5, xo_43, xo_16, xo_64_3, xo_72a, xo_72b, zk_T_takeLine_26, xo_26, xo_23, xo_48, zk_T_takeLine_47, xo_39i, xo_39r, xo_24, xo_18, xo_49, xo_6, xo_10_3i, xo_10_3r, xo_10_3n, xo_17, xo_0_3, xo_21, c1, c2, kn, h5, h8, hz, ho, z_sA_s, z_sA_sA, hk0, if_true, if_false, eq_self, Bool.true_eq_false, Bool.false_eq_true]
      generalize z_sA M 35 (z_u (z_u (M 35) 8 (nI (L ||| 2 ^ k))) 5 (nI e)) = M1 at e0 b4 b5 b8 bo
      have m33 : M1 33 = M 33 := bo 33 (by omega)
      have ts1 : z_TS M M1 := ⟨fun q hq => bo q (by omega), by rw [b4, h4]⟩
      have hS1 : z_SU n M1 S := by
        obtain ⟨⟨u1, u2⟩, u3, u4, u5⟩ := hS
        exact ⟨⟨by rw [bo 36 (by omega)]; exact u1, u2⟩, by rw [bo 36 (by omega)]; exact u3, fun j hj => by rw [bo 37 (by omega)]; exact u4 j hj, fun j hj => by rw [bo 38 (by omega)]; exact u5 j hj⟩
      have hY1 : ∀ k, k < sz → ∃ u, u < 256 ∧ M1 33 k = nI u := by rw [m33]; exact hY
      by_cases hk0 : k = 0
      · subst hk0
        rw [if_pos rfl]
        rw [if_pos (show nI 0 = 0 from rfl)] at e0
        obtain ⟨M', d1, d2, d3, d4⟩ := c_T_takeRanks hT0 hsz (M 33) hY hn n 0 S e M1 .null (by omega) hS1 b4 b5 (by omega) m33
        have er : z_call 72 [.ref 35] G M1 = some (.inl (some (.int (z_b (y_rks (M 33) sz n 0 S e).isRight))), G, M') := by
          rw [← d1]
          simp (disch := first | assumption | exact kt _ rfl | omega | exact Nat.le_of_ble_eq_true rfl | decide) only [ze_T_takeRanks, zk_T_takeRanks_0, xo_5, xo_10_1i, xo_10_1r, xo_10_1n, xo_55, xo_0_1, xo_2_0, xo_17, xo_16, xo_45, xo_6, xo_64_3, xk_v, xk_n, xo_49, xo_72a, xo_72b, xo_10_2i, xo_10_2r, xo_10_2n, xo_0_2, xo_32, xo_43, xo_15_2i, xo_15_2r, xo_15_2n, xo_54, xo_33, xo_15_1i, xo_15_1r, xo_15_1n, if_true, if_false, eq_self, Bool.true_eq_false, Bool.false_eq_true]
        refine ⟨M', ?_, TS_trans ts1 d2, fun S' b q => d3.trans b8, d4⟩
        rw [e0]
        simp (disch := first | assumption | exact kt _ rfl | omega | exact Nat.le_of_ble_eq_true rfl | decide) only [xo_2_0, xo_64_1, xk_v, xk_n, xo_10_1i, xo_10_1r, xo_10_1n, xo_0_1, xo_64_2, xo_10_2i, xo_10_2r, xo_10_2n, xo_0_2, xo_5, xo_43, xo_16, xo_64_3, xo_72a, xo_72b, xo_26, xo_23, xo_48, xo_39i, xo_39r, xo_24, xo_18, xo_49, zk_T_takeLine_68, xo_6, xo_10_3i, xo_10_3r, xo_10_3n, xo_17, xo_0_3, xo_21, er, xo_72z, if_true, if_false, eq_self, Bool.true_eq_false, Bool.false_eq_true]
      · rw [if_neg hk0]
        have kz : ¬ nI k = 0 := nI_ne0 (by omega) (by omega)
        rw [if_neg kz] at e0
        by_cases hk1 : k = 1
        · subst hk1
          rw [if_pos rfl]
          obtain ⟨M2, d1, d2, d3, d4⟩ := c_T_takeNumber hT0 M1 b4 hsz b5 (by omega) hY1 (lo := 1) (hi := 6) (by omega) (by omega)
          rw [m33] at d1 d3 d4
          have o35 : z_sA M2 36 (z_u (M2 36) 1 (M2 35 6)) 35 = M2 35 := z_sA_n _ _ _ _ (by omega)
          have rr : (y_t1 S 1 (y_num (M 33) sz 1 6 e)).isRight = (y_num (M 33) sz 1 6 e).isRight := by
            cases y_num (M 33) sz 1 6 e <;> rfl
          refine ⟨z_sA M2 36 (z_u (M2 36) 1 (M2 35 6)), ?_, TS_trans ts1 (TS_trans (TS_T d2) ⟨fun q hq => z_sA_n _ _ _ _ (by omega), by rw [o35]⟩), fun S' b q => by rw [o35]; exact (d2.2 8 (Or.inr rfl)).trans b8, fun k' p' q => ?_, fun S' b q => ?_⟩
          · rw [e0, rr]
            simp (disch := first | assumption | exact kt _ rfl | omega | exact Nat.le_of_ble_eq_true rfl | decide) only [xo_2_0, xo_64_1, xk_v, xk_n, xo_10_1i, xo_10_1r, xo_10_1n, xo_0_1, xo_64_2, xo_10_2i, xo_10_2r, xo_10_2n, xo_0_2, xo_5, xo_43, xo_16, xo_64_3, xo_72a, xo_72b, xo_26, xo_23, xo_48, xo_39i, xo_39r, xo_24, xo_18, xo_49, zk_T_takeLine_73, zk_T_takeLine_78, xo_6, xo_10_3i, xo_10_3r, xo_10_3n, xo_17, xo_0_3, xo_21, d1, r0, xo_72z, if_true, if_false, eq_self, Bool.true_eq_false, Bool.false_eq_true]
          · generalize hq : y_num (M 33) sz 1 6 e = w at q d3
            rcases w with ⟨k2, p2⟩ | ⟨b2, v2, p2⟩
            · cases q; rw [o35]; exact d3 _ _ rfl
            · cases q
          · generalize hq : y_num (M 33) sz 1 6 e = w at q d4
            rcases w with ⟨k2, p2⟩ | ⟨b2, v2, p2⟩
            · cases q
            · cases q
              have nb := num_b (by omega) hq
              obtain ⟨g5, g6, g7⟩ := d4 _ _ _ rfl
              refine ⟨by rw [o35]; exact g5, nb.1, ?_⟩
              obtain ⟨⟨u1, u2⟩, u3, u4, u5⟩ := SU_T hS1 d2
              exact ⟨⟨by rw [z_sA_s, z_u_n _ _ _ _ (by omega)]; exact u1, by rw [z_u_n _ _ _ _ (by omega)]; exact u2⟩, by rw [z_sA_s, z_u_s, z_u_s]; exact g6, fun j hj => by rw [z_sA_n _ _ _ _ (by omega), z_u_n _ _ _ _ (by omega)]; exact u4 j hj, fun j hj => by rw [z_sA_n _ _ _ _ (by omega), z_u_n _ _ _ _ (by omega)]; exact u5 j hj⟩
        · rw [if_neg hk1]
          have k1z : (nI k = nI 1) = False := eq_false (fun q => hk1 ((nI_eq (by omega) (by omega)).mp q))
          obtain ⟨j, hj⟩ : ∃ j, k = 2 + j := ⟨k - 2, by omega⟩
          subst hj
          rw [show 2 + j - 2 = j by omega]
          have hSt1 : z_St G M1 := fun p hp => by rw [bo p (by omega)]; exact hSt p hp
          obtain ⟨M', d1, d2, d3, d4⟩ := c_T_takeRule hT0 M1 b4 hsz b5 (by omega) hY1 hS1 hSt1 (k := j) (by omega)
          rw [m33] at d1 d4
          have es : nI (2 + j) - nI 2 = nI j := by rw [Nat.add_comm, ← nI_add, Int32.add_sub_cancel]
          refine ⟨M', ?_, TS_trans ts1 d2, fun S' b q => d3.trans b8, d4⟩
          rw [e0]
          simp (disch := first | assumption | exact kt _ rfl | omega | exact Nat.le_of_ble_eq_true rfl | decide) only [xo_2_0, xo_64_1, xk_v, xk_n, xo_10_1i, xo_10_1r, xo_10_1n, xo_0_1, xo_64_2, xo_10_2i, xo_10_2r, xo_10_2n, xo_0_2, xo_5, xo_43, xo_16, xo_64_3, xo_72a, xo_72b, xo_26, xo_23, xo_48, xo_39i, xo_39r, xo_24, xo_18, xo_49, zk_T_takeLine_73, xo_6, xo_10_3i, xo_10_3r, xo_10_3n, xo_17, xo_0_3, zk_T_takeLine_99, xo_21, k1z, es, d1, xo_72z, if_true, if_false, eq_self, Bool.true_eq_false, Bool.false_eq_true]
end
