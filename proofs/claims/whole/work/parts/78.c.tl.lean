/-! ===== the class's reader: lines ===== -/
def z_SU (n : Nat) (M : zM) (S : Nat → Int32) : Prop := (M 36 0 = nI n ∧ S 0 = nI n) ∧ M 36 1 = S 1 ∧ (∀ k, k < 4 → M 37 k = S (2 + k)) ∧ ∀ i, i < n → M 38 i = S (33 + i)
def z_TS (M M' : zM) : Prop := (∀ q, q < 35 ∨ 38 < q → M' q = M q) ∧ M' 35 4 = M 35 4
theorem TS_T {M M' : zM} (h : z_T M M') : z_TS M M' := ⟨fun q hq => h.1 q (by omega), h.2 4 (Or.inl rfl)⟩
theorem TS_trans {M M1 M2 : zM} (h : z_TS M M1) (g : z_TS M1 M2) : z_TS M M2 := ⟨fun q hq => (g.1 q hq).trans (h.1 q hq), g.2.trans h.2⟩
theorem SU_T {n : Nat} {M M' : zM} {S : Nat → Int32} (h : z_SU n M S) (g : z_T M M') : z_SU n M' S := by
  obtain ⟨⟨a, b⟩, c, d, e⟩ := h
  exact ⟨⟨by rw [g.1 36 (by omega)]; exact a, b⟩, by rw [g.1 36 (by omega)]; exact c, fun k hk => by rw [g.1 37 (by omega)]; exact d k hk, fun i hi => by rw [g.1 38 (by omega)]; exact e i hi⟩
def y_had (S : Nat → Int32) (v : Int32) : Nat → Nat → Bool
  | 0, _ => false
  | r + 1, j => if S (33 + j) = v then true else y_had S v r (j + 1)
def y_rks (T : Nat → Int32) (sz : Nat) : Nat → Nat → (Nat → Int32) → Nat → (Nat × Nat) ⊕ ((Nat → Int32) × Nat)
  | 0, _, S, a => .inr (S, a)
  | r + 1, i, S, a => match y_num T sz 0 99 a with
    | .inl f => .inl f
    | .inr (b, v, p) => if y_had S (nI v) i 0 = true then .inl (3, p) else y_rks T sz r (i + 1) (z_u S (33 + i) (nI v)) b
def y_lo (k : Nat) : Nat := if k = 2 then 0 else 1
def y_hi (k : Nat) : Nat := if k = 3 then 3 else 30
def y_t1 (S : Nat → Int32) (k : Nat) : (Nat × Nat) ⊕ (Nat × Nat × Nat) → (Nat × Nat) ⊕ ((Nat → Int32) × Nat)
  | .inl f => .inl f
  | .inr (b, v, _) => .inr (z_u S k (nI v), b)
def y_tl (T : Nat → Int32) (sz n : Nat) (S : Nat → Int32) (L a : Nat) : (Nat × Nat) ⊕ ((Nat → Int32) × Nat) :=
  if y_ln T a (y_we T (sz - a) a) = 6 then .inl (1, a) else if L.testBit (y_ln T a (y_we T (sz - a) a)) = true then .inl (4, a)
  else if y_ln T a (y_we T (sz - a) a) = 0 then y_rks T sz n 0 S (y_we T (sz - a) a)
  else if y_ln T a (y_we T (sz - a) a) = 1 then y_t1 S 1 (y_num T sz 1 6 (y_we T (sz - a) a))
  else y_t1 S (y_ln T a (y_we T (sz - a) a)) (y_num T sz (y_lo (y_ln T a (y_we T (sz - a) a) - 2)) (y_hi (y_ln T a (y_we T (sz - a) a) - 2)) (y_we T (sz - a) a))
theorem num_b {T : Nat → Int32} {sz lo hi a b v p : Nat} (ha : a ≤ sz) (h : y_num T sz lo hi a = .inr (b, v, p)) : b ≤ sz ∧ a < b ∧ v ≤ hi ∧ lo ≤ v := by
  have s1 := sk_b T (sz - a) a
  have s2 := nm_b T (sz - y_sk T (sz - a) a) (y_sk T (sz - a) a) 0
  unfold y_num at h
  split at h
  · cases h
  · split at h
    · cases h
      omega
    · cases h
/-- what a reading's end says of the memory -/
def z_Yo (n sz : Nat) (M' : zM) (o : (Nat × Nat) ⊕ ((Nat → Int32) × Nat)) : Prop := (∀ k p, o = .inl (k, p) → M' 35 1 = nI k ∧ M' 35 2 = nI p) ∧ ∀ S b, o = .inr (S, b) → M' 35 5 = nI b ∧ b ≤ sz ∧ z_SU n M' S
section
variable {G : zG} {sz a n : Nat}
theorem c_T_takeRanks (hT : z_HT G) (hsz : sz ≤ 200) (T : Nat → Int32) (hY : ∀ k, k < sz → ∃ u, u < 256 ∧ T k = nI u) (hn : n ≤ 8) : ∀ r i S a M w2, i + r = n → z_SU n M S → M 35 4 = nI sz → M 35 5 = nI a → a ≤ sz → M 33 = T → ∃ M', z_ex 72 (z_blk 72 2) [.ref 35, .int (nI i), w2] [] G M = some (.inl (some (.int (z_b (y_rks T sz r i S a).isRight))), G, M') ∧ z_TS M M' ∧ M' 35 8 = M 35 8 ∧ z_Yo n sz M' (y_rks T sz r i S a) := by
  have hfl : ∀ (M1 : zM) (k p : Int32), z_call 66 [.ref 35, .int k, .int p] G M1 = some (.inl (some (.int (nI 0))), G, tf M1 k p) := fun M1 k p => c_T_fails hT M1 k p
  have hnum := fun M h4 a h5 ha hY => c_T_takeNumber (G := G) (sz := sz) (a := a) hT M h4 hsz h5 ha hY (lo := 0) (hi := 99) (by omega) (by omega)
  obtain ⟨k35, ⟨r0, r3⟩, k36, ⟨s2, s3⟩, ⟨p1, p2⟩, ⟨p3, p4⟩, p5, p6⟩ := id hT; have kt : ∀ a, z_rc a = 4 → z_kd G 35 = (0, z_rc a) := fun a h => (by rw [h]; exact k35)
  have h0 : z_rf G 35 0 ≠ 0 := by omega
  have h3 : z_rf G 36 3 ≠ 0 := by omega
  intro r
  induction r with
  | zero =>
    intro i S a M w2 hi hS h4 h5 ha h33
    have hlt : ¬ nI i < nI n := nI_nlt (by omega) (by omega)
    have s0 := hS.1.1
    refine ⟨M, ?_, ⟨fun _ _ => rfl, rfl⟩, rfl, fun k p q => (by cases q), fun S' b q => (by cases q; exact ⟨h5, ha, hS⟩)⟩
    conv => lhs; rw [zk_T_takeRanks_2]
    simp (disch := first | assumption | exact kt _ rfl | omega | exact Nat.le_of_ble_eq_true rfl | decide) only [xo_5, xo_10_1i, xo_10_1r, xo_10_1n, xo_55, xo_0_1, xo_2_0, xo_17, xo_16, xo_45, xo_6, xo_64_3, xk_v, xk_n, xo_49, xo_72a, xo_72b, xo_10_2i, xo_10_2r, xo_10_2n, xo_0_2, xo_32, xo_43, xo_15_2i, xo_15_2r, xo_15_2n, xo_54, xo_33, xo_15_1i, xo_15_1r, xo_15_1n, zk_T_takeRanks_83, r0, s0, hlt, if_true, if_false, eq_self, Bool.true_eq_false, Bool.false_eq_true]
    rfl
  | succ r ih =>
    intro i S a M w2 hi hS h4 h5 ha h33
    have hlt : nI i < nI n := nI_lt (by omega) (by omega)
    have s0 := hS.1.1
    obtain ⟨M1, c1, t1, f1, g1⟩ := hnum M h4 a h5 ha (by rw [h33]; exact hY)
    rw [h33] at c1 f1 g1
    unfold y_rks
    generalize hq : y_num T sz 0 99 a = q at c1 f1 g1
    rcases q with ⟨k, p⟩ | ⟨b, v, p⟩
    · refine ⟨M1, ?_, TS_T t1, t1.2 8 (Or.inr rfl), fun k' p' q => (by cases q; exact f1 k p rfl), fun S' b q => (by cases q)⟩
      have c1' : z_call 67 [.ref 35, .int (nI 0), .int (nI 99)] G M = some (.inl (some (.int (nI 0))), G, M1) := c1
      conv => lhs; rw [zk_T_takeRanks_2]
      simp (disch := first | assumption | exact kt _ rfl | omega | exact Nat.le_of_ble_eq_true rfl | decide) only [xo_5, xo_10_1i, xo_10_1r, xo_10_1n, xo_55, xo_0_1, xo_2_0, xo_17, xo_16, xo_45, zk_T_takeRanks_13, xo_6, xo_64_3, xk_v, xk_n, xo_49, zk_T_takeRanks_23, xo_72a, xo_72b, xo_10_2i, xo_10_2r, xo_10_2n, xo_0_2, xo_32, xo_43, xo_15_2i, xo_15_2r, xo_15_2n, xo_54, xo_33, xo_15_1i, xo_15_1r, xo_15_1n, r0, s0, hlt, c1', zer0, if_true, if_false, eq_self, Bool.true_eq_false, Bool.false_eq_true]
      rfl
    · obtain ⟨nb1, nb2, nb3, nb4⟩ := num_b ha hq
      obtain ⟨g5, g6, g7⟩ := g1 b v p rfl
      have c1' : z_call 67 [.ref 35, .int (nI 0), .int (nI 99)] G M = some (.inl (some (.int (nI 1))), G, M1) := c1
      have hS1 := SU_T hS t1
      have e0 : z_ex 72 (z_blk 72 2) [.ref 35, .int (nI i), w2] [] G M = z_ex 72 (z_blk 72 27) [.ref 35, .int (nI i), .int (nI 0)] [] G M1 := by
        conv => lhs; rw [zk_T_takeRanks_2]
        simp (disch := first | assumption | exact kt _ rfl | omega | exact Nat.le_of_ble_eq_true rfl | decide) only [xo_5, xo_10_1i, xo_10_1r, xo_10_1n, xo_55, xo_0_1, xo_2_0, xo_17, xo_16, xo_45, zk_T_takeRanks_13, xo_6, xo_64_3, xk_v, xk_n, xo_49, xo_72a, xo_72b, zk_T_takeRanks_25, xo_10_2i, xo_10_2r, xo_10_2n, xo_0_2, xo_32, xo_43, xo_15_2i, xo_15_2r, xo_15_2n, xo_54, xo_33, xo_15_1i, xo_15_1r, xo_15_1n, r0, s0, hlt, c1', one0, if_true, if_false, eq_self, Bool.true_eq_false, Bool.false_eq_true]
      have el : ∀ u j, j + u = i → z_ex 72 (z_blk 72 27) [.ref 35, .int (nI i), .int (nI j)] [] G M1 = if y_had S (nI v) u j = true then some (.inl (some (.int (nI 0))), G, tf M1 (nI 3) (nI p)) else z_ex 72 (z_blk 72 64) [.ref 35, .int (nI i), .int (nI i)] [] G M1 := by
        intro u
        induction u with
        | zero =>
          intro j hj
          have hj' : j = i := by omega
          subst hj'
          have hl : ¬ nI j < nI j := nI_nlt (Nat.le_refl _) (by omega)
          conv => lhs; rw [zk_T_takeRanks_27]
          simp (disch := first | assumption | exact kt _ rfl | omega | exact Nat.le_of_ble_eq_true rfl | decide) only [xo_5, xo_10_1i, xo_10_1r, xo_10_1n, xo_55, xo_0_1, xo_2_0, xo_17, xo_16, xo_45, xo_6, xo_64_3, xk_v, xk_n, xo_49, xo_72a, xo_72b, xo_10_2i, xo_10_2r, xo_10_2n, xo_0_2, xo_32, xo_43, xo_15_2i, xo_15_2r, xo_15_2n, xo_54, xo_33, xo_15_1i, xo_15_1r, xo_15_1n, hl, y_had, if_true, if_false, eq_self, Bool.true_eq_false, Bool.false_eq_true]
        | succ u ihu =>
          intro j hj
          have hl : nI j < nI i := nI_lt (by omega) (by omega)
          have hk : j < (z_kd G 38).2 := by omega
          have ej := hS1.2.2.2 j (by omega)
          unfold y_had
          conv => lhs; rw [zk_T_takeRanks_27]
          by_cases hc : S (33 + j) = nI v
          · rw [if_pos hc, if_pos rfl]
            have hf := hfl M1 (nI 3) (nI p)
            simp (disch := first | assumption | exact kt _ rfl | omega | exact Nat.le_of_ble_eq_true rfl | decide) only [xo_5, xo_10_1i, xo_10_1r, xo_10_1n, xo_55, xo_0_1, xo_2_0, xo_17, xo_16, xo_45, xo_6, xo_64_3, xk_v, xk_n, xo_49, xo_72a, xo_72b, xo_10_2i, xo_10_2r, xo_10_2n, xo_0_2, zk_T_takeRanks_32, xo_32, xo_43, zk_T_takeRanks_48, xo_15_2i, xo_15_2r, xo_15_2n, xo_54, xo_33, xo_15_1i, xo_15_1r, xo_15_1n, hl, r0, s3, ej, g6, g7, hc, hf, if_true, if_false, eq_self, Bool.true_eq_false, Bool.false_eq_true]
          · rw [if_neg hc, ← ihu (j + 1) (by omega)]
            simp (disch := first | assumption | exact kt _ rfl | omega | exact Nat.le_of_ble_eq_true rfl | decide) only [xo_5, xo_10_1i, xo_10_1r, xo_10_1n, xo_55, xo_0_1, xo_2_0, xo_17, xo_16, xo_45, xo_6, xo_64_3, xk_v, xk_n, xo_49, xo_72a, xo_72b, xo_10_2i, xo_10_2r, xo_10_2n, xo_0_2, zk_T_takeRanks_32, xo_32, xo_43, zk_T_takeRanks_58, xo_15_2i, xo_15_2r, xo_15_2n, xo_54, xo_33, xo_15_1i, xo_15_1r, xo_15_1n, hl, r0, s3, ej, g6, hc, nI_add, if_true, if_false, eq_self, Bool.true_eq_false, Bool.false_eq_true]
      have e1 := el i 0 (by omega)
      dsimp only
      by_cases hh : y_had S (nI v) i 0 = true
      · rw [if_pos hh] at e1 ⊢
        refine ⟨tf M1 (nI 3) (nI p), by rw [e0, e1]; rfl, TS_T (T_trans t1 (T_tf _ _ _)), (T_trans t1 (T_tf _ _ _)).2 8 (Or.inr rfl), fun k' p' q => (by cases q; exact tf_12 _ _ _), fun S' b q => (by cases q)⟩
      · rw [if_neg hh] at e1 ⊢
        have hk : i < (z_kd G 38).2 := by omega
        have e2 : z_ex 72 (z_blk 72 64) [.ref 35, .int (nI i), .int (nI i)] [] G M1 = z_ex 72 (z_blk 72 2) [.ref 35, .int (nI (i + 1)), .int (nI i)] [] G (z_sA M1 38 (z_u (M1 38) i (nI v))) := by
          simp (disch := first | assumption | exact kt _ rfl | omega | exact Nat.le_of_ble_eq_true rfl | decide) only [xo_5, xo_10_1i, xo_10_1r, xo_10_1n, xo_55, xo_0_1, xo_2_0, xo_17, xo_16, xo_45, xo_6, xo_64_3, xk_v, xk_n, xo_49, xo_72a, xo_72b, xo_10_2i, xo_10_2r, xo_10_2n, xo_0_2, xo_32, xo_43, xo_15_2i, xo_15_2r, xo_15_2n, xo_54, zk_T_takeRanks_64, xo_33, xo_15_1i, xo_15_1r, xo_15_1n, r0, s3, g6, nI_add, if_true, if_false, eq_self, Bool.true_eq_false, Bool.false_eq_true]
        have o35 : z_sA M1 38 (z_u (M1 38) i (nI v)) 35 = M1 35 := z_sA_n _ _ _ _ (by omega)
        have hS2 : z_SU n (z_sA M1 38 (z_u (M1 38) i (nI v))) (z_u S (33 + i) (nI v)) := by
          obtain ⟨⟨u1, u2⟩, u3, u4, u5⟩ := hS1
          refine ⟨⟨by rw [z_sA_n _ _ _ _ (by omega)]; exact u1, by rw [z_u_n _ _ _ _ (by omega)]; exact u2⟩, by rw [z_sA_n _ _ _ _ (by omega), z_u_n _ _ _ _ (by omega)]; exact u3, fun k hk => by rw [z_sA_n _ _ _ _ (by omega), z_u_n _ _ _ _ (by omega)]; exact u4 k hk, fun j hj => ?_⟩
          rw [z_sA_s]
          by_cases e : j = i
          · subst e; rw [z_u_s, z_u_s]
          · rw [z_u_n _ _ _ _ e, z_u_n _ _ _ _ (by omega)]; exact u5 j hj
        obtain ⟨M', c2, t2, l2, y2⟩ := ih (i + 1) (z_u S (33 + i) (nI v)) b (z_sA M1 38 (z_u (M1 38) i (nI v))) (.int (nI i)) (by omega) hS2 (by rw [o35, t1.2 4 (Or.inl rfl)]; exact h4) (by rw [o35]; exact g5) nb1 (by rw [z_sA_n _ _ _ _ (by omega), t1.1 33 (by omega)]; exact h33)
        refine ⟨M', by rw [e0, e1, e2, c2], ?_, by rw [l2, o35]; exact t1.2 8 (Or.inr rfl), y2⟩
        refine TS_trans (TS_T t1) (TS_trans ⟨fun q hq => z_sA_n _ _ _ _ (by omega), by rw [o35]⟩ t2)
theorem q_loN : ∀ k, k < 4 → q_lo k = nI (y_lo k) ∧ q_hi k = nI (y_hi k) := by decide
theorem y_lhi : ∀ k, y_lo k ≤ 99 ∧ y_hi k ≤ 99 := by intro k; unfold y_lo y_hi; split <;> split <;> omega
theorem c_T_takeRule (hT : z_HT G) (M : zM) (h4 : M 35 4 = nI sz) (hsz : sz ≤ 200) (h5 : M 35 5 = nI a) (ha : a ≤ sz) (hY : ∀ k, k < sz → ∃ u, u < 256 ∧ M 33 k = nI u) {S : Nat → Int32} (hS : z_SU n M S) (hSt : z_St G M) {k : Nat} (hk : k < 4) : ∃ M', z_call 73 [.ref 35, .int (nI k)] G M = some (.inl (some (.int (z_b (y_t1 S (2 + k) (y_num (M 33) sz (y_lo k) (y_hi k) a)).isRight))), G, M') ∧ z_TS M M' ∧ M' 35 8 = M 35 8 ∧ z_Yo n sz M' (y_t1 S (2 + k) (y_num (M 33) sz (y_lo k) (y_hi k) a)) := by
  obtain ⟨M1, c1, t1, f1, g1⟩ := c_T_takeNumber hT M h4 hsz h5 ha hY (y_lhi k).1 (y_lhi k).2
  have e2 : M 2 k = nI (y_lo k) := by rw [(hSt 2 (Or.inl rfl)).2 k hk, if_pos (Or.inl rfl)]; exact (q_loN k hk).1
  have e3 : M 3 k = nI (y_hi k) := by rw [(hSt 3 (Or.inr (Or.inl rfl))).2 k hk, if_neg (by omega)]; exact (q_loN k hk).2
  obtain ⟨x1, x2⟩ := (hSt 2 (Or.inl rfl)).1
  obtain ⟨x3, x4⟩ := (hSt 3 (Or.inr (Or.inl rfl))).1
  have hk2 : k < (z_kd G 2).2 := by omega
  have hk3 : k < (z_kd G 3).2 := by omega
  have n0 : ¬ nI k < 0 := nI_pos (by omega)
  have n4 : nI k < nI 4 := nI_lt hk (by omega)
  obtain ⟨k35, ⟨r0, r3⟩, k36, ⟨s2, s3⟩, ⟨p1, p2⟩, ⟨p3, p4⟩, p5, p6⟩ := id hT; have kt : ∀ a, z_rc a = 4 → z_kd G 35 = (0, z_rc a) := fun a h => (by rw [h]; exact k35)
  have h0 : z_rf G 35 0 ≠ 0 := by omega
  have h2 : z_rf G 36 2 ≠ 0 := by omega
  have hk4 : k < (z_kd G 37).2 := by omega
  generalize hq : y_num (M 33) sz (y_lo k) (y_hi k) a = q at c1 f1 g1
  rcases q with ⟨kk, p⟩ | ⟨b, v, p⟩
  · have c1' : z_call 67 [.ref 35, .int (nI (y_lo k)), .int (nI (y_hi k))] G M = some (.inl (some (.int (nI 0))), G, M1) := c1
    refine ⟨M1, ?_, TS_T t1, t1.2 8 (Or.inr rfl), fun k' p' q => (by cases q; exact f1 kk p rfl), fun S' b q => (by cases q)⟩
    simp (disch := first | assumption | exact kt _ rfl | omega | exact Nat.le_of_ble_eq_true rfl | decide) only [ze_T_takeRule, zk_T_takeRule_0, xo_0_1, xo_50, zk_T_takeRule_4, xo_5, xo_45, zk_T_takeRule_9, xo_2_0, xo_85, xo_32, xo_64_3, xk_v, xk_n, xo_49, zk_T_takeRule_26, xo_72a, xo_72b, xo_17, xo_16, xo_33, n0, n4, e2, e3, c1', zer0, if_true, if_false, eq_self, Bool.true_eq_false, Bool.false_eq_true]
    rfl
  · obtain ⟨nb1, nb2, nb3, nb4⟩ := num_b ha hq
    obtain ⟨g5, g6, g7⟩ := g1 b v p rfl
    have c1' : z_call 67 [.ref 35, .int (nI (y_lo k)), .int (nI (y_hi k))] G M = some (.inl (some (.int (nI 1))), G, M1) := c1
    have o35 : z_sA M1 37 (z_u (M1 37) k (nI v)) 35 = M1 35 := z_sA_n _ _ _ _ (by omega)
    refine ⟨z_sA M1 37 (z_u (M1 37) k (nI v)), ?_, TS_trans (TS_T t1) ⟨fun q hq => z_sA_n _ _ _ _ (by omega), by rw [o35]⟩, by rw [o35]; exact t1.2 8 (Or.inr rfl), fun k' p' q => (by cases q), fun S' b' q => ?_⟩
    · simp (disch := first | assumption | exact kt _ rfl | omega | exact Nat.le_of_ble_eq_true rfl | decide) only [ze_T_takeRule, zk_T_takeRule_0, xo_0_1, xo_50, zk_T_takeRule_4, xo_5, xo_45, zk_T_takeRule_9, xo_2_0, xo_85, xo_32, xo_64_3, xk_v, xk_n, xo_49, xo_72a, xo_72b, zk_T_takeRule_28, xo_17, xo_16, xo_33, n0, n4, e2, e3, c1', one0, r0, s2, g6, if_true, if_false, eq_self, Bool.true_eq_false, Bool.false_eq_true]
      rfl
    · cases q
      refine ⟨by rw [o35]; exact g5, nb1, ?_⟩
      obtain ⟨⟨u1, u2⟩, u3, u4, u5⟩ := SU_T hS t1
      refine ⟨⟨by rw [z_sA_n _ _ _ _ (by omega)]; exact u1, by rw [z_u_n _ _ _ _ (by omega)]; exact u2⟩, by rw [z_sA_n _ _ _ _ (by omega), z_u_n _ _ _ _ (by omega)]; exact u3, fun j hj => ?_, fun j hj => by rw [z_sA_n _ _ _ _ (by omega), z_u_n _ _ _ _ (by omega)]; exact u5 j hj⟩
      rw [z_sA_s]
      by_cases e : j = k
      · subst e; rw [z_u_s, z_u_s]
      · rw [z_u_n _ _ _ _ e, z_u_n _ _ _ _ (by omega)]; exact u4 j hj
end
