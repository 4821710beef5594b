/-! ===== the class's reader: numbers, words ===== -/
def tn (M : zM) (a p v : Nat) : zM := z_sA M 35 (z_u (z_u (z_u (M 35) 5 (nI a)) 7 (nI p)) 6 (nI v))
theorem tn_5 (M : zM) (a p v : Nat) : tn M a p v 35 5 = nI a := by unfold tn; rw [z_sA_s, z_u_n _ _ _ _ (by omega), z_u_n _ _ _ _ (by omega), z_u_s]
theorem tn_7 (M : zM) (a p v : Nat) : tn M a p v 35 7 = nI p := by unfold tn; rw [z_sA_s, z_u_n _ _ _ _ (by omega), z_u_s]
theorem tn_6 (M : zM) (a p v : Nat) : tn M a p v 35 6 = nI v := by unfold tn; rw [z_sA_s, z_u_s]
theorem tn_4 (M : zM) (a p v : Nat) {f : Nat} (h5 : f ≠ 5) (h6 : f ≠ 6) (h7 : f ≠ 7) : tn M a p v 35 f = M 35 f := by unfold tn; rw [z_sA_s, z_u_n _ _ _ _ h6, z_u_n _ _ _ _ h7, z_u_n _ _ _ _ h5]
theorem tn_o (M : zM) (a p v : Nat) {q : Nat} (h : q ≠ 35) : tn M a p v q = M q := z_sA_n _ _ _ _ h
theorem tn_u6 (M : zM) (a p v w : Nat) : z_sA (tn M a p v) 35 (z_u (tn M a p v 35) 6 (nI w)) = tn M a p w := by unfold tn; rw [z_sA_s, z_u_u, z_sA_sA]
theorem tn_u5 (M : zM) (a p v b : Nat) : z_sA (tn M a p v) 35 (z_u (tn M a p v 35) 5 (nI b)) = tn M b p v := by
  have e : z_u (tn M a p v 35) 5 (nI b) = tn M b p v 35 := by
    funext f
    by_cases h5 : f = 5
    · subst h5; rw [z_u_s, tn_5]
    · rw [z_u_n _ _ _ _ h5]
      by_cases h6 : f = 6
      · subst h6; rw [tn_6, tn_6]
      · by_cases h7 : f = 7
        · subst h7; rw [tn_7, tn_7]
        · rw [tn_4 _ _ _ _ h5 h6 h7, tn_4 _ _ _ _ h5 h6 h7]
  rw [e]
  unfold tn
  rw [z_sA_s, z_sA_sA]
theorem T_tn (M : zM) (a p v : Nat) : z_T M (tn M a p v) := ⟨fun q hq => tn_o M a p v hq, fun f hf => tn_4 M a p v (by omega) (by omega) (by omega)⟩
theorem nm_1000 {m d : Nat} (hm : m ≤ 1000) (hd : d ≤ 9) : (if nI (10 * m + d) < nI 1000 then nI (10 * m + d) else nI 1000) = nI (min 1000 (10 * m + d)) := by
  by_cases h : 10 * m + d < 1000
  · rw [if_pos (nI_lt h (by omega)), Nat.min_eq_right (by omega)]
  · rw [if_neg (nI_nlt (by omega) (by omega)), Nat.min_eq_left (by omega)]
theorem nI_sub48 (x d : Nat) : nI (x + (d + 48)) - nI 48 = nI (x + d) := by
  rw [show x + (d + 48) = (x + d) + 48 by omega, ← nI_add (x + d) 48, Int32.add_sub_cancel]
section
variable {G : zG} {sz a : Nat}
theorem c_T_takeNumber (hT : z_HT G) (M : zM) (h4 : M 35 4 = nI sz) (hsz : sz ≤ 200) (h5 : M 35 5 = nI a) (ha : a ≤ sz) (hY : ∀ k, k < sz → ∃ u, u < 256 ∧ M 33 k = nI u) {lo hi : Nat} (hlo : lo ≤ 99) (hhi : hi ≤ 99) : ∃ M', z_call 67 [.ref 35, .int (nI lo), .int (nI hi)] G M = some (.inl (some (.int (z_b (y_num (M 33) sz lo hi a).isRight))), G, M') ∧ z_T M M' ∧ (∀ k p, y_num (M 33) sz lo hi a = .inl (k, p) → M' 35 1 = nI k ∧ M' 35 2 = nI p) ∧ (∀ b v p, y_num (M 33) sz lo hi a = .inr (b, v, p) → M' 35 5 = nI b ∧ M' 35 6 = nI v ∧ M' 35 7 = nI p) := by
  have c1 := c_T_skip hT M h4 hsz h5 ha
  have sb := sk_b (M 33) (sz - a) a
  unfold y_num
  generalize y_sk (M 33) (sz - a) a = e at c1 sb
  have b4 := (ta_4 M e (f := 4) (by omega)).trans h4
  have b5 := ta_5 M e
  have nb := nm_b (M 33) (sz - e) e 0
  have hdig : ∀ k, k < 200 → ∀ M1 : zM, z_call 68 [.ref 35, .int (nI k)] G M1 = some (.inl (some (.int (z_b (y_dg (M1 33 k))))), G, M1) := fun k hk M1 => c_T_isDigit hT M1 hk
  have hfl : ∀ (M1 : zM) (k p : Int32), z_call 66 [.ref 35, .int k, .int p] G M1 = some (.inl (some (.int (nI 0))), G, tf M1 k p) := fun M1 k p => c_T_fails hT M1 k p
  obtain ⟨k35, ⟨r0, r3⟩, k36, ⟨s2, s3⟩, ⟨p1, p2⟩, ⟨p3, p4⟩, p5, p6⟩ := id hT; have kt : ∀ a, z_rc a = 4 → z_kd G 35 = (0, z_rc a) := fun a h => (by rw [h]; exact k35)
  have h3 : z_rf G 35 3 ≠ 0 := by omega
  have e0 : z_call 67 [.ref 35, .int (nI lo), .int (nI hi)] G M = z_ex 67 (z_blk 67 17) [.ref 35, .int (nI lo), .int (nI hi)] [] G (tn M e e (min 1000 0)) := by
    have q0 : tn M e e (min 1000 0) = z_sA M 35 (z_u (z_u (z_u (M 35) 5 (nI e)) 7 (nI e)) 6 (nI 0)) := rfl
    have q1 : ta M e 35 = z_u (M 35) 5 (nI e) := by unfold ta; rw [z_sA_s]
    have q2 : ∀ f, z_sA (ta M e) 35 f = z_sA M 35 f := fun f => by unfold ta; rw [z_sA_sA]
    rw [q0]
    simp (disch := first | assumption | exact kt _ rfl | omega | exact Nat.le_of_ble_eq_true rfl | decide) only [ze_T_takeNumber, zk_T_takeNumber_0, xo_2_0, xo_64_1, xk_v, xk_n, xo_16, xo_18, xo_5, xo_55, xo_45, xo_64_2, xo_48, xo_7, xo_6, xo_22, xo_17, xo_32, xo_20, xo_21, xo_87, xo_39i, xo_39r, xo_54, xo_43, xo_64_3, xo_72a, xo_72b, xo_0_1, xo_44, xo_0_2, xo_47, c1, b5, q1, q2, z_u_s, z_sA_s, z_sA_sA, if_true, if_false, eq_self, Bool.true_eq_false, Bool.false_eq_true]
  have el : ∀ r b v, b + r = sz → z_ex 67 (z_blk 67 17) [.ref 35, .int (nI lo), .int (nI hi)] [] G (tn M b e (min 1000 v)) = z_ex 67 (z_blk 67 82) [.ref 35, .int (nI lo), .int (nI hi)] [] G (tn M (y_nm (M 33) r b v).1 e (min 1000 (y_nm (M 33) r b v).2)) := by
    intro r
    induction r with
    | zero =>
      intro b v hr
      have d4 := (tn_4 M b e (min 1000 v) (f := 4) (by omega) (by omega) (by omega)).trans h4
      have d5 := tn_5 M b e (min 1000 v)
      have hl : ¬ nI b < nI sz := nI_nlt (by omega) (by omega)
      conv => lhs; rw [zk_T_takeNumber_17]
      simp (disch := first | assumption | exact kt _ rfl | omega | exact Nat.le_of_ble_eq_true rfl | decide) only [xo_2_0, xo_64_1, xk_v, xk_n, xo_16, xo_18, xo_5, xo_55, xo_45, xo_64_2, xo_48, xo_7, xo_6, xo_22, xo_17, xo_32, xo_20, xo_21, xo_87, xo_39i, xo_39r, xo_54, xo_43, xo_64_3, xo_72a, xo_72b, xo_0_1, xo_44, xo_0_2, xo_47, d4, d5, hl, y_nm, if_true, if_false, eq_self, Bool.true_eq_false, Bool.false_eq_true]
    | succ r ih =>
      intro b v hr
      have d4 := (tn_4 M b e (min 1000 v) (f := 4) (by omega) (by omega) (by omega)).trans h4
      have d5 := tn_5 M b e (min 1000 v)
      have d6 := tn_6 M b e (min 1000 v)
      have d3 : tn M b e (min 1000 v) 33 = M 33 := tn_o M b e _ (by omega)
      have hl : nI b < nI sz := nI_lt (by omega) (by omega)
      have hk : b < (z_kd G 33).2 := by omega
      have hd := hdig b (by omega) (tn M b e (min 1000 v))
      rw [d3] at hd
      obtain ⟨u, hu, eu⟩ := hY b (by omega)
      have hdu := dg_u hu eu
      unfold y_nm
      by_cases hc : y_dg (M 33 b) = true
      · rw [if_pos hc]
        rw [hc] at hd hdu
        obtain ⟨u1, u2⟩ := of_decide_eq_true hdu.symm
        obtain ⟨d, hd9⟩ : ∃ d, u = d + 48 := ⟨u - 48, by omega⟩
        subst hd9
        have zn : z_n (M 33 b) - 48 = d := by rw [eu, z_nN (by omega)]; omega
        rw [zn, ← ih (b + 1) (10 * v + d) (by omega)]
        have m1 := nI_sub48 (10 * min 1000 v) d
        have m2 := nm_1000 (m := min 1000 v) (d := d) (Nat.min_le_left _ _) (by omega)
        have m3 : min 1000 (10 * min 1000 v + d) = min 1000 (10 * v + d) := by omega
        rw [m3] at m2
        have t6 := tn_u6 M b e (min 1000 v) (min 1000 (10 * v + d))
        have t5 := tn_u5 M b e (min 1000 (10 * v + d)) (b + 1)
        have d5' := tn_5 M b e (min 1000 (10 * v + d))
        conv => lhs; rw [zk_T_takeNumber_17]
        simp (disch := first | assumption | exact kt _ rfl | omega | exact Nat.le_of_ble_eq_true rfl | decide) only [xo_2_0, xo_64_1, xk_v, xk_n, xo_16, xo_18, xo_5, xo_55, xo_45, zk_T_takeNumber_28, xo_64_2, xo_48, zk_T_takeNumber_39, xo_7, xo_6, xo_22, xo_17, xo_32, xo_20, xo_21, xo_87, xo_39i, xo_39r, xo_54, xo_43, xo_64_3, xo_72a, xo_72b, xo_0_1, xo_44, xo_0_2, xo_47, d4, d5, d6, d3, d5', hl, hd, z_b0, r3, eu, nI_add, pk_mul, m1, m2, t6, t5, if_true, if_false, eq_self, Bool.true_eq_false, Bool.false_eq_true]
      · have hc' : y_dg (M 33 b) = false := by simpa using hc
        rw [if_neg hc]
        rw [hc'] at hd
        conv => lhs; rw [zk_T_takeNumber_17]
        simp (disch := first | assumption | exact kt _ rfl | omega | exact Nat.le_of_ble_eq_true rfl | decide) only [xo_2_0, xo_64_1, xk_v, xk_n, xo_16, xo_18, xo_5, xo_55, xo_45, zk_T_takeNumber_28, xo_64_2, xo_48, xo_7, xo_6, xo_22, xo_17, xo_32, xo_20, xo_21, xo_87, xo_39i, xo_39r, xo_54, xo_43, xo_64_3, xo_72a, xo_72b, xo_0_1, xo_44, xo_0_2, xo_47, d4, d5, hl, hd, z_b0, if_true, if_false, eq_self, Bool.true_eq_false, Bool.false_eq_true]
  have e1 := el (sz - e) e 0 (by omega)
  generalize y_nm (M 33) (sz - e) e 0 = q at e1 nb
  have d5 := tn_5 M q.1 e (min 1000 q.2)
  have d6 := tn_6 M q.1 e (min 1000 q.2)
  have d7 := tn_7 M q.1 e (min 1000 q.2)
  have hT1 := T_tn M q.1 e (min 1000 q.2)
  rw [e0, e1]
  generalize tn M q.1 e (min 1000 q.2) = M2 at d5 d6 d7 hT1
  by_cases h1 : q.1 = e
  · rw [if_pos h1]
    refine ⟨tf M2 (nI 1) (nI e), ?_, T_trans hT1 (T_tf _ _ _), fun k p q => ?_, fun b v p q => ?_⟩
    · have hf := hfl M2 (nI 1) (nI e)
      rw [h1] at d5
      simp (disch := first | assumption | exact kt _ rfl | omega | exact Nat.le_of_ble_eq_true rfl | decide) only [xo_2_0, xo_64_1, xk_v, xk_n, xo_16, xo_18, xo_5, xo_55, xo_45, xo_64_2, xo_48, xo_7, xo_6, xo_22, xo_17, xo_32, xo_20, xo_21, xo_87, xo_39i, xo_39r, xo_54, zk_T_takeNumber_82, xo_43, zk_T_takeNumber_93, xo_64_3, xo_72a, xo_72b, xo_0_1, xo_44, xo_0_2, xo_47, d5, d7, hf, if_true, if_false, eq_self, Bool.true_eq_false, Bool.false_eq_true]
      rfl
    · cases q; exact tf_12 _ _ _
    · cases q
  · rw [if_neg h1]
    have hne : (nI q.1 = nI e) = False := eq_false (fun x => h1 ((nI_eq (by omega) (by omega)).mp x))
    by_cases h2 : lo ≤ q.2 ∧ q.2 ≤ hi
    · rw [if_pos h2]
      have hm : min 1000 q.2 = q.2 := Nat.min_eq_right (by omega)
      rw [hm] at d6
      refine ⟨M2, ?_, hT1, fun k p q => ?_, fun b v p q => ?_⟩
      · have g1 : ¬ nI q.2 < nI lo := nI_nlt h2.1 (by omega)
        have g2 : ¬ nI hi < nI q.2 := nI_nlt h2.2 (by omega)
        simp (disch := first | assumption | exact kt _ rfl | omega | exact Nat.le_of_ble_eq_true rfl | decide) only [xo_2_0, xo_64_1, xk_v, xk_n, xo_16, xo_18, xo_5, xo_55, xo_45, xo_64_2, xo_48, xo_7, xo_6, xo_22, xo_17, xo_32, xo_20, xo_21, xo_87, xo_39i, xo_39r, xo_54, zk_T_takeNumber_82, xo_43, xo_64_3, xo_72a, xo_72b, zk_T_takeNumber_103, xo_0_1, xo_44, zk_T_takeNumber_111, xo_0_2, xo_47, zk_T_takeNumber_131, zk_T_takeNumber_136, d5, d6, d7, hne, g1, g2, if_true, if_false, eq_self, Bool.true_eq_false, Bool.false_eq_true]
        rfl
      · cases q
      · cases q; exact ⟨d5, d6, d7⟩
    · rw [if_neg h2]
      refine ⟨tf M2 (nI 2) (nI e), ?_, T_trans hT1 (T_tf _ _ _), fun k p q => ?_, fun b v p q => ?_⟩
      · have hf := hfl M2 (nI 2) (nI e)
        by_cases g1 : min 1000 q.2 < lo
        · have g2 : nI (min 1000 q.2) < nI lo := nI_lt g1 (by omega)
          simp (disch := first | assumption | exact kt _ rfl | omega | exact Nat.le_of_ble_eq_true rfl | decide) only [xo_2_0, xo_64_1, xk_v, xk_n, xo_16, xo_18, xo_5, xo_55, xo_45, xo_64_2, xo_48, xo_7, xo_6, xo_22, xo_17, xo_32, xo_20, xo_21, xo_87, xo_39i, xo_39r, xo_54, zk_T_takeNumber_82, xo_43, xo_64_3, xo_72a, xo_72b, zk_T_takeNumber_103, xo_0_1, xo_44, xo_0_2, xo_47, zk_T_takeNumber_119, zk_T_takeNumber_135, zk_T_takeNumber_136, d5, d6, d7, hne, g2, hf, zer0, if_true, if_false, eq_self, Bool.true_eq_false, Bool.false_eq_true]
          rfl
        · have g2 : ¬ nI (min 1000 q.2) < nI lo := nI_nlt (by omega) (by omega)
          have g3 : nI hi < nI (min 1000 q.2) := nI_lt (by omega) (by omega)
          simp (disch := first | assumption | exact kt _ rfl | omega | exact Nat.le_of_ble_eq_true rfl | decide) only [xo_2_0, xo_64_1, xk_v, xk_n, xo_16, xo_18, xo_5, xo_55, xo_45, xo_64_2, xo_48, xo_7, xo_6, xo_22, xo_17, xo_32, xo_20, xo_21, xo_87, xo_39i, xo_39r, xo_54, zk_T_takeNumber_82, xo_43, xo_64_3, xo_72a, xo_72b, zk_T_takeNumber_103, xo_0_1, xo_44, zk_T_takeNumber_111, xo_0_2, xo_47, zk_T_takeNumber_119, zk_T_takeNumber_135, zk_T_takeNumber_136, d5, d6, d7, hne, g2, g3, hf, zer0, if_true, if_false, eq_self, Bool.true_eq_false, Bool.false_eq_true]
          rfl
      · cases q; exact tf_12 _ _ _
      · cases q
theorem c_T_wordEnd (hT : z_HT G) (M : zM) (h4 : M 35 4 = nI sz) (hsz : sz ≤ 200) (h5 : M 35 5 = nI a) (ha : a ≤ sz) : z_call 64 [.ref 35] G M = some (.inl (some (.int (nI (y_we (M 33) (sz - a) a)))), G, M) := by
  obtain ⟨k35, ⟨r0, r3⟩, k36, ⟨s2, s3⟩, ⟨p1, p2⟩, ⟨p3, p4⟩, p5, p6⟩ := id hT; have kt : ∀ a, z_rc a = 4 → z_kd G 35 = (0, z_rc a) := fun a h => (by rw [h]; exact k35)
  have h3 : z_rf G 35 3 ≠ 0 := by omega
  have e0 : z_call 64 [.ref 35] G M = z_ex 64 (z_blk 64 5) [.ref 35, .int (nI a)] [] G M := by
    simp (disch := first | assumption | exact kt _ rfl | omega | exact Nat.le_of_ble_eq_true rfl | decide) only [ze_T_wordEnd, zk_T_wordEnd_0, xo_2_0, xo_16, xo_10_1i, xo_10_1r, xo_10_1n, xo_55, xo_0_1, xo_45, xo_17, xo_32, xo_6, xo_44, xo_46, xo_15_1i, xo_15_1r, xo_15_1n, xo_54, xo_70, h5, if_true, if_false, eq_self, Bool.true_eq_false, Bool.false_eq_true]
  have e : ∀ r a, a + r = sz → z_ex 64 (z_blk 64 5) [.ref 35, .int (nI a)] [] G M = some (.inl (some (.int (nI (y_we (M 33) r a)))), G, M) := by
    intro r
    induction r with
    | zero =>
      intro a hr
      have hl : ¬ nI a < nI sz := nI_nlt (by omega) (by omega)
      conv => lhs; rw [zk_T_wordEnd_5]
      simp (disch := first | assumption | exact kt _ rfl | omega | exact Nat.le_of_ble_eq_true rfl | decide) only [xo_2_0, xo_16, xo_10_1i, xo_10_1r, xo_10_1n, xo_55, xo_0_1, xo_45, xo_17, xo_32, xo_6, xo_44, xo_46, xo_15_1i, xo_15_1r, xo_15_1n, xo_54, zk_T_wordEnd_41, xo_70, h4, hl, y_we, if_true, if_false, eq_self, Bool.true_eq_false, Bool.false_eq_true]
    | succ r ih =>
      intro a hr
      have hl : nI a < nI sz := nI_lt (by omega) (by omega)
      have hk : a < (z_kd G 33).2 := by omega
      unfold y_we y_sm zf_in
      conv => lhs; rw [zk_T_wordEnd_5]
      by_cases c1 : M 33 a < nI 97
      · rw [decide_eq_false (fun q => q.1 c1), if_neg (by decide)]
        simp (disch := first | assumption | exact kt _ rfl | omega | exact Nat.le_of_ble_eq_true rfl | decide) only [xo_2_0, xo_16, xo_10_1i, xo_10_1r, xo_10_1n, xo_55, xo_0_1, xo_45, zk_T_wordEnd_13, xo_17, xo_32, xo_6, xo_44, xo_46, xo_15_1i, xo_15_1r, xo_15_1n, xo_54, zk_T_wordEnd_41, xo_70, h4, hl, r3, c1, if_true, if_false, eq_self, Bool.true_eq_false, Bool.false_eq_true]
      · by_cases c2 : nI 122 < M 33 a
        · rw [decide_eq_false (fun q => q.2 c2), if_neg (by decide)]
          simp (disch := first | assumption | exact kt _ rfl | omega | exact Nat.le_of_ble_eq_true rfl | decide) only [xo_2_0, xo_16, xo_10_1i, xo_10_1r, xo_10_1n, xo_55, xo_0_1, xo_45, zk_T_wordEnd_13, xo_17, xo_32, xo_6, xo_44, zk_T_wordEnd_24, xo_46, xo_15_1i, xo_15_1r, xo_15_1n, xo_54, zk_T_wordEnd_41, xo_70, h4, hl, r3, c1, c2, if_true, if_false, eq_self, Bool.true_eq_false, Bool.false_eq_true]
        · rw [decide_eq_true ⟨c1, c2⟩, if_pos rfl, ← ih (a + 1) (by omega)]
          simp (disch := first | assumption | exact kt _ rfl | omega | exact Nat.le_of_ble_eq_true rfl | decide) only [xo_2_0, xo_16, xo_10_1i, xo_10_1r, xo_10_1n, xo_55, xo_0_1, xo_45, zk_T_wordEnd_13, xo_17, xo_32, xo_6, xo_44, zk_T_wordEnd_24, xo_46, zk_T_wordEnd_35, xo_15_1i, xo_15_1r, xo_15_1n, xo_54, xo_70, h4, hl, r3, c1, c2, nI_add, if_true, if_false, eq_self, Bool.true_eq_false, Bool.false_eq_true]
  rw [e0]
  exact e (sz - a) a (by omega)
def y_mt (f : Nat → Int32) (w : List Nat) : Nat → Nat → Bool
  | 0, _ => true
  | r + 1, k => decide (f k = nI (w.getD k 0)) && y_mt f w r (k + 1)
def y_is (T : Nat → Int32) (a e : Nat) (w : List Nat) : Bool := decide (e - a = w.length) && y_mt (fun k => T (a + k)) w w.length 0
theorem c_T_isWord (hT : z_HT G) (M : zM) (h5 : M 35 5 = nI a) {e : Nat} (hae : a ≤ e) (he : e ≤ 200) {p : Nat} (hp1 : 6 ≤ p) (hp2 : p < 20) (hw : (z_tx p).length ≤ 10) : z_call 65 [.ref 35, .ref p, .int (nI e)] G M = some (.inl (some (.int (z_b (y_is (M 33) a e (z_tx p))))), G, M) := by
  obtain ⟨k35, ⟨r0, r3⟩, k36, ⟨s2, s3⟩, ⟨p1, p2⟩, ⟨p3, p4⟩, p5, p6⟩ := id hT; have kt : ∀ a, z_rc a = 4 → z_kd G 35 = (0, z_rc a) := fun a h => (by rw [h]; exact k35)
  have h3 : z_rf G 35 3 ≠ 0 := by omega
  have es : nI e - nI a = nI (e - a) := by
    have : nI (e - a + a) - nI a = nI (e - a) := by rw [← nI_add, Int32.add_sub_cancel]
    rwa [Nat.sub_add_cancel hae] at this
  unfold y_is
  obtain ⟨w, hz⟩ : ∃ w, z_tx p = w := ⟨_, rfl⟩
  rw [hz] at hw ⊢
  by_cases hl : e - a = w.length
  · rw [decide_eq_true hl, Bool.true_and]
    have hs : nI e - nI a = nI w.length := by rw [es, hl]
    have e0 : z_call 65 [.ref 35, .ref p, .int (nI e)] G M = z_ex 65 (z_blk 65 17) [.ref 35, .ref p, .int (nI e), .int (nI 0)] [] G M := by
      simp (disch := first | assumption | exact kt _ rfl | omega | exact Nat.le_of_ble_eq_true rfl | decide) only [ze_T_isWord, zk_T_isWord_0, xo_0_2, xo_2_0, xo_16, xo_21, xo_2_1, xo_81, xo_42, xo_5, xo_72a, xo_72b, zk_T_isWord_15, xo_10_3i, xo_10_3r, xo_10_3n, xo_55, xo_0_3, xo_45, xo_17, xo_20, xo_32, xo_82, xo_15_3i, xo_15_3r, xo_15_3n, xo_54, h5, hz, hs, if_true, if_false, eq_self, Bool.true_eq_false, Bool.false_eq_true]
    have el : ∀ r k, k + r = w.length → z_ex 65 (z_blk 65 17) [.ref 35, .ref p, .int (nI e), .int (nI k)] [] G M = some (.inl (some (.int (z_b (y_mt (fun k => M 33 (a + k)) w r k)))), G, M) := by
      intro r
      induction r with
      | zero =>
        intro k hk
        have hlt : ¬ nI k < nI w.length := nI_nlt (by omega) (by omega)
        conv => lhs; rw [zk_T_isWord_17]
        simp (disch := first | assumption | exact kt _ rfl | omega | exact Nat.le_of_ble_eq_true rfl | decide) only [xo_0_2, xo_2_0, xo_16, xo_21, xo_2_1, xo_81, xo_42, xo_5, xo_72a, xo_72b, xo_10_3i, xo_10_3r, xo_10_3n, xo_55, xo_0_3, xo_45, xo_17, xo_20, xo_32, xo_82, xo_15_3i, xo_15_3r, xo_15_3n, xo_54, zk_T_isWord_52, hz, hlt, y_mt, if_true, if_false, eq_self, Bool.true_eq_false, Bool.false_eq_true]
        rfl
      | succ r ih =>
        intro k hk
        have hlt : nI k < nI w.length := nI_lt (by omega) (by omega)
        have hk2 : a + k < (z_kd G 33).2 := by omega
        have hj : k < (z_tx p).length := by rw [hz]; omega
        unfold y_mt
        conv => lhs; rw [zk_T_isWord_17]
        by_cases hc : M 33 (a + k) = nI (w.getD k 0)
        · rw [decide_eq_true hc, Bool.true_and, ← ih (k + 1) (by omega)]
          simp (disch := first | assumption | exact kt _ rfl | omega | exact Nat.le_of_ble_eq_true rfl | decide) only [xo_0_2, xo_2_0, xo_16, xo_21, xo_2_1, xo_81, xo_42, xo_5, xo_72a, xo_72b, xo_10_3i, xo_10_3r, xo_10_3n, xo_55, xo_0_3, xo_45, zk_T_isWord_25, xo_17, xo_20, xo_32, xo_82, zk_T_isWord_46, xo_15_3i, xo_15_3r, xo_15_3n, xo_54, hz, hlt, h5, r3, nI_add, hc, if_true, if_false, eq_self, Bool.true_eq_false, Bool.false_eq_true]
        · rw [decide_eq_false hc, Bool.false_and]
          simp (disch := first | assumption | exact kt _ rfl | omega | exact Nat.le_of_ble_eq_true rfl | decide) only [xo_0_2, xo_2_0, xo_16, xo_21, xo_2_1, xo_81, xo_42, xo_5, xo_72a, xo_72b, xo_10_3i, xo_10_3r, xo_10_3n, xo_55, xo_0_3, xo_45, zk_T_isWord_25, xo_17, xo_20, xo_32, xo_82, zk_T_isWord_44, xo_15_3i, xo_15_3r, xo_15_3n, xo_54, hz, hlt, h5, r3, nI_add, hc, if_true, if_false, eq_self, Bool.true_eq_false, Bool.false_eq_true]
          rfl
    rw [e0]
    exact el w.length 0 (by omega)
  · rw [decide_eq_false hl, Bool.false_and]
    have hs : (nI (e - a) = nI w.length) = False := eq_false (fun q => hl ((nI_eq (by omega) (by omega)).mp q))
    simp (disch := first | assumption | exact kt _ rfl | omega | exact Nat.le_of_ble_eq_true rfl | decide) only [ze_T_isWord, zk_T_isWord_0, xo_0_2, xo_2_0, xo_16, xo_21, xo_2_1, xo_81, xo_42, zk_T_isWord_13, xo_5, xo_72a, xo_72b, xo_10_3i, xo_10_3r, xo_10_3n, xo_55, xo_0_3, xo_45, xo_17, xo_20, xo_32, xo_82, xo_15_3i, xo_15_3r, xo_15_3n, xo_54, h5, hz, es, hs, if_true, if_false, eq_self, Bool.true_eq_false, Bool.false_eq_true]
    rfl
/-- which line a word begins; 6: none -/
def y_ln (T : Nat → Int32) (a e : Nat) : Nat := if y_is T a e (z_tx 7) = true then 0 else if y_is T a e (z_tx 8) = true then 1 else if y_is T a e (z_tx 9) = true then 2 else if y_is T a e (z_tx 10) = true then 3 else if y_is T a e (z_tx 11) = true then 4 else if y_is T a e (z_tx 12) = true then 5 else 6
def y_lv (k : Nat) : Int32 := if k = 6 then nI 4294967295 else nI k
theorem c_T_lineOf (hT : z_HT G) (M : zM) (h5 : M 35 5 = nI a) {e : Nat} (hae : a ≤ e) (he : e ≤ 200) : z_call 71 [.ref 35, .int (nI e)] G M = some (.inl (some (.int (y_lv (y_ln (M 33) a e)))), G, M) := by
  have w7 := c_T_isWord hT M h5 hae he (p := 7) (by omega) (by omega) (by decide)
  have w8 := c_T_isWord hT M h5 hae he (p := 8) (by omega) (by omega) (by decide)
  have w9 := c_T_isWord hT M h5 hae he (p := 9) (by omega) (by omega) (by decide)
  have w10 := c_T_isWord hT M h5 hae he (p := 10) (by omega) (by omega) (by decide)
  have w11 := c_T_isWord hT M h5 hae he (p := 11) (by omega) (by omega) (by decide)
  have w12 := c_T_isWord hT M h5 hae he (p := 12) (by omega) (by omega) (by decide)
  obtain ⟨k35, ⟨r0, r3⟩, k36, ⟨s2, s3⟩, ⟨p1, p2⟩, ⟨p3, p4⟩, p5, p6⟩ := id hT; have kt : ∀ a, z_rc a = 4 → z_kd G 35 = (0, z_rc a) := fun a h => (by rw [h]; exact k35)
  unfold y_ln
  generalize y_is (M 33) a e (z_tx 7) = q7 at w7
  generalize y_is (M 33) a e (z_tx 8) = q8 at w8
  generalize y_is (M 33) a e (z_tx 9) = q9 at w9
  generalize y_is (M 33) a e (z_tx 10) = q10 at w10
  generalize y_is (M 33) a e (z_tx 11) = q11 at w11
  generalize y_is (M 33) a e (z_tx 12) = q12 at w12
  cases q7 with
  | true =>
    simp (disch := first | assumption | exact kt _ rfl | omega | exact Nat.le_of_ble_eq_true rfl | decide) only [ze_T_lineOf, zk_T_lineOf_0, xo_2_0, xo_79, xo_0_1, xo_64_3, xk_v, xk_n, xo_48, zk_T_lineOf_10, xo_5, xo_70, xo_54, xo_55, w7, z_b0, if_true, if_false, eq_self, Bool.true_eq_false, Bool.false_eq_true]
    rfl
  | false =>
    cases q8 with
    | true =>
      simp (disch := first | assumption | exact kt _ rfl | omega | exact Nat.le_of_ble_eq_true rfl | decide) only [ze_T_lineOf, zk_T_lineOf_0, xo_2_0, xo_79, xo_0_1, xo_64_3, xk_v, xk_n, xo_48, xo_5, xo_70, zk_T_lineOf_12, zk_T_lineOf_22, xo_54, xo_55, w7, w8, z_b0, if_true, if_false, eq_self, Bool.true_eq_false, Bool.false_eq_true]
      rfl
    | false =>
      cases q9 with
      | true =>
        simp (disch := first | assumption | exact kt _ rfl | omega | exact Nat.le_of_ble_eq_true rfl | decide) only [ze_T_lineOf, zk_T_lineOf_0, xo_2_0, xo_79, xo_0_1, xo_64_3, xk_v, xk_n, xo_48, xo_5, xo_70, zk_T_lineOf_12, zk_T_lineOf_24, zk_T_lineOf_34, xo_54, xo_55, w7, w8, w9, z_b0, if_true, if_false, eq_self, Bool.true_eq_false, Bool.false_eq_true]
        rfl
      | false =>
        cases q10 with
        | true =>
          simp (disch := first | assumption | exact kt _ rfl | omega | exact Nat.le_of_ble_eq_true rfl | decide) only [ze_T_lineOf, zk_T_lineOf_0, xo_2_0, xo_79, xo_0_1, xo_64_3, xk_v, xk_n, xo_48, xo_5, xo_70, zk_T_lineOf_12, zk_T_lineOf_24, zk_T_lineOf_36, zk_T_lineOf_46, xo_54, xo_55, w7, w8, w9, w10, z_b0, if_true, if_false, eq_self, Bool.true_eq_false, Bool.false_eq_true]
          rfl
        | false =>
          cases q11 with
          | true =>
            simp (disch := first | assumption | exact kt _ rfl | omega | exact Nat.le_of_ble_eq_true rfl | decide) only [ze_T_lineOf, zk_T_lineOf_0, xo_2_0, xo_79, xo_0_1, xo_64_3, xk_v, xk_n, xo_48, xo_5, xo_70, zk_T_lineOf_12, zk_T_lineOf_24, zk_T_lineOf_36, zk_T_lineOf_48, zk_T_lineOf_58, xo_54, xo_55, w7, w8, w9, w10, w11, z_b0, if_true, if_false, eq_self, Bool.true_eq_false, Bool.false_eq_true]
            rfl
          | false =>
            cases q12 with
            | true =>
              simp (disch := first | assumption | exact kt _ rfl | omega | exact Nat.le_of_ble_eq_true rfl | decide) only [ze_T_lineOf, zk_T_lineOf_0, xo_2_0, xo_79, xo_0_1, xo_64_3, xk_v, xk_n, xo_48, xo_5, xo_70, zk_T_lineOf_12, zk_T_lineOf_24, zk_T_lineOf_36, zk_T_lineOf_48, zk_T_lineOf_60, zk_T_lineOf_70, xo_54, xo_55, zk_T_lineOf_75, w7, w8, w9, w10, w11, w12, z_b0, if_true, if_false, eq_self, Bool.true_eq_false, Bool.false_eq_true]
              rfl
            | false =>
              simp (disch := first | assumption | exact kt _ rfl | omega | exact Nat.le_of_ble_eq_true rfl | decide) only [ze_T_lineOf, zk_T_lineOf_0, xo_2_0, xo_79, xo_0_1, xo_64_3, xk_v, xk_n, xo_48, xo_5, xo_70, zk_T_lineOf_12, zk_T_lineOf_24, zk_T_lineOf_36, zk_T_lineOf_48, zk_T_lineOf_60, xo_54, zk_T_lineOf_74, xo_55, zk_T_lineOf_75, w7, w8, w9, w10, w11, w12, z_b0, if_true, if_false, eq_self, Bool.true_eq_false, Bool.false_eq_true]
              rfl
end
