/-! ===== the reference reads: words, ends, ranks ===== -/
def y_tk (T : Nat → Int32) (sz a : Nat) (w : List Nat) : Bool := y_mt (fun k => y_at T sz (a + k)) w w.length 0 && !y_sm (y_at T sz (a + w.length))
theorem sk_st (T : Nat → Int32) : ∀ r a, y_sk T (a + r - y_sk T r a) (y_sk T r a) = y_sk T r a
  | 0, a => by
    have e : y_sk T 0 a = a := rfl
    rw [e, show a + 0 - a = 0 by omega]
    exact e
  | r + 1, a => by
    by_cases h : T a = nI 32
    · have e : y_sk T (r + 1) a = y_sk T r (a + 1) := by rw [y_sk, if_pos h]
      rw [e]
      have := sk_st T r (a + 1)
      rw [show a + (r + 1) = a + 1 + r by omega]
      exact this
    · have e : y_sk T (r + 1) a = a := by rw [y_sk, if_neg h]
      rw [e, show a + (r + 1) - a = r + 1 by omega]
      exact e
theorem sk_id {T : Nat → Int32} {sz a : Nat} (ha : a ≤ sz) : y_sk T (sz - y_sk T (sz - a) a) (y_sk T (sz - a) a) = y_sk T (sz - a) a := by
  have := sk_st T (sz - a) a
  rwa [show a + (sz - a) = sz by omega] at this
section
variable {G : zG} {sz a n : Nat}
theorem c_M_takes1 (hM : z_HM G) (M : zM) (h6 : ¬ M 455 6 = 0) (p : Nat) : z_call 164 [.ref 455, .ref p] G M = some (.inl (some (.int (nI 0))), G, M) := by
  have cf := c_M_fine hM M
  rw [decide_eq_false h6] at cf
  obtain ⟨k0, ⟨r1, r8, r9, r10, r11, r12, r13, r17⟩, ⟨q1, q2⟩, ⟨q3, q4⟩, ⟨q5, q6⟩, ⟨q7, q8⟩, ⟨q9, q10⟩, ⟨q11, q12⟩, ⟨q13, q14⟩, ⟨q15, q16⟩, hp⟩ := id hM; have kr : ∀ a, z_rc a = 7 → z_kd G 455 = (0, z_rc a) := fun a h => (by rw [h]; exact k0)
  simp (disch := first | assumption | exact kr _ rfl | omega | exact Nat.le_of_ble_eq_true rfl) only [ze_M_takes, zk_M_takes_0, xo_2_0, xo_64_1, xk_v, xk_n, xo_49, zk_M_takes_7, xo_5, xo_72a, xo_72b, xo_41, xo_10_2i, xo_10_2r, xo_10_2n, xo_55, xo_0_2, xo_2_1, xo_81, xo_45, xo_16, xo_20, xo_64_2, xo_82, xo_43, xo_15_2i, xo_15_2r, xo_15_2n, xo_54, xo_44, xo_63_1, xo_48, xo_39i, xo_39r, xo_18, cf, z_b0, if_true, if_false, eq_self, Bool.true_eq_false, Bool.false_eq_true, and_true, true_and, and_false, false_and, or_true, true_or, or_false, false_or, ne_eq, not_true_eq_false, not_false_eq_true, decide_true, decide_false, z_sA_id]
theorem c_M_takes (hM : z_HM G) (M : zM) (h3 : M 455 3 = nI sz) (hsz : sz ≤ 200) (h4 : M 455 4 = nI a) (ha : a ≤ sz) (h6 : M 455 6 = 0) (hsk : y_sk (M 457) (sz - a) a = a) {p : Nat} (hp1 : 6 ≤ p) (hp2 : p < 20) (hw : (z_tx p).length ≤ 10) : z_call 164 [.ref 455, .ref p] G M = some (.inl (some (.int (z_b (y_tk (M 457) sz a (z_tx p))))), G, if y_tk (M 457) sz a (z_tx p) = true then ma M (a + (z_tx p).length) else M) := by
  have c1 := c_M_here hM M h3 hsz h4 ha
  rw [hsk, ma_id M h4] at c1
  have cf := c_M_fine hM M
  rw [decide_eq_true h6] at cf
  unfold y_tk
  obtain ⟨w, hz⟩ : ∃ w, z_tx p = w := ⟨_, rfl⟩
  rw [hz] at hw ⊢
  have cb : ∀ k, k ≤ 10 → z_call 163 [.ref 455, .int (nI (a + k))] G M = some (.inl (some (.int (y_at (M 457) sz (a + k)))), G, M) := fun k hk => c_M_byteAt hM M h3 hsz (by omega)
  have e0 : z_call 164 [.ref 455, .ref p] G M = z_ex 164 (z_blk 164 16) [.ref 455, .ref p, .int (nI 0)] [] G M := by
    obtain ⟨k0, ⟨r1, r8, r9, r10, r11, r12, r13, r17⟩, ⟨q1, q2⟩, ⟨q3, q4⟩, ⟨q5, q6⟩, ⟨q7, q8⟩, ⟨q9, q10⟩, ⟨q11, q12⟩, ⟨q13, q14⟩, ⟨q15, q16⟩, hp⟩ := id hM; have kr : ∀ a, z_rc a = 7 → z_kd G 455 = (0, z_rc a) := fun a h => (by rw [h]; exact k0)
    simp (disch := first | assumption | exact kr _ rfl | omega | exact Nat.le_of_ble_eq_true rfl) only [ze_M_takes, zk_M_takes_0, xo_2_0, xo_64_1, xk_v, xk_n, xo_49, xo_5, xo_72a, xo_72b, zk_M_takes_9, xo_41, xo_10_2i, xo_10_2r, xo_10_2n, xo_55, xo_0_2, xo_2_1, xo_81, xo_45, xo_16, xo_20, xo_64_2, xo_82, xo_43, xo_15_2i, xo_15_2r, xo_15_2n, xo_54, xo_44, xo_63_1, xo_48, xo_39i, xo_39r, xo_18, cf, c1, z_b0, if_true, if_false, eq_self, Bool.true_eq_false, Bool.false_eq_true, and_true, true_and, and_false, false_and, or_true, true_or, or_false, false_or, ne_eq, not_true_eq_false, not_false_eq_true, decide_true, decide_false, z_sA_id]
  have el : ∀ r k, k + r = w.length → z_ex 164 (z_blk 164 16) [.ref 455, .ref p, .int (nI k)] [] G M = if y_mt (fun k => y_at (M 457) sz (a + k)) w r k = true then z_ex 164 (z_blk 164 48) [.ref 455, .ref p, .int (nI w.length)] [] G M else some (.inl (some (.int (nI 0))), G, M) := by
    obtain ⟨k0, ⟨r1, r8, r9, r10, r11, r12, r13, r17⟩, ⟨q1, q2⟩, ⟨q3, q4⟩, ⟨q5, q6⟩, ⟨q7, q8⟩, ⟨q9, q10⟩, ⟨q11, q12⟩, ⟨q13, q14⟩, ⟨q15, q16⟩, hp⟩ := id hM; have kr : ∀ a, z_rc a = 7 → z_kd G 455 = (0, z_rc a) := fun a h => (by rw [h]; exact k0)
    intro r
    induction r with
    | zero =>
      intro k hk
      have hk' : k = w.length := by omega
      subst hk'
      have hlt : ¬ nI w.length < nI w.length := nI_nlt (Nat.le_refl _) (by omega)
      conv => lhs; rw [zk_M_takes_16]
      simp (disch := first | assumption | exact kr _ rfl | omega | exact Nat.le_of_ble_eq_true rfl) only [xo_2_0, xo_64_1, xk_v, xk_n, xo_49, xo_5, xo_72a, xo_72b, xo_41, xo_10_2i, xo_10_2r, xo_10_2n, xo_55, xo_0_2, xo_2_1, xo_81, xo_45, xo_16, xo_20, xo_64_2, xo_82, xo_43, xo_15_2i, xo_15_2r, xo_15_2n, xo_54, xo_44, xo_63_1, xo_48, xo_39i, xo_39r, xo_18, hz, hlt, y_mt, if_true, if_false, eq_self, Bool.true_eq_false, Bool.false_eq_true, and_true, true_and, and_false, false_and, or_true, true_or, or_false, false_or, ne_eq, not_true_eq_false, not_false_eq_true, decide_true, decide_false, z_sA_id]
    | succ r ih =>
      intro k hk
      have hlt : nI k < nI w.length := nI_lt (by omega) (by omega)
      have hj : k < (z_tx p).length := by rw [hz]; omega
      have cbk := cb k (by omega)
      unfold y_mt
      conv => lhs; rw [zk_M_takes_16]
      by_cases hc : y_at (M 457) sz (a + k) = nI (w.getD k 0)
      · rw [decide_eq_true hc, Bool.true_and, ← ih (k + 1) (by omega)]
        rw [hc] at cbk
        simp (disch := first | assumption | exact kr _ rfl | omega | exact Nat.le_of_ble_eq_true rfl) only [xo_2_0, xo_64_1, xk_v, xk_n, xo_49, xo_5, xo_72a, xo_72b, xo_41, xo_10_2i, xo_10_2r, xo_10_2n, xo_55, xo_0_2, xo_2_1, xo_81, xo_45, zk_M_takes_24, xo_16, xo_20, xo_64_2, xo_82, xo_43, zk_M_takes_42, xo_15_2i, xo_15_2r, xo_15_2n, xo_54, xo_44, xo_63_1, xo_48, xo_39i, xo_39r, xo_18, hz, hlt, h4, nI_add, cbk, if_true, if_false, eq_self, Bool.true_eq_false, Bool.false_eq_true, and_true, true_and, and_false, false_and, or_true, true_or, or_false, false_or, ne_eq, not_true_eq_false, not_false_eq_true, decide_true, decide_false, z_sA_id]
      · rw [decide_eq_false hc, Bool.false_and, if_neg (by decide)]
        simp (disch := first | assumption | exact kr _ rfl | omega | exact Nat.le_of_ble_eq_true rfl) only [xo_2_0, xo_64_1, xk_v, xk_n, xo_49, xo_5, xo_72a, xo_72b, xo_41, xo_10_2i, xo_10_2r, xo_10_2n, xo_55, xo_0_2, xo_2_1, xo_81, xo_45, zk_M_takes_24, xo_16, xo_20, xo_64_2, xo_82, xo_43, xo_15_2i, xo_15_2r, xo_15_2n, xo_54, zk_M_takes_48, xo_44, xo_63_1, xo_48, zk_M_takes_72, xo_39i, xo_39r, xo_18, hz, hlt, h4, nI_add, cbk, hc, if_true, if_false, eq_self, Bool.true_eq_false, Bool.false_eq_true, and_true, true_and, and_false, false_and, or_true, true_or, or_false, false_or, ne_eq, not_true_eq_false, not_false_eq_true, decide_true, decide_false, z_sA_id]
  have e1 := el w.length 0 (by omega)
  rw [e0, e1]
  cases y_mt (fun k => y_at (M 457) sz (a + k)) w w.length 0 with
  | false =>
    rw [if_neg (by decide), Bool.false_and, if_neg (by decide)]
    rfl
  | true =>
    rw [if_pos rfl, Bool.true_and]
    have hlt : ¬ nI w.length < nI w.length := nI_nlt (Nat.le_refl _) (by omega)
    have cbk := cb w.length (by omega)
    have cs := c_M_isSmall (G := G) (y_at (M 457) sz (a + w.length)) M
    have eu : z_sA M 455 (z_u (M 455) 4 (nI (a + w.length))) = ma M (a + w.length) := rfl
    obtain ⟨k0, ⟨r1, r8, r9, r10, r11, r12, r13, r17⟩, ⟨q1, q2⟩, ⟨q3, q4⟩, ⟨q5, q6⟩, ⟨q7, q8⟩, ⟨q9, q10⟩, ⟨q11, q12⟩, ⟨q13, q14⟩, ⟨q15, q16⟩, hp⟩ := id hM; have kr : ∀ a, z_rc a = 7 → z_kd G 455 = (0, z_rc a) := fun a h => (by rw [h]; exact k0)
    cases hs : y_sm (y_at (M 457) sz (a + w.length)) with
    | true =>
      rw [hs] at cs
      rw [Bool.not_true, if_neg (by decide)]
      simp (disch := first | assumption | exact kr _ rfl | omega | exact Nat.le_of_ble_eq_true rfl) only [xo_2_0, xo_64_1, xk_v, xk_n, xo_49, xo_5, xo_72a, xo_72b, xo_41, xo_10_2i, xo_10_2r, xo_10_2n, xo_55, xo_0_2, xo_2_1, xo_81, xo_45, xo_16, xo_20, xo_64_2, xo_82, xo_43, xo_15_2i, xo_15_2r, xo_15_2n, xo_54, zk_M_takes_48, xo_44, zk_M_takes_56, xo_63_1, xo_48, zk_M_takes_72, xo_39i, xo_39r, xo_18, hz, hlt, h4, nI_add, cbk, cs, z_b0, if_true, if_false, eq_self, Bool.true_eq_false, Bool.false_eq_true, and_true, true_and, and_false, false_and, or_true, true_or, or_false, false_or, ne_eq, not_true_eq_false, not_false_eq_true, decide_true, decide_false, z_sA_id]
      rfl
    | false =>
      rw [hs] at cs
      rw [Bool.not_false, if_pos rfl]
      simp (disch := first | assumption | exact kr _ rfl | omega | exact Nat.le_of_ble_eq_true rfl) only [xo_2_0, xo_64_1, xk_v, xk_n, xo_49, xo_5, xo_72a, xo_72b, xo_41, xo_10_2i, xo_10_2r, xo_10_2n, xo_55, xo_0_2, xo_2_1, xo_81, xo_45, xo_16, xo_20, xo_64_2, xo_82, xo_43, xo_15_2i, xo_15_2r, xo_15_2n, xo_54, zk_M_takes_48, xo_44, zk_M_takes_56, xo_63_1, xo_48, zk_M_takes_74, xo_39i, xo_39r, xo_18, hz, hlt, h4, nI_add, cbk, cs, z_b0, eu, if_true, if_false, eq_self, Bool.true_eq_false, Bool.false_eq_true, and_true, true_and, and_false, false_and, or_true, true_or, or_false, false_or, ne_eq, not_true_eq_false, not_false_eq_true, decide_true, decide_false, z_sA_id]
      rfl
theorem c_M_ends1 (hM : z_HM G) (M : zM) (h6 : ¬ M 455 6 = 0) : z_call 171 [.ref 455] G M = some (.inl none, G, M) := by
  have cf := c_M_fine hM M
  rw [decide_eq_false h6] at cf
  obtain ⟨k0, ⟨r1, r8, r9, r10, r11, r12, r13, r17⟩, ⟨q1, q2⟩, ⟨q3, q4⟩, ⟨q5, q6⟩, ⟨q7, q8⟩, ⟨q9, q10⟩, ⟨q11, q12⟩, ⟨q13, q14⟩, ⟨q15, q16⟩, hp⟩ := id hM; have kr : ∀ a, z_rc a = 7 → z_kd G 455 = (0, z_rc a) := fun a h => (by rw [h]; exact k0)
  simp (disch := first | assumption | exact kr _ rfl | omega | exact Nat.le_of_ble_eq_true rfl) only [ze_M_ends, zk_M_ends_0, xo_2_0, xo_64_1, xk_v, xk_n, xo_49, zk_M_ends_7, xo_69, xo_6, xo_43, xo_39i, xo_39r, xo_16, xo_5, xo_20, xo_18, xo_54, xo_64_3, xo_55, cf, z_b0, if_true, if_false, eq_self, Bool.true_eq_false, Bool.false_eq_true, and_true, true_and, and_false, false_and, or_true, true_or, or_false, false_or, ne_eq, not_true_eq_false, not_false_eq_true, decide_true, decide_false, z_sA_id]
theorem c_M_ends (hM : z_HM G) (M : zM) (h3 : M 455 3 = nI sz) (hsz : sz ≤ 200) (h4 : M 455 4 = nI a) (ha : a ≤ sz) (h6 : M 455 6 = 0) : ∃ M', z_call 171 [.ref 455] G M = some (.inl none, G, M') ∧ z_Tm M M' ∧ M' 455 15 = M 455 15 ∧ (∀ k p, y_en (M 457) sz a = .inl (k, p) → (M' 455 6 = nI k ∧ M' 455 7 = nI p) ∧ k = 1) ∧ ∀ c, y_en (M 457) sz a = .inr c → M' 455 6 = 0 ∧ M' 455 7 = M 455 7 ∧ M' 455 4 = nI c := by
  have c1 := c_M_here hM M h3 hsz h4 ha
  have cf := c_M_fine hM M
  rw [decide_eq_true h6] at cf
  unfold y_en
  generalize y_sk (M 457) (sz - a) a = e at c1
  have k4 := ma_4 M e
  have k6 := (ma_f M e (f := 6) (by omega)).trans h6
  by_cases hc : y_at (M 457) sz e = nI 59
  · rw [if_pos hc]
    rw [hc] at c1
    have eu := ma_u M e (e + 1)
    refine ⟨ma M (e + 1), ?_, Tm_ma _ _, ma_f M _ (by omega), fun k p h => (by cases h), fun c h => (by cases h; exact ⟨(ma_f M _ (by omega)).trans h6, ma_f M _ (by omega), ma_4 _ _⟩)⟩
    obtain ⟨k0, ⟨r1, r8, r9, r10, r11, r12, r13, r17⟩, ⟨q1, q2⟩, ⟨q3, q4⟩, ⟨q5, q6⟩, ⟨q7, q8⟩, ⟨q9, q10⟩, ⟨q11, q12⟩, ⟨q13, q14⟩, ⟨q15, q16⟩, hp⟩ := id hM; have kr : ∀ a, z_rc a = 7 → z_kd G 455 = (0, z_rc a) := fun a h => (by rw [h]; exact k0)
    simp (disch := first | assumption | exact kr _ rfl | omega | exact Nat.le_of_ble_eq_true rfl) only [ze_M_ends, zk_M_ends_0, xo_2_0, xo_64_1, xk_v, xk_n, xo_49, xo_69, zk_M_ends_8, xo_6, xo_43, zk_M_ends_17, xo_39i, xo_39r, xo_16, xo_5, xo_20, xo_18, xo_54, xo_64_3, xo_55, zk_M_ends_39, cf, z_b0, c1, k4, nI_add, eu, if_true, if_false, eq_self, Bool.true_eq_false, Bool.false_eq_true, and_true, true_and, and_false, false_and, or_true, true_or, or_false, false_or, ne_eq, not_true_eq_false, not_false_eq_true, decide_true, decide_false, z_sA_id]
  · rw [if_neg hc]
    have hw := c_M_wrong0 hM (ma M e) k6 (nI 1) (nI e)
    refine ⟨mw (ma M e) (nI 1) (nI e), ?_, Tm_trans (Tm_ma _ _) (Tm_mw _ _ _), (mw_4 _ _ _ (by omega) (by omega)).trans (ma_f M _ (by omega)), fun k p h => (by cases h; exact ⟨mw_67 _ _ _, rfl⟩), fun c h => (by cases h)⟩
    obtain ⟨k0, ⟨r1, r8, r9, r10, r11, r12, r13, r17⟩, ⟨q1, q2⟩, ⟨q3, q4⟩, ⟨q5, q6⟩, ⟨q7, q8⟩, ⟨q9, q10⟩, ⟨q11, q12⟩, ⟨q13, q14⟩, ⟨q15, q16⟩, hp⟩ := id hM; have kr : ∀ a, z_rc a = 7 → z_kd G 455 = (0, z_rc a) := fun a h => (by rw [h]; exact k0)
    simp (disch := first | assumption | exact kr _ rfl | omega | exact Nat.le_of_ble_eq_true rfl) only [ze_M_ends, zk_M_ends_0, xo_2_0, xo_64_1, xk_v, xk_n, xo_49, xo_69, zk_M_ends_8, xo_6, xo_43, xo_39i, xo_39r, xo_16, xo_5, xo_20, xo_18, xo_54, zk_M_ends_30, xo_64_3, xo_55, zk_M_ends_39, cf, z_b0, c1, hc, k4, hw, if_true, if_false, eq_self, Bool.true_eq_false, Bool.false_eq_true, and_true, true_and, and_false, false_and, or_true, true_or, or_false, false_or, ne_eq, not_true_eq_false, not_false_eq_true, decide_true, decide_false, z_sA_id]
def z_DR (M : zM) (S : Nat → Int32) : Prop := ∀ k, k < 4326 → M 459 k = S k
def z_Td (M M' : zM) : Prop := (∀ q, q ≠ 455 → q ≠ 459 → M' q = M q) ∧ ∀ f, f ≠ 4 → f ≠ 6 → f ≠ 7 → f ≠ 15 → M' 455 f = M 455 f
theorem Td_T {M M' : zM} (h : z_Tm M M') : z_Td M M' := ⟨fun q hq _ => h.1 q hq, h.2⟩
theorem Td_trans {M M1 M2 : zM} (h : z_Td M M1) (g : z_Td M1 M2) : z_Td M M2 := ⟨fun q hq h2 => (g.1 q hq h2).trans (h.1 q hq h2), fun f a b c d => (g.2 f a b c d).trans (h.2 f a b c d)⟩
theorem Td_9 (M : zM) (x : Nat → Int32) : z_Td M (z_sA M 459 x) := ⟨fun q _ h => z_sA_n _ _ _ _ h, fun f _ _ _ _ => by rw [z_sA_n _ _ _ _ (by omega)]⟩
theorem DR_u {M : zM} {S : Nat → Int32} (h : z_DR M S) (k : Nat) (v : Int32) : z_DR (z_sA M 459 (z_u (M 459) k v)) (z_u S k v) := by
  intro j hj
  rw [z_sA_s]
  by_cases e : j = k
  · subst e; rw [z_u_s, z_u_s]
  · rw [z_u_n _ _ _ _ e, z_u_n _ _ _ _ e]; exact h j hj
/-- what a reading's end says of the reference -/
def z_Ym (M M' : zM) (o : (Nat × Nat) ⊕ ((Nat → Int32) × Nat)) : Prop := (∀ k p, o = .inl (k, p) → (M' 455 6 = nI k ∧ M' 455 7 = nI p) ∧ 1 ≤ k ∧ k ≤ 4) ∧ ∀ S b, o = .inr (S, b) → (M' 455 6 = 0 ∧ M' 455 7 = M 455 7 ∧ M' 455 4 = nI b) ∧ z_DR M' S
theorem or_b (x y : Bool) : z_b x ||| z_b y = z_b (x || y) := by cases x <;> cases y <;> decide
theorem l_rk_stop (hM : z_HM G) (M : zM) (h6 : ¬ M 455 6 = 0) (h0 : M 459 0 = nI n) (hn : n ≤ 8) {i : Nat} (hi : i ≤ 8) (w2 w3 w4 : Value) : z_ex 174 (z_blk 174 2) [.ref 455, .int (nI i), w2, w3, w4] [] G M = some (.inl none, G, M) := by
  have cf := c_M_fine hM M
  rw [decide_eq_false h6] at cf
  obtain ⟨k0, ⟨r1, r8, r9, r10, r11, r12, r13, r17⟩, ⟨q1, q2⟩, ⟨q3, q4⟩, ⟨q5, q6⟩, ⟨q7, q8⟩, ⟨q9, q10⟩, ⟨q11, q12⟩, ⟨q13, q14⟩, ⟨q15, q16⟩, hp⟩ := id hM; have kr : ∀ a, z_rc a = 7 → z_kd G 455 = (0, z_rc a) := fun a h => (by rw [h]; exact k0)
  have hk : (0 : Nat) < (z_kd G 459).2 := by omega
  conv => lhs; rw [zk_M_readsRanks_2]
  by_cases h : i < n
  · have hl : nI i < nI n := nI_lt h (by omega)
    simp (disch := first | assumption | exact kr _ rfl | omega | exact Nat.le_of_ble_eq_true rfl) only [xo_5, xo_10_1i, xo_10_1r, xo_10_1n, xo_55, xo_0_1, xo_2_0, xo_17, xo_32, xo_45, zk_M_readsRanks_12, xo_64_1, xk_v, xk_n, xo_48, xo_6, xo_64_3, xo_10_2i, xo_10_2r, xo_10_2n, xo_10_3i, xo_10_3r, xo_10_3n, xo_11_4i, xo_11_4r, xo_11_4n, xo_1_4, xo_0_3, xo_20, xo_0_2, xo_43, xo_54, xo_24, xo_15_4i, xo_15_4r, xo_15_4n, xo_16, xo_33, xo_15_1i, xo_15_1r, xo_15_1n, zk_M_readsRanks_102, xo_69, r10, h0, hl, cf, z_b0, if_true, if_false, eq_self, Bool.true_eq_false, Bool.false_eq_true, and_true, true_and, and_false, false_and, or_true, true_or, or_false, false_or, ne_eq, not_true_eq_false, not_false_eq_true, decide_true, decide_false, z_sA_id]
  · have hl : ¬ nI i < nI n := nI_nlt (by omega) (by omega)
    simp (disch := first | assumption | exact kr _ rfl | omega | exact Nat.le_of_ble_eq_true rfl) only [xo_5, xo_10_1i, xo_10_1r, xo_10_1n, xo_55, xo_0_1, xo_2_0, xo_17, xo_32, xo_45, xo_64_1, xk_v, xk_n, xo_48, xo_6, xo_64_3, xo_10_2i, xo_10_2r, xo_10_2n, xo_10_3i, xo_10_3r, xo_10_3n, xo_11_4i, xo_11_4r, xo_11_4n, xo_1_4, xo_0_3, xo_20, xo_0_2, xo_43, xo_54, xo_24, xo_15_4i, xo_15_4r, xo_15_4n, xo_16, xo_33, xo_15_1i, xo_15_1r, xo_15_1n, zk_M_readsRanks_102, xo_69, r10, h0, hl, if_true, if_false, eq_self, Bool.true_eq_false, Bool.false_eq_true, and_true, true_and, and_false, false_and, or_true, true_or, or_false, false_or, ne_eq, not_true_eq_false, not_false_eq_true, decide_true, decide_false, z_sA_id]
end
