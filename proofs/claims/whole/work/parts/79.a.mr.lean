/-! ===== the reference reads: bytes, numbers, words ===== -/
def ma (M : zM) (a : Nat) : zM := z_sA M 455 (z_u (M 455) 4 (nI a))
theorem ma_f (M : zM) (a : Nat) {f : Nat} (hf : f ≠ 4) : ma M a 455 f = M 455 f := by unfold ma; rw [z_sA_s, z_u_n _ _ _ _ hf]
theorem ma_4 (M : zM) (a : Nat) : ma M a 455 4 = nI a := by unfold ma; rw [z_sA_s, z_u_s]
theorem ma_o (M : zM) (a : Nat) {q : Nat} (h : q ≠ 455) : ma M a q = M q := z_sA_n _ _ _ _ h
theorem ma_u (M : zM) (a b : Nat) : z_sA (ma M a) 455 (z_u (ma M a 455) 4 (nI b)) = ma M b := by unfold ma; rw [z_sA_s, z_u_u, z_sA_sA]
theorem ma_id (M : zM) {a : Nat} (h : M 455 4 = nI a) : ma M a = M := by
  unfold ma
  rw [← h]
  have : z_u (M 455) 4 (M 455 4) = M 455 := by funext a; by_cases ha : a = 4; (· subst ha; rw [z_u_s]); (· rw [z_u_n _ _ _ _ ha])
  rw [this, z_sA_id]
def mw (M : zM) (k p : Int32) : zM := z_sA M 455 (z_u (z_u (M 455) 6 k) 7 p)
def z_Tm (M M' : zM) : Prop := (∀ q, q ≠ 455 → M' q = M q) ∧ ∀ f, f ≠ 4 → f ≠ 6 → f ≠ 7 → f ≠ 15 → M' 455 f = M 455 f
theorem Tm_trans {M M1 M2 : zM} (h : z_Tm M M1) (g : z_Tm M1 M2) : z_Tm M M2 := ⟨fun q hq => (g.1 q hq).trans (h.1 q hq), fun f a b c d => (g.2 f a b c d).trans (h.2 f a b c d)⟩
theorem Tm_ma (M : zM) (a : Nat) : z_Tm M (ma M a) := ⟨fun q hq => ma_o M a hq, fun f a b c d => ma_f M _ a⟩
theorem Tm_mw (M : zM) (k p : Int32) : z_Tm M (mw M k p) := ⟨fun q hq => z_sA_n _ _ _ _ hq, fun f a b c d => by unfold mw; rw [z_sA_s, z_u_n _ _ _ _ c, z_u_n _ _ _ _ b]⟩
theorem mw_67 (M : zM) (k p : Int32) : mw M k p 455 6 = k ∧ mw M k p 455 7 = p := by unfold mw; exact ⟨by rw [z_sA_s, z_u_n _ _ _ _ (by omega), z_u_s], by rw [z_sA_s, z_u_s]⟩
theorem mw_4 (M : zM) (k p : Int32) {f : Nat} (h6 : f ≠ 6) (h7 : f ≠ 7) : mw M k p 455 f = M 455 f := by unfold mw; rw [z_sA_s, z_u_n _ _ _ _ h7, z_u_n _ _ _ _ h6]
section
variable {G : zG} {sz a : Nat}
theorem c_M_byteAt (hM : z_HM G) (M : zM) (h3 : M 455 3 = nI sz) (hsz : sz ≤ 200) {k : Nat} (hk : k ≤ 1000) : z_call 163 [.ref 455, .int (nI k)] G M = some (.inl (some (.int (y_at (M 457) sz k))), G, M) := by
  unfold y_at
  obtain ⟨k0, ⟨r1, r8, r9, r10, r11, r12, r13, r17⟩, ⟨q1, q2⟩, ⟨q3, q4⟩, ⟨q5, q6⟩, ⟨q7, q8⟩, ⟨q9, q10⟩, ⟨q11, q12⟩, ⟨q13, q14⟩, ⟨q15, q16⟩, hp⟩ := id hM; have kr : ∀ a, z_rc a = 7 → z_kd G 455 = (0, z_rc a) := fun a h => (by rw [h]; exact k0)
  by_cases h : k < sz
  · have hl : nI k < nI sz := nI_lt h (by omega)
    have hk2 : k < (z_kd G 457).2 := by omega
    rw [if_pos h]
    simp (disch := first | assumption | exact kr _ rfl | omega | exact Nat.le_of_ble_eq_true rfl) only [ze_M_byteAt, zk_M_byteAt_0, xo_0_1, xo_2_0, xo_16, xo_44, xo_5, xo_54, zk_M_byteAt_12, xo_17, xo_32, xo_55, zk_M_byteAt_18, xo_70, h3, hl, r8, if_true, if_false, eq_self, Bool.true_eq_false, Bool.false_eq_true, and_true, true_and, and_false, false_and, or_true, true_or, or_false, false_or, ne_eq, not_true_eq_false, not_false_eq_true, decide_true, decide_false, z_sA_id]
  · have hl : ¬ nI k < nI sz := nI_nlt (by omega) (by omega)
    rw [if_neg h]
    simp (disch := first | assumption | exact kr _ rfl | omega | exact Nat.le_of_ble_eq_true rfl) only [ze_M_byteAt, zk_M_byteAt_0, xo_0_1, xo_2_0, xo_16, xo_44, zk_M_byteAt_8, xo_5, xo_54, xo_17, xo_32, xo_55, zk_M_byteAt_18, xo_70, h3, hl, if_true, if_false, eq_self, Bool.true_eq_false, Bool.false_eq_true, and_true, true_and, and_false, false_and, or_true, true_or, or_false, false_or, ne_eq, not_true_eq_false, not_false_eq_true, decide_true, decide_false, z_sA_id]
theorem c_M_here (hM : z_HM G) (M : zM) (h3 : M 455 3 = nI sz) (hsz : sz ≤ 200) (h4 : M 455 4 = nI a) (ha : a ≤ sz) : z_call 162 [.ref 455] G M = some (.inl (some (.int (y_at (M 457) sz (y_sk (M 457) (sz - a) a)))), G, ma M (y_sk (M 457) (sz - a) a)) := by
  have e : ∀ r a, a + r = sz → z_ex 162 (z_blk 162 0) [.ref 455] [] G (ma M a) = some (.inl (some (.int (y_at (M 457) sz (y_sk (M 457) r a)))), G, ma M (y_sk (M 457) r a)) := by
    intro r
    induction r with
    | zero =>
      intro a hr
      have b4 := ma_4 M a
      have cb := c_M_byteAt hM (ma M a) ((ma_f M a (f := 3) (by omega)).trans h3) hsz (k := a) (by omega)
      rw [ma_o M a (q := 457) (by omega)] at cb
      have hy : y_at (M 457) sz a = nI 4294967295 := if_neg (by omega)
      rw [hy] at cb
      have hne : (nI 4294967295 = nI 32) = False := by decide
      unfold y_sk
      rw [hy]
      obtain ⟨k0, ⟨r1, r8, r9, r10, r11, r12, r13, r17⟩, ⟨q1, q2⟩, ⟨q3, q4⟩, ⟨q5, q6⟩, ⟨q7, q8⟩, ⟨q9, q10⟩, ⟨q11, q12⟩, ⟨q13, q14⟩, ⟨q15, q16⟩, hp⟩ := id hM; have kr : ∀ a, z_rc a = 7 → z_kd G 455 = (0, z_rc a) := fun a h => (by rw [h]; exact k0)
      conv => lhs; rw [zk_M_here_0]
      simp (disch := first | assumption | exact kr _ rfl | omega | exact Nat.le_of_ble_eq_true rfl) only [xo_2_0, xo_16, xo_64_2, xk_v, xk_n, xo_6, xo_43, xo_39i, xo_39r, xo_5, xo_20, xo_18, xo_54, zk_M_here_26, xo_70, b4, cb, hne, if_true, if_false, eq_self, Bool.true_eq_false, Bool.false_eq_true, and_true, true_and, and_false, false_and, or_true, true_or, or_false, false_or, ne_eq, not_true_eq_false, not_false_eq_true, decide_true, decide_false, z_sA_id]
    | succ r ih =>
      intro a hr
      have b4 := ma_4 M a
      have cb := c_M_byteAt hM (ma M a) ((ma_f M a (f := 3) (by omega)).trans h3) hsz (k := a) (by omega)
      rw [ma_o M a (q := 457) (by omega)] at cb
      have hy : y_at (M 457) sz a = M 457 a := if_pos (by omega)
      have eu := ma_u M a (a + 1)
      rw [hy] at cb
      unfold y_sk
      by_cases hc : M 457 a = nI 32
      · rw [if_pos hc, ← ih (a + 1) (by omega)]
        rw [hc] at cb
        obtain ⟨k0, ⟨r1, r8, r9, r10, r11, r12, r13, r17⟩, ⟨q1, q2⟩, ⟨q3, q4⟩, ⟨q5, q6⟩, ⟨q7, q8⟩, ⟨q9, q10⟩, ⟨q11, q12⟩, ⟨q13, q14⟩, ⟨q15, q16⟩, hp⟩ := id hM; have kr : ∀ a, z_rc a = 7 → z_kd G 455 = (0, z_rc a) := fun a h => (by rw [h]; exact k0)
        conv => lhs; rw [zk_M_here_0]
        simp (disch := first | assumption | exact kr _ rfl | omega | exact Nat.le_of_ble_eq_true rfl) only [xo_2_0, xo_16, xo_64_2, xk_v, xk_n, xo_6, xo_43, zk_M_here_13, xo_39i, xo_39r, xo_5, xo_20, xo_18, xo_54, xo_70, b4, cb, eu, nI_add, if_true, if_false, eq_self, Bool.true_eq_false, Bool.false_eq_true, and_true, true_and, and_false, false_and, or_true, true_or, or_false, false_or, ne_eq, not_true_eq_false, not_false_eq_true, decide_true, decide_false, z_sA_id]
      · rw [if_neg hc, hy]
        obtain ⟨k0, ⟨r1, r8, r9, r10, r11, r12, r13, r17⟩, ⟨q1, q2⟩, ⟨q3, q4⟩, ⟨q5, q6⟩, ⟨q7, q8⟩, ⟨q9, q10⟩, ⟨q11, q12⟩, ⟨q13, q14⟩, ⟨q15, q16⟩, hp⟩ := id hM; have kr : ∀ a, z_rc a = 7 → z_kd G 455 = (0, z_rc a) := fun a h => (by rw [h]; exact k0)
        conv => lhs; rw [zk_M_here_0]
        simp (disch := first | assumption | exact kr _ rfl | omega | exact Nat.le_of_ble_eq_true rfl) only [xo_2_0, xo_16, xo_64_2, xk_v, xk_n, xo_6, xo_43, xo_39i, xo_39r, xo_5, xo_20, xo_18, xo_54, zk_M_here_26, xo_70, b4, cb, hc, if_true, if_false, eq_self, Bool.true_eq_false, Bool.false_eq_true, and_true, true_and, and_false, false_and, or_true, true_or, or_false, false_or, ne_eq, not_true_eq_false, not_false_eq_true, decide_true, decide_false, z_sA_id]
  have := e (sz - a) a (by omega)
  rw [ma_id M h4] at this
  exact this
theorem c_M_fine (hM : z_HM G) (M : zM) : z_call 165 [.ref 455] G M = some (.inl (some (.int (z_b (decide (M 455 6 = 0))))), G, M) := by
  obtain ⟨k0, ⟨r1, r8, r9, r10, r11, r12, r13, r17⟩, ⟨q1, q2⟩, ⟨q3, q4⟩, ⟨q5, q6⟩, ⟨q7, q8⟩, ⟨q9, q10⟩, ⟨q11, q12⟩, ⟨q13, q14⟩, ⟨q15, q16⟩, hp⟩ := id hM; have kr : ∀ a, z_rc a = 7 → z_kd G 455 = (0, z_rc a) := fun a h => (by rw [h]; exact k0)
  by_cases h : M 455 6 = 0
  · rw [decide_eq_true h]
    simp (disch := first | assumption | exact kr _ rfl | omega | exact Nat.le_of_ble_eq_true rfl) only [ze_M_fine, zk_M_fine_0, xo_2_0, xo_16, xo_49, zk_M_fine_7, xo_5, xo_54, xo_55, zk_M_fine_12, xo_72a, xo_72b, h, if_true, if_false, eq_self, Bool.true_eq_false, Bool.false_eq_true, and_true, true_and, and_false, false_and, or_true, true_or, or_false, false_or, ne_eq, not_true_eq_false, not_false_eq_true, decide_true, decide_false, z_sA_id]
    rfl
  · rw [decide_eq_false h]
    simp (disch := first | assumption | exact kr _ rfl | omega | exact Nat.le_of_ble_eq_true rfl) only [ze_M_fine, zk_M_fine_0, xo_2_0, xo_16, xo_49, xo_5, xo_54, zk_M_fine_11, xo_55, zk_M_fine_12, xo_72a, xo_72b, h, if_true, if_false, eq_self, Bool.true_eq_false, Bool.false_eq_true, and_true, true_and, and_false, false_and, or_true, true_or, or_false, false_or, ne_eq, not_true_eq_false, not_false_eq_true, decide_true, decide_false, z_sA_id]
    rfl
theorem c_M_wrong0 (hM : z_HM G) (M : zM) (h : M 455 6 = 0) (k p : Int32) : z_call 167 [.ref 455, .int k, .int p] G M = some (.inl none, G, mw M k p) := by
  unfold mw
  obtain ⟨k0, ⟨r1, r8, r9, r10, r11, r12, r13, r17⟩, ⟨q1, q2⟩, ⟨q3, q4⟩, ⟨q5, q6⟩, ⟨q7, q8⟩, ⟨q9, q10⟩, ⟨q11, q12⟩, ⟨q13, q14⟩, ⟨q15, q16⟩, hp⟩ := id hM; have kr : ∀ a, z_rc a = 7 → z_kd G 455 = (0, z_rc a) := fun a h => (by rw [h]; exact k0)
  simp (disch := first | assumption | exact kr _ rfl | omega | exact Nat.le_of_ble_eq_true rfl) only [ze_M_wrong, zk_M_wrong_0, xo_2_0, xo_16, xo_49, zk_M_wrong_7, xo_0_1, xo_18, xo_0_2, xo_55, zk_M_wrong_17, xo_69, h, z_sA_s, z_sA_sA, if_true, if_false, eq_self, Bool.true_eq_false, Bool.false_eq_true, and_true, true_and, and_false, false_and, or_true, true_or, or_false, false_or, ne_eq, not_true_eq_false, not_false_eq_true, decide_true, decide_false, z_sA_id]
theorem c_M_wrong1 (hM : z_HM G) (M : zM) (h : ¬ M 455 6 = 0) (k p : Int32) : z_call 167 [.ref 455, .int k, .int p] G M = some (.inl none, G, M) := by
  obtain ⟨k0, ⟨r1, r8, r9, r10, r11, r12, r13, r17⟩, ⟨q1, q2⟩, ⟨q3, q4⟩, ⟨q5, q6⟩, ⟨q7, q8⟩, ⟨q9, q10⟩, ⟨q11, q12⟩, ⟨q13, q14⟩, ⟨q15, q16⟩, hp⟩ := id hM; have kr : ∀ a, z_rc a = 7 → z_kd G 455 = (0, z_rc a) := fun a h => (by rw [h]; exact k0)
  simp (disch := first | assumption | exact kr _ rfl | omega | exact Nat.le_of_ble_eq_true rfl) only [ze_M_wrong, zk_M_wrong_0, xo_2_0, xo_16, xo_49, xo_0_1, xo_18, xo_0_2, xo_55, zk_M_wrong_17, xo_69, h, if_true, if_false, eq_self, Bool.true_eq_false, Bool.false_eq_true, and_true, true_and, and_false, false_and, or_true, true_or, or_false, false_or, ne_eq, not_true_eq_false, not_false_eq_true, decide_true, decide_false, z_sA_id]
theorem c_M_isDigit (x : Int32) (M : zM) : z_call 169 [.int x] G M = some (.inl (some (.int (z_b (y_dg x)))), G, M) := by
  unfold y_dg zf_in
  by_cases c1 : x < nI 48
  · rw [decide_eq_false (fun q => q.1 c1)]
    simp (disch := first | assumption | omega | exact Nat.le_of_ble_eq_true rfl | decide) only [ze_M_isDigit, zk_M_isDigit_0, xo_0_0, xo_6, xo_44, xo_46, xo_5, xo_54, zk_M_isDigit_16, xo_55, zk_M_isDigit_17, xo_72a, xo_72b, c1, if_true, if_false, eq_self, Bool.true_eq_false, Bool.false_eq_true]
    rfl
  · by_cases c2 : nI 57 < x
    · rw [decide_eq_false (fun q => q.2 c2)]
      simp (disch := first | assumption | omega | exact Nat.le_of_ble_eq_true rfl | decide) only [ze_M_isDigit, zk_M_isDigit_0, xo_0_0, xo_6, xo_44, zk_M_isDigit_6, xo_46, xo_5, xo_54, zk_M_isDigit_16, xo_55, zk_M_isDigit_17, xo_72a, xo_72b, c1, c2, if_true, if_false, eq_self, Bool.true_eq_false, Bool.false_eq_true]
      rfl
    · rw [decide_eq_true ⟨c1, c2⟩]
      simp (disch := first | assumption | omega | exact Nat.le_of_ble_eq_true rfl | decide) only [ze_M_isDigit, zk_M_isDigit_0, xo_0_0, xo_6, xo_44, zk_M_isDigit_6, xo_46, zk_M_isDigit_12, xo_5, xo_54, xo_55, zk_M_isDigit_17, xo_72a, xo_72b, c1, c2, if_true, if_false, eq_self, Bool.true_eq_false, Bool.false_eq_true]
      rfl
theorem c_M_isSmall (x : Int32) (M : zM) : z_call 166 [.int x] G M = some (.inl (some (.int (z_b (y_sm x)))), G, M) := by
  unfold y_sm zf_in
  by_cases c1 : x < nI 97
  · rw [decide_eq_false (fun q => q.1 c1)]
    simp (disch := first | assumption | omega | exact Nat.le_of_ble_eq_true rfl | decide) only [ze_M_isSmall, zk_M_isSmall_0, xo_0_0, xo_6, xo_44, xo_46, xo_5, xo_54, zk_M_isSmall_16, xo_55, zk_M_isSmall_17, xo_72a, xo_72b, c1, if_true, if_false, eq_self, Bool.true_eq_false, Bool.false_eq_true]
    rfl
  · by_cases c2 : nI 122 < x
    · rw [decide_eq_false (fun q => q.2 c2)]
      simp (disch := first | assumption | omega | exact Nat.le_of_ble_eq_true rfl | decide) only [ze_M_isSmall, zk_M_isSmall_0, xo_0_0, xo_6, xo_44, zk_M_isSmall_6, xo_46, xo_5, xo_54, zk_M_isSmall_16, xo_55, zk_M_isSmall_17, xo_72a, xo_72b, c1, c2, if_true, if_false, eq_self, Bool.true_eq_false, Bool.false_eq_true]
      rfl
    · rw [decide_eq_true ⟨c1, c2⟩]
      simp (disch := first | assumption | omega | exact Nat.le_of_ble_eq_true rfl | decide) only [ze_M_isSmall, zk_M_isSmall_0, xo_0_0, xo_6, xo_44, zk_M_isSmall_6, xo_46, zk_M_isSmall_12, xo_5, xo_54, xo_55, zk_M_isSmall_17, xo_72a, xo_72b, c1, c2, if_true, if_false, eq_self, Bool.true_eq_false, Bool.false_eq_true]
      rfl
theorem nm_1e5 {m d : Nat} (hm : m ≤ 100000) (hd : d ≤ 9) : (if nI 100000 < nI (10 * m + d) then nI 100000 else nI (10 * m + d)) = nI (min 100000 (10 * m + d)) := by
  by_cases h : 100000 < 10 * m + d
  · rw [if_pos (nI_lt h (by omega)), Nat.min_eq_left (by omega)]
  · rw [if_neg (nI_nlt (by omega) (by omega)), Nat.min_eq_right (by omega)]
def y_nv (lo : Nat) : (Nat × Nat) ⊕ (Nat × Nat × Nat) → Nat
  | .inl _ => lo
  | .inr (_, v, _) => v
theorem c_M_number1 (hM : z_HM G) (M : zM) (h6 : ¬ M 455 6 = 0) (lo hi : Int32) : z_call 168 [.ref 455, .int lo, .int hi] G M = some (.inl (some (.int lo)), G, M) := by
  have cf := c_M_fine hM M
  rw [decide_eq_false h6] at cf
  obtain ⟨k0, ⟨r1, r8, r9, r10, r11, r12, r13, r17⟩, ⟨q1, q2⟩, ⟨q3, q4⟩, ⟨q5, q6⟩, ⟨q7, q8⟩, ⟨q9, q10⟩, ⟨q11, q12⟩, ⟨q13, q14⟩, ⟨q15, q16⟩, hp⟩ := id hM; have kr : ∀ a, z_rc a = 7 → z_kd G 455 = (0, z_rc a) := fun a h => (by rw [h]; exact k0)
  simp (disch := first | assumption | exact kr _ rfl | omega | exact Nat.le_of_ble_eq_true rfl) only [ze_M_number, zk_M_number_0, xo_2_0, xo_64_1, xk_v, xk_n, xo_49, zk_M_number_7, xo_0_1, xo_70, xo_63_1, xo_5, xo_16, xo_64_3, xo_55, xo_18, xo_10_3i, xo_10_3r, xo_10_3n, xo_64_2, xo_48, xo_8, xo_6, xo_0_3, xo_22, xo_20, xo_21, xo_63_2, xo_39i, xo_39r, xo_54, xo_0_2, xo_63_3, cf, z_b0, if_true, if_false, eq_self, Bool.true_eq_false, Bool.false_eq_true, and_true, true_and, and_false, false_and, or_true, true_or, or_false, false_or, ne_eq, not_true_eq_false, not_false_eq_true, decide_true, decide_false, z_sA_id]
theorem c_M_number (hM : z_HM G) (M : zM) (h3 : M 455 3 = nI sz) (hsz : sz ≤ 200) (h4 : M 455 4 = nI a) (ha : a ≤ sz) (h6 : M 455 6 = 0) (hY : ∀ k, k < sz → ∃ u, u < 256 ∧ M 457 k = nI u) {lo hi : Nat} (hlo : lo ≤ 99) (hhi : hi ≤ 99) : ∃ M', z_call 168 [.ref 455, .int (nI lo), .int (nI hi)] G M = some (.inl (some (.int (nI (y_nv lo (y_num (M 457) sz lo hi a))))), G, M') ∧ z_Tm M M' ∧ (∀ k p, y_num (M 457) sz lo hi a = .inl (k, p) → (M' 455 6 = nI k ∧ M' 455 7 = nI p) ∧ (k = 1 ∨ k = 2)) ∧ (∀ b v p, y_num (M 457) sz lo hi a = .inr (b, v, p) → M' 455 6 = 0 ∧ M' 455 7 = M 455 7 ∧ M' 455 4 = nI b ∧ M' 455 15 = nI p) := by
  have c1 := c_M_here hM M h3 hsz h4 ha
  have sb := sk_b (M 457) (sz - a) a
  unfold y_num
  generalize y_sk (M 457) (sz - a) a = e at c1 sb
  have cf0 := c_M_fine hM M
  rw [decide_eq_true h6] at cf0
  have nb := nm_b (M 457) (sz - e) e 0
  have a3 := (ma_f M e (f := 3) (by omega)).trans h3
  have a4 := ma_4 M e
  have a6 := (ma_f M e (f := 6) (by omega)).trans h6
  have a7 := ma_f M e (f := 7) (by omega)
  have ao : ∀ q, q ≠ 455 → ma M e q = M q := fun q hq => ma_o M e hq
  have t1 := Tm_ma M e
  have hd := c_M_isDigit (G := G) (y_at (M 457) sz e) (ma M e)
  have el : ∀ (M1 : zM), M1 455 3 = nI sz → M1 457 = M 457 → ∀ r b v, b + r = sz → z_ex 168 (z_blk 168 38) [.ref 455, .int (nI lo), .int (nI hi), .int (nI (min 100000 v))] [] G (ma M1 b) = z_ex 168 (z_blk 168 87) [.ref 455, .int (nI lo), .int (nI hi), .int (nI (min 100000 (y_nm (M 457) r b v).2))] [] G (ma M1 (y_nm (M 457) r b v).1) := by
    intro M1 g3 g457 r
    induction r with
    | zero =>
      intro b v hr
      have cb := c_M_byteAt hM (ma M1 b) ((ma_f M1 b (f := 3) (by omega)).trans g3) hsz (k := b) (by omega)
      rw [ma_o M1 b (q := 457) (by omega), g457] at cb
      have hy : y_at (M 457) sz b = nI 4294967295 := if_neg (by omega)
      rw [hy] at cb
      have b4 := ma_4 M1 b
      have dd := c_M_isDigit (G := G) (nI 4294967295) (ma M1 b)
      rw [show y_dg (nI 4294967295) = false by decide] at dd
      obtain ⟨k0, ⟨r1, r8, r9, r10, r11, r12, r13, r17⟩, ⟨q1, q2⟩, ⟨q3, q4⟩, ⟨q5, q6⟩, ⟨q7, q8⟩, ⟨q9, q10⟩, ⟨q11, q12⟩, ⟨q13, q14⟩, ⟨q15, q16⟩, hp⟩ := id hM; have kr : ∀ a, z_rc a = 7 → z_kd G 455 = (0, z_rc a) := fun a h => (by rw [h]; exact k0)
      conv => lhs; rw [zk_M_number_38]
      simp (disch := first | assumption | exact kr _ rfl | omega | exact Nat.le_of_ble_eq_true rfl) only [xo_2_0, xo_64_1, xk_v, xk_n, xo_49, xo_0_1, xo_70, xo_63_1, xo_5, xo_16, xo_64_3, xo_55, xo_18, xo_10_3i, xo_10_3r, xo_10_3n, xo_64_2, xo_48, xo_8, xo_6, xo_0_3, xo_22, xo_20, xo_21, xo_63_2, xo_39i, xo_39r, xo_54, xo_0_2, xo_63_3, b4, cb, dd, z_b0, y_nm, if_true, if_false, eq_self, Bool.true_eq_false, Bool.false_eq_true, and_true, true_and, and_false, false_and, or_true, true_or, or_false, false_or, ne_eq, not_true_eq_false, not_false_eq_true, decide_true, decide_false, z_sA_id]
    | succ r ih =>
      intro b v hr
      have cb := c_M_byteAt hM (ma M1 b) ((ma_f M1 b (f := 3) (by omega)).trans g3) hsz (k := b) (by omega)
      rw [ma_o M1 b (q := 457) (by omega), g457] at cb
      have hy : y_at (M 457) sz b = M 457 b := if_pos (by omega)
      obtain ⟨u, hu, eu⟩ := hY b (by omega)
      have hdu := dg_u hu eu
      have b4 := ma_4 M1 b
      have dd := c_M_isDigit (G := G) (M 457 b) (ma M1 b)
      rw [hy] at cb
      unfold y_nm
      by_cases hc : y_dg (M 457 b) = true
      · rw [if_pos hc]
        rw [hc] at dd hdu
        obtain ⟨u1, u2⟩ := of_decide_eq_true hdu.symm
        obtain ⟨d, hd9⟩ : ∃ d, u = d + 48 := ⟨u - 48, by omega⟩
        subst hd9
        have zn : z_n (M 457 b) - 48 = d := by rw [eu, z_nN (by omega)]; omega
        rw [zn, ← ih (b + 1) (10 * v + d) (by omega)]
        rw [eu] at cb dd
        have m1 := nI_sub48 (10 * min 100000 v) d
        have m2 := nm_1e5 (m := min 100000 v) (d := d) (Nat.min_le_left _ _) (by omega)
        have m3 : min 100000 (10 * min 100000 v + d) = min 100000 (10 * v + d) := by omega
        rw [m3] at m2
        have cl := c_M_less (nI 100000) (nI (10 * min 100000 v + d)) G (ma M1 b)
        rw [m2] at cl
        have eu2 := ma_u M1 b (b + 1)
        obtain ⟨k0, ⟨r1, r8, r9, r10, r11, r12, r13, r17⟩, ⟨q1, q2⟩, ⟨q3, q4⟩, ⟨q5, q6⟩, ⟨q7, q8⟩, ⟨q9, q10⟩, ⟨q11, q12⟩, ⟨q13, q14⟩, ⟨q15, q16⟩, hp⟩ := id hM; have kr : ∀ a, z_rc a = 7 → z_kd G 455 = (0, z_rc a) := fun a h => (by rw [h]; exact k0)
        conv => lhs; rw [zk_M_number_38]
        simp (disch := first | assumption | exact kr _ rfl | omega | exact Nat.le_of_ble_eq_true rfl) only [xo_2_0, xo_64_1, xk_v, xk_n, xo_49, xo_0_1, xo_70, xo_63_1, xo_5, xo_16, xo_64_3, xo_55, xo_18, xo_10_3i, xo_10_3r, xo_10_3n, xo_64_2, xo_48, zk_M_number_52, xo_8, xo_6, xo_0_3, xo_22, xo_20, xo_21, xo_63_2, xo_39i, xo_39r, xo_54, xo_0_2, xo_63_3, b4, cb, dd, z_b0, nI_add, pk_mul, m1, cl, eu2, if_true, if_false, eq_self, Bool.true_eq_false, Bool.false_eq_true, and_true, true_and, and_false, false_and, or_true, true_or, or_false, false_or, ne_eq, not_true_eq_false, not_false_eq_true, decide_true, decide_false, z_sA_id]
      · have hc' : y_dg (M 457 b) = false := by simpa using hc
        rw [if_neg hc]
        rw [hc'] at dd
        obtain ⟨k0, ⟨r1, r8, r9, r10, r11, r12, r13, r17⟩, ⟨q1, q2⟩, ⟨q3, q4⟩, ⟨q5, q6⟩, ⟨q7, q8⟩, ⟨q9, q10⟩, ⟨q11, q12⟩, ⟨q13, q14⟩, ⟨q15, q16⟩, hp⟩ := id hM; have kr : ∀ a, z_rc a = 7 → z_kd G 455 = (0, z_rc a) := fun a h => (by rw [h]; exact k0)
        conv => lhs; rw [zk_M_number_38]
        simp (disch := first | assumption | exact kr _ rfl | omega | exact Nat.le_of_ble_eq_true rfl) only [xo_2_0, xo_64_1, xk_v, xk_n, xo_49, xo_0_1, xo_70, xo_63_1, xo_5, xo_16, xo_64_3, xo_55, xo_18, xo_10_3i, xo_10_3r, xo_10_3n, xo_64_2, xo_48, xo_8, xo_6, xo_0_3, xo_22, xo_20, xo_21, xo_63_2, xo_39i, xo_39r, xo_54, xo_0_2, xo_63_3, b4, cb, dd, z_b0, if_true, if_false, eq_self, Bool.true_eq_false, Bool.false_eq_true, and_true, true_and, and_false, false_and, or_true, true_or, or_false, false_or, ne_eq, not_true_eq_false, not_false_eq_true, decide_true, decide_false, z_sA_id]
  have fz : ∀ (M1 : zM), z_call 165 [.ref 455] G M1 = some (.inl (some (.int (z_b (decide (M1 455 6 = 0))))), G, M1) := fun M1 => c_M_fine hM M1
  have w0 : ∀ (M1 : zM) (k p : Int32), M1 455 6 = 0 → z_call 167 [.ref 455, .int k, .int p] G M1 = some (.inl none, G, mw M1 k p) := fun M1 k p h => c_M_wrong0 hM M1 h k p
  have w1 : ∀ (M1 : zM) (k p : Int32), ¬ M1 455 6 = 0 → z_call 167 [.ref 455, .int k, .int p] G M1 = some (.inl none, G, M1) := fun M1 k p h => c_M_wrong1 hM M1 h k p
  have hqe : (y_nm (M 457) (sz - e) e 0).1 = e ↔ y_dg (y_at (M 457) sz e) = false := by
    by_cases hes : e < sz
    · have hy : y_at (M 457) sz e = M 457 e := if_pos hes
      rw [hy]
      obtain ⟨r, hr⟩ : ∃ r, sz - e = r + 1 := ⟨sz - e - 1, by omega⟩
      rw [hr]
      unfold y_nm
      have b := nm_b (M 457) r (e + 1) (10 * 0 + (z_n (M 457 e) - 48))
      cases hdg : y_dg (M 457 e)
      · rw [if_neg (by decide)]; exact ⟨fun _ => rfl, fun _ => rfl⟩
      · rw [if_pos rfl]
        exact ⟨fun h => by omega, fun h => absurd h (by decide)⟩
    · have hy : y_at (M 457) sz e = nI 4294967295 := if_neg hes
      rw [hy, show sz - e = 0 by omega]
      exact ⟨fun _ => by decide, fun _ => rfl⟩
  by_cases h1 : (y_nm (M 457) (sz - e) e 0).1 = e
  · rw [if_pos h1]
    rw [hqe.mp h1] at hd
    obtain ⟨M1, hM1⟩ : ∃ M1, M1 = z_sA (mw (ma M e) (nI 1) (nI e)) 455 (z_u (mw (ma M e) (nI 1) (nI e) 455) 15 (nI e)) := ⟨_, rfl⟩
    have f4 : mw (ma M e) (nI 1) (nI e) 455 4 = nI e := (mw_4 _ _ _ (by omega) (by omega)).trans a4
    have g4 : M1 455 4 = nI e := by rw [hM1, z_sA_s, z_u_n _ _ _ _ (by omega)]; exact f4
    have g6 : M1 455 6 = nI 1 := by rw [hM1, z_sA_s, z_u_n _ _ _ _ (by omega)]; exact (mw_67 _ _ _).1
    have g7 : M1 455 7 = nI e := by rw [hM1, z_sA_s, z_u_n _ _ _ _ (by omega)]; exact (mw_67 _ _ _).2
    have g3 : M1 455 3 = nI sz := by rw [hM1, z_sA_s, z_u_n _ _ _ _ (by omega), mw_4 _ _ _ (by omega) (by omega)]; exact a3
    have g457 : M1 457 = M 457 := by rw [hM1, z_sA_n _ _ _ _ (by omega), (Tm_mw _ _ _).1 457 (by omega)]; exact ao 457 (by omega)
    have t2 : z_Tm M M1 := Tm_trans t1 (Tm_trans (Tm_mw _ (nI 1) (nI e)) ⟨fun q hq => by rw [hM1, z_sA_n _ _ _ _ hq], fun f _ _ _ d => by rw [hM1, z_sA_s, z_u_n _ _ _ _ d]⟩)
    have n6 : ¬ M1 455 6 = 0 := by rw [g6]; decide
    have e1 := el M1 g3 g457 (sz - e) e 0 (by omega)
    rw [ma_id M1 g4, h1, ma_id M1 g4] at e1
    have hw0 := w0 (ma M e) (nI 1) (nI e) a6
    have hw1 := w1 M1 (nI 2) (M1 455 15) n6
    have hfi := fz M1
    rw [decide_eq_false n6] at hfi
    have e0 : z_call 168 [.ref 455, .int (nI lo), .int (nI hi)] G M = z_ex 168 (z_blk 168 38) [.ref 455, .int (nI lo), .int (nI hi), .int (nI (min 100000 0))] [] G M1 := by
      rw [hM1, show min 100000 0 = 0 from rfl]
      obtain ⟨k0, ⟨r1, r8, r9, r10, r11, r12, r13, r17⟩, ⟨q1, q2⟩, ⟨q3, q4⟩, ⟨q5, q6⟩, ⟨q7, q8⟩, ⟨q9, q10⟩, ⟨q11, q12⟩, ⟨q13, q14⟩, ⟨q15, q16⟩, hp⟩ := id hM; have kr : ∀ a, z_rc a = 7 → z_kd G 455 = (0, z_rc a) := fun a h => (by rw [h]; exact k0)
      simp (disch := first | assumption | exact kr _ rfl | omega | exact Nat.le_of_ble_eq_true rfl) only [ze_M_number, zk_M_number_0, xo_2_0, xo_64_1, xk_v, xk_n, xo_49, xo_0_1, xo_70, zk_M_number_9, xo_63_1, zk_M_number_19, xo_5, xo_16, xo_64_3, xo_55, zk_M_number_28, xo_18, xo_10_3i, xo_10_3r, xo_10_3n, xo_64_2, xo_48, xo_8, xo_6, xo_0_3, xo_22, xo_20, xo_21, xo_63_2, xo_39i, xo_39r, xo_54, xo_0_2, xo_63_3, cf0, c1, hd, z_b0, a4, hw0, f4, if_true, if_false, eq_self, Bool.true_eq_false, Bool.false_eq_true, and_true, true_and, and_false, false_and, or_true, true_or, or_false, false_or, ne_eq, not_true_eq_false, not_false_eq_true, decide_true, decide_false, z_sA_id]
    refine ⟨M1, ?_, t2, fun k p h => (by cases h; exact ⟨⟨g6, g7⟩, Or.inl rfl⟩), fun b v p h => (by cases h)⟩
    rw [e0, e1]
    obtain ⟨k0, ⟨r1, r8, r9, r10, r11, r12, r13, r17⟩, ⟨q1, q2⟩, ⟨q3, q4⟩, ⟨q5, q6⟩, ⟨q7, q8⟩, ⟨q9, q10⟩, ⟨q11, q12⟩, ⟨q13, q14⟩, ⟨q15, q16⟩, hp⟩ := id hM; have kr : ∀ a, z_rc a = 7 → z_kd G 455 = (0, z_rc a) := fun a h => (by rw [h]; exact k0)
    cases hin : zf_in (nI (min 100000 (y_nm (M 457) (sz - e) e 0).2)) (nI lo) (nI hi)
    · simp (disch := first | assumption | exact kr _ rfl | omega | exact Nat.le_of_ble_eq_true rfl) only [xo_2_0, xo_64_1, xk_v, xk_n, xo_49, xo_0_1, xo_70, xo_63_1, xo_5, xo_16, xo_64_3, xo_55, xo_18, xo_10_3i, xo_10_3r, xo_10_3n, xo_64_2, xo_48, xo_8, xo_6, xo_0_3, xo_22, xo_20, xo_21, xo_63_2, xo_39i, xo_39r, xo_54, zk_M_number_87, xo_0_2, xo_63_3, zk_M_number_96, zk_M_number_105, zk_M_number_116, zk_M_number_117, c_M_in, hin, z_b0, hw1, hfi, if_true, if_false, eq_self, Bool.true_eq_false, Bool.false_eq_true, and_true, true_and, and_false, false_and, or_true, true_or, or_false, false_or, ne_eq, not_true_eq_false, not_false_eq_true, decide_true, decide_false, z_sA_id]
      rfl
    · simp (disch := first | assumption | exact kr _ rfl | omega | exact Nat.le_of_ble_eq_true rfl) only [xo_2_0, xo_64_1, xk_v, xk_n, xo_49, xo_0_1, xo_70, xo_63_1, xo_5, xo_16, xo_64_3, xo_55, xo_18, xo_10_3i, xo_10_3r, xo_10_3n, xo_64_2, xo_48, xo_8, xo_6, xo_0_3, xo_22, xo_20, xo_21, xo_63_2, xo_39i, xo_39r, xo_54, zk_M_number_87, xo_0_2, xo_63_3, zk_M_number_105, zk_M_number_116, zk_M_number_117, c_M_in, hin, z_b0, hfi, if_true, if_false, eq_self, Bool.true_eq_false, Bool.false_eq_true, and_true, true_and, and_false, false_and, or_true, true_or, or_false, false_or, ne_eq, not_true_eq_false, not_false_eq_true, decide_true, decide_false, z_sA_id]
      rfl
  · rw [if_neg h1]
    have hdt : y_dg (y_at (M 457) sz e) = true := by
      cases hx : y_dg (y_at (M 457) sz e)
      · exact absurd (hqe.mpr hx) h1
      · rfl
    rw [hdt] at hd
    obtain ⟨M1, hM1⟩ : ∃ M1, M1 = z_sA (ma M e) 455 (z_u (ma M e 455) 15 (nI e)) := ⟨_, rfl⟩
    have g4 : M1 455 4 = nI e := by rw [hM1, z_sA_s, z_u_n _ _ _ _ (by omega)]; exact a4
    have g6 : M1 455 6 = 0 := by rw [hM1, z_sA_s, z_u_n _ _ _ _ (by omega)]; exact a6
    have g7 : M1 455 7 = M 455 7 := by rw [hM1, z_sA_s, z_u_n _ _ _ _ (by omega)]; exact a7
    have g15 : M1 455 15 = nI e := by rw [hM1, z_sA_s, z_u_s]
    have g3 : M1 455 3 = nI sz := by rw [hM1, z_sA_s, z_u_n _ _ _ _ (by omega)]; exact a3
    have g457 : M1 457 = M 457 := by rw [hM1, z_sA_n _ _ _ _ (by omega)]; exact ao 457 (by omega)
    have t2 : z_Tm M M1 := Tm_trans t1 ⟨fun q hq => by rw [hM1, z_sA_n _ _ _ _ hq], fun f _ _ _ d => by rw [hM1, z_sA_s, z_u_n _ _ _ _ d]⟩
    have e1 := el M1 g3 g457 (sz - e) e 0 (by omega)
    rw [ma_id M1 g4] at e1
    have e0 : z_call 168 [.ref 455, .int (nI lo), .int (nI hi)] G M = z_ex 168 (z_blk 168 38) [.ref 455, .int (nI lo), .int (nI hi), .int (nI (min 100000 0))] [] G M1 := by
      rw [hM1, show min 100000 0 = 0 from rfl]
      obtain ⟨k0, ⟨r1, r8, r9, r10, r11, r12, r13, r17⟩, ⟨q1, q2⟩, ⟨q3, q4⟩, ⟨q5, q6⟩, ⟨q7, q8⟩, ⟨q9, q10⟩, ⟨q11, q12⟩, ⟨q13, q14⟩, ⟨q15, q16⟩, hp⟩ := id hM; have kr : ∀ a, z_rc a = 7 → z_kd G 455 = (0, z_rc a) := fun a h => (by rw [h]; exact k0)
      simp (disch := first | assumption | exact kr _ rfl | omega | exact Nat.le_of_ble_eq_true rfl) only [ze_M_number, zk_M_number_0, xo_2_0, xo_64_1, xk_v, xk_n, xo_49, xo_0_1, xo_70, zk_M_number_9, xo_63_1, xo_5, xo_16, xo_64_3, xo_55, zk_M_number_28, xo_18, xo_10_3i, xo_10_3r, xo_10_3n, xo_64_2, xo_48, xo_8, xo_6, xo_0_3, xo_22, xo_20, xo_21, xo_63_2, xo_39i, xo_39r, xo_54, xo_0_2, xo_63_3, cf0, c1, hd, z_b0, a4, if_true, if_false, eq_self, Bool.true_eq_false, Bool.false_eq_true, and_true, true_and, and_false, false_and, or_true, true_or, or_false, false_or, ne_eq, not_true_eq_false, not_false_eq_true, decide_true, decide_false, z_sA_id]
    rw [e0, e1]
    clear e0 e1 el
    generalize y_nm (M 457) (sz - e) e 0 = q at nb h1
    have t3 := Tm_trans t2 (Tm_ma M1 q.1)
    have k6 := (ma_f M1 q.1 (f := 6) (by omega)).trans g6
    have k7 := (ma_f M1 q.1 (f := 7) (by omega)).trans g7
    have k4 := ma_4 M1 q.1
    have k15 := (ma_f M1 q.1 (f := 15) (by omega)).trans g15
    generalize ma M1 q.1 = M2 at t3 k6 k7 k4 k15
    by_cases h2 : lo ≤ q.2 ∧ q.2 ≤ hi
    · rw [if_pos h2]
      have hm : min 100000 q.2 = q.2 := Nat.min_eq_right (by omega)
      have hin : zf_in (nI q.2) (nI lo) (nI hi) = true := by
        unfold zf_in
        exact decide_eq_true ⟨nI_nlt h2.1 (by omega), nI_nlt h2.2 (by omega)⟩
      have hfi := fz M2
      rw [decide_eq_true k6] at hfi
      refine ⟨M2, ?_, t3, fun k p h => (by cases h), fun b v p h => (by cases h; exact ⟨k6, k7, k4, k15⟩)⟩
      rw [hm]
      obtain ⟨k0, ⟨r1, r8, r9, r10, r11, r12, r13, r17⟩, ⟨q1, q2⟩, ⟨q3, q4⟩, ⟨q5, q6⟩, ⟨q7, q8⟩, ⟨q9, q10⟩, ⟨q11, q12⟩, ⟨q13, q14⟩, ⟨q15, q16⟩, hp⟩ := id hM; have kr : ∀ a, z_rc a = 7 → z_kd G 455 = (0, z_rc a) := fun a h => (by rw [h]; exact k0)
      simp (disch := first | assumption | exact kr _ rfl | omega | exact Nat.le_of_ble_eq_true rfl) only [xo_2_0, xo_64_1, xk_v, xk_n, xo_49, xo_0_1, xo_70, xo_63_1, xo_5, xo_16, xo_64_3, xo_55, xo_18, xo_10_3i, xo_10_3r, xo_10_3n, xo_64_2, xo_48, xo_8, xo_6, xo_0_3, xo_22, xo_20, xo_21, xo_63_2, xo_39i, xo_39r, xo_54, zk_M_number_87, xo_0_2, xo_63_3, zk_M_number_105, zk_M_number_112, zk_M_number_117, c_M_in, hin, z_b0, hfi, if_true, if_false, eq_self, Bool.true_eq_false, Bool.false_eq_true, and_true, true_and, and_false, false_and, or_true, true_or, or_false, false_or, ne_eq, not_true_eq_false, not_false_eq_true, decide_true, decide_false, z_sA_id]
      rfl
    · rw [if_neg h2]
      have hin : zf_in (nI (min 100000 q.2)) (nI lo) (nI hi) = false := by
        unfold zf_in
        refine decide_eq_false (fun ⟨x1, x2⟩ => ?_)
        have y1 : ¬ min 100000 q.2 < lo := fun h => x1 (nI_lt h (by omega))
        have y2 : ¬ hi < min 100000 q.2 := fun h => x2 (nI_lt h (by omega))
        omega
      have hw0 := w0 M2 (nI 2) (nI e) k6
      have hfi := fz (mw M2 (nI 2) (nI e))
      rw [(mw_67 M2 (nI 2) (nI e)).1, decide_eq_false (by decide)] at hfi
      refine ⟨mw M2 (nI 2) (nI e), ?_, Tm_trans t3 (Tm_mw _ _ _), fun k p h => (by cases h; exact ⟨mw_67 _ _ _, Or.inr rfl⟩), fun b v p h => (by cases h)⟩
      obtain ⟨k0, ⟨r1, r8, r9, r10, r11, r12, r13, r17⟩, ⟨q1, q2⟩, ⟨q3, q4⟩, ⟨q5, q6⟩, ⟨q7, q8⟩, ⟨q9, q10⟩, ⟨q11, q12⟩, ⟨q13, q14⟩, ⟨q15, q16⟩, hp⟩ := id hM; have kr : ∀ a, z_rc a = 7 → z_kd G 455 = (0, z_rc a) := fun a h => (by rw [h]; exact k0)
      simp (disch := first | assumption | exact kr _ rfl | omega | exact Nat.le_of_ble_eq_true rfl) only [xo_2_0, xo_64_1, xk_v, xk_n, xo_49, xo_0_1, xo_70, xo_63_1, xo_5, xo_16, xo_64_3, xo_55, xo_18, xo_10_3i, xo_10_3r, xo_10_3n, xo_64_2, xo_48, xo_8, xo_6, xo_0_3, xo_22, xo_20, xo_21, xo_63_2, xo_39i, xo_39r, xo_54, zk_M_number_87, xo_0_2, xo_63_3, zk_M_number_96, zk_M_number_105, zk_M_number_116, zk_M_number_117, c_M_in, hin, z_b0, k15, hw0, hfi, if_true, if_false, eq_self, Bool.true_eq_false, Bool.false_eq_true, and_true, true_and, and_false, false_and, or_true, true_or, or_false, false_or, ne_eq, not_true_eq_false, not_false_eq_true, decide_true, decide_false, z_sA_id]
      rfl
end
