/-! ===== a text is read: what both do ===== -/
def y_at (T : Nat → Int32) (sz k : Nat) : Int32 := if k < sz then T k else nI 4294967295
def y_dg (c : Int32) : Bool := zf_in c (nI 48) (nI 57)
def y_sm (c : Int32) : Bool := zf_in c (nI 97) (nI 122)
def y_sk (T : Nat → Int32) : Nat → Nat → Nat
  | 0, a => a
  | r + 1, a => if T a = nI 32 then y_sk T r (a + 1) else a
def y_nm (T : Nat → Int32) : Nat → Nat → Nat → Nat × Nat
  | 0, a, v => (a, v)
  | r + 1, a, v => if y_dg (T a) = true then y_nm T r (a + 1) (10 * v + (z_n (T a) - 48)) else (a, v)
def y_we (T : Nat → Int32) : Nat → Nat → Nat
  | 0, a => a
  | r + 1, a => if y_sm (T a) = true then y_we T r (a + 1) else a
/-- a fault, or: where it ends, the number, where it begins -/
def y_num (T : Nat → Int32) (sz lo hi a : Nat) : (Nat × Nat) ⊕ (Nat × Nat × Nat) := if (y_nm T (sz - y_sk T (sz - a) a) (y_sk T (sz - a) a) 0).1 = y_sk T (sz - a) a then .inl (1, y_sk T (sz - a) a) else if lo ≤ (y_nm T (sz - y_sk T (sz - a) a) (y_sk T (sz - a) a) 0).2 ∧ (y_nm T (sz - y_sk T (sz - a) a) (y_sk T (sz - a) a) 0).2 ≤ hi then .inr ((y_nm T (sz - y_sk T (sz - a) a) (y_sk T (sz - a) a) 0).1, (y_nm T (sz - y_sk T (sz - a) a) (y_sk T (sz - a) a) 0).2, y_sk T (sz - a) a) else .inl (2, y_sk T (sz - a) a)
theorem sk_b (T : Nat → Int32) : ∀ r a, a ≤ y_sk T r a ∧ y_sk T r a ≤ a + r
  | 0, a => ⟨Nat.le_refl _, Nat.le_refl _⟩
  | r + 1, a => by
    unfold y_sk
    have h := sk_b T r (a + 1)
    split <;> omega
theorem nm_b (T : Nat → Int32) : ∀ r a v, a ≤ (y_nm T r a v).1 ∧ (y_nm T r a v).1 ≤ a + r
  | 0, a, v => ⟨Nat.le_refl _, Nat.le_refl _⟩
  | r + 1, a, v => by
    unfold y_nm
    have h := nm_b T r (a + 1) (10 * v + (z_n (T a) - 48))
    split
    · omega
    · exact ⟨Nat.le_refl _, by omega⟩
theorem we_b (T : Nat → Int32) : ∀ r a, a ≤ y_we T r a ∧ y_we T r a ≤ a + r
  | 0, a => ⟨Nat.le_refl _, Nat.le_refl _⟩
  | r + 1, a => by
    unfold y_we
    have h := we_b T r (a + 1)
    split <;> omega
theorem dg_u {c : Int32} {u : Nat} (hu : u < 256) (e : c = nI u) : y_dg c = decide (48 ≤ u ∧ u ≤ 57) := by
  subst e
  have : ∀ u, u < 256 → y_dg (nI u) = decide (48 ≤ u ∧ u ≤ 57) := by decide +kernel
  exact this u hu
/-! ===== the class's reader ===== -/
def z_HT (G : zG) : Prop := z_kd G 35 = (0, 4) ∧ (z_rf G 35 0 = 36 ∧ z_rf G 35 3 = 33) ∧ z_kd G 36 = (0, 3) ∧ (z_rf G 36 2 = 37 ∧ z_rf G 36 3 = 38) ∧ ((z_kd G 37).1 = 1 ∧ (z_kd G 37).2 = 4) ∧ ((z_kd G 38).1 = 1 ∧ (z_kd G 38).2 = 8) ∧ ((z_kd G 33).1 = 1 ∧ (z_kd G 33).2 = 200)
def ta (M : zM) (a : Nat) : zM := z_sA M 35 (z_u (M 35) 5 (nI a))
theorem ta_4 (M : zM) (a : Nat) {f : Nat} (hf : f ≠ 5) : ta M a 35 f = M 35 f := by unfold ta; rw [z_sA_s, z_u_n _ _ _ _ hf]
theorem ta_5 (M : zM) (a : Nat) : ta M a 35 5 = nI a := by unfold ta; rw [z_sA_s, z_u_s]
theorem ta_o (M : zM) (a : Nat) {q : Nat} (h : q ≠ 35) : ta M a q = M q := z_sA_n _ _ _ _ h
theorem ta_u (M : zM) (a b : Nat) : z_sA (ta M a) 35 (z_u (ta M a 35) 5 (nI b)) = ta M b := by unfold ta; rw [z_sA_s, z_u_u, z_sA_sA]
theorem ta_id (M : zM) {a : Nat} (h : M 35 5 = nI a) : ta M a = M := by
  unfold ta
  rw [← h]
  have : z_u (M 35) 5 (M 35 5) = M 35 := by funext a; by_cases ha : a = 5; (· subst ha; rw [z_u_s]); (· rw [z_u_n _ _ _ _ ha])
  rw [this, z_sA_id]
section
variable {G : zG} {sz a : Nat}
theorem c_T_skip (hT : z_HT G) (M : zM) (h4 : M 35 4 = nI sz) (hsz : sz ≤ 200) (h5 : M 35 5 = nI a) (ha : a ≤ sz) : z_call 63 [.ref 35] G M = some (.inl none, G, ta M (y_sk (M 33) (sz - a) a)) := by
  obtain ⟨k35, ⟨r0, r3⟩, k36, ⟨s2, s3⟩, ⟨p1, p2⟩, ⟨p3, p4⟩, p5, p6⟩ := id hT; have kt : ∀ a, z_rc a = 4 → z_kd G 35 = (0, z_rc a) := fun a h => (by rw [h]; exact k35)
  have e : ∀ r a, a + r = sz → z_ex 63 (z_blk 63 0) [.ref 35] [] G (ta M a) = some (.inl none, G, ta M (y_sk (M 33) r a)) := by
    intro r
    induction r with
    | zero =>
      intro a hr
      have b4 := (ta_4 M a (f := 4) (by omega)).trans h4
      have b5 := ta_5 M a
      have hl : ¬ nI a < nI sz := nI_nlt (by omega) (by omega)
      conv => lhs; rw [zk_T_skipBlanks_0]
      simp (disch := first | assumption | omega | exact Nat.le_of_ble_eq_true rfl | decide) only [xo_2_0, xo_16, xo_45, xo_17, xo_32, xo_6, xo_43, xo_39i, xo_39r, xo_5, xo_20, xo_18, xo_54, zk_T_skipBlanks_38, xo_69, b4, b5, hl, y_sk, if_true, if_false, eq_self, Bool.true_eq_false, Bool.false_eq_true]
    | succ r ih =>
      intro a hr
      have b4 := (ta_4 M a (f := 4) (by omega)).trans h4
      have b5 := ta_5 M a
      have b3 : ta M a 33 = M 33 := ta_o M a (by omega)
      have hl : nI a < nI sz := nI_lt (by omega) (by omega)
      have hk : a < (z_kd G 33).2 := by omega
      have h3 : z_rf G 35 3 ≠ 0 := by omega
      have eu := ta_u M a (a + 1)
      conv => lhs; rw [zk_T_skipBlanks_0]
      unfold y_sk
      by_cases hc : M 33 a = nI 32
      · rw [if_pos hc]
        rw [← ih (a + 1) (by omega)]
        simp (disch := first | assumption | omega | exact Nat.le_of_ble_eq_true rfl | decide) only [xo_2_0, xo_16, xo_45, zk_T_skipBlanks_11, xo_17, xo_32, xo_6, xo_43, zk_T_skipBlanks_25, xo_39i, xo_39r, xo_5, xo_20, xo_18, xo_54, xo_69, b4, b5, b3, hl, r3, hc, eu, nI_add, if_true, if_false, eq_self, Bool.true_eq_false, Bool.false_eq_true]
      · rw [if_neg hc]
        simp (disch := first | assumption | omega | exact Nat.le_of_ble_eq_true rfl | decide) only [xo_2_0, xo_16, xo_45, zk_T_skipBlanks_11, xo_17, xo_32, xo_6, xo_43, xo_39i, xo_39r, xo_5, xo_20, xo_18, xo_54, zk_T_skipBlanks_38, xo_69, b4, b5, b3, hl, r3, hc, if_true, if_false, eq_self, Bool.true_eq_false, Bool.false_eq_true]
  have := e (sz - a) a (by omega)
  rw [ta_id M h5] at this
  exact this
theorem c_T_isDigit (hT : z_HT G) (M : zM) {k : Nat} (hk : k < 200) : z_call 68 [.ref 35, .int (nI k)] G M = some (.inl (some (.int (z_b (y_dg (M 33 k))))), G, M) := by
  obtain ⟨k35, ⟨r0, r3⟩, k36, ⟨s2, s3⟩, ⟨p1, p2⟩, ⟨p3, p4⟩, p5, p6⟩ := id hT; have kt : ∀ a, z_rc a = 4 → z_kd G 35 = (0, z_rc a) := fun a h => (by rw [h]; exact k35)
  have h3 : z_rf G 35 3 ≠ 0 := by omega
  have hk2 : k < (z_kd G 33).2 := by omega
  unfold y_dg zf_in
  by_cases c1 : M 33 k < nI 48
  · rw [decide_eq_false (fun q => q.1 c1)]
    simp (disch := first | assumption | omega | exact Nat.le_of_ble_eq_true rfl | decide) only [ze_T_isDigit, zk_T_isDigit_0, xo_2_0, xo_17, xo_0_1, xo_32, xo_6, xo_44, xo_46, xo_5, xo_54, zk_T_isDigit_26, xo_55, zk_T_isDigit_27, xo_72a, xo_72b, r3, c1, if_true, if_false, eq_self, Bool.true_eq_false, Bool.false_eq_true]
    rfl
  · by_cases c2 : nI 57 < M 33 k
    · rw [decide_eq_false (fun q => q.2 c2)]
      simp (disch := first | assumption | omega | exact Nat.le_of_ble_eq_true rfl | decide) only [ze_T_isDigit, zk_T_isDigit_0, xo_2_0, xo_17, xo_0_1, xo_32, xo_6, xo_44, zk_T_isDigit_11, xo_46, xo_5, xo_54, zk_T_isDigit_26, xo_55, zk_T_isDigit_27, xo_72a, xo_72b, r3, c1, c2, if_true, if_false, eq_self, Bool.true_eq_false, Bool.false_eq_true]
      rfl
    · rw [decide_eq_true ⟨c1, c2⟩]
      simp (disch := first | assumption | omega | exact Nat.le_of_ble_eq_true rfl | decide) only [ze_T_isDigit, zk_T_isDigit_0, xo_2_0, xo_17, xo_0_1, xo_32, xo_6, xo_44, zk_T_isDigit_11, xo_46, zk_T_isDigit_22, xo_5, xo_54, xo_55, zk_T_isDigit_27, xo_72a, xo_72b, r3, c1, c2, if_true, if_false, eq_self, Bool.true_eq_false, Bool.false_eq_true]
      rfl
def tf (M : zM) (k p : Int32) : zM := z_sA M 35 (z_u (z_u (M 35) 1 k) 2 p)
theorem c_T_fails (hT : z_HT G) (M : zM) (k p : Int32) : z_call 66 [.ref 35, .int k, .int p] G M = some (.inl (some (.int (nI 0))), G, tf M k p) := by
  obtain ⟨k35, _⟩ := hT
  unfold tf
  simp (disch := first | assumption | omega | exact Nat.le_of_ble_eq_true rfl | decide) only [ze_T_fails, zk_T_fails_0, xo_2_0, xo_0_1, xo_18, xo_0_2, xo_5, xo_72a, xo_72b, z_sA_s, z_sA_sA, if_true, if_false, eq_self, Bool.true_eq_false, Bool.false_eq_true]
def z_T (M M' : zM) : Prop := (∀ q, q ≠ 35 → M' q = M q) ∧ ∀ f, f = 4 ∨ f = 8 → M' 35 f = M 35 f
theorem T_trans {M M1 M2 : zM} (h : z_T M M1) (g : z_T M1 M2) : z_T M M2 := ⟨fun q hq => (g.1 q hq).trans (h.1 q hq), fun f hf => (g.2 f hf).trans (h.2 f hf)⟩
theorem T_ta (M : zM) (a : Nat) : z_T M (ta M a) := ⟨fun q hq => ta_o M a hq, fun f hf => ta_4 M a (by omega)⟩
theorem T_tf (M : zM) (k p : Int32) : z_T M (tf M k p) := ⟨fun q hq => z_sA_n _ _ _ _ hq, fun f hf => by unfold tf; rw [z_sA_s, z_u_n _ _ _ _ (by omega), z_u_n _ _ _ _ (by omega)]⟩
theorem tf_12 (M : zM) (k p : Int32) : tf M k p 35 1 = k ∧ tf M k p 35 2 = p := by unfold tf; exact ⟨by rw [z_sA_s, z_u_n _ _ _ _ (by omega), z_u_s], by rw [z_sA_s, z_u_s]⟩
theorem c_T_takeEnd (hT : z_HT G) (M : zM) (h4 : M 35 4 = nI sz) (hsz : sz ≤ 200) (h5 : M 35 5 = nI a) (ha : a ≤ sz) : ∃ M', z_call 69 [.ref 35] G M = some (.inl (some (.int (z_b (decide (y_at (M 33) sz (y_sk (M 33) (sz - a) a) = nI 59))))), G, M') ∧ z_T M M' ∧ (y_at (M 33) sz (y_sk (M 33) (sz - a) a) = nI 59 → M' 35 5 = nI (y_sk (M 33) (sz - a) a + 1)) ∧ (¬ y_at (M 33) sz (y_sk (M 33) (sz - a) a) = nI 59 → M' 35 1 = nI 1 ∧ M' 35 2 = nI (y_sk (M 33) (sz - a) a)) := by
  have c1 := c_T_skip hT M h4 hsz h5 ha
  have sb := sk_b (M 33) (sz - a) a
  generalize y_sk (M 33) (sz - a) a = e at c1 sb
  have cf := c_T_fails hT (ta M e) (nI 1) (nI e)
  have b4 := (ta_4 M e (f := 4) (by omega)).trans h4
  have b5 := ta_5 M e
  have b3 : ta M e 33 = M 33 := ta_o M e (by omega)
  have eu := ta_u M e (e + 1)
  obtain ⟨k35, ⟨r0, r3⟩, k36, ⟨s2, s3⟩, ⟨p1, p2⟩, ⟨p3, p4⟩, p5, p6⟩ := id hT; have kt : ∀ a, z_rc a = 4 → z_kd G 35 = (0, z_rc a) := fun a h => (by rw [h]; exact k35)
  have h3 : z_rf G 35 3 ≠ 0 := by omega
  unfold y_at
  by_cases hl : e < sz
  · rw [if_pos hl]
    have hl2 : nI e < nI sz := nI_lt hl (by omega)
    have hk : e < (z_kd G 33).2 := by omega
    by_cases hc : M 33 e = nI 59
    · refine ⟨ta M (e + 1), ?_, T_ta M _, fun _ => ta_5 M _, fun q => absurd hc q⟩
      rw [decide_eq_true hc]
      simp (disch := first | assumption | exact kt _ rfl | omega | exact Nat.le_of_ble_eq_true rfl | decide) only [ze_T_takeEnd, zk_T_takeEnd_0, xo_2_0, xo_64_1, xk_v, xk_n, xo_16, xo_45, zk_T_takeEnd_15, xo_17, xo_32, xo_6, xo_42, xo_5, xo_64_3, xo_72a, xo_72b, zk_T_takeEnd_39, xo_39i, xo_39r, xo_20, xo_18, c1, b4, b5, b3, hl2, r3, hc, eu, nI_add, if_true, if_false, eq_self, Bool.true_eq_false, Bool.false_eq_true]
      rfl
    · refine ⟨tf (ta M e) (nI 1) (nI e), ?_, T_trans (T_ta M e) (T_tf _ _ _), fun q => absurd q hc, fun _ => tf_12 _ _ _⟩
      rw [decide_eq_false hc]
      simp (disch := first | assumption | exact kt _ rfl | omega | exact Nat.le_of_ble_eq_true rfl | decide) only [ze_T_takeEnd, zk_T_takeEnd_0, xo_2_0, xo_64_1, xk_v, xk_n, xo_16, xo_45, zk_T_takeEnd_15, xo_17, xo_32, xo_6, xo_42, zk_T_takeEnd_29, xo_5, xo_64_3, xo_72a, xo_72b, xo_39i, xo_39r, xo_20, xo_18, c1, b4, b5, b3, hl2, r3, hc, cf, if_true, if_false, eq_self, Bool.true_eq_false, Bool.false_eq_true]
      rfl
  · rw [if_neg hl]
    have hl2 : ¬ nI e < nI sz := nI_nlt (by omega) (by omega)
    have hc : ¬ nI 4294967295 = nI 59 := by decide
    refine ⟨tf (ta M e) (nI 1) (nI e), ?_, T_trans (T_ta M e) (T_tf _ _ _), fun q => absurd q hc, fun _ => tf_12 _ _ _⟩
    rw [decide_eq_false hc]
    simp (disch := first | assumption | exact kt _ rfl | omega | exact Nat.le_of_ble_eq_true rfl | decide) only [ze_T_takeEnd, zk_T_takeEnd_0, xo_2_0, xo_64_1, xk_v, xk_n, xo_16, xo_45, xo_17, xo_32, xo_6, xo_42, zk_T_takeEnd_29, xo_5, xo_64_3, xo_72a, xo_72b, xo_39i, xo_39r, xo_20, xo_18, c1, b4, b5, b3, hl2, r3, cf, if_true, if_false, eq_self, Bool.true_eq_false, Bool.false_eq_true]
    rfl
end
