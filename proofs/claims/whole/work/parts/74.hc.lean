/-! ===== the class's object: its cells ===== -/
def z_base (b : Nat) : Prop := b = 40 ∨ ∃ j, j < 8 ∧ b = 124 + 41 * j
def z_Bs (nb : Nat) (pb : Nat → Nat) : Prop := z_base nb ∧ (∀ k, k < 8 → z_base (pb k) ∧ pb k ≠ nb) ∧ ∀ j k, j < 8 → k < 8 → j ≠ k → pb j ≠ pb k
def z_HC (G : zG) (nb : Nat) (pb : Nat → Nat) : Prop := z_kd G 32 = (0, 6) ∧ (z_rf G 32 0 = 33 ∧ z_rf G 32 3 = 34 ∧ z_rf G 32 4 = 35 ∧ z_rf G 32 5 = nb ∧ z_rf G 32 6 = 81 ∧ z_rf G 32 7 = 122 ∧ z_rf G 32 10 = 123) ∧
  ((z_kd G 33).1 = 1 ∧ (z_kd G 33).2 = 200) ∧ ((z_kd G 34).1 = 1 ∧ (z_kd G 34).2 = 3) ∧ z_kd G 123 = (0, 0) ∧ ((z_kd G 122).1 = 4 ∧ (z_kd G 122).2 = 8) ∧
  z_HW G nb ∧ z_HW G 81 ∧ (∀ k, k < 8 → z_rf G 122 k = pb k ∧ z_HW G (pb k)) ∧ z_Bs nb pb
theorem z_base_lo {b : Nat} (h : z_base b) : 40 ≤ b ∧ b + 41 ≤ 452 ∧ (b + 41 ≤ 81 ∨ 124 ≤ b) := by
  rcases h with h | ⟨j, h1, h2⟩ <;> omega
theorem z_base_dj {b d : Nat} (h : z_base b) (g : z_base d) (ne : b ≠ d) : b + 41 ≤ d ∨ d + 41 ≤ b := by
  rcases h with h | ⟨j, h1, h2⟩ <;> rcases g with g | ⟨i, g1, g2⟩ <;> omega
section
variable {G : zG} {nb : Nat} {pb : Nat → Nat}
theorem HC_lo (hC : z_HC G nb pb) : 40 ≤ nb ∧ nb + 41 ≤ 452 ∧ (nb + 41 ≤ 81 ∨ 124 ≤ nb) := z_base_lo hC.2.2.2.2.2.2.2.2.2.1
theorem HC_W (hC : z_HC G nb pb) : z_HW G nb := hC.2.2.2.2.2.2.1
theorem HC_P (hC : z_HC G nb pb) : z_HW G 81 := hC.2.2.2.2.2.2.2.1
theorem xc_16 (hC : z_HC G nb pb) (m c pc : Nat) (ops : List zO) (ls st : List Value) (M : zM) (f : Nat) : z_ex m ((16, 6, f, c, pc) :: ops) ls (.ref 32 :: st) G M = z_ex m ops ls (.int (M 32 f) :: st) G M := xo_16 _ _ _ _ _ _ _ _ _ _ _ hC.1 (by omega)
theorem xc_18 (hC : z_HC G nb pb) (m c pc : Nat) (ops : List zO) (ls st : List Value) (M : zM) (f : Nat) (x : Int32) : z_ex m ((18, 6, f, c, pc) :: ops) ls (.int x :: .ref 32 :: st) G M = z_ex m ops ls st G (z_sA M 32 (z_u (M 32) f x)) := xo_18 _ _ _ _ _ _ _ _ _ _ _ _ hC.1 (by omega)
theorem xc_17_0 (hC : z_HC G nb pb) (m c pc : Nat) (ops : List zO) (ls st : List Value) (M : zM) : z_ex m ((17, 6, 0, c, pc) :: ops) ls (.ref 32 :: st) G M = z_ex m ops ls (.ref 33 :: st) G M := by
  obtain ⟨h, ⟨h0, h3, h4, h5, h6, h7, h10⟩, _⟩ := hC
  rw [xo_17 _ _ _ _ _ _ _ _ _ _ _ h (by omega) (by omega), h0]
theorem xc_17_3 (hC : z_HC G nb pb) (m c pc : Nat) (ops : List zO) (ls st : List Value) (M : zM) : z_ex m ((17, 6, 3, c, pc) :: ops) ls (.ref 32 :: st) G M = z_ex m ops ls (.ref 34 :: st) G M := by
  obtain ⟨h, ⟨h0, h3, h4, h5, h6, h7, h10⟩, _⟩ := hC
  rw [xo_17 _ _ _ _ _ _ _ _ _ _ _ h (by omega) (by omega), h3]
theorem xc_17_4 (hC : z_HC G nb pb) (m c pc : Nat) (ops : List zO) (ls st : List Value) (M : zM) : z_ex m ((17, 6, 4, c, pc) :: ops) ls (.ref 32 :: st) G M = z_ex m ops ls (.ref 35 :: st) G M := by
  obtain ⟨h, ⟨h0, h3, h4, h5, h6, h7, h10⟩, _⟩ := hC
  rw [xo_17 _ _ _ _ _ _ _ _ _ _ _ h (by omega) (by omega), h4]
theorem xc_17_5 (hC : z_HC G nb pb) (m c pc : Nat) (ops : List zO) (ls st : List Value) (M : zM) : z_ex m ((17, 6, 5, c, pc) :: ops) ls (.ref 32 :: st) G M = z_ex m ops ls (.ref nb :: st) G M := by
  have lo := HC_lo hC
  obtain ⟨h, ⟨h0, h3, h4, h5, h6, h7, h10⟩, _⟩ := hC
  rw [xo_17 _ _ _ _ _ _ _ _ _ _ _ h (by omega) (by omega), h5]
theorem xc_17_6 (hC : z_HC G nb pb) (m c pc : Nat) (ops : List zO) (ls st : List Value) (M : zM) : z_ex m ((17, 6, 6, c, pc) :: ops) ls (.ref 32 :: st) G M = z_ex m ops ls (.ref 81 :: st) G M := by
  obtain ⟨h, ⟨h0, h3, h4, h5, h6, h7, h10⟩, _⟩ := hC
  rw [xo_17 _ _ _ _ _ _ _ _ _ _ _ h (by omega) (by omega), h6]
theorem xc_17_7 (hC : z_HC G nb pb) (m c pc : Nat) (ops : List zO) (ls st : List Value) (M : zM) : z_ex m ((17, 6, 7, c, pc) :: ops) ls (.ref 32 :: st) G M = z_ex m ops ls (.ref 122 :: st) G M := by
  obtain ⟨h, ⟨h0, h3, h4, h5, h6, h7, h10⟩, _⟩ := hC
  rw [xo_17 _ _ _ _ _ _ _ _ _ _ _ h (by omega) (by omega), h7]
theorem xc_17_10 (hC : z_HC G nb pb) (m c pc : Nat) (ops : List zO) (ls st : List Value) (M : zM) : z_ex m ((17, 6, 10, c, pc) :: ops) ls (.ref 32 :: st) G M = z_ex m ops ls (.ref 123 :: st) G M := by
  obtain ⟨h, ⟨h0, h3, h4, h5, h6, h7, h10⟩, _⟩ := hC
  rw [xo_17 _ _ _ _ _ _ _ _ _ _ _ h (by omega) (by omega), h10]
theorem xc_34 (hC : z_HC G nb pb) (m c pc : Nat) (ops : List zO) (ls st : List Value) (M : zM) (k : Nat) (hk : k < 8) : z_ex m ((34, 0, 0, c, pc) :: ops) ls (.int (nI k) :: .ref 122 :: st) G M = z_ex m ops ls (.ref (pb k) :: st) G M := by
  obtain ⟨h, _, _, _, _, ⟨k1, k2⟩, _, _, hp, _, hb, _⟩ := hC
  obtain ⟨p1, p2⟩ := hp k hk
  have lo := z_base_lo (hb k hk).1
  rw [xo_34 _ _ _ _ _ _ _ _ _ _ _ _ (by omega) (by omega) (by omega) (by omega) (by omega) (by omega), p1]
theorem xc_64_1 (hC : z_HC G nb pb) (m c pc : Nat) (ops : List zO) (ls st : List Value) (M : zM) (a : Nat) (hr : z_rc a = 6) (hc : z_cat st ≤ 8) : z_ex m ((64, a, 1, c, pc) :: ops) ls (.ref 32 :: st) G M = z_k 64 m ops ls st (z_call a [.ref 32] G M) := xo_64_1 _ _ _ _ _ _ _ _ _ _ (by rw [hr]; exact hC.1) (by omega) hc (by decide)
theorem xc_64_2 (hC : z_HC G nb pb) (m c pc : Nat) (ops : List zO) (ls st : List Value) (M : zM) (a : Nat) (w1 : Value) (hr : z_rc a = 6) (hc : z_cat st ≤ 8) (hv : z_cat [.ref 32, w1] ≤ 2) : z_ex m ((64, a, 2, c, pc) :: ops) ls (w1 :: .ref 32 :: st) G M = z_k 64 m ops ls st (z_call a [.ref 32, w1] G M) := xo_64_2 _ _ _ _ _ _ _ _ _ _ _ (by rw [hr]; exact hC.1) (by omega) hc hv
end
theorem wr_C {b : Nat} (h : 40 ≤ b) (M V : zM) {q : Nat} (hq : q < 40) : wr M b V q = M q := wr_o _ _ _ _ (by omega)
theorem wr_sC {b : Nat} (M V : zM) {q : Nat} (hq : q < b ∨ b + 41 ≤ q) (f : Nat → Int32) : z_sA (wr M b V) q f = wr (z_sA M q f) b V := by
  funext p; unfold z_sA wr
  by_cases h1 : p = q
  · rw [if_pos h1, if_neg (by omega)]
    dsimp only
    rw [if_pos h1]
  · rw [if_neg h1]
    split
    · rfl
    · dsimp only
      rw [if_neg h1]
/-! ===== the class refuses ===== -/
def rfc (M : zM) (e : Nat) : zM := z_sA M 34 (z_u (M 34) e (M 34 e + nI 1))
section
variable {G : zG} {nb : Nat} {pb : Nat → Nat}
theorem k_need0 (hC : z_HC G nb pb) (M : zM) : z_call 87 [.ref 32, .int (nI 1)] G M = some (.inl none, G, M) := by
  have n1 : (nI 1 = 0) = False := by decide
  simp (disch := first | assumption | omega | exact Nat.le_of_ble_eq_true rfl | decide) only [ze_C_needElement, zk_C_needElement_0, xo_0_1, xo_49, xo_2_0, xc_17_3 hC, xo_5, xo_40, xo_32, xo_20, xo_33, xo_83, zk_C_needElement_25, xo_69, n1, if_true, if_false, eq_self, Bool.true_eq_false, Bool.false_eq_true]
theorem k_need1 (hC : z_HC G nb pb) (M : zM) : z_call 60 [.ref 32, .int (nI 1)] G M = some (.inl none, G, M) := by
  have n1 : (nI 1 = 0) = False := by decide
  simp (disch := first | assumption | omega | exact Nat.le_of_ble_eq_true rfl | decide) only [ze_C_needArgument, zk_C_needArgument_0, xo_0_1, xo_49, xo_2_0, xc_17_3 hC, xo_5, xo_40, xo_32, xo_20, xo_33, xo_83, zk_C_needArgument_25, xo_69, n1, if_true, if_false, eq_self, Bool.true_eq_false, Bool.false_eq_true]
theorem k_need2 (hC : z_HC G nb pb) (M : zM) : z_call 88 [.ref 32, .int (nI 1)] G M = some (.inl none, G, M) := by
  have n1 : (nI 1 = 0) = False := by decide
  simp (disch := first | assumption | omega | exact Nat.le_of_ble_eq_true rfl | decide) only [ze_C_needState, zk_C_needState_0, xo_0_1, xo_49, xo_2_0, xc_17_3 hC, xo_5, xo_40, xo_32, xo_20, xo_33, xo_83, zk_C_needState_25, xo_69, n1, if_true, if_false, eq_self, Bool.true_eq_false, Bool.false_eq_true]
theorem k_ref0 (hC : z_HC G nb pb) (M : zM) : z_call 87 [.ref 32, .int (nI 0)] G M = some (.inr 0, z_thr G, rfc M 0) := by
  have n1 : (nI 0 = 0) = True := by decide
  obtain ⟨_, _, _, ⟨q1, q2⟩, _⟩ := id hC

  simp (disch := first | assumption | omega | exact Nat.le_of_ble_eq_true rfl | decide) only [ze_C_needElement, zk_C_needElement_0, xo_0_1, xo_49, zk_C_needElement_4, xo_2_0, xc_17_3 hC, xo_5, xo_40, xo_32, xo_20, xo_33, xo_83, xo_69, n1, q2, if_true, if_false, eq_self, Bool.true_eq_false, Bool.false_eq_true]
  rfl
theorem k_ref1 (hC : z_HC G nb pb) (M : zM) : z_call 60 [.ref 32, .int (nI 0)] G M = some (.inr 1, z_thr G, rfc M 1) := by
  have n1 : (nI 0 = 0) = True := by decide
  obtain ⟨_, _, _, ⟨q1, q2⟩, _⟩ := id hC
  simp (disch := first | assumption | omega | exact Nat.le_of_ble_eq_true rfl | decide) only [ze_C_needArgument, zk_C_needArgument_0, xo_0_1, xo_49, zk_C_needArgument_4, xo_2_0, xc_17_3 hC, xo_5, xo_40, xo_32, xo_20, xo_33, xo_83, xo_69, n1, q2, if_true, if_false, eq_self, Bool.true_eq_false, Bool.false_eq_true]
  rfl
theorem k_ref2 (hC : z_HC G nb pb) (M : zM) : z_call 88 [.ref 32, .int (nI 0)] G M = some (.inr 2, z_thr G, rfc M 2) := by
  have n1 : (nI 0 = 0) = True := by decide
  obtain ⟨_, _, _, ⟨q1, q2⟩, _⟩ := id hC
  simp (disch := first | assumption | omega | exact Nat.le_of_ble_eq_true rfl | decide) only [ze_C_needState, zk_C_needState_0, xo_0_1, xo_49, zk_C_needState_4, xo_2_0, xc_17_3 hC, xo_5, xo_40, xo_32, xo_20, xo_33, xo_83, xo_69, n1, q2, if_true, if_false, eq_self, Bool.true_eq_false, Bool.false_eq_true]
  rfl
theorem k_mem0 (hC : z_HC G nb pb) (M V : zM) {n i : Nat} (h0 : V 0 0 = nI n) (hn : n ≤ 8) (hi : i < n) : z_call 86 [.ref 32, .int (nI i)] G (wr M nb V) = some (.inl none, G, wr M nb V) := by
  have hW := HC_W hC
  have hl : nI i < nI n := nI_lt hi (by omega)
  have hz : ¬ nI i < 0 := nI_pos (by omega)
  have r := k_need0 hC (wr M nb V)
  simp (disch := first | assumption | omega | exact Nat.le_of_ble_eq_true rfl | decide) only [ze_C_needMember, zk_C_needMember_0, xo_2_0, xo_0_1, xo_50, zk_C_needMember_5, xc_17_5 hC, xw_16w hW, xo_45, zk_C_needMember_16, xo_5, xo_54, xo_55, zk_C_needMember_21, xc_64_2 hC, xk_v, xk_n, xo_69, h0, hl, hz, r, if_true, if_false, eq_self, Bool.true_eq_false, Bool.false_eq_true]
theorem k_mem1 (hC : z_HC G nb pb) (M V : zM) {n : Nat} {x : Int32} (h0 : V 0 0 = nI n) (hx : x < 0 ∨ ¬ x < nI n) : z_call 86 [.ref 32, .int x] G (wr M nb V) = some (.inr 0, z_thr G, rfc (wr M nb V) 0) := by
  have hW := HC_W hC
  have r := k_ref0 hC (wr M nb V)

  by_cases hz : x < 0
  · simp (disch := first | assumption | omega | exact Nat.le_of_ble_eq_true rfl | decide) only [ze_C_needMember, zk_C_needMember_0, xo_2_0, xo_0_1, xo_50, xc_17_5 hC, xw_16w hW, xo_45, xo_5, xo_54, zk_C_needMember_20, xo_55, zk_C_needMember_21, xc_64_2 hC, xk_v, xk_n, xo_69, hz, r, xk_x, if_true, if_false, eq_self, Bool.true_eq_false, Bool.false_eq_true]
  · have hl : ¬ x < nI n := hx.elim (fun q => absurd q hz) (fun q => q)
    simp (disch := first | assumption | omega | exact Nat.le_of_ble_eq_true rfl | decide) only [ze_C_needMember, zk_C_needMember_0, xo_2_0, xo_0_1, xo_50, zk_C_needMember_5, xc_17_5 hC, xw_16w hW, xo_45, xo_5, xo_54, zk_C_needMember_20, xo_55, zk_C_needMember_21, xc_64_2 hC, xk_v, xk_n, xo_69, h0, hl, hz, r, xk_x, if_true, if_false, eq_self, Bool.true_eq_false, Bool.false_eq_true]
theorem k_job0 (hC : z_HC G nb pb) (M V : zM) {n i : Nat} (h0 : V 0 1 = nI n) (hn : n ≤ 8) (hi : i < n) : z_call 112 [.ref 32, .int (nI i)] G (wr M nb V) = some (.inl none, G, wr M nb V) := by
  have hW := HC_W hC
  have hl : nI i < nI n := nI_lt hi (by omega)
  have hz : ¬ nI i < 0 := nI_pos (by omega)
  have r := k_need0 hC (wr M nb V)
  simp (disch := first | assumption | omega | exact Nat.le_of_ble_eq_true rfl | decide) only [ze_C_needJob, zk_C_needJob_0, xo_2_0, xo_0_1, xo_50, zk_C_needJob_5, xc_17_5 hC, xw_16w hW, xo_45, zk_C_needJob_16, xo_5, xo_54, xo_55, zk_C_needJob_21, xc_64_2 hC, xk_v, xk_n, xo_69, h0, hl, hz, r, if_true, if_false, eq_self, Bool.true_eq_false, Bool.false_eq_true]
theorem k_job1 (hC : z_HC G nb pb) (M V : zM) {n : Nat} {x : Int32} (h0 : V 0 1 = nI n) (hx : x < 0 ∨ ¬ x < nI n) : z_call 112 [.ref 32, .int x] G (wr M nb V) = some (.inr 0, z_thr G, rfc (wr M nb V) 0) := by
  have hW := HC_W hC
  have r := k_ref0 hC (wr M nb V)
  by_cases hz : x < 0
  · simp (disch := first | assumption | omega | exact Nat.le_of_ble_eq_true rfl | decide) only [ze_C_needJob, zk_C_needJob_0, xo_2_0, xo_0_1, xo_50, xc_17_5 hC, xw_16w hW, xo_45, xo_5, xo_54, zk_C_needJob_20, xo_55, zk_C_needJob_21, xc_64_2 hC, xk_v, xk_n, xo_69, hz, r, xk_x, if_true, if_false, eq_self, Bool.true_eq_false, Bool.false_eq_true]
  · have hl : ¬ x < nI n := hx.elim (fun q => absurd q hz) (fun q => q)
    simp (disch := first | assumption | omega | exact Nat.le_of_ble_eq_true rfl | decide) only [ze_C_needJob, zk_C_needJob_0, xo_2_0, xo_0_1, xo_50, zk_C_needJob_5, xc_17_5 hC, xw_16w hW, xo_45, xo_5, xo_54, zk_C_needJob_20, xo_55, zk_C_needJob_21, xc_64_2 hC, xk_v, xk_n, xo_69, h0, hl, hz, r, xk_x, if_true, if_false, eq_self, Bool.true_eq_false, Bool.false_eq_true]
end
/-! ===== the reference refuses ===== -/
def th0 (M : zM) : zM := z_sA M 455 (z_u (M 455) 0 (nI 0))
def rfm (M : zM) (a k : Nat) : zM := z_sA (z_sA M 455 (z_u (M 455) 0 (nI a))) 456 (z_u (M 456) k (M 456 k + nI 1))
theorem th0_f (M : zM) : z_sA M 455 (z_u (M 455) 0 (nI 0)) = th0 M := rfl
theorem th0_o (M : zM) {q : Nat} (h : q ≠ 455) : th0 M q = M q := z_sA_n _ _ _ _ h
theorem th0_f0 (M : zM) : th0 M 455 0 = 0 := by unfold th0; rw [z_sA_s, z_u_s]; decide
theorem th0_fn (M : zM) {f : Nat} (h : f ≠ 0) : th0 M 455 f = M 455 f := by unfold th0; rw [z_sA_s, z_u_n _ _ _ _ h]
theorem bd_0 {G : zG} (hM : z_HM G) (M : zM) (x y : Int32) : z_call 161 [.ref 455, .int (nI 0), .int x, .int y] G (th0 M) = some (.inl (some (.int (nI 0))), G, th0 M) := by
  have e := c_M_bad0 hM (th0 M) x y
  rw [th0_f0] at e
  exact e
theorem bd_1 {G : zG} (hM : z_HM G) (M : zM) {a k : Nat} (ha : a = 1 ∨ a = 2) (hk : k < 3) : z_call 161 [.ref 455, .int (nI 1), .int (nI a), .int (nI k)] G (th0 M) = some (.inl (some (.int (nI 1))), G, rfm M a k) := by
  have e := c_M_bad1 hM (th0 M) (x := nI a) (k := k) (by rcases ha with h | h <;> subst h <;> decide) hk (th0_f0 M)
  rw [th0_o M (q := 456) (by omega)] at e
  unfold rfm
  unfold th0 at e ⊢
  rw [z_sA_s, z_u_u, z_sA_sA] at e
  exact e
theorem rg_1 (x : Int32) (n : Nat) (hn : n ≤ 1000000) : (∃ i, i < n ∧ x = nI i) ∨ (x < 0 ∨ ¬ x < nI n) := by
  by_cases h : x < 0
  · exact Or.inr (Or.inl h)
  · by_cases h2 : x < nI n
    · obtain ⟨j, hj, e⟩ := nI_of h
      subst e
      exact Or.inl ⟨j, (nI_ltI hj (by omega)).mp h2, rfl⟩
    · exact Or.inr (Or.inr h2)
theorem in_t {i k : Nat} (h : i ≤ k) (hk : k ≤ 1000000) : zf_in (nI i) (nI 0) (nI k) = true := by
  unfold zf_in
  rw [nI_0]
  exact decide_eq_true ⟨nI_pos (by omega), nI_nlt h (by omega)⟩
theorem in_f {x : Int32} {k : Nat} (hk : k ≤ 1000000) (h : x < 0 ∨ ¬ x < nI (k + 1)) : zf_in x (nI 0) (nI k) = false := by
  unfold zf_in
  rw [nI_0]
  refine decide_eq_false (fun q => ?_)
  rcases h with h | h
  · exact q.1 h
  · obtain ⟨j, hj, e⟩ := nI_of q.1
    subst e
    have h1 : ¬ j < k + 1 := fun q => h (nI_lt q (by omega))
    exact q.2 (nI_lt (by omega) hj)
theorem gt_of {x : Int32} {k : Nat} (hk : k ≤ 1000000) (hz : ¬ x < 0) (h : ¬ x < nI (k + 1)) : nI k < x := by
  obtain ⟨j, hj, e⟩ := nI_of hz
  subst e
  have h1 : ¬ j < k + 1 := fun q => h (nI_lt q (by omega))
  exact nI_lt (by omega) hj
