/-! ===== the reference begins ===== -/
def y_fm (e : Int32) (i f : Nat) : Int32 := if f = 1 then nI i else if f = 2 then nI 1 else if f = 3 then nI (10 + i) else if f = 4 then nI (2 ^ i) else if f = 6 then nI 1 else if f = 7 then e else if f = 24 then nI 1 else 0
def z_Bg (j : Nat) (S t : Nat → Int32) : Prop := (∀ k, k < 4326 → (k < 41 ∨ 41 + 28 * j ≤ k) → t k = S k) ∧ ∀ i, i < j → ∀ f, f < 28 → t (41 + 28 * i + f) = y_fm (S 2) i f
theorem ar_10 : ∀ i, i < 8 → nI 10 * nI 1 + nI i = nI (10 + i) := by decide +kernel
theorem ar_01 : (0 : Int32) + nI 1 = nI 1 := by decide
theorem Bg_al {n j : Nat} {S t : Nat → Int32} (hS : z_SF n S) (hj : j < 8) (h : z_Bg j S t) : z_Bg (j + 1) S (f_al j t) := by
  obtain ⟨h1, h2⟩ := h
  obtain ⟨s0, s1, s2, s3, s4⟩ := hS
  have e : ∀ f, f < 28 → t (41 + 28 * j + f) = 0 := fun f hf => by rw [h1 _ (by omega) (by omega)]; exact s4 _ (by omega)
  have e6 : t 6 = 0 := by rw [h1 6 (by omega) (by omega)]; exact s3 6 (by omega) (by omega)
  have e2 : t 2 = S 2 := h1 2 (by omega) (by omega)
  have ec : f_chg j (nI 10 * (t (41 + 28 * j + 2) + nI 1) + nI j) (z_u t (41 + 28 * j + 2) (t (41 + 28 * j + 2) + nI 1)) = z_u (z_u t (41 + 28 * j + 2) (nI 1)) (41 + 28 * j + 3) (nI (10 + j)) := by
    unfold f_chg
    rw [if_pos (Or.inl (by rw [z_u_n _ _ _ _ (by omega)]; exact e 3 (by omega))), e 2 (by omega), ar_01, ar_10 j hj]
  have ea : f_al j t = z_u (z_u (z_u (z_u (z_u (z_u (z_u (z_u (z_u (z_u t (41 + 28 * j + 2) (nI 1)) (41 + 28 * j + 3) (nI (10 + j))) (41 + 28 * j + 4) (nI (2 ^ j))) (41 + 28 * j + 5) (nI 0)) (41 + 28 * j + 20) (nI 0)) (41 + 28 * j + 24) (nI 1)) (41 + 28 * j + 1) (nI j)) (41 + 28 * j) (nI 0)) (41 + 28 * j + 6) (nI 1)) (41 + 28 * j + 7) (S 2) := by
    unfold f_al f_ph f_ng f_nf
    rw [ec, z_bitN j hj]
    simp (disch := omega) only [z_u_n]
    rw [e 24 (by omega), e6, e2, ar_01, Int32.zero_add]
  refine ⟨fun k hk hk2 => ?_, fun i hi f hf => ?_⟩
  · rw [ea]
    simp (disch := omega) only [z_u_n]
    exact h1 k hk (by omega)
  · by_cases ij : i = j
    · subst ij
      rw [ea]
      by_cases c7 : f = 7
      · subst c7; rw [z_u_s]; rfl
      rw [z_u_n _ _ _ _ (by omega)]
      by_cases c6 : f = 6
      · subst c6; rw [z_u_s]; rfl
      rw [z_u_n _ _ _ _ (by omega)]
      by_cases c0 : f = 0
      · subst c0; exact z_u_s _ _ _
      rw [z_u_n _ _ _ _ (by omega)]
      by_cases c1 : f = 1
      · subst c1; rw [z_u_s]; rfl
      rw [z_u_n _ _ _ _ (by omega)]
      by_cases c24 : f = 24
      · subst c24; rw [z_u_s]; rfl
      rw [z_u_n _ _ _ _ (by omega)]
      by_cases c20 : f = 20
      · subst c20; rw [z_u_s]; rfl
      rw [z_u_n _ _ _ _ (by omega)]
      by_cases c5 : f = 5
      · subst c5; rw [z_u_s]; rfl
      rw [z_u_n _ _ _ _ (by omega)]
      by_cases c4 : f = 4
      · subst c4; rw [z_u_s]; rfl
      rw [z_u_n _ _ _ _ (by omega)]
      by_cases c3 : f = 3
      · subst c3; rw [z_u_s]; rfl
      rw [z_u_n _ _ _ _ (by omega)]
      by_cases c2 : f = 2
      · subst c2; rw [z_u_s]; rfl
      rw [z_u_n _ _ _ _ (by omega), e f hf]
      unfold y_fm
      rw [if_neg c1, if_neg c2, if_neg c3, if_neg c4, if_neg c6, if_neg c7, if_neg c24]
    · rw [ea]
      simp (disch := omega) only [z_u_n]
      exact h2 i (by omega) f hf
theorem Bg_W0 {n j : Nat} {S t : Nat → Int32} (hS : z_SF n S) (hn : n ≤ 8) (hj : j ≤ 8) (h : z_Bg j S t) : z_W0 n t :=
  ⟨⟨(h.1 0 (by omega) (by omega)).trans hS.1, hn⟩, ⟨0, by omega, (h.1 8 (by omega) (by omega)).trans (hS.2.2.2.1 8 (by omega) (by omega))⟩, 0, by omega, (h.1 4165 (by omega) (by omega)).trans (hS.2.2.2.2 4165 (by omega))⟩
theorem c_M_begins {G : zG} (hM : z_HM G) (M : zM) {n : Nat} {S : Nat → Int32} (hS : z_SF n S) (hn : n ≤ 8) (hD : z_DR M S) : ∃ t, z_call 149 [.ref 455, .ref 459] G M = some (.inl none, G, z_sA M 458 t) ∧ z_Bg n S t := by
  obtain ⟨k0, ⟨r1, r8, r9, r10, r11, r12, r13, r17⟩, ⟨q1, q2⟩, ⟨q3, q4⟩, ⟨q5, q6⟩, ⟨q7, q8⟩, ⟨q9, q10⟩, ⟨q11, q12⟩, ⟨q13, q14⟩, ⟨q15, q16⟩, hp⟩ := id hM; have kr : ∀ a, z_rc a = 7 → z_kd G 455 = (0, z_rc a) := fun a h => (by rw [h]; exact k0)
  have hcp := c_M_copies (G := G) M (p := 459) (q := 458) (by omega) (by omega) q7 q8 q5 q6
  have e0 : z_call 149 [.ref 455, .ref 459] G M = z_ex 149 (z_blk 149 10) [.ref 455, .ref 459, .int (nI 0)] [] G (z_sA M 458 (z_cp 4326 (M 459) (M 458))) := by
    simp (disch := first | assumption | exact kr _ rfl | omega | exact Nat.le_of_ble_eq_true rfl) only [ze_M_begins, zk_M_begins_0, xo_2_1, xo_2_0, xo_17, xo_63_2, xk_v, xk_n, xo_5, xo_10_2i, xo_10_2r, xo_10_2n, xo_55, xo_0_2, xo_32, xo_45, xo_64_2, xo_15_2i, xo_15_2r, xo_15_2n, xo_54, xo_69, r9, hcp, if_true, if_false, eq_self, Bool.true_eq_false, Bool.false_eq_true]
  have b0 : z_Bg 0 S (z_cp 4326 (M 459) (M 458)) := ⟨fun k hk _ => by rw [z_cp_lt hk]; exact hD k hk, fun i hi => absurd hi (by omega)⟩
  have hst : ∀ k a, k < n → z_Bg k S a → (fun k a => z_ex 149 (z_blk 149 10) [.ref 455, .ref 459, .int (nI k)] [] G (z_sA M 458 a)) k a = (fun k a => z_ex 149 (z_blk 149 10) [.ref 455, .ref 459, .int (nI k)] [] G (z_sA M 458 a)) (k + 1) (f_al k a) ∧ z_Bg (k + 1) S (f_al k a) := by
    intro k a hk hB
    refine ⟨?_, Bg_al hS (by omega) hB⟩
    have h0 : a 0 = nI n := (hB.1 0 (by omega) (by omega)).trans hS.1
    have hlt : nI k < nI n := nI_lt hk (by omega)
    have c := c_M_goesAlone hM (z_sA M 458 a) (n := n) (i := k) (by rw [z_sA_s]; exact Bg_W0 hS hn (by omega) hB) (by omega)
    rw [z_sA_s, z_sA_sA] at c
    try dsimp only
    conv => lhs; rw [zk_M_begins_10]
    simp (disch := first | assumption | exact kr _ rfl | omega | exact Nat.le_of_ble_eq_true rfl) only [xo_2_1, xo_2_0, xo_17, xo_63_2, xk_v, xk_n, xo_5, xo_10_2i, xo_10_2r, xo_10_2n, xo_55, xo_0_2, xo_32, xo_45, zk_M_begins_20, xo_64_2, xo_15_2i, xo_15_2r, xo_15_2n, xo_54, xo_69, r9, z_sA_s, h0, hlt, c, nI_add, if_true, if_false, eq_self, Bool.true_eq_false, Bool.false_eq_true]
  have e1 := z_loop _ (fun k a => f_al k a) n (fun k a => z_Bg k S a) hst n 0 _ (by omega) b0
  have b1 := z_fd_inv (f := fun k a => f_al k a) (fun k a => z_Bg k S a) n 0 _ b0 (fun j a _ hj hB => Bg_al hS (by omega) hB)
  rw [Nat.zero_add] at b1
  refine ⟨_, ?_, b1⟩
  generalize z_fd (fun k a => f_al k a) n 0 (z_cp 4326 (M 459) (M 458)) = t at e1 b1
  have h0 : t 0 = nI n := (b1.1 0 (by omega) (by omega)).trans hS.1
  have hlt : ¬ nI n < nI n := nI_nlt (Nat.le_refl _) (by omega)
  rw [e0]
  refine e1.trans ?_
  try dsimp only
  conv => lhs; rw [zk_M_begins_10]
  simp (disch := first | assumption | exact kr _ rfl | omega | exact Nat.le_of_ble_eq_true rfl) only [xo_2_1, xo_2_0, xo_17, xo_63_2, xk_v, xk_n, xo_5, xo_10_2i, xo_10_2r, xo_10_2n, xo_55, xo_0_2, xo_32, xo_45, xo_64_2, xo_15_2i, xo_15_2r, xo_15_2n, xo_54, zk_M_begins_31, xo_69, r9, z_sA_s, h0, hlt, if_true, if_false, eq_self, Bool.true_eq_false, Bool.false_eq_true]
/-- the reference's row, begun, is in form -/
theorem F_bg {n : Nat} {S t : Nat → Int32} (hS : z_SF n S) (hn : 2 ≤ n) (hn8 : n ≤ 8) (h : z_Bg n S t) : ∃ J, z_F n J 1 t := by
  have hW := Bg_W0 hS hn8 hn8 h
  obtain ⟨s0, ⟨J, j1, j2, j3⟩, ⟨d, d1, d2, d3⟩, s3, s4⟩ := id hS
  obtain ⟨h1, h2⟩ := h
  refine ⟨J, hW, hn, ⟨(h1 1 (by omega) (by omega)).trans j3, j1, j2⟩, ⟨d, d1, d2, (h1 5 (by omega) (by omega)).trans d3⟩, fun i f hi hf => ?_, fun k hk => ?_⟩
  · rw [h2 i hi f hf]
    unfold z_C
    by_cases c0 : f = 0
    · subst c0; rw [if_pos rfl]; exact ⟨0, by omega, rfl⟩
    rw [if_neg c0]
    by_cases c1 : f = 1
    · subst c1; rw [if_pos rfl]; exact ⟨i, hi, rfl⟩
    rw [if_neg c1]
    by_cases c2 : f = 2
    · subst c2; rw [if_pos rfl]; exact ⟨1, by omega, rfl⟩
    rw [if_neg c2]
    by_cases c3 : f = 3
    · subst c3; rw [if_pos rfl]; exact nI_ne0 (by omega) (by omega)
    rw [if_neg c3]
    by_cases c4 : f = 4
    · subst c4; rw [if_pos rfl]; exact ⟨2 ^ i, z_pow8 i (by omega), by rw [Nat.testBit_two_pow]; exact decide_eq_true rfl, rfl⟩
    rw [if_neg c4]
    by_cases c5 : f = 5
    · subst c5; rw [if_pos rfl]; exact ⟨0, by omega, rfl⟩
    rw [if_neg c5]
    by_cases c6 : f = 6
    · subst c6; rw [if_pos rfl]; exact ⟨1, by omega, rfl⟩
    rw [if_neg c6]
    by_cases c8 : 8 ≤ f ∧ f < 14
    · rw [if_pos c8]; intro _
      unfold y_fm
      rw [if_neg (by omega), if_neg (by omega), if_neg (by omega), if_neg (by omega), if_neg (by omega), if_neg (by omega), if_neg (by omega)]
    · rw [if_neg c8]; trivial
  · exfalso
    have e8 : t 8 = nI 0 := (h1 8 (by omega) (by omega)).trans (s3 8 (by omega) (by omega))
    rw [e8, z_nN (by omega)] at hk
    omega
