/-! ===== the reference: what its methods do to its row ===== -/
def z_W0 (n : Nat) (s : Nat → Int32) : Prop := (s 0 = nI n ∧ n ≤ 8) ∧ (∃ m, m ≤ 300 ∧ s 8 = nI m) ∧ (∃ c, c ≤ 40 ∧ s 4165 = nI c)
theorem z_W0_u {n : Nat} {s : Nat → Int32} (h : z_W0 n s) (a : Nat) (v : Int32) (h0 : a ≠ 0) (h8 : a ≠ 8) (h4 : a ≠ 4165) : z_W0 n (z_u s a v) := by
  unfold z_W0
  rw [z_u_n _ _ _ _ (Ne.symm h0), z_u_n _ _ _ _ (Ne.symm h8), z_u_n _ _ _ _ (Ne.symm h4)]
  exact h
theorem c_M_isNormal {G : zG} (hM : z_HM G) (M : zM) {i : Nat} (hi : i < 8) : z_call 186 [.ref 455, .int (nI i)] G M = some (.inl (some (.int (z_b (decide (M 458 (41 + 28 * i) = 0))))), G, M) := by
  obtain ⟨k0, ⟨r1, r8, r9, r10, r11, r12, r13, r17⟩, ⟨q1, q2⟩, ⟨q3, q4⟩, ⟨q5, q6⟩, ⟨q7, q8⟩, ⟨q9, q10⟩, ⟨q11, q12⟩, ⟨q13, q14⟩, ⟨q15, q16⟩, hp⟩ := id hM; have kr : ∀ a, z_rc a = 7 → z_kd G 455 = (0, z_rc a) := fun a h => by rw [h]; exact k0
  simp (disch := first | assumption | exact kr _ rfl | omega | exact Nat.le_of_ble_eq_true rfl) only [ze_M_isNormal, zk_M_isNormal_0, xo_2_0, xo_17, xo_0_1, xo_5, xo_63_2, xk_v, xk_n, xo_32, xo_49, zk_M_isNormal_13, xo_54, zk_M_isNormal_17, xo_55, zk_M_isNormal_18, xo_72a, xo_72b, nI_add, pk_mul, Nat.add_zero, z_sA_s, z_sA_sA, z_u_s, r9, c_M_m]
  split <;> rename_i h <;> simp [h, z_b]
theorem c_M_isChief {G : zG} (hM : z_HM G) (M : zM) {i : Nat} (hi : i < 8) : z_call 187 [.ref 455, .int (nI i)] G M = some (.inl (some (.int (z_b (decide (M 458 (41 + 28 * i + 1) = nI i))))), G, M) := by
  obtain ⟨k0, ⟨r1, r8, r9, r10, r11, r12, r13, r17⟩, ⟨q1, q2⟩, ⟨q3, q4⟩, ⟨q5, q6⟩, ⟨q7, q8⟩, ⟨q9, q10⟩, ⟨q11, q12⟩, ⟨q13, q14⟩, ⟨q15, q16⟩, hp⟩ := id hM; have kr : ∀ a, z_rc a = 7 → z_kd G 455 = (0, z_rc a) := fun a h => by rw [h]; exact k0
  simp (disch := first | assumption | exact kr _ rfl | omega | exact Nat.le_of_ble_eq_true rfl) only [ze_M_isChief, zk_M_isChief_0, xo_2_0, xo_17, xo_0_1, xo_5, xo_63_2, xk_v, xk_n, xo_32, xo_43, zk_M_isChief_14, xo_54, zk_M_isChief_18, xo_55, zk_M_isChief_19, xo_72a, xo_72b, nI_add, pk_mul, Nat.add_zero, z_sA_s, z_sA_sA, z_u_s, r9, c_M_m]
  split <;> rename_i h <;> simp [h, z_b]
theorem c_M_isWhole {G : zG} (hM : z_HM G) (M : zM) {i : Nat} (hi : i < 8) (k : Int32) : z_call 183 [.ref 455, .int (nI i), .int k] G M = some (.inl (some (.int (z_b (!zf_has (M 458 (25 + i)) k)))), G, M) := by
  obtain ⟨k0, ⟨r1, r8, r9, r10, r11, r12, r13, r17⟩, ⟨q1, q2⟩, ⟨q3, q4⟩, ⟨q5, q6⟩, ⟨q7, q8⟩, ⟨q9, q10⟩, ⟨q11, q12⟩, ⟨q13, q14⟩, ⟨q15, q16⟩, hp⟩ := id hM; have kr : ∀ a, z_rc a = 7 → z_kd G 455 = (0, z_rc a) := fun a h => by rw [h]; exact k0
  simp (disch := first | assumption | exact kr _ rfl | omega | exact Nat.le_of_ble_eq_true rfl) only [ze_M_isWhole, zk_M_isWhole_0, xo_2_0, xo_17, xo_6, xo_0_1, xo_20, xo_32, xo_0_2, xo_63_2, xk_v, xk_n, xo_49, zk_M_isWhole_16, xo_5, xo_54, zk_M_isWhole_20, xo_55, zk_M_isWhole_21, xo_72a, xo_72b, nI_add, pk_mul, Nat.add_zero, z_sA_s, z_sA_sA, z_u_s, r9, c_M_has, z_b0]
  cases zf_has (M 458 (25 + i)) k <;> simp [z_b]
theorem c_M_isMember {G : zG} (hM : z_HM G) (M : zM) (i : Int32) : z_call 205 [.ref 455, .int i] G M = some (.inl (some (.int (z_b (zf_in i (nI 0) (M 458 0 - nI 1))))), G, M) := by
  obtain ⟨k0, ⟨r1, r8, r9, r10, r11, r12, r13, r17⟩, ⟨q1, q2⟩, ⟨q3, q4⟩, ⟨q5, q6⟩, ⟨q7, q8⟩, ⟨q9, q10⟩, ⟨q11, q12⟩, ⟨q13, q14⟩, ⟨q15, q16⟩, hp⟩ := id hM; have kr : ∀ a, z_rc a = 7 → z_kd G 455 = (0, z_rc a) := fun a h => by rw [h]; exact k0
  simp (disch := first | assumption | exact kr _ rfl | omega | exact Nat.le_of_ble_eq_true rfl) only [ze_M_isMember, zk_M_isMember_0, xo_0_1, xo_5, xo_2_0, xo_17, xo_32, xo_21, xo_63_3, xk_v, xk_n, xo_72a, xo_72b, nI_add, pk_mul, Nat.add_zero, z_sA_s, z_sA_sA, z_u_s, r9, c_M_in, xo_72z]
def f_nf (i : Nat) (s : Nat → Int32) : Nat → Int32 := z_u (z_u s (41 + 28 * i + 5) (nI 0)) (41 + 28 * i + 20) (nI 0)
theorem c_M_noneFound {G : zG} (hM : z_HM G) (M : zM) {i : Nat} (hi : i < 8) : z_call 155 [.ref 455, .int (nI i)] G M = some (.inl none, G, z_sA M 458 (f_nf i (M 458))) := by
  obtain ⟨k0, ⟨r1, r8, r9, r10, r11, r12, r13, r17⟩, ⟨q1, q2⟩, ⟨q3, q4⟩, ⟨q5, q6⟩, ⟨q7, q8⟩, ⟨q9, q10⟩, ⟨q11, q12⟩, ⟨q13, q14⟩, ⟨q15, q16⟩, hp⟩ := id hM; have kr : ∀ a, z_rc a = 7 → z_kd G 455 = (0, z_rc a) := fun a h => by rw [h]; exact k0
  simp (disch := first | assumption | exact kr _ rfl | omega | exact Nat.le_of_ble_eq_true rfl) only [ze_M_noneFound, zk_M_noneFound_0, xo_2_0, xo_17, xo_0_1, xo_5, xo_63_2, xk_v, xk_n, xo_33, xo_6, xo_69, nI_add, pk_mul, Nat.add_zero, z_sA_s, z_sA_sA, z_u_s, r9, c_M_m, f_nf]
def f_ph (i : Nat) (ph be : Int32) (s : Nat → Int32) : Nat → Int32 := z_u (z_u s (41 + 28 * i + 6) ph) (41 + 28 * i + 7) (s 6 + be)
theorem d_M_phase {G : zG} (hM : z_HM G) (M : zM) {i : Nat} (hi : i < 8) (ph be : Int32) : z_call 156 [.ref 455, .int (nI i), .int ph, .int be] G M = some (.inl none, G, z_sA M 458 (f_ph i ph be (M 458))) := c_M_phase hM M hi ph be
/-- the changes that are told: one more, behind the others -/
def f_cg1 (i : Nat) (had g : Int32) (s : Nat → Int32) : Nat → Int32 := z_u (z_u (z_u (z_u (z_u s (4166 + 4 * z_n (s 4165)) (s 6)) (4166 + 4 * z_n (s 4165) + 1) (nI i)) (4166 + 4 * z_n (s 4165) + 2) had) (4166 + 4 * z_n (s 4165) + 3) g) 4165 (s 4165 + nI 1)
def f_cg0 (s : Nat → Int32) : Nat → Int32 := if s 4165 = nI 40 then z_u (z_shf s 4166 156 4) 4165 (nI 39) else s
def f_chg (i : Nat) (g : Int32) (s : Nat → Int32) : Nat → Int32 := if s (41 + 28 * i + 3) = 0 ∨ s (41 + 28 * i + 3) = g then z_u s (41 + 28 * i + 3) g else f_cg1 i (s (41 + 28 * i + 3)) g (f_cg0 (z_u s (41 + 28 * i + 3) g))
theorem l_M_changes {G : zG} (hM : z_HM G) (M : zM) (i g had : Int32) (s : Nat → Int32) : z_ex 154 (z_blk 154 50) [.ref 455, .int i, .int g, .int had, .int (nI 4166)] [] G (z_sA M 458 s) = z_ex 154 (z_blk 154 80) [.ref 455, .int i, .int g, .int had, .int (nI 4322)] [] G (z_sA M 458 (z_shf s 4166 156 4)) := by
  obtain ⟨k0, ⟨r1, r8, r9, r10, r11, r12, r13, r17⟩, ⟨q1, q2⟩, ⟨q3, q4⟩, ⟨q5, q6⟩, ⟨q7, q8⟩, ⟨q9, q10⟩, ⟨q11, q12⟩, ⟨q13, q14⟩, ⟨q15, q16⟩, hp⟩ := id hM; have kr : ∀ a, z_rc a = 7 → z_kd G 455 = (0, z_rc a) := fun a h => by rw [h]; exact k0
  have h := z_loop0 (fun k a => z_ex 154 (z_blk 154 50) [.ref 455, .int i, .int g, .int had, .int (nI k)] [] G (z_sA M 458 a)) (fun k a => z_u a k (a (k + 4))) 4322 (fun k a hk => by
    have hlt : nI k < nI 4322 := nI_lt hk (by omega)
    conv => lhs; rw [zk_M_changes_50]
    simp (disch := first | assumption | exact kr _ rfl | omega | exact Nat.le_of_ble_eq_true rfl) only [xo_2_0, xo_17, xo_0_1, xo_5, xo_63_2, xk_v, xk_n, xo_32, xo_10_3i, xo_10_3r, xo_10_3n, xo_0_2, xo_33, xo_0_3, xo_48, xo_43, xo_69, xo_7, xo_6, xo_11_4i, xo_11_4r, xo_11_4n, xo_55, xo_1_4, xo_45, zk_M_changes_58, xo_20, xo_15_4i, xo_15_4r, xo_15_4n, xo_54, xo_40, xo_21, xo_22, nI_add, pk_mul, Nat.add_zero, z_sA_s, z_sA_sA, z_u_s, r9, hlt, if_true]) 156 4166 s rfl
  rw [z_fd_shf 4 (by omega)] at h
  refine h.trans ?_
  have hlt : ¬ nI 4322 < nI 4322 := nI_nlt (Nat.le_refl _) (by omega)
  conv => lhs; rw [zk_M_changes_50]
  simp only [xo_2_0, xo_17, xo_0_1, xo_5, xo_63_2, xk_v, xk_n, xo_32, xo_10_3i, xo_10_3r, xo_10_3n, xo_0_2, xo_33, xo_0_3, xo_48, xo_43, xo_69, xo_7, xo_6, xo_11_4i, xo_11_4r, xo_11_4n, xo_55, xo_1_4, xo_45, xo_20, xo_15_4i, xo_15_4r, xo_15_4n, xo_54, xo_40, xo_21, xo_22, hlt, if_false]
theorem e_M_changes {G : zG} (hM : z_HM G) (M : zM) {i : Nat} (hi : i < 8) (g had : Int32) (s : Nat → Int32) (v : Value) (c : Nat) (hc : c ≤ 39) (hs : s 4165 = nI c) : z_ex 154 (z_blk 154 92) [.ref 455, .int (nI i), .int g, .int had, v] [] G (z_sA M 458 s) = some (.inl none, G, z_sA M 458 (f_cg1 i had g s)) := by
  obtain ⟨k0, ⟨r1, r8, r9, r10, r11, r12, r13, r17⟩, ⟨q1, q2⟩, ⟨q3, q4⟩, ⟨q5, q6⟩, ⟨q7, q8⟩, ⟨q9, q10⟩, ⟨q11, q12⟩, ⟨q13, q14⟩, ⟨q15, q16⟩, hp⟩ := id hM; have kr : ∀ a, z_rc a = 7 → z_kd G 455 = (0, z_rc a) := fun a h => by rw [h]; exact k0
  have hz : z_n (s 4165) = c := by rw [hs]; exact z_nN (by omega)
  unfold f_cg1
  rw [hz]
  simp (disch := first | assumption | exact kr _ rfl | omega | exact Nat.le_of_ble_eq_true rfl) only [xo_2_0, xo_17, xo_0_1, xo_5, xo_63_2, xk_v, xk_n, xo_32, xo_10_3i, xo_10_3r, xo_10_3n, xo_0_2, xo_33, xo_0_3, xo_48, xo_43, xo_69, xo_7, xo_6, xo_11_4i, xo_11_4r, xo_11_4n, xo_55, xo_1_4, xo_45, xo_20, xo_15_4i, xo_15_4r, xo_15_4n, xo_54, xo_40, xo_21, zk_M_changes_92, xo_22, nI_add, pk_mul, Nat.add_zero, z_sA_s, z_sA_sA, z_u_s, r9, z_u_n, hs]
theorem z_shf_out (s : Nat → Int32) (p n d q : Nat) (h : q < p ∨ p + n ≤ q) : z_shf s p n d q = s q := by
  unfold z_shf; rw [if_neg (by omega)]
theorem z_shf_in (s : Nat → Int32) (p n d q : Nat) (h : p ≤ q) (h2 : q < p + n) : z_shf s p n d q = s (q + d) := by
  unfold z_shf; rw [if_pos ⟨h, h2⟩]
theorem c_M_changes {G : zG} (hM : z_HM G) (M : zM) {n i : Nat} (hW : z_W0 n (M 458)) (hi : i < 8) (g : Int32) : z_call 154 [.ref 455, .int (nI i), .int g] G M = some (.inl none, G, z_sA M 458 (f_chg i g (M 458))) := by
  obtain ⟨k0, ⟨r1, r8, r9, r10, r11, r12, r13, r17⟩, ⟨q1, q2⟩, ⟨q3, q4⟩, ⟨q5, q6⟩, ⟨q7, q8⟩, ⟨q9, q10⟩, ⟨q11, q12⟩, ⟨q13, q14⟩, ⟨q15, q16⟩, hp⟩ := id hM; have kr : ∀ a, z_rc a = 7 → z_kd G 455 = (0, z_rc a) := fun a h => by rw [h]; exact k0
  obtain ⟨_, _, c, hc, hcs⟩ := hW
  have h0 : z_call 154 [.ref 455, .int (nI i), .int g] G M = (if M 458 (41 + 28 * i + 3) = 0 then some (.inl none, G, z_sA M 458 (z_u (M 458) (41 + 28 * i + 3) g)) else if M 458 (41 + 28 * i + 3) = g then some (.inl none, G, z_sA M 458 (z_u (M 458) (41 + 28 * i + 3) g)) else if M 458 4165 = nI 40 then z_ex 154 (z_blk 154 50) [.ref 455, .int (nI i), .int g, .int (M 458 (41 + 28 * i + 3)), .int (nI 4166)] [] G (z_sA M 458 (z_u (M 458) (41 + 28 * i + 3) g)) else z_ex 154 (z_blk 154 92) [.ref 455, .int (nI i), .int g, .int (M 458 (41 + 28 * i + 3)), .null] [] G (z_sA M 458 (z_u (M 458) (41 + 28 * i + 3) g))) := by
    simp (disch := first | assumption | exact kr _ rfl | omega | exact Nat.le_of_ble_eq_true rfl) only [ze_M_changes, zk_M_changes_0, xo_2_0, xo_17, xo_0_1, xo_5, xo_63_2, xk_v, xk_n, xo_32, xo_10_3i, xo_10_3r, xo_10_3n, xo_0_2, xo_33, xo_0_3, xo_48, zk_M_changes_26, xo_43, zk_M_changes_31, xo_69, zk_M_changes_32, xo_7, xo_6, zk_M_changes_45, xo_11_4i, xo_11_4r, xo_11_4n, xo_55, xo_1_4, xo_45, xo_20, xo_15_4i, xo_15_4r, xo_15_4n, xo_54, xo_40, xo_21, xo_22, nI_add, pk_mul, Nat.add_zero, z_sA_s, z_sA_sA, z_u_s, r9, c_M_m, z_u_n]
  rw [h0]
  unfold f_chg f_cg0
  by_cases h1 : M 458 (41 + 28 * i + 3) = 0
  · rw [if_pos h1, if_pos (Or.inl h1)]
  · rw [if_neg h1]
    by_cases h2 : M 458 (41 + 28 * i + 3) = g
    · rw [if_pos h2, if_pos (Or.inr h2)]
    · rw [if_neg h2, if_neg (not_or.mpr ⟨h1, h2⟩), z_u_n _ _ 4165 _ (by omega)]
      by_cases h3 : M 458 4165 = nI 40
      · rw [if_pos h3, if_pos h3, l_M_changes hM]
        have h4 : z_shf (z_u (M 458) (41 + 28 * i + 3) g) 4166 156 4 4165 = nI 40 := by
          rw [z_shf_out _ _ _ _ _ (by omega), z_u_n _ _ _ _ (by omega), h3]
        have h5 : nI 40 - nI 1 = nI 39 := pk_sub (by omega)
        simp (disch := first | assumption | exact kr _ rfl | omega | exact Nat.le_of_ble_eq_true rfl) only [xo_2_0, xo_17, xo_0_1, xo_5, xo_63_2, xk_v, xk_n, xo_32, xo_10_3i, xo_10_3r, xo_10_3n, xo_0_2, xo_33, xo_0_3, xo_48, xo_43, xo_69, xo_7, xo_6, xo_11_4i, xo_11_4r, xo_11_4n, xo_55, xo_1_4, xo_45, xo_20, xo_15_4i, xo_15_4r, xo_15_4n, xo_54, zk_M_changes_80, xo_40, xo_21, xo_22, nI_add, pk_mul, Nat.add_zero, z_sA_s, z_sA_sA, z_u_s, r9, h4, h5]
        exact e_M_changes hM M hi _ _ _ _ 39 (by omega) (z_u_s _ _ _)
      · rw [if_neg h3, if_neg h3]
        exact e_M_changes hM M hi _ _ _ _ c (by
          have : c ≠ 40 := fun e => h3 (by rw [hcs, e])
          omega) (by rw [z_u_n _ _ _ _ (by omega), hcs])
def f_ng (i : Nat) (s : Nat → Int32) : Nat → Int32 := f_nf i (z_u (f_chg i (nI 10 * (s (41 + 28 * i + 2) + nI 1) + nI i) (z_u s (41 + 28 * i + 2) (s (41 + 28 * i + 2) + nI 1))) (41 + 28 * i + 4) (nI 1 <<< (nI i &&& 31)))
theorem c_M_newGroup {G : zG} (hM : z_HM G) (M : zM) {n i : Nat} (hW : z_W0 n (M 458)) (hi : i < 8) : z_call 152 [.ref 455, .int (nI i)] G M = some (.inl none, G, z_sA M 458 (f_ng i (M 458))) := by
  obtain ⟨k0, ⟨r1, r8, r9, r10, r11, r12, r13, r17⟩, ⟨q1, q2⟩, ⟨q3, q4⟩, ⟨q5, q6⟩, ⟨q7, q8⟩, ⟨q9, q10⟩, ⟨q11, q12⟩, ⟨q13, q14⟩, ⟨q15, q16⟩, hp⟩ := id hM; have kr : ∀ a, z_rc a = 7 → z_kd G 455 = (0, z_rc a) := fun a h => by rw [h]; exact k0
  have hc := c_M_changes hM (z_sA M 458 (z_u (M 458) (41 + 28 * i + 2) (M 458 (41 + 28 * i + 2) + nI 1))) (i := i) (by rw [z_sA_s]; exact z_W0_u hW _ _ (by omega) (by omega) (by omega)) hi (nI 10 * (M 458 (41 + 28 * i + 2) + nI 1) + nI i)
  simp only [z_sA_s, z_sA_sA] at hc
  simp (disch := first | assumption | exact kr _ rfl | omega | exact Nat.le_of_ble_eq_true rfl) only [ze_M_newGroup, zk_M_newGroup_0, xo_2_0, xo_17, xo_0_1, xo_5, xo_63_2, xk_v, xk_n, xo_40, xo_32, xo_20, xo_33, xo_6, xo_22, xo_64_3, xo_26, xo_64_2, xo_69, nI_add, pk_mul, Nat.add_zero, z_sA_s, z_sA_sA, z_u_s, r9, c_M_m, zr_M_changes, zr_M_noneFound, hc, c_M_noneFound hM, f_ng]
def f_al (i : Nat) (s : Nat → Int32) : Nat → Int32 := f_ph i (nI 1) (f_ng i s 2) (z_u (z_u (z_u (f_ng i s) (41 + 28 * i + 24) (f_ng i s (41 + 28 * i + 24) + nI 1)) (41 + 28 * i + 1) (nI i)) (41 + 28 * i) (nI 0))
theorem c_M_goesAlone {G : zG} (hM : z_HM G) (M : zM) {n i : Nat} (hW : z_W0 n (M 458)) (hi : i < 8) : z_call 151 [.ref 455, .int (nI i)] G M = some (.inl none, G, z_sA M 458 (f_al i (M 458))) := by
  obtain ⟨k0, ⟨r1, r8, r9, r10, r11, r12, r13, r17⟩, ⟨q1, q2⟩, ⟨q3, q4⟩, ⟨q5, q6⟩, ⟨q7, q8⟩, ⟨q9, q10⟩, ⟨q11, q12⟩, ⟨q13, q14⟩, ⟨q15, q16⟩, hp⟩ := id hM; have kr : ∀ a, z_rc a = 7 → z_kd G 455 = (0, z_rc a) := fun a h => by rw [h]; exact k0
  simp (disch := first | assumption | exact kr _ rfl | omega | exact Nat.le_of_ble_eq_true rfl) only [ze_M_goesAlone, zk_M_goesAlone_0, xo_2_0, xo_0_1, xo_64_2, xk_v, xk_n, xo_17, xo_6, xo_63_2, xo_40, xo_32, xo_5, xo_20, xo_33, xo_64_4, xo_69, nI_add, pk_mul, Nat.add_zero, z_sA_s, z_sA_sA, z_u_s, r9, c_M_m, zr_M_newGroup, zr_M_phase, c_M_newGroup hM M hW hi, d_M_phase hM, z_u_n, f_al]
/-- a letter, as the reference has it -/
def z_lt (a b k : Nat) (due told who up : Int32) (src : Nat → Int32) : Nat → Int32 := fun t => if t = 0 then nI a else if t = 1 then nI b else if t = 2 then nI k else if t = 3 then due else if t = 4 then told else if t = 5 then who else if t = 6 then up else src (t - 7)
theorem z_lt_7 (a b k : Nat) (due told who up : Int32) (src : Nat → Int32) (t : Nat) : z_lt a b k due told who up src (7 + t) = src t := by
  unfold z_lt
  rw [if_neg (by omega), if_neg (by omega), if_neg (by omega), if_neg (by omega), if_neg (by omega), if_neg (by omega), if_neg (by omega), show 7 + t - 7 = t by omega]
def f_sd (a b k : Nat) (told who up : Int32) (s : Nat → Int32) : Nat → Int32 :=
  if s 8 = nI 300 then z_u (z_u s (9 + k) (s (9 + k) + nI 1)) 7 (s 7 + nI 1)
  else z_u (z_bw (z_u s (9 + k) (s (9 + k) + nI 1)) (265 + 13 * z_n (s 8)) 13 (z_lt a b k (s 6 + s 5) told who up (fun t => s (41 + 28 * a + (8 + t))))) 8 (s 8 + nI 1)
theorem z_chain {β : Type} (E : Nat → β) (N : Nat) (h : ∀ k, k < N → E k = E (k + 1)) : ∀ n k, k + n = N → E k = E N
  | 0, k, e => by rw [show k = N by omega]
  | n + 1, k, e => by rw [h k (by omega)]; exact z_chain E N h n (k + 1) (by omega)
theorem c_M_sends {G : zG} (hM : z_HM G) (M : zM) {n a b k : Nat} (hW : z_W0 n (M 458)) (ha : a < 8) (hb : b < 8) (hk : k < 8) (told who up : Int32) : z_call 188 [.ref 455, .int (nI a), .int (nI b), .int (nI k), .int told, .int who, .int up] G M = some (.inl none, G, z_sA M 458 (f_sd a b k told who up (M 458))) := by
  obtain ⟨k0, ⟨r1, r8, r9, r10, r11, r12, r13, r17⟩, ⟨q1, q2⟩, ⟨q3, q4⟩, ⟨q5, q6⟩, ⟨q7, q8⟩, ⟨q9, q10⟩, ⟨q11, q12⟩, ⟨q13, q14⟩, ⟨q15, q16⟩, hp⟩ := id hM; have kr : ∀ a, z_rc a = 7 → z_kd G 455 = (0, z_rc a) := fun a h => by rw [h]; exact k0
  obtain ⟨_, ⟨m, hm, hms⟩, _⟩ := hW
  have hz : z_n (M 458 8) = m := by rw [hms]; exact z_nN (by omega)
  unfold f_sd
  rw [hz]
  by_cases h300 : M 458 8 = nI 300
  · rw [if_pos h300]
    simp (disch := first | assumption | exact kr _ rfl | omega | exact Nat.le_of_ble_eq_true rfl) only [ze_M_sends, zk_M_sends_0, xo_2_0, xo_17, xo_6, xo_0_3, xo_20, xo_40, xo_32, xo_5, xo_33, xo_7, xo_43, zk_M_sends_26, xo_69, xo_22, xo_11_7i, xo_11_7r, xo_11_7n, xo_1_7, xo_0_1, xo_0_2, xo_1_4, xo_1_5, xo_1_6, xo_11_8i, xo_11_8r, xo_11_8n, xo_55, xo_1_8, xo_45, xo_63_2, xk_v, xk_n, xo_15_8i, xo_15_8r, xo_15_8n, xo_54, nI_add, pk_mul, Nat.add_zero, z_sA_s, z_sA_sA, z_u_s, r9, z_u_n, h300, if_true]
  · rw [if_neg h300]
    have hm3 : m < 300 := by
      have : m ≠ 300 := fun e => h300 (by rw [hms, e])
      omega
    have hl : ∀ L : Nat → Int32, (∀ t, L (7 + t) = M 458 (41 + 28 * a + (8 + t))) → ∀ s1 : Nat → Int32, (∀ t, t < 14 → s1 (41 + 28 * a + t) = M 458 (41 + 28 * a + t)) → z_ex 188 (z_blk 188 144) [.ref 455, .int (nI a), .int (nI b), .int (nI k), .int told, .int who, .int up, .int (nI (265 + 13 * m)), .int (nI 0)] [] G (z_sA M 458 (z_bw s1 (265 + 13 * m) 7 L)) = z_ex 188 (z_blk 188 184) [.ref 455, .int (nI a), .int (nI b), .int (nI k), .int told, .int who, .int up, .int (nI (265 + 13 * m)), .int (nI 6)] [] G (z_sA M 458 (z_bw s1 (265 + 13 * m) 13 L)) := by
      intro L hL s1 hs1
      refine (z_chain (fun j => z_ex 188 (z_blk 188 144) [.ref 455, .int (nI a), .int (nI b), .int (nI k), .int told, .int who, .int up, .int (nI (265 + 13 * m)), .int (nI j)] [] G (z_sA M 458 (z_bw s1 (265 + 13 * m) (7 + j) L))) 6 ?_ 6 0 rfl).trans ?_
      · intro j hj
        have hlt : nI j < nI 6 := nI_lt hj (by omega)
        have hr : z_bw s1 (265 + 13 * m) (7 + j) L (41 + 28 * a + (8 + j)) = L (7 + j) := by
          rw [z_bw_out _ _ _ _ _ (by omega), hs1 _ (by omega), hL]
        have hw : z_u (z_bw s1 (265 + 13 * m) (7 + j) L) (265 + 13 * m + 7 + j) (L (7 + j)) = z_bw s1 (265 + 13 * m) (7 + (j + 1)) L := by
          rw [show 265 + 13 * m + 7 + j = 265 + 13 * m + (7 + j) by omega, z_bw_u, show 7 + j + 1 = 7 + (j + 1) by omega]
        conv => lhs; rw [zk_M_sends_144]
        simp (disch := first | assumption | exact kr _ rfl | omega | exact Nat.le_of_ble_eq_true rfl) only [xo_2_0, xo_17, xo_6, xo_0_3, xo_20, xo_40, xo_32, xo_5, xo_33, xo_7, xo_43, xo_69, xo_22, xo_11_7i, xo_11_7r, xo_11_7n, xo_1_7, xo_0_1, xo_0_2, xo_1_4, xo_1_5, xo_1_6, xo_11_8i, xo_11_8r, xo_11_8n, xo_55, xo_1_8, xo_45, zk_M_sends_151, xo_63_2, xk_v, xk_n, xo_15_8i, xo_15_8r, xo_15_8n, xo_54, nI_add, pk_mul, Nat.add_zero, z_sA_s, z_sA_sA, z_u_s, r9, c_M_m, hlt, if_true, hr, hw]
      · have hlt : ¬ nI 6 < nI 6 := nI_nlt (Nat.le_refl _) (by omega)
        conv => lhs; rw [zk_M_sends_144]
        simp only [xo_2_0, xo_17, xo_6, xo_0_3, xo_20, xo_40, xo_32, xo_5, xo_33, xo_7, xo_43, xo_69, xo_22, xo_11_7i, xo_11_7r, xo_11_7n, xo_1_7, xo_0_1, xo_0_2, xo_1_4, xo_1_5, xo_1_6, xo_11_8i, xo_11_8r, xo_11_8n, xo_55, xo_1_8, xo_45, xo_63_2, xk_v, xk_n, xo_15_8i, xo_15_8r, xo_15_8n, xo_54, hlt, if_false]
    have h7 : ∀ (s1 L : Nat → Int32) (p : Nat), z_u (z_u (z_u (z_u (z_u (z_u (z_u s1 p (L 0)) (p + 1) (L 1)) (p + 2) (L 2)) (p + 3) (L 3)) (p + 4) (L 4)) (p + 5) (L 5)) (p + 6) (L 6) = z_bw s1 p 7 L := by
      intro s1 L p
      rw [← z_bw_u s1 p 6 L, ← z_bw_u s1 p 5 L, ← z_bw_u s1 p 4 L, ← z_bw_u s1 p 3 L, ← z_bw_u s1 p 2 L, ← z_bw_u s1 p 1 L, ← z_bw_u s1 p 0 L, z_bw_0]
      rfl
    have h7' := h7 (z_u (M 458) (9 + k) (M 458 (9 + k) + nI 1)) (z_lt a b k (M 458 6 + M 458 5) told who up (fun t => M 458 (41 + 28 * a + (8 + t)))) (265 + 13 * m)
    have hl' := hl (z_lt a b k (M 458 6 + M 458 5) told who up (fun t => M 458 (41 + 28 * a + (8 + t)))) (fun t => z_lt_7 _ _ _ _ _ _ _ _ t) (z_u (M 458) (9 + k) (M 458 (9 + k) + nI 1)) (fun t ht => z_u_n _ _ _ _ (by omega))
    rw [← h7'] at hl'
    have e0 : z_call 188 [.ref 455, .int (nI a), .int (nI b), .int (nI k), .int told, .int who, .int up] G M = z_ex 188 (z_blk 188 144) [.ref 455, .int (nI a), .int (nI b), .int (nI k), .int told, .int who, .int up, .int (nI (265 + 13 * m)), .int (nI 0)] [] G (z_sA M 458 (z_u (z_u (z_u (z_u (z_u (z_u (z_u (z_u (M 458) (9 + k) (M 458 (9 + k) + nI 1)) (265 + 13 * m) (nI a)) (265 + 13 * m + 1) (nI b)) (265 + 13 * m + 2) (nI k)) (265 + 13 * m + 3) (M 458 6 + M 458 5)) (265 + 13 * m + 4) told) (265 + 13 * m + 5) who) (265 + 13 * m + 6) up)) := by
      rw [hms] at h300
      simp (disch := first | assumption | exact kr _ rfl | omega | exact Nat.le_of_ble_eq_true rfl) only [ze_M_sends, zk_M_sends_0, xo_2_0, xo_17, xo_6, xo_0_3, xo_20, xo_40, xo_32, xo_5, xo_33, xo_7, xo_43, xo_69, zk_M_sends_38, xo_22, xo_11_7i, xo_11_7r, xo_11_7n, xo_1_7, xo_0_1, xo_0_2, xo_1_4, xo_1_5, xo_1_6, xo_11_8i, xo_11_8r, xo_11_8n, xo_55, xo_1_8, xo_45, xo_63_2, xk_v, xk_n, xo_15_8i, xo_15_8r, xo_15_8n, xo_54, nI_add, pk_mul, Nat.add_zero, z_sA_s, z_sA_sA, z_u_s, r9, z_u_n, hms, h300, if_false]
    rw [e0]
    refine hl'.trans ?_
    have hr8 : z_bw (z_u (M 458) (9 + k) (M 458 (9 + k) + nI 1)) (265 + 13 * m) 13 (z_lt a b k (M 458 6 + M 458 5) told who up (fun t => M 458 (41 + 28 * a + (8 + t)))) 8 = M 458 8 := by
      rw [z_bw_out _ _ _ _ _ (by omega), z_u_n _ _ _ _ (by omega)]
    simp (disch := first | assumption | exact kr _ rfl | omega | exact Nat.le_of_ble_eq_true rfl) only [xo_2_0, xo_17, xo_6, xo_0_3, xo_20, xo_40, xo_32, xo_5, xo_33, xo_7, xo_43, xo_69, xo_22, xo_11_7i, xo_11_7r, xo_11_7n, xo_1_7, xo_0_1, xo_0_2, xo_1_4, xo_1_5, xo_1_6, xo_11_8i, xo_11_8r, xo_11_8n, xo_55, xo_1_8, xo_45, xo_63_2, xk_v, xk_n, xo_15_8i, xo_15_8r, xo_15_8n, xo_54, zk_M_sends_184, nI_add, pk_mul, Nat.add_zero, z_sA_s, z_sA_sA, z_u_s, r9, hr8]
