/-! ===== the reference: letters, phases ===== -/
theorem w0_nf {n : Nat} {s : Nat → Int32} (h : z_W0 n s) {i : Nat} (hi : i < 8) : z_W0 n (f_nf i s) :=
  z_W0_u (z_W0_u h _ _ (by omega) (by omega) (by omega)) _ _ (by omega) (by omega) (by omega)
theorem w0_ph {n : Nat} {s : Nat → Int32} (h : z_W0 n s) {i : Nat} (hi : i < 8) (ph be : Int32) : z_W0 n (f_ph i ph be s) :=
  z_W0_u (z_W0_u h _ _ (by omega) (by omega) (by omega)) _ _ (by omega) (by omega) (by omega)
theorem w0_cg1 {n : Nat} {s : Nat → Int32} (h : z_W0 n s) (i : Nat) (had g : Int32) {c : Nat} (hc : c ≤ 39) (hs : s 4165 = nI c) : z_W0 n (f_cg1 i had g s) := by
  have hz : z_n (s 4165) = c := by rw [hs]; exact z_nN (by omega)
  unfold f_cg1
  rw [hz, hs, nI_add]
  obtain ⟨h1, h2, _⟩ := z_W0_u (z_W0_u (z_W0_u (z_W0_u h (4166 + 4 * c) (s 6) (by omega) (by omega) (by omega)) (4166 + 4 * c + 1) (nI i) (by omega) (by omega) (by omega)) (4166 + 4 * c + 2) had (by omega) (by omega) (by omega)) (4166 + 4 * c + 3) g (by omega) (by omega) (by omega)
  refine ⟨?_, ?_, c + 1, by omega, z_u_s _ _ _⟩
  · rw [z_u_n _ _ _ _ (by omega)]; exact h1
  · rw [z_u_n _ _ _ _ (by omega)]; exact h2
theorem w0_chg {n : Nat} {s : Nat → Int32} (h : z_W0 n s) {i : Nat} (hi : i < 8) (g : Int32) : z_W0 n (f_chg i g s) := by
  have h1 : z_W0 n (z_u s (41 + 28 * i + 3) g) := z_W0_u h _ _ (by omega) (by omega) (by omega)
  unfold f_chg
  split
  · exact h1
  · unfold f_cg0
    split
    · refine w0_cg1 (c := 39) ?_ _ _ _ (by omega) (z_u_s _ _ _)
      obtain ⟨⟨a1, a2⟩, ⟨m, a3, a4⟩, _⟩ := h1
      refine ⟨⟨?_, a2⟩, ⟨m, a3, ?_⟩, 39, by omega, z_u_s _ _ _⟩
      · rw [z_u_n _ _ _ _ (by omega), z_shf_out _ _ _ _ _ (by omega)]; exact a1
      · rw [z_u_n _ _ _ _ (by omega), z_shf_out _ _ _ _ _ (by omega)]; exact a4
    · rename_i hne
      obtain ⟨_, _, c, hc, hcs⟩ := id h1
      exact w0_cg1 h1 _ _ _ (c := c) (by
        have : c ≠ 40 := fun e => hne (by rw [hcs, e])
        omega) hcs
theorem w0_ng {n : Nat} {s : Nat → Int32} (h : z_W0 n s) {i : Nat} (hi : i < 8) : z_W0 n (f_ng i s) :=
  w0_nf (z_W0_u (w0_chg (z_W0_u h _ _ (by omega) (by omega) (by omega)) hi _) _ _ (by omega) (by omega) (by omega)) hi
theorem w0_al {n : Nat} {s : Nat → Int32} (h : z_W0 n s) {i : Nat} (hi : i < 8) : z_W0 n (f_al i s) :=
  w0_ph (z_W0_u (z_W0_u (z_W0_u (w0_ng h hi) _ _ (by omega) (by omega) (by omega)) _ _ (by omega) (by omega) (by omega)) _ _ (by omega) (by omega) (by omega)) hi _ _
theorem w0_sd {n : Nat} {s : Nat → Int32} (h : z_W0 n s) {k : Nat} (hk : k < 8) (a b : Nat) (told who up : Int32) : z_W0 n (f_sd a b k told who up s) := by
  obtain ⟨h1, ⟨m, hm, hms⟩, c, hc, hcs⟩ := id h
  have hz : z_n (s 8) = m := by rw [hms]; exact z_nN (by omega)
  have h2 : z_W0 n (z_u s (9 + k) (s (9 + k) + nI 1)) := z_W0_u h _ _ (by omega) (by omega) (by omega)
  unfold f_sd
  rw [hz]
  split
  · exact z_W0_u h2 _ _ (by omega) (by omega) (by omega)
  · rename_i hne
    have hm3 : m ≠ 300 := fun e => hne (by rw [hms, e])
    obtain ⟨⟨a1, a2⟩, _, c, a3, a4⟩ := h2
    refine ⟨⟨?_, a2⟩, ⟨m + 1, by omega, ?_⟩, c, a3, ?_⟩
    · rw [z_u_n _ _ _ _ (by omega), z_bw_out _ _ _ _ _ (by omega)]; exact a1
    · rw [z_u_s, hms, nI_add]
    · rw [z_u_n _ _ _ _ (by omega), z_bw_out _ _ _ _ _ (by omega)]; exact a4
def f_sa (n a k : Nat) (set told who up : Int32) (s : Nat → Int32) : Nat → Int32 := z_fd (fun o t => if o ≠ a ∧ zf_has set (nI o) = true then f_sd a o k told who up t else t) n 0 s
theorem w0_sa {n : Nat} {s : Nat → Int32} (h : z_W0 n s) {k : Nat} (hk : k < 8) (a : Nat) (set told who up : Int32) : z_W0 n (f_sa n a k set told who up s) := by
  refine z_fd_inv (fun _ t => z_W0 n t) n 0 s h (fun j t _ _ ht => ?_)
  try dsimp only
  split
  · exact w0_sd ht hk _ _ _ _ _
  · exact ht
theorem c_M_sendsAll {G : zG} (hM : z_HM G) (M : zM) {n a k : Nat} (hW : z_W0 n (M 458)) (ha : a < 8) (hk : k < 8) (set told who up : Int32) : z_call 190 [.ref 455, .int (nI a), .int set, .int (nI k), .int told, .int who, .int up] G M = some (.inl none, G, z_sA M 458 (f_sa n a k set told who up (M 458))) := by
  obtain ⟨k0, ⟨r1, r8, r9, r10, r11, r12, r13, r17⟩, ⟨q1, q2⟩, ⟨q3, q4⟩, ⟨q5, q6⟩, ⟨q7, q8⟩, ⟨q9, q10⟩, ⟨q11, q12⟩, ⟨q13, q14⟩, ⟨q15, q16⟩, hp⟩ := id hM; have kr : ∀ a, z_rc a = 7 → z_kd G 455 = (0, z_rc a) := fun a h => by rw [h]; exact k0
  have e := z_loop (fun o t => z_ex 190 (z_blk 190 3) [.ref 455, .int (nI a), .int set, .int (nI k), .int told, .int who, .int up, .int (nI o)] [] G (z_sA M 458 t)) (fun o t => if o ≠ a ∧ zf_has set (nI o) = true then f_sd a o k told who up t else t) n (fun _ t => z_W0 n t) (by
    intro o t ho ht
    obtain ⟨h0, h8⟩ := id ht.1
    refine ⟨?_, ?_⟩
    · have hlt : nI o < nI n := nI_lt ho (by omega)
      by_cases hoa : o = a
      · have e1 : (nI o = nI a) = True := eq_true (by rw [hoa])
        rw [if_neg (fun q => q.1 hoa)]
        conv => lhs; rw [zk_M_sendsAll_3]
        simp (disch := first | assumption | exact kr _ rfl | omega | exact Nat.le_of_ble_eq_true rfl) only [xo_5, xo_11_7i, xo_11_7r, xo_11_7n, xo_55, xo_1_7, xo_2_0, xo_17, xo_32, xo_45, zk_M_sendsAll_14, xo_0_1, xo_42, xo_0_2, xo_63_2, xk_v, xk_n, xo_48, xo_0_3, xo_1_4, xo_1_5, xo_1_6, xo_64_7, zk_M_sendsAll_43, xo_15_7i, xo_15_7r, xo_15_7n, xo_54, xo_69, nI_add, pk_mul, Nat.add_zero, z_sA_s, z_sA_sA, z_u_s, r9, h0, hlt, e1, if_true, if_false, eq_self, Bool.true_eq_false, Bool.false_eq_true]
      · have e1 : (nI o = nI a) = False := eq_false (fun q => hoa ((nI_eq (by omega) (by omega)).mp q))
        have hs := c_M_sends hM (z_sA M 458 t) (a := a) (b := o) (k := k) (by rw [z_sA_s]; exact ht) ha (by omega) hk told who up
        simp only [z_sA_s, z_sA_sA] at hs
        cases hh : zf_has set (nI o)
        · rw [if_neg (fun q => Bool.false_ne_true q.2)]
          conv => lhs; rw [zk_M_sendsAll_3]
          simp (disch := first | assumption | exact kr _ rfl | omega | exact Nat.le_of_ble_eq_true rfl) only [xo_5, xo_11_7i, xo_11_7r, xo_11_7n, xo_55, xo_1_7, xo_2_0, xo_17, xo_32, xo_45, zk_M_sendsAll_14, xo_0_1, xo_42, zk_M_sendsAll_20, xo_0_2, xo_63_2, xk_v, xk_n, xo_48, xo_0_3, xo_1_4, xo_1_5, xo_1_6, xo_64_7, zk_M_sendsAll_43, xo_15_7i, xo_15_7r, xo_15_7n, xo_54, xo_69, nI_add, pk_mul, Nat.add_zero, z_sA_s, z_sA_sA, z_u_s, r9, h0, hlt, e1, if_true, if_false, eq_self, Bool.true_eq_false, Bool.false_eq_true, c_M_has, hh, z_b0]
        · rw [if_pos ⟨hoa, rfl⟩]
          conv => lhs; rw [zk_M_sendsAll_3]
          simp (disch := first | assumption | exact kr _ rfl | omega | exact Nat.le_of_ble_eq_true rfl) only [xo_5, xo_11_7i, xo_11_7r, xo_11_7n, xo_55, xo_1_7, xo_2_0, xo_17, xo_32, xo_45, zk_M_sendsAll_14, xo_0_1, xo_42, zk_M_sendsAll_20, xo_0_2, xo_63_2, xk_v, xk_n, xo_48, zk_M_sendsAll_29, xo_0_3, xo_1_4, xo_1_5, xo_1_6, xo_64_7, zk_M_sendsAll_43, xo_15_7i, xo_15_7r, xo_15_7n, xo_54, xo_69, nI_add, pk_mul, Nat.add_zero, z_sA_s, z_sA_sA, z_u_s, r9, h0, hlt, e1, if_true, if_false, eq_self, Bool.true_eq_false, Bool.false_eq_true, c_M_has, hh, z_b0, zr_M_sends, hs]
    · try dsimp only
      split
      · exact w0_sd ht hk _ _ _ _ _
      · exact ht) n 0 (M 458) (by omega) hW
  have hW2 := w0_sa hW hk a set told who up
  obtain ⟨h0, h8⟩ := id hW2.1
  have hlt : ¬ nI n < nI n := nI_nlt (Nat.le_refl _) (by omega)
  have e2 : z_call 190 [.ref 455, .int (nI a), .int set, .int (nI k), .int told, .int who, .int up] G M = z_ex 190 (z_blk 190 3) [.ref 455, .int (nI a), .int set, .int (nI k), .int told, .int who, .int up, .int (nI 0)] [] G M := by
    simp only [ze_M_sendsAll, zk_M_sendsAll_0, xo_5, xo_11_7i, xo_11_7r, xo_11_7n, xo_55, xo_1_7, xo_2_0, xo_17, xo_32, xo_45, xo_0_1, xo_42, xo_0_2, xo_63_2, xk_v, xk_n, xo_48, xo_0_3, xo_1_4, xo_1_5, xo_1_6, xo_64_7, xo_15_7i, xo_15_7r, xo_15_7n, xo_54, xo_69]
  rw [e2]
  rw [z_sA_id] at e
  refine e.trans ?_
  have h0' : z_fd (fun o t => if o ≠ a ∧ zf_has set (nI o) = true then f_sd a o k told who up t else t) n 0 (M 458) 0 = nI n := h0
  conv => lhs; rw [zk_M_sendsAll_3]
  simp (disch := first | assumption | exact kr _ rfl | omega | exact Nat.le_of_ble_eq_true rfl) only [xo_5, xo_11_7i, xo_11_7r, xo_11_7n, xo_55, xo_1_7, xo_2_0, xo_17, xo_32, xo_45, xo_0_1, xo_42, xo_0_2, xo_63_2, xk_v, xk_n, xo_48, xo_0_3, xo_1_4, xo_1_5, xo_1_6, xo_64_7, xo_15_7i, xo_15_7r, xo_15_7n, xo_54, zk_M_sendsAll_49, xo_69, nI_add, pk_mul, Nat.add_zero, z_sA_s, z_sA_sA, z_u_s, r9, h0', hlt, if_true, if_false, eq_self, Bool.true_eq_false, Bool.false_eq_true, f_sa]
/-- letter k is taken out -/
def f_to (k : Nat) (s : Nat → Int32) : Nat → Int32 := z_u (z_shf s (265 + 13 * k) (13 * (z_n (s 8) - 1 - k)) 13) 8 (s 8 - nI 1)
theorem c_M_takesOut {G : zG} (hM : z_HM G) (M : zM) {n k m : Nat} (hm : m ≤ 300) (hms : M 458 8 = nI m) (hk : k < m) : z_call 182 [.ref 455, .int (nI k)] G M = some (.inl none, G, z_sA (z_sA M 471 (z_bw (M 471) 0 13 (fun t => M 458 (265 + 13 * k + t)))) 458 (f_to k (M 458))) := by
  obtain ⟨k0, ⟨r1, r8, r9, r10, r11, r12, r13, r17⟩, ⟨q1, q2⟩, ⟨q3, q4⟩, ⟨q5, q6⟩, ⟨q7, q8⟩, ⟨q9, q10⟩, ⟨q11, q12⟩, ⟨q13, q14⟩, ⟨q15, q16⟩, hp⟩ := id hM; have kr : ∀ a, z_rc a = 7 → z_kd G 455 = (0, z_rc a) := fun a h => by rw [h]; exact k0
  have hz : z_n (nI m) = m := z_nN (by omega)
  have e1 : z_call 182 [.ref 455, .int (nI k)] G M = z_ex 182 (z_blk 182 11) [.ref 455, .int (nI k), .int (nI (265 + 13 * k)), .int (nI 0)] [] G (z_sA M 471 (z_bw (M 471) 0 0 (fun t => M 458 (265 + 13 * k + t)))) := by
    rw [z_bw_0, z_sA_id]
    simp (disch := first | assumption | exact kr _ rfl | omega | exact Nat.le_of_ble_eq_true rfl) only [ze_M_takesOut, zk_M_takesOut_0, xo_7, xo_6, xo_0_1, xo_22, xo_20, xo_10_2i, xo_10_2r, xo_10_2n, xo_5, xo_10_3i, xo_10_3r, xo_10_3n, xo_55, xo_0_3, xo_45, xo_2_0, xo_17, xo_0_2, xo_32, xo_33, xo_15_3i, xo_15_3r, xo_15_3n, xo_54, xo_40, xo_21, xo_69, nI_add, pk_mul, Nat.add_zero, z_sA_s, z_sA_sA, z_u_s]
  have e2 := z_chain (fun j => z_ex 182 (z_blk 182 11) [.ref 455, .int (nI k), .int (nI (265 + 13 * k)), .int (nI j)] [] G (z_sA M 471 (z_bw (M 471) 0 j (fun t => M 458 (265 + 13 * k + t))))) 13 (by
    intro j hj
    have hlt : nI j < nI 13 := nI_lt hj (by omega)
    have hw := z_bw_u (M 471) 0 j (fun t => M 458 (265 + 13 * k + t))
    rw [Nat.zero_add] at hw
    try dsimp only at hw
    conv => lhs; rw [zk_M_takesOut_11]
    simp (disch := first | assumption | exact kr _ rfl | omega | exact Nat.le_of_ble_eq_true rfl) only [xo_7, xo_6, xo_0_1, xo_22, xo_20, xo_10_2i, xo_10_2r, xo_10_2n, xo_5, xo_10_3i, xo_10_3r, xo_10_3n, xo_55, xo_0_3, xo_45, zk_M_takesOut_17, xo_2_0, xo_17, xo_0_2, xo_32, xo_33, xo_15_3i, xo_15_3r, xo_15_3n, xo_54, xo_40, xo_21, xo_69, nI_add, pk_mul, Nat.add_zero, z_sA_s, z_sA_sA, z_u_s, r9, r17, z_sA_n, hlt, if_true, if_false, eq_self, Bool.true_eq_false, Bool.false_eq_true, hw]) 13 0 rfl
  try dsimp only at e2
  rw [e1, e2]
  generalize hM2 : z_sA M 471 (z_bw (M 471) 0 13 (fun t => M 458 (265 + 13 * k + t))) = M2
  have h4 : M2 458 = M 458 := by rw [← hM2, z_sA_n _ _ _ _ (by omega)]
  have hlt : ¬ nI 13 < nI 13 := nI_nlt (Nat.le_refl _) (by omega)
  have e3 : z_ex 182 (z_blk 182 11) [.ref 455, .int (nI k), .int (nI (265 + 13 * k)), .int (nI 13)] [] G M2 = z_ex 182 (z_blk 182 39) [.ref 455, .int (nI k), .int (nI (265 + 13 * k)), .int (nI (265 + 13 * k))] [] G (z_sA M2 458 (M 458)) := by
    rw [← h4, z_sA_id]
    conv => lhs; rw [zk_M_takesOut_11]
    simp (disch := first | assumption | exact kr _ rfl | omega | exact Nat.le_of_ble_eq_true rfl) only [xo_7, xo_6, xo_0_1, xo_22, xo_20, xo_10_2i, xo_10_2r, xo_10_2n, xo_5, xo_10_3i, xo_10_3r, xo_10_3n, xo_55, xo_0_3, xo_45, xo_2_0, xo_17, xo_0_2, xo_32, xo_33, xo_15_3i, xo_15_3r, xo_15_3n, xo_54, zk_M_takesOut_37, xo_40, xo_21, xo_69, nI_add, pk_mul, Nat.add_zero, z_sA_s, z_sA_sA, z_u_s, hlt, if_true, if_false, eq_self, Bool.true_eq_false, Bool.false_eq_true]
  rw [e3]
  have e4 := z_loop (fun j t => z_ex 182 (z_blk 182 39) [.ref 455, .int (nI k), .int (nI (265 + 13 * k)), .int (nI j)] [] G (z_sA M2 458 t)) (fun j t => z_u t j (t (j + 13))) (265 + 13 * k + 13 * (m - 1 - k)) (fun j t => t 8 = nI m ∧ 265 ≤ j) (by
    intro j t hj ht
    obtain ⟨ht, h265⟩ := ht
    refine ⟨?_, by rw [z_u_n _ _ _ _ (by omega)]; exact ht, by omega⟩
    have hlt : nI (j + 13) < nI (265 + 13 * m) := nI_lt (by omega) (by omega)
    conv => lhs; rw [zk_M_takesOut_39]
    simp (disch := first | assumption | exact kr _ rfl | omega | exact Nat.le_of_ble_eq_true rfl) only [xo_7, xo_6, xo_0_1, xo_22, xo_20, xo_10_2i, xo_10_2r, xo_10_2n, xo_5, xo_10_3i, xo_10_3r, xo_10_3n, xo_55, xo_0_3, xo_45, xo_2_0, xo_17, xo_0_2, xo_32, xo_33, xo_15_3i, xo_15_3r, xo_15_3n, xo_54, zk_M_takesOut_60, xo_40, xo_21, xo_69, nI_add, pk_mul, Nat.add_zero, z_sA_s, z_sA_sA, z_u_s, r9, ht, hlt, if_true, if_false, eq_self, Bool.true_eq_false, Bool.false_eq_true]) (13 * (m - 1 - k)) (265 + 13 * k) (M 458) (by omega) ⟨hms, by omega⟩
  try dsimp only at e4
  rw [e4, z_fd_shf 13 (by omega)]
  have h8 : z_shf (M 458) (265 + 13 * k) (13 * (m - 1 - k)) 13 8 = nI m := by rw [z_shf_out _ _ _ _ _ (by omega), hms]
  have hlt2 : ¬ nI (265 + 13 * k + 13 * (m - 1 - k) + 13) < nI (265 + 13 * m) := nI_nlt (by omega) (by omega)
  conv => lhs; rw [zk_M_takesOut_39]
  simp (disch := first | assumption | exact kr _ rfl | omega | exact Nat.le_of_ble_eq_true rfl) only [xo_7, xo_6, xo_0_1, xo_22, xo_20, xo_10_2i, xo_10_2r, xo_10_2n, xo_5, xo_10_3i, xo_10_3r, xo_10_3n, xo_55, xo_0_3, xo_45, xo_2_0, xo_17, xo_0_2, xo_32, xo_33, xo_15_3i, xo_15_3r, xo_15_3n, xo_54, zk_M_takesOut_81, xo_40, xo_21, xo_69, nI_add, pk_mul, Nat.add_zero, z_sA_s, z_sA_sA, z_u_s, r9, h8, hlt2, if_true, if_false, eq_self, Bool.true_eq_false, Bool.false_eq_true, f_to, hz, hms]
