/-! ===== the reference: a tick, its rest ===== -/
theorem c_M_arrives {G : zG} (hM : z_HM G) (M : zM) {n J B : Nat} (hF : z_F n J B (M 458)) (hB : B ≤ 90000000) : ∃ nw, z_call 181 [.ref 455] G M = some (.inl none, G, mm M (f_ar n (M 458)).2.1 nw (f_ar n (M 458)).2.2) ∧ z_F n J (B + 300) (f_ar n (M 458)).2.1 ∧ (f_ar n (M 458)).2.1 6 = M 458 6 := by
  obtain ⟨k0, ⟨r1, r8, r9, r10, r11, r12, r13, r17⟩, ⟨q1, q2⟩, ⟨q3, q4⟩, ⟨q5, q6⟩, ⟨q7, q8⟩, ⟨q9, q10⟩, ⟨q11, q12⟩, ⟨q13, q14⟩, ⟨q15, q16⟩, hp⟩ := id hM; have kr : ∀ a, z_rc a = 7 → z_kd G 455 = (0, z_rc a) := fun a h => (by rw [h]; exact k0)
  obtain ⟨m, hm, e8, z8⟩ := z_F_m hF
  have hAI : z_AI n J B m (M 458 6) 0 (0, M 458, 0) := ⟨hF, rfl, Nat.zero_le _, by dsimp only; omega, fun p p1 p2 => by dsimp only at p1 p2; omega, hm⟩
  obtain ⟨nw, e1, h1⟩ := l_M_arrives hM M (E := m) hB m 0 (0, M 458, 0) (M 471) (by omega) hAI
  have hA : f_ar n (M 458) = z_fd (fun _ a => f_as n a) m 0 (0, M 458, 0) := by unfold f_ar; rw [z8]
  rw [← hA] at e1 h1
  generalize f_ar n (M 458) = a at e1 h1
  obtain ⟨kk, s, hh⟩ := a
  obtain ⟨gF, g6, _, g2, g3, _⟩ := h1
  dsimp only at e1 gF g6 g2 g3 ⊢
  obtain ⟨m', hm', e8', z8'⟩ := z_F_m gF
  rw [z8'] at g2 g3
  refine ⟨nw, ?_, z_F_mono (by omega) gF, g6⟩
  have hM0 : mm M (M 458) (M 471) 0 = M := by
    unfold mm
    have h0 : nI 0 = 0 := nI_0
    rw [h0, Int32.add_zero]
    have h1 : z_u (M 455) 18 (M 455 18) = M 455 := by funext q; unfold z_u; split <;> simp_all
    rw [h1, z_sA_id, z_sA_id, z_sA_id]
  rw [hM0] at e1
  have e0 : z_call 181 [.ref 455] G M = z_ex 181 (z_blk 181 2) [.ref 455, .int (nI 0)] [] G M := by
    simp only [ze_M_arrives, zk_M_arrives_0, xo_5, xo_10_1i, xo_10_1r, xo_10_1n, xo_55, xo_0_1, xo_2_0, xo_17, xo_6, xo_32, xo_45, xo_7, xo_22, xo_20, xo_42, xo_15_1i, xo_15_1r, xo_15_1n, xo_54, xo_64_2, xk_v, xk_n, xo_64_3, xo_48, xo_40, xo_33, xo_39i, xo_39r, xo_16, xo_18, xo_64_1, xo_69]
  rw [e0, e1]
  have e2 := z_chain (fun j => z_ex 181 (z_blk 181 2) [.ref 455, .int (nI (kk + j))] [] G (mm M s nw hh)) (m' - kk) (by
    intro j hj
    have hlt : nI (kk + j) < nI m' := nI_lt (by omega) (by omega)
    have hd : ¬ s (265 + 13 * (kk + j) + 3) = s 6 := by rw [g6]; exact g3 (kk + j) (by omega) (by omega)
    conv => lhs; rw [zk_M_arrives_2]
    simp (disch := first | assumption | exact kr _ rfl | omega | exact Nat.le_of_ble_eq_true rfl) only [xo_5, xo_10_1i, xo_10_1r, xo_10_1n, xo_55, xo_0_1, xo_2_0, xo_17, xo_6, xo_32, xo_45, zk_M_arrives_13, xo_7, xo_22, xo_20, xo_42, zk_M_arrives_38, xo_15_1i, xo_15_1r, xo_15_1n, xo_54, xo_64_2, xk_v, xk_n, xo_64_3, xo_48, xo_40, xo_33, xo_39i, xo_39r, xo_16, xo_18, xo_64_1, xo_69, nI_add, pk_mul, Nat.add_zero, z_sA_s, z_sA_sA, z_u_s, r9, mm_s, e8', hlt, hd, if_true, if_false, eq_self, Bool.true_eq_false, Bool.false_eq_true, and_true, true_and, and_false, false_and, or_true, true_or, or_false, false_or, ne_eq, not_true_eq_false, not_false_eq_true, decide_true, decide_false, z_sA_id, ← Nat.add_assoc kk j 1]) (m' - kk) 0 (by omega)
  rw [Nat.add_zero] at e2
  rw [e2]
  have hlt : ¬ nI (kk + (m' - kk)) < nI m' := nI_nlt (by omega) (by omega)
  conv => lhs; rw [zk_M_arrives_2]
  simp (disch := first | assumption | exact kr _ rfl | omega | exact Nat.le_of_ble_eq_true rfl) only [xo_5, xo_10_1i, xo_10_1r, xo_10_1n, xo_55, xo_0_1, xo_2_0, xo_17, xo_6, xo_32, xo_45, xo_7, xo_22, xo_20, xo_42, xo_15_1i, xo_15_1r, xo_15_1n, xo_54, xo_64_2, xk_v, xk_n, xo_64_3, xo_48, xo_40, xo_33, xo_39i, xo_39r, xo_16, xo_18, xo_64_1, zk_M_arrives_130, xo_69, nI_add, pk_mul, Nat.add_zero, z_sA_s, z_sA_sA, z_u_s, r9, mm_s, e8', hlt, if_true, if_false, eq_self, Bool.true_eq_false, Bool.false_eq_true, and_true, true_and, and_false, false_and, or_true, true_or, or_false, false_or, ne_eq, not_true_eq_false, not_false_eq_true, decide_true, decide_false, z_sA_id]
def f_r1s (n i : Nat) (t : Nat → Int32) : Nat → Int32 := if t (41 + 28 * i) = nI 2 then t else if t (41 + 28 * i + 7) = t 6 then f_rg n i (z_n (t (41 + 28 * i + 1))) (z_n (t (41 + 28 * i + 6))) t else t
def f_rgs (n : Nat) (s : Nat → Int32) : Nat → Int32 := z_fd (f_r1s n) n 0 s
def f_wks (n : Nat) (s : Nat → Int32) : Nat → Int32 := z_fd (f_wk n) n 0 s
def f_ta (i : Nat) (t : Nat → Int32) : Nat → Int32 := z_u t (41 + 28 * i + (21 + z_n (t (41 + 28 * i)))) (t (41 + 28 * i + (21 + z_n (t (41 + 28 * i)))) + nI 1)
def f_tas (n : Nat) (s : Nat → Int32) : Nat → Int32 := z_fd f_ta n 0 s
/-- what a tick does ahead of units and tallies -/
def f_ex (n : Nat) (s : Nat → Int32) : Nat → Int32 := f_rgs n (f_ar n (z_u s 6 (s 6 + nI 1))).2.1
def f_hn (n : Nat) (s : Nat → Int32) : Nat := (f_ar n (z_u s 6 (s 6 + nI 1))).2.2
def f_tk (n : Nat) (s : Nat → Int32) : Nat → Int32 := f_tas n (f_wks n (f_ex n s))
theorem F_6u {n J B : Nat} {s : Nat → Int32} {v : Int32} (h : z_F n J B s) : z_F n J B (z_u s 6 v) := by
  obtain ⟨m, hm, e8, z8⟩ := z_F_m h
  obtain ⟨g1, g2, g3, g4, g5, g6⟩ := h
  have hn : n ≤ 8 := g1.1.2
  refine ⟨z_W0_u g1 _ _ (by omega) (by omega) (by omega), g2, by rw [z_u_n _ _ _ _ (by omega)]; exact g3, by rw [z_u_n _ _ _ _ (by omega)]; exact g4, fun i f hi hf => by rw [z_u_n _ _ _ _ (by omega)]; exact g5 i f hi hf, fun k hk => ?_⟩
  rw [z_u_n _ _ _ _ (by omega)] at hk
  exact z_Cl_eq (g6 k hk) (fun t ht => z_u_n _ _ _ _ (by omega))
theorem FX_r1s {n J B i : Nat} {s : Nat → Int32} (h : z_F n J B s) (hi : i < n) (hB : B ≤ 100000000) : z_FX n J (B + 1) s (f_r1s n i s) := by
  have hn : n ≤ 8 := h.1.1.2
  have h0 := z_F_mono (Nat.le_succ B) h
  unfold f_r1s; split
  · exact FX_self h0
  · split
    · obtain ⟨c, c1, c2⟩ := F_1 h hi
      rw [c2, z_nN (by omega)]
      exact FX_rg h hi c1 c2 hB
    · exact FX_self h0
theorem F_rgs {n J B : Nat} {s : Nat → Int32} (h : z_F n J B s) (hB : B ≤ 90000000) : z_FX n J (B + 8) s (f_rgs n s) := by
  have hn : n ≤ 8 := h.1.1.2
  have h1 := z_fd_inv (f := f_r1s n) (fun k t => z_FX n J (B + k) s t) n 0 s (FX_self h) (fun j t h1 h2 h3 => FX_trans h3 (FX_r1s (B := B + j) h3.1 (by omega) (by omega)))
  exact FX_mono (by omega) h1
theorem f_be_lt (s : Nat → Int32) (i : Nat) (part : Int32) (J : Nat) (hJ : J ≤ 6) : f_be s i part J = 6 ∨ f_be s i part J < J :=
  z_fd_inv (fun _ b => b = 6 ∨ b < J) J 0 6 (Or.inl rfl) (fun k b h1 h2 h3 => by split <;> omega)
theorem FX_wk {n J B i : Nat} {s : Nat → Int32} (h : z_F n J B s) (hi : i < n) : z_FX n J B s (f_wk n i s) := by
  obtain ⟨hJ, hJ1, hJ6⟩ := h.2.2.1
  have hz : z_n (s 1) = J := by rw [hJ]; exact z_nN (by omega)
  unfold f_wk
  rw [hz]
  have hb := f_be_lt s i (f_po n s i) J hJ6
  generalize f_be s i (f_po n s i) J = b at hb ⊢
  split
  · exact FX_self h
  · have h1 := FX_um (f := 8 + b) (v := s (41 + 28 * i + (8 + b)) + nI 1) h hi (by omega) (zC_k (by omega) (by omega))
    exact FX_trans h1 (FX_um h1.1 hi (by omega) (zC_k (by omega) (by omega)))
theorem F_wks {n J B : Nat} {s : Nat → Int32} (h : z_F n J B s) : z_FX n J B s (f_wks n s) := FX_fd _ n h (fun o t ho ht => FX_wk ht ho)
theorem FX_ta {n J B i : Nat} {s : Nat → Int32} (h : z_F n J B s) (hi : i < n) : z_FX n J B s (f_ta i s) := by
  obtain ⟨a, a1, a2⟩ := F_0 h hi
  have hz : z_n (s (41 + 28 * i)) = a := by rw [a2]; exact z_nN (by omega)
  unfold f_ta
  rw [hz]
  exact FX_um h hi (by omega) (zC_k (by omega) (by omega))
theorem F_tas {n J B : Nat} {s : Nat → Int32} (h : z_F n J B s) : z_FX n J B s (f_tas n s) := FX_fd _ n h (fun o t ho ht => FX_ta ht ho)
/-- the memory behind a tick -/
theorem c_M_tick {G : zG} (hM : z_HM G) (M : zM) {n J B : Nat} (hF : z_F n J B (M 458)) (hB : B ≤ 80000000) : ∃ nw, z_call 180 [.ref 455] G M = some (.inl none, G, mm M (f_tk n (M 458)) nw (f_hn n (M 458))) ∧ z_F n J (B + 308) (f_tk n (M 458)) := by
  obtain ⟨k0, ⟨r1, r8, r9, r10, r11, r12, r13, r17⟩, ⟨q1, q2⟩, ⟨q3, q4⟩, ⟨q5, q6⟩, ⟨q7, q8⟩, ⟨q9, q10⟩, ⟨q11, q12⟩, ⟨q13, q14⟩, ⟨q15, q16⟩, hp⟩ := id hM; have kr : ∀ a, z_rc a = 7 → z_kd G 455 = (0, z_rc a) := fun a h => (by rw [h]; exact k0)
  have hn : n ≤ 8 := hF.1.1.2
  have hF1 : z_F n J B (z_sA M 458 (z_u (M 458) 6 (M 458 6 + nI 1)) 458) := by rw [z_sA_s]; exact F_6u hF
  obtain ⟨nw, ea, Fa, _⟩ := c_M_arrives hM (z_sA M 458 (z_u (M 458) 6 (M 458 6 + nI 1))) hF1 (by omega)
  rw [z_sA_s] at ea Fa
  have hmm : ∀ t nw h, mm (z_sA M 458 (z_u (M 458) 6 (M 458 6 + nI 1))) t nw h = mm M t nw h := by
    intro t nw h
    unfold mm
    rw [z_sA_n _ _ _ _ (by omega), z_sA_comm _ 458 455 _ _ (by omega), z_sA_comm _ 458 471 _ _ (by omega), z_sA_sA]
  rw [hmm] at ea
  have e0 : z_call 180 [.ref 455] G M = z_ex 180 (z_blk 180 17) [.ref 455, .int (nI 0)] [] G (mm M (f_ar n (z_u (M 458) 6 (M 458 6 + nI 1))).2.1 nw (f_ar n (z_u (M 458) 6 (M 458 6 + nI 1))).2.2) := by
    simp (disch := first | assumption | exact kr _ rfl | omega | exact Nat.le_of_ble_eq_true rfl) only [ze_M_tick, zk_M_tick_0, xo_2_0, xo_17, xo_6, xo_40, xo_32, xo_5, xo_20, xo_33, xo_64_1, xk_v, xk_n, xo_10_1i, xo_10_1r, xo_10_1n, xo_55, xo_0_1, xo_45, xo_64_2, xo_49, xo_63_2, xo_43, xo_15_1i, xo_15_1r, xo_15_1n, xo_54, xo_69, nI_add, pk_mul, Nat.add_zero, z_sA_s, z_sA_sA, z_u_s, r9, zr_M_arrives, ea]
  refine ⟨nw, ?_⟩
  rw [e0]
  unfold f_tk f_ex f_hn
  generalize f_ar n (z_u (M 458) 6 (M 458 6 + nI 1)) = a at Fa ⊢
  obtain ⟨kk, s, hh⟩ := a
  dsimp only at Fa ⊢
  have hnlt : ¬ nI n < nI n := nI_nlt (Nat.le_refl _) (by omega)
  have Fr := F_rgs Fa (by omega)
  have Fw := F_wks Fr.1
  have Ft := F_tas Fw.1
  refine ⟨?_, z_F_mono (by omega) Ft.1⟩
  have er := z_loop (fun i t => z_ex 180 (z_blk 180 17) [.ref 455, .int (nI i)] [] G (mm M t nw hh)) (f_r1s n) n (fun i t => z_F n J (B + 300 + i) t) (by
    intro i t hi ht
    refine ⟨?_, (FX_r1s ht hi (by omega)).1⟩
    have h0 : t 0 = nI n := ht.1.1.1
    have hlt : nI i < nI n := nI_lt hi (by omega)
    obtain ⟨c, c1, c2⟩ := F_1 ht hi
    obtain ⟨p, p1, p2⟩ := F_6 ht hi
    have hr := c_M_rings hM (mm M t nw hh) (n := n) (i := i) (c := c) (p := p) (by rw [mm_s]; exact ht.1) (by omega) (by omega) (by rw [mm_s]; exact c2) p1 (by rw [mm_s]; exact p2)
    rw [mm_s, mm_us] at hr
    unfold f_r1s
    rw [c2, p2, z_nN (show c < 2 ^ 31 by omega), z_nN (show p < 2 ^ 31 by omega)]
    by_cases hd : t (41 + 28 * i) = nI 2
    · rw [if_pos hd]
      conv => lhs; rw [zk_M_tick_17]
      simp (disch := first | assumption | exact kr _ rfl | omega | exact Nat.le_of_ble_eq_true rfl) only [xo_2_0, xo_17, xo_6, xo_40, xo_32, xo_5, xo_20, xo_33, xo_64_1, xk_v, xk_n, xo_10_1i, xo_10_1r, xo_10_1n, xo_55, xo_0_1, xo_45, zk_M_tick_27, xo_64_2, xo_49, xo_63_2, xo_43, zk_M_tick_61, xo_15_1i, xo_15_1r, xo_15_1n, xo_54, xo_69, nI_add, pk_mul, Nat.add_zero, z_sA_s, z_sA_sA, z_u_s, r9, mm_s, h0, hlt, zr_M_isDown, c_M_isDown hM, hd, z_b0, if_true, if_false, eq_self, Bool.true_eq_false, Bool.false_eq_true, and_true, true_and, and_false, false_and, or_true, true_or, or_false, false_or, ne_eq, not_true_eq_false, not_false_eq_true, decide_true, decide_false, z_sA_id]
    · rw [if_neg hd]
      by_cases hal : t (41 + 28 * i + 7) = t 6
      · rw [if_pos hal]
        conv => lhs; rw [zk_M_tick_17]
        simp (disch := first | assumption | exact kr _ rfl | omega | exact Nat.le_of_ble_eq_true rfl) only [xo_2_0, xo_17, xo_6, xo_40, xo_32, xo_5, xo_20, xo_33, xo_64_1, xk_v, xk_n, xo_10_1i, xo_10_1r, xo_10_1n, xo_55, xo_0_1, xo_45, zk_M_tick_27, xo_64_2, xo_49, zk_M_tick_35, xo_63_2, xo_43, zk_M_tick_56, zk_M_tick_61, xo_15_1i, xo_15_1r, xo_15_1n, xo_54, xo_69, nI_add, pk_mul, Nat.add_zero, z_sA_s, z_sA_sA, z_u_s, r9, mm_s, c_M_m, h0, hlt, zr_M_isDown, c_M_isDown hM, hd, hal, z_b0, if_true, if_false, eq_self, Bool.true_eq_false, Bool.false_eq_true, and_true, true_and, and_false, false_and, or_true, true_or, or_false, false_or, ne_eq, not_true_eq_false, not_false_eq_true, decide_true, decide_false, z_sA_id, zr_M_rings, hr]
      · rw [if_neg hal]
        conv => lhs; rw [zk_M_tick_17]
        simp (disch := first | assumption | exact kr _ rfl | omega | exact Nat.le_of_ble_eq_true rfl) only [xo_2_0, xo_17, xo_6, xo_40, xo_32, xo_5, xo_20, xo_33, xo_64_1, xk_v, xk_n, xo_10_1i, xo_10_1r, xo_10_1n, xo_55, xo_0_1, xo_45, zk_M_tick_27, xo_64_2, xo_49, zk_M_tick_35, xo_63_2, xo_43, zk_M_tick_61, xo_15_1i, xo_15_1r, xo_15_1n, xo_54, xo_69, nI_add, pk_mul, Nat.add_zero, z_sA_s, z_sA_sA, z_u_s, r9, mm_s, c_M_m, h0, hlt, zr_M_isDown, c_M_isDown hM, hd, hal, z_b0, if_true, if_false, eq_self, Bool.true_eq_false, Bool.false_eq_true, and_true, true_and, and_false, false_and, or_true, true_or, or_false, false_or, ne_eq, not_true_eq_false, not_false_eq_true, decide_true, decide_false, z_sA_id]) n 0 s (by omega) Fa
  rw [er]
  have hr0 : z_fd (f_r1s n) n 0 s 0 = nI n := Fr.1.1.1.1
  have er2 : z_ex 180 (z_blk 180 17) [.ref 455, .int (nI n)] [] G (mm M (z_fd (f_r1s n) n 0 s) nw hh) = z_ex 180 (z_blk 180 69) [.ref 455, .int (nI 0)] [] G (mm M (z_fd (f_r1s n) n 0 s) nw hh) := by
    conv => lhs; rw [zk_M_tick_17]
    simp (disch := first | assumption | exact kr _ rfl | omega | exact Nat.le_of_ble_eq_true rfl) only [xo_2_0, xo_17, xo_6, xo_40, xo_32, xo_5, xo_20, xo_33, xo_64_1, xk_v, xk_n, xo_10_1i, xo_10_1r, xo_10_1n, xo_55, xo_0_1, xo_45, xo_64_2, xo_49, xo_63_2, xo_43, xo_15_1i, xo_15_1r, xo_15_1n, xo_54, zk_M_tick_67, xo_69, nI_add, pk_mul, Nat.add_zero, z_sA_s, z_sA_sA, z_u_s, r9, mm_s, hr0, hnlt, if_true, if_false, eq_self, Bool.true_eq_false, Bool.false_eq_true, and_true, true_and, and_false, false_and, or_true, true_or, or_false, false_or, ne_eq, not_true_eq_false, not_false_eq_true, decide_true, decide_false, z_sA_id]
  rw [er2]
  have ew := z_loop (fun i t => z_ex 180 (z_blk 180 69) [.ref 455, .int (nI i)] [] G (mm M t nw hh)) (f_wk n) n (fun i t => z_F n J (B + 308) t) (by
    intro i t hi ht
    refine ⟨?_, (FX_wk ht hi).1⟩
    have h0 : t 0 = nI n := ht.1.1.1
    obtain ⟨hJ, hJ1, hJ6⟩ := ht.2.2.1
    have hlt : nI i < nI n := nI_lt hi (by omega)
    obtain ⟨u, u1, u2, u3⟩ := F_4 ht hi
    have hwk := c_M_works hM (mm M t nw hh) (n := n) (i := i) (J := J) (u := u) (by rw [mm_s]; exact h0) hn (by omega) (by rw [mm_s]; exact hJ) hJ6 (by rw [mm_s]; exact u3) u1
    rw [mm_s, mm_us] at hwk
    conv => lhs; rw [zk_M_tick_69]
    simp (disch := first | assumption | exact kr _ rfl | omega | exact Nat.le_of_ble_eq_true rfl) only [xo_2_0, xo_17, xo_6, xo_40, xo_32, xo_5, xo_20, xo_33, xo_64_1, xk_v, xk_n, xo_10_1i, xo_10_1r, xo_10_1n, xo_55, xo_0_1, xo_45, xo_64_2, xo_49, xo_63_2, xo_43, xo_15_1i, xo_15_1r, xo_15_1n, xo_54, zk_M_tick_79, xo_69, nI_add, pk_mul, Nat.add_zero, z_sA_s, z_sA_sA, z_u_s, r9, mm_s, h0, hlt, if_true, if_false, eq_self, Bool.true_eq_false, Bool.false_eq_true, and_true, true_and, and_false, false_and, or_true, true_or, or_false, false_or, ne_eq, not_true_eq_false, not_false_eq_true, decide_true, decide_false, z_sA_id, zr_M_works, hwk]) n 0 (z_fd (f_r1s n) n 0 s) (by omega) (z_F_mono (by omega) Fr.1)
  rw [ew]
  have hw0 : z_fd (f_wk n) n 0 (z_fd (f_r1s n) n 0 s) 0 = nI n := Fw.1.1.1.1
  have ew2 : z_ex 180 (z_blk 180 69) [.ref 455, .int (nI n)] [] G (mm M (z_fd (f_wk n) n 0 (z_fd (f_r1s n) n 0 s)) nw hh) = z_ex 180 (z_blk 180 92) [.ref 455, .int (nI 0)] [] G (mm M (z_fd (f_wk n) n 0 (z_fd (f_r1s n) n 0 s)) nw hh) := by
    conv => lhs; rw [zk_M_tick_69]
    simp (disch := first | assumption | exact kr _ rfl | omega | exact Nat.le_of_ble_eq_true rfl) only [xo_2_0, xo_17, xo_6, xo_40, xo_32, xo_5, xo_20, xo_33, xo_64_1, xk_v, xk_n, xo_10_1i, xo_10_1r, xo_10_1n, xo_55, xo_0_1, xo_45, xo_64_2, xo_49, xo_63_2, xo_43, xo_15_1i, xo_15_1r, xo_15_1n, xo_54, zk_M_tick_90, xo_69, nI_add, pk_mul, Nat.add_zero, z_sA_s, z_sA_sA, z_u_s, r9, mm_s, hw0, hnlt, if_true, if_false, eq_self, Bool.true_eq_false, Bool.false_eq_true, and_true, true_and, and_false, false_and, or_true, true_or, or_false, false_or, ne_eq, not_true_eq_false, not_false_eq_true, decide_true, decide_false, z_sA_id]
  rw [ew2]
  have et := z_loop (fun i t => z_ex 180 (z_blk 180 92) [.ref 455, .int (nI i)] [] G (mm M t nw hh)) f_ta n (fun i t => z_F n J (B + 308) t) (by
    intro i t hi ht
    refine ⟨?_, (FX_ta ht hi).1⟩
    have h0 : t 0 = nI n := ht.1.1.1
    have hlt : nI i < nI n := nI_lt hi (by omega)
    obtain ⟨a, a1, a2⟩ := F_0 ht hi
    have hz : z_n (nI a) = a := z_nN (by omega)
    conv => lhs; rw [zk_M_tick_92]
    simp (disch := first | assumption | exact kr _ rfl | omega | exact Nat.le_of_ble_eq_true rfl) only [xo_2_0, xo_17, xo_6, xo_40, xo_32, xo_5, xo_20, xo_33, xo_64_1, xk_v, xk_n, xo_10_1i, xo_10_1r, xo_10_1n, xo_55, xo_0_1, xo_45, xo_64_2, xo_49, xo_63_2, xo_43, xo_15_1i, xo_15_1r, xo_15_1n, xo_54, zk_M_tick_102, xo_69, nI_add, pk_mul, Nat.add_zero, z_sA_s, z_sA_sA, z_u_s, r9, mm_s, mm_us, c_M_m, h0, hlt, a2, hz, if_true, if_false, eq_self, Bool.true_eq_false, Bool.false_eq_true, and_true, true_and, and_false, false_and, or_true, true_or, or_false, false_or, ne_eq, not_true_eq_false, not_false_eq_true, decide_true, decide_false, z_sA_id, f_ta]) n 0 (z_fd (f_wk n) n 0 (z_fd (f_r1s n) n 0 s)) (by omega) (z_F_mono (by omega) Fw.1)
  rw [et]
  have ht0 : z_fd f_ta n 0 (z_fd (f_wk n) n 0 (z_fd (f_r1s n) n 0 s)) 0 = nI n := Ft.1.1.1.1
  conv => lhs; rw [zk_M_tick_92]
  simp (disch := first | assumption | exact kr _ rfl | omega | exact Nat.le_of_ble_eq_true rfl) only [xo_2_0, xo_17, xo_6, xo_40, xo_32, xo_5, xo_20, xo_33, xo_64_1, xk_v, xk_n, xo_10_1i, xo_10_1r, xo_10_1n, xo_55, xo_0_1, xo_45, xo_64_2, xo_49, xo_63_2, xo_43, xo_15_1i, xo_15_1r, xo_15_1n, xo_54, zk_M_tick_134, xo_69, nI_add, pk_mul, Nat.add_zero, z_sA_s, z_sA_sA, z_u_s, r9, mm_s, ht0, hnlt, if_true, if_false, eq_self, Bool.true_eq_false, Bool.false_eq_true, and_true, true_and, and_false, false_and, or_true, true_or, or_false, false_or, ne_eq, not_true_eq_false, not_false_eq_true, decide_true, decide_false, z_sA_id, f_tas, f_wks, f_rgs]
