/-! ===== the reference: storms ===== -/
def f_sto (n : Nat) (s : Nat → Int32) (x : Int32) (k : Nat) (a : Nat × Nat × Nat) : Nat × Nat × Nat := match f_un n 300 (f_st n (s, x + nI k)).1 with
  | none => a
  | some t => (a.1 + 1, max a.2.1 t, a.2.2 + t)
def q_sto (n : Nat) (s : Nat → Int32) (N : Nat) (x : Int32) (w : Nat) : Int32 := if w = 0 then nI (z_fd (f_sto n s x) N 0 (0, 0, 0)).1 else if w = 1 then nI (z_fd (f_sto n s x) N 0 (0, 0, 0)).2.1 else nI (z_fd (f_sto n s x) N 0 (0, 0, 0)).2.2
def z_Ok3 (k : Nat) (a : Nat × Nat × Nat) : Prop := a.1 ≤ k ∧ a.2.1 ≤ 300 ∧ a.2.2 ≤ 300 * k
theorem Ok3_s (n : Nat) (s : Nat → Int32) (x : Int32) (k : Nat) (a : Nat × Nat × Nat) (h : z_Ok3 k a) : z_Ok3 (k + 1) (f_sto n s x k a) := by
  obtain ⟨h1, h2, h3⟩ := h
  unfold f_sto
  cases hc : f_un n 300 (f_st n (s, x + nI k)).1 with
  | none => exact ⟨Nat.le_succ_of_le h1, h2, by dsimp only; omega⟩
  | some t =>
    have ht := f_un_le _ _ _ _ hc
    exact ⟨Nat.succ_le_succ h1, by dsimp only; omega, by dsimp only; omega⟩
theorem mx_1 {m t : Nat} (hm : m ≤ 300) (ht : t ≤ 300) : (if nI t < nI m then nI m else nI t) = nI (max m t) := by
  by_cases h : t < m
  · rw [if_pos (nI_lt h (by omega)), Nat.max_eq_left (by omega)]
  · rw [if_neg (nI_nlt (by omega) (by omega)), Nat.max_eq_right (by omega)]
theorem mx_2 {m t : Nat} (hm : m ≤ 300) (ht : t ≤ 300) : (if nI m < nI t then nI t else nI m) = nI (max m t) := by
  by_cases h : m < t
  · rw [if_pos (nI_lt h (by omega)), Nat.max_eq_right (by omega)]
  · rw [if_neg (nI_nlt (by omega) (by omega)), Nat.max_eq_left (by omega)]
theorem on_s (t : Nat) (h : t ≤ 300) : z_on (some t) = nI t := rfl
def z_Ps (M M' : zM) : Prop := z_Pq M M' ∧ ∀ a, a < 4326 → M' 461 a = M 458 a
section
variable {G : zG} {n J B b : Nat} {V : zM}
theorem m_storms_f (hM : z_HM G) (M : zM) {x y w : Int32} (hx : zf_in x (nI 1) (nI 20) = false ∨ zf_in w (nI 0) (nI 2) = false) : z_call 243 [.ref 455, .int x, .int y, .int w] G M = some (.inl (some (.int (nI 0))), G, rfm M 1 1) := by
  have hb := bd_1 hM M (a := 1) (k := 1) (by omega) (by omega)
  obtain ⟨k0, ⟨r1, r8, r9, r10, r11, r12, r13, r17⟩, ⟨q1, q2⟩, ⟨q3, q4⟩, ⟨q5, q6⟩, ⟨q7, q8⟩, ⟨q9, q10⟩, ⟨q11, q12⟩, ⟨q13, q14⟩, ⟨q15, q16⟩, hp⟩ := id hM; have kr : ∀ a, z_rc a = 7 → z_kd G 455 = (0, z_rc a) := fun a h => (by rw [h]; exact k0)
  cases ht : zf_in x (nI 1) (nI 20)
  · simp (disch := first | assumption | exact kr _ rfl | omega | exact Nat.le_of_ble_eq_true rfl) only [ze_M_storms, zk_M_storms_0, xo_2_0, xo_5, xo_18, xo_0_1, xo_6, xo_63_3, xk_v, xk_n, xo_48, xo_0_3, xo_49, zk_M_storms_25, xo_54, xo_55, zk_M_storms_30, xo_64_4, zk_M_storms_38, xo_70, xo_17, xo_63_2, xo_11_4i, xo_11_4r, xo_11_4n, xo_11_5i, xo_11_5r, xo_11_5n, xo_11_6i, xo_11_6r, xo_11_6n, xo_11_7i, xo_11_7r, xo_11_7n, xo_1_7, xo_45, xo_0_2, xo_20, xo_64_2, xo_11_8i, xo_11_8r, xo_11_8n, xo_1_8, xo_43, xo_15_4i, xo_15_4r, xo_15_4n, xo_1_5, xo_1_6, xo_15_7i, xo_15_7r, xo_15_7n, xo_1_4, th0_f, c_M_in, ht, z_b0, hb, one0, zer0, if_true, if_false, eq_self, Bool.true_eq_false, Bool.false_eq_true, and_true, true_and, and_false, false_and, or_true, true_or, or_false, false_or, ne_eq, not_true_eq_false, not_false_eq_true, decide_true, decide_false, z_sA_id]
  · have hw := hx.resolve_left (by rw [ht]; decide)
    simp (disch := first | assumption | exact kr _ rfl | omega | exact Nat.le_of_ble_eq_true rfl) only [ze_M_storms, zk_M_storms_0, xo_2_0, xo_5, xo_18, xo_0_1, xo_6, xo_63_3, xk_v, xk_n, xo_48, zk_M_storms_16, xo_0_3, xo_49, zk_M_storms_25, xo_54, xo_55, zk_M_storms_30, xo_64_4, zk_M_storms_38, xo_70, xo_17, xo_63_2, xo_11_4i, xo_11_4r, xo_11_4n, xo_11_5i, xo_11_5r, xo_11_5n, xo_11_6i, xo_11_6r, xo_11_6n, xo_11_7i, xo_11_7r, xo_11_7n, xo_1_7, xo_45, xo_0_2, xo_20, xo_64_2, xo_11_8i, xo_11_8r, xo_11_8n, xo_1_8, xo_43, xo_15_4i, xo_15_4r, xo_15_4n, xo_1_5, xo_1_6, xo_15_7i, xo_15_7r, xo_15_7n, xo_1_4, th0_f, c_M_in, ht, hw, z_b0, hb, one0, zer0, if_true, if_false, eq_self, Bool.true_eq_false, Bool.false_eq_true, and_true, true_and, and_false, false_and, or_true, true_or, or_false, false_or, ne_eq, not_true_eq_false, not_false_eq_true, decide_true, decide_false, z_sA_id]
theorem Ps_step {M0 M M1 : zM} (h : z_Ps M0 M) (hq : z_Qm M M1) (x : Int32) (s s' nw : Nat → Int32) (hh : Nat) : z_Ps M0 (z_sA (mm (md M1 x s) s' nw hh) 458 (z_cp 4326 (mm (md M1 x s) s' nw hh 461) (mm (md M1 x s) s' nw hh 458))) := by
  obtain ⟨⟨p1, p2, p3⟩, p4⟩ := h
  obtain ⟨q1, q2⟩ := hq
  have e1 : ∀ q, q ≠ 455 → q ≠ 458 → q ≠ 471 → mm (md M1 x s) s' nw hh q = M q := fun q a b c => by
    rw [mm_o _ _ _ _ a b c]; unfold md; rw [z_sA_n _ _ _ _ b, z_sA_n _ _ _ _ a]; exact q1 q a b c
  refine ⟨⟨fun q h1 h2 h3 h4 h5 => ?_, fun a ha => ?_, fun f h1 h2 => ?_⟩, fun a ha => ?_⟩
  · rw [z_sA_n _ _ _ _ h2, e1 q h1 h2 h5]; exact p1 q h1 h2 h3 h4 h5
  · rw [z_sA_s, z_cp_lt ha, e1 461 (by omega) (by omega) (by omega)]; exact p4 a ha
  · rw [z_sA_n _ _ _ _ (by omega), mm_m, z_u_n _ _ _ _ h1]
    rw [md_m, z_u_n _ _ _ _ h2]; exact (q2 f h1 h2).trans (p3 f h1 h2)
  · rw [z_sA_n _ _ _ _ (by omega), e1 461 (by omega) (by omega) (by omega)]; exact p4 a ha
theorem l_M_storms (hM : z_HM G) (hW : z_HW G b) {d : Nat} (hd : d < b ∨ b + 41 ≤ d) (h32 : 32 ≤ d) (hD : z_kd G d = (0, 0)) (M0 : zM) (h : z_R false (0, 0) n B V (M0 458)) (hF : z_F n J B (M0 458)) (hB : B ≤ 40000000) {N : Nat} (hN : N ≤ 20) (x w : Int32) : ∀ r k (a : Nat × Nat × Nat) M w8, k + r = N → z_Ps M0 M → z_Ok3 k a → ∃ M' w8', z_ex 243 (z_blk 243 63) [.ref 455, .int (nI N), .int x, .int w, .int (nI a.1), .int (nI a.2.1), .int (nI a.2.2), .int (nI k), w8] [] G M = z_ex 243 (z_blk 243 124) [.ref 455, .int (nI N), .int x, .int w, .int (nI (z_fd (f_sto n (M0 458) x) r k a).1), .int (nI (z_fd (f_sto n (M0 458) x) r k a).2.1), .int (nI (z_fd (f_sto n (M0 458) x) r k a).2.2), .int (nI N), w8'] [] G M' ∧ z_Ps M0 M' := by
  intro r
  induction r with
  | zero =>
    intro k a M w8 hk hp ho
    have hk' : k = N := by omega
    subst hk'
    have hlt : ¬ nI k < nI k := nI_nlt (Nat.le_refl _) (by omega)
    refine ⟨M, w8, ?_, hp⟩
    rw [z_fd_0]
    conv => lhs; rw [zk_M_storms_63]
    simp (disch := first | assumption | exact kr _ rfl | omega | exact Nat.le_of_ble_eq_true rfl) only [xo_2_0, xo_5, xo_18, xo_0_1, xo_6, xo_63_3, xk_v, xk_n, xo_48, xo_0_3, xo_49, xo_54, xo_55, xo_64_4, xo_70, xo_17, xo_63_2, xo_11_4i, xo_11_4r, xo_11_4n, xo_11_5i, xo_11_5r, xo_11_5n, xo_11_6i, xo_11_6r, xo_11_6n, xo_11_7i, xo_11_7r, xo_11_7n, xo_1_7, xo_45, xo_0_2, xo_20, xo_64_2, xo_11_8i, xo_11_8r, xo_11_8n, xo_1_8, xo_43, xo_15_4i, xo_15_4r, xo_15_4n, xo_1_5, xo_1_6, xo_15_7i, xo_15_7r, xo_15_7n, xo_1_4, hlt, if_true, if_false, eq_self, Bool.true_eq_false, Bool.false_eq_true, and_true, true_and, and_false, false_and, or_true, true_or, or_false, false_or, ne_eq, not_true_eq_false, not_false_eq_true, decide_true, decide_false, z_sA_id]
  | succ r ih =>
    intro k a M w8 hk hp ho
    have hlt : nI k < nI N := nI_lt (by omega) (by omega)
    have hn := hF.1.1.2
    have hx0 : ∀ a, a < 4326 → M 458 a = M0 458 a := hp.1.2.1
    obtain ⟨M1, s', nw, hh, c1, q1⟩ := c_M_storm hM (b := b) (d := d) (n := n) (J := J) (B := B) (Bf := B) hW hd h32 hD (fun _ _ => x + nI k) V M (x + nI k) rfl (z_R_x h hn hx0) (z_F_x hF hx0) (by omega) (by omega)
    rw [un_st hd h32 hD hW h hF hB hx0 (x + nI k)] at c1
    have hp2 := Ps_step hp q1 (f_st n (M 458, x + nI k)).2 (f_st n (M 458, x + nI k)).1 s' nw hh
    generalize mm (md M1 (f_st n (M 458, x + nI k)).2 (f_st n (M 458, x + nI k)).1) s' nw hh = M2 at c1 hp2
    have ho2 := Ok3_s n (M0 458) x k a ho
    obtain ⟨M', w8', e1, p1⟩ := ih (k + 1) (f_sto n (M0 458) x k a) (z_sA M2 458 (z_cp 4326 (M2 461) (M2 458))) (.int (z_on (f_un n 300 (f_st n (M0 458, x + nI k)).1))) (by omega) hp2 ho2
    refine ⟨M', w8', ?_, p1⟩
    rw [z_fd_s, ← e1]
    obtain ⟨o1, o2, o3⟩ := ho
    unfold f_sto
    obtain ⟨k0, ⟨r1, r8, r9, r10, r11, r12, r13, r17⟩, ⟨q1, q2⟩, ⟨q3, q4⟩, ⟨q5, q6⟩, ⟨q7, q8⟩, ⟨q9, q10⟩, ⟨q11, q12⟩, ⟨q13, q14⟩, ⟨q15, q16⟩, hp⟩ := id hM; have kr : ∀ a, z_rc a = 7 → z_kd G 455 = (0, z_rc a) := fun a h => (by rw [h]; exact k0)
    have c3 : z_call 150 [.ref 461, .ref 458] G M2 = some (.inl none, G, z_sA M2 458 (z_cp 4326 (M2 461) (M2 458))) := c_M_copies M2 (by omega) (by omega) (by assumption) (by omega) (by assumption) (by omega)
    conv => lhs; rw [zk_M_storms_63]
    cases hc : f_un n 300 (f_st n (M0 458, x + nI k)).1 with
    | none =>
      rw [hc] at c1
      have e0 : z_on none = nI 4294967295 := rfl
      simp (disch := first | assumption | exact kr _ rfl | omega | exact Nat.le_of_ble_eq_true rfl) only [xo_2_0, xo_5, xo_18, xo_0_1, xo_6, xo_63_3, xk_v, xk_n, xo_48, xo_0_3, xo_49, xo_54, xo_55, xo_64_4, xo_70, xo_17, xo_63_2, xo_11_4i, xo_11_4r, xo_11_4n, xo_11_5i, xo_11_5r, xo_11_5n, xo_11_6i, xo_11_6r, xo_11_6n, xo_11_7i, xo_11_7r, xo_11_7n, xo_1_7, xo_45, zk_M_storms_69, xo_0_2, xo_20, xo_64_2, xo_11_8i, xo_11_8r, xo_11_8n, xo_1_8, xo_43, zk_M_storms_96, xo_15_4i, xo_15_4r, xo_15_4n, xo_1_5, xo_1_6, zk_M_storms_118, xo_15_7i, xo_15_7r, xo_15_7n, xo_1_4, hlt, nI_add, pk_mul, Nat.add_zero, r9, r12, c1, c3, e0, if_true, if_false, eq_self, Bool.true_eq_false, Bool.false_eq_true, and_true, true_and, and_false, false_and, or_true, true_or, or_false, false_or, ne_eq, not_true_eq_false, not_false_eq_true, decide_true, decide_false, z_sA_id]
    | some t =>
      rw [hc] at c1
      have ht := f_un_le _ _ _ _ hc
      have e0 : z_on (some t) = nI t := rfl
      have en := nIm t ht
      have em := mx_1 o2 ht
      simp (disch := first | assumption | exact kr _ rfl | omega | exact Nat.le_of_ble_eq_true rfl) only [xo_2_0, xo_5, xo_18, xo_0_1, xo_6, xo_63_3, xk_v, xk_n, xo_48, xo_0_3, xo_49, xo_54, xo_55, xo_64_4, xo_70, xo_17, xo_63_2, xo_11_4i, xo_11_4r, xo_11_4n, xo_11_5i, xo_11_5r, xo_11_5n, xo_11_6i, xo_11_6r, xo_11_6n, xo_11_7i, xo_11_7r, xo_11_7n, xo_1_7, xo_45, zk_M_storms_69, xo_0_2, xo_20, xo_64_2, xo_11_8i, xo_11_8r, xo_11_8n, xo_1_8, xo_43, zk_M_storms_99, xo_15_4i, xo_15_4r, xo_15_4n, xo_1_5, xo_1_6, zk_M_storms_118, xo_15_7i, xo_15_7r, xo_15_7n, xo_1_4, hlt, nI_add, pk_mul, Nat.add_zero, r9, r12, c1, c3, e0, en, c_M_more, em, if_true, if_false, eq_self, Bool.true_eq_false, Bool.false_eq_true, and_true, true_and, and_false, false_and, or_true, true_or, or_false, false_or, ne_eq, not_true_eq_false, not_false_eq_true, decide_true, decide_false, z_sA_id]
theorem m_storms (hM : z_HM G) (hW : z_HW G b) {d : Nat} (hd : d < b ∨ b + 41 ≤ d) (h32 : 32 ≤ d) (hD : z_kd G d = (0, 0)) (M : zM) (h : z_R false (0, 0) n B V (M 458)) (hF : z_F n J B (M 458)) (hB : B ≤ 40000000) {N w : Nat} (h1 : 1 ≤ N) (hN : N ≤ 20) (x : Int32) (hw : w < 3) : ∃ M', z_call 243 [.ref 455, .int (nI N), .int x, .int (nI w)] G M = some (.inl (some (.int (q_sto n (M 458) N x w))), G, M') ∧ z_Pq (th0 M) M' := by
  have hb := bd_0 hM M (nI 1) (nI 1)
  have e8 : th0 M 458 = M 458 := th0_o M (by omega)
  have ht := in_t1 h1 hN (by omega)
  have ht2 := in_t (i := w) (k := 2) (by omega) (by omega)
  have hps : z_Ps (th0 M) (z_sA (th0 M) 461 (z_cp 4326 (th0 M 458) (th0 M 461))) := by
    refine ⟨⟨fun q h1 h2 h3 h4 h5 => z_sA_n _ _ _ _ h4, fun a ha => by rw [z_sA_n _ _ _ _ (by omega)], fun f _ _ => by rw [z_sA_n _ _ _ _ (by omega)]⟩, fun a ha => ?_⟩
    rw [z_sA_s, z_cp_lt ha]
  obtain ⟨M', w8', e1, p1⟩ := l_M_storms hM hW hd h32 hD (th0 M) (B := B) (V := V) (J := J) (by rw [e8]; exact h) (by rw [e8]; exact hF) hB hN x (nI w) N 0 (0, 0, 0) (z_sA (th0 M) 461 (z_cp 4326 (th0 M 458) (th0 M 461))) .null (by omega) hps ⟨Nat.le_refl _, Nat.zero_le _, Nat.zero_le _⟩
  rw [e8] at e1
  refine ⟨M', ?_, p1.1⟩
  have e0 : z_call 243 [.ref 455, .int (nI N), .int x, .int (nI w)] G M = z_ex 243 (z_blk 243 63) [.ref 455, .int (nI N), .int x, .int (nI w), .int (nI 0), .int (nI 0), .int (nI 0), .int (nI 0), .null] [] G (z_sA (th0 M) 461 (z_cp 4326 (th0 M 458) (th0 M 461))) := by
    obtain ⟨k0, ⟨r1, r8, r9, r10, r11, r12, r13, r17⟩, ⟨q1, q2⟩, ⟨q3, q4⟩, ⟨q5, q6⟩, ⟨q7, q8⟩, ⟨q9, q10⟩, ⟨q11, q12⟩, ⟨q13, q14⟩, ⟨q15, q16⟩, hp⟩ := id hM; have kr : ∀ a, z_rc a = 7 → z_kd G 455 = (0, z_rc a) := fun a h => (by rw [h]; exact k0)
    have c1 : z_call 150 [.ref 458, .ref 461] G (th0 M) = some (.inl none, G, z_sA (th0 M) 461 (z_cp 4326 (th0 M 458) (th0 M 461))) := c_M_copies (th0 M) (by omega) (by omega) (by assumption) (by omega) (by assumption) (by omega)
    simp (disch := first | assumption | exact kr _ rfl | omega | exact Nat.le_of_ble_eq_true rfl) only [ze_M_storms, zk_M_storms_0, xo_2_0, xo_5, xo_18, xo_0_1, xo_6, xo_63_3, xk_v, xk_n, xo_48, zk_M_storms_16, xo_0_3, xo_49, xo_54, zk_M_storms_29, xo_55, zk_M_storms_30, xo_64_4, xo_70, zk_M_storms_40, xo_17, xo_63_2, xo_11_4i, xo_11_4r, xo_11_4n, xo_11_5i, xo_11_5r, xo_11_5n, xo_11_6i, xo_11_6r, xo_11_6n, xo_11_7i, xo_11_7r, xo_11_7n, xo_1_7, xo_45, xo_0_2, xo_20, xo_64_2, xo_11_8i, xo_11_8r, xo_11_8n, xo_1_8, xo_43, xo_15_4i, xo_15_4r, xo_15_4n, xo_1_5, xo_1_6, xo_15_7i, xo_15_7r, xo_15_7n, xo_1_4, th0_f, r9, r12, c_M_in, ht, ht2, z_b0, hb, c1, one0, zer0, if_true, if_false, eq_self, Bool.true_eq_false, Bool.false_eq_true, and_true, true_and, and_false, false_and, or_true, true_or, or_false, false_or, ne_eq, not_true_eq_false, not_false_eq_true, decide_true, decide_false, z_sA_id]
  rw [e8] at e0
  rw [e0, e1]
  unfold q_sto
  match w, hw with
  | 0, _ => simp (disch := first | assumption | exact kr _ rfl | omega | exact Nat.le_of_ble_eq_true rfl) only [xo_2_0, xo_5, xo_18, xo_0_1, xo_6, xo_63_3, xk_v, xk_n, xo_48, xo_0_3, xo_49, xo_54, xo_55, xo_64_4, xo_70, xo_17, xo_63_2, xo_11_4i, xo_11_4r, xo_11_4n, xo_11_5i, xo_11_5r, xo_11_5n, xo_11_6i, xo_11_6r, xo_11_6n, xo_11_7i, xo_11_7r, xo_11_7n, xo_1_7, xo_45, xo_0_2, xo_20, xo_64_2, xo_11_8i, xo_11_8r, xo_11_8n, xo_1_8, xo_43, xo_15_4i, xo_15_4r, xo_15_4n, xo_1_5, xo_1_6, xo_15_7i, xo_15_7r, xo_15_7n, zk_M_storms_124, zk_M_storms_128, xo_1_4, zk_M_storms_145, zer0, if_true, if_false, eq_self, Bool.true_eq_false, Bool.false_eq_true, and_true, true_and, and_false, false_and, or_true, true_or, or_false, false_or, ne_eq, not_true_eq_false, not_false_eq_true, decide_true, decide_false, z_sA_id]
  | 1, _ => simp (disch := first | assumption | exact kr _ rfl | omega | exact Nat.le_of_ble_eq_true rfl) only [xo_2_0, xo_5, xo_18, xo_0_1, xo_6, xo_63_3, xk_v, xk_n, xo_48, xo_0_3, xo_49, xo_54, xo_55, xo_64_4, xo_70, xo_17, xo_63_2, xo_11_4i, xo_11_4r, xo_11_4n, xo_11_5i, xo_11_5r, xo_11_5n, xo_11_6i, xo_11_6r, xo_11_6n, xo_11_7i, xo_11_7r, xo_11_7n, xo_1_7, xo_45, xo_0_2, xo_20, xo_64_2, xo_11_8i, xo_11_8r, xo_11_8n, xo_1_8, xo_43, xo_15_4i, xo_15_4r, xo_15_4n, xo_1_5, xo_1_6, xo_15_7i, xo_15_7r, xo_15_7n, zk_M_storms_124, xo_1_4, zk_M_storms_133, zk_M_storms_138, zk_M_storms_145, one0, Nat.one_ne_zero, if_true, if_false, eq_self, Bool.true_eq_false, Bool.false_eq_true, and_true, true_and, and_false, false_and, or_true, true_or, or_false, false_or, ne_eq, not_true_eq_false, not_false_eq_true, decide_true, decide_false, z_sA_id]
  | 2, _ =>
    have n1 : (nI 2 = 0) = False := by decide
    have n2 : (nI 2 = nI 1) = False := by decide
    simp (disch := first | assumption | exact kr _ rfl | omega | exact Nat.le_of_ble_eq_true rfl) only [xo_2_0, xo_5, xo_18, xo_0_1, xo_6, xo_63_3, xk_v, xk_n, xo_48, xo_0_3, xo_49, xo_54, xo_55, xo_64_4, xo_70, xo_17, xo_63_2, xo_11_4i, xo_11_4r, xo_11_4n, xo_11_5i, xo_11_5r, xo_11_5n, xo_11_6i, xo_11_6r, xo_11_6n, xo_11_7i, xo_11_7r, xo_11_7n, xo_1_7, xo_45, xo_0_2, xo_20, xo_64_2, xo_11_8i, xo_11_8r, xo_11_8n, xo_1_8, xo_43, xo_15_4i, xo_15_4r, xo_15_4n, xo_1_5, xo_1_6, xo_15_7i, xo_15_7r, xo_15_7n, zk_M_storms_124, xo_1_4, zk_M_storms_133, zk_M_storms_143, zk_M_storms_145, n1, n2, show (2 = 0) = False by decide, show (2 = 1) = False by decide, if_true, if_false, eq_self, Bool.true_eq_false, Bool.false_eq_true, and_true, true_and, and_false, false_and, or_true, true_or, or_false, false_or, ne_eq, not_true_eq_false, not_false_eq_true, decide_true, decide_false, z_sA_id]
  | k + 3, h => exact absurd h (by omega)
end
