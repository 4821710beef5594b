/-! ===== the class: hardest, storms ===== -/
theorem z_R_V {fl : Bool} {kp : Nat × Nat} {n B : Nat} {V U : zM} {s : Nat → Int32} (h : z_R fl kp n B V s) (hn : n ≤ 8) (e : ∀ k, k < 41 → U k = V k) : z_R fl kp n B U s := by
  obtain ⟨h0, h1, h2, h3, h4, h5⟩ := h
  refine ⟨z_R0_eq h0 (fun c hc => e c (by omega)) (fun _ _ => rfl), z_R1_eq h1 hn (e 2 (by omega)) (fun _ _ _ => rfl), fun i hi => ?_, fun f i hi => ?_, z_R4_eq h4 (by rw [e 0 (by omega)]) (fun f _ => by rw [e 4 (by omega)]) (e 5 (by omega)) rfl (fun _ _ _ => rfl), z_R5_eq h5 (by rw [e 0 (by omega)]) (e 8 (by omega)) (fun _ _ => rfl) (fun i hi => by rw [e _ (by omega)])⟩
  · rw [e _ (by omega)]; exact h2 i hi
  · rw [e _ (by omega), e _ (by omega), e _ (by omega)]; exact h3 f i hi
theorem c_C_isLonger {G : zG} (M : zM) {p q : Option Nat} (hp : ∀ j, p = some j → j ≤ 300) (hq : ∀ j, q = some j → j ≤ 300) : z_call 135 [.int (z_on p), .int (z_on q)] G M = some (.inl (some (.int (z_b (decide (hv q < hv p))))), G, M) := by
  cases q with
  | none =>
    have e : z_on none = nI 4294967295 := rfl
    have d : decide (hv none < hv p) = false := decide_eq_false (fun h => by have := hv_le p hp; unfold hv at h this; simp only [Option.getD_none] at h; omega)
    rw [d, e]
    simp (disch := first | assumption | omega | exact Nat.le_of_ble_eq_true rfl | decide) only [ze_C_isLonger, zk_C_isLonger_0, xo_0_1, xo_5, xo_42, xo_0_0, xo_47, xo_54, zk_C_isLonger_19, xo_55, zk_C_isLonger_20, xo_72a, xo_72b, if_true, if_false, eq_self, Bool.true_eq_false, Bool.false_eq_true]
    rfl
  | some j =>
    have hj := hq j rfl
    have e : z_on (some j) = nI j := rfl
    have n1 := nIm j hj
    cases p with
    | none =>
      have e2 : z_on none = nI 4294967295 := rfl
      have d : decide (hv (some j) < hv none) = true := decide_eq_true (by unfold hv; simp only [Option.getD_none, Option.getD_some]; omega)
      rw [d, e, e2]
      simp (disch := first | assumption | omega | exact Nat.le_of_ble_eq_true rfl | decide) only [ze_C_isLonger, zk_C_isLonger_0, xo_0_1, xo_5, xo_42, zk_C_isLonger_5, xo_0_0, xo_47, zk_C_isLonger_15, xo_54, xo_55, zk_C_isLonger_20, xo_72a, xo_72b, n1, if_true, if_false, eq_self, Bool.true_eq_false, Bool.false_eq_true]
      rfl
    | some t =>
      have ht := hp t rfl
      have e2 : z_on (some t) = nI t := rfl
      have n2 := nIm t ht
      by_cases hc : j < t
      · have d : decide (hv (some j) < hv (some t)) = true := decide_eq_true (by unfold hv; simp only [Option.getD_some]; exact hc)
        have hl : nI j < nI t := nI_lt hc (by omega)
        rw [d, e, e2]
        simp (disch := first | assumption | omega | exact Nat.le_of_ble_eq_true rfl | decide) only [ze_C_isLonger, zk_C_isLonger_0, xo_0_1, xo_5, xo_42, zk_C_isLonger_5, xo_0_0, zk_C_isLonger_10, xo_47, zk_C_isLonger_15, xo_54, xo_55, zk_C_isLonger_20, xo_72a, xo_72b, n1, n2, hl, if_true, if_false, eq_self, Bool.true_eq_false, Bool.false_eq_true]
        rfl
      · have d : decide (hv (some j) < hv (some t)) = false := decide_eq_false (by unfold hv; simp only [Option.getD_some]; exact hc)
        have hl : ¬ nI j < nI t := nI_nlt (by omega) (by omega)
        rw [d, e, e2]
        simp (disch := first | assumption | omega | exact Nat.le_of_ble_eq_true rfl | decide) only [ze_C_isLonger, zk_C_isLonger_0, xo_0_1, xo_5, xo_42, zk_C_isLonger_5, xo_0_0, zk_C_isLonger_10, xo_47, xo_54, zk_C_isLonger_19, xo_55, zk_C_isLonger_20, xo_72a, xo_72b, n1, n2, hl, if_true, if_false, eq_self, Bool.true_eq_false, Bool.false_eq_true]
        rfl
section
variable {G : zG} {nb : Nat} {pb : Nat → Nat} {n J B : Nat} {s : Nat → Int32}
theorem k_hardest_f (hC : z_HC G nb pb) (M : zM) {w : Int32} (hx : w < 0 ∨ ¬ w < nI 2) : z_call 134 [.ref 32, .int w] G M = some (.inr 1, z_thr G, rfc M 1) := by
  have hb := k_ref1 hC M
  have hW := HC_P hC
  have h0 : (w = 0) = False := eq_false (fun q => by
    subst q
    rcases hx with hx | hx
    · exact absurd hx (by decide)
    · exact hx (by decide))
  have h1 : (w = nI 1) = False := eq_false (fun q => by
    subst q
    rcases hx with hx | hx
    · exact absurd hx (by decide)
    · exact hx (by decide))
  simp (disch := first | assumption | omega | exact Nat.le_of_ble_eq_true rfl | decide) only [ze_C_hardest, zk_C_hardest_0, xo_2_0, xo_0_1, xo_48, zk_C_hardest_5, xo_5, xo_43, xo_54, zk_C_hardest_14, xo_55, zk_C_hardest_15, xc_64_2 hC, xw_64w_2 hW, xk_v, xk_n, xo_10_2i, xo_10_2r, xo_10_2n, xo_10_3i, xo_10_3r, xo_10_3n, xo_11_4i, xo_11_4r, xo_11_4n, xo_1_4, xc_17_5 hC, xw_17w_5 hW, xc_17_6 hC, xw_16w hW, xw_16b hW, xo_45, xw_34 hW, xo_42, xo_63_1, xo_11_5i, xo_11_5r, xo_11_5n, xo_0_2, xo_1_5, xo_0_3, xo_63_2, xo_15_4i, xo_15_4r, xo_15_4n, xo_49, xo_70, h0, h1, hb, xk_x, if_true, if_false, eq_self, Bool.true_eq_false, Bool.false_eq_true]
theorem l_C_hardest (hC : z_HC G nb pb) (M : zM) (h : z_R true (0, 0) n B (fun k => M (nb + k)) s) (hF : z_F n J B s) (hB : B ≤ 60000000) (w : Int32) : ∀ r k o U w5, k + r = n → (∀ i, i < 8 → U (9 + 4 * i) 0 = nI i) → h_ok k o → ∃ U' w5', z_ex 134 (z_blk 134 25) [.ref 32, .int w, .int (h_b o), .int (h_l o), .int (nI k), w5] [] G (wr M 81 U) = z_ex 134 (z_blk 134 109) [.ref 32, .int w, .int (h_b (z_fd (f_hs n s) r k o)), .int (h_l (z_fd (f_hs n s) r k o)), .int (nI n), w5'] [] G (wr M 81 U') ∧ ∀ i, i < 8 → U' (9 + 4 * i) 0 = nI i := by
  have hn := hF.1.1.2
  have lo := HC_lo hC
  have hW := HC_P hC
  have hD := HC_W hC
  have dj : nb + 41 ≤ 81 ∨ 81 + 41 ≤ nb := by omega
  have m0 : M nb 0 = nI n := R_00 h hF
  intro r
  induction r with
  | zero =>
    intro k o U w5 hk hU ho
    have hk' : k = n := by omega
    subst hk'
    have hlt : ¬ nI k < nI k := nI_nlt (Nat.le_refl _) (by omega)
    refine ⟨U, w5, ?_, hU⟩
    rw [z_fd_0]
    conv => lhs; rw [zk_C_hardest_25]
    simp (disch := first | assumption | omega | exact Nat.le_of_ble_eq_true rfl | decide) only [xo_2_0, xo_0_1, xo_48, xo_5, xo_43, xo_54, xo_55, xc_64_2 hC, xw_64w_2 hW, xk_v, xk_n, xo_10_2i, xo_10_2r, xo_10_2n, xo_10_3i, xo_10_3r, xo_10_3n, xo_11_4i, xo_11_4r, xo_11_4n, xo_1_4, xc_17_5 hC, xw_17w_5 hW, xc_17_6 hC, xw_16w hW, xw_16b hW, xo_45, xw_34 hW, xo_42, xo_63_1, xo_11_5i, xo_11_5r, xo_11_5n, xo_0_2, xo_1_5, xo_0_3, xo_63_2, xo_15_4i, xo_15_4r, xo_15_4n, xo_49, xo_70, xv_16w hW hD dj, m0, hlt, if_true, if_false, eq_self, Bool.true_eq_false, Bool.false_eq_true]
  | succ r ih =>
    intro k o U w5 hk hU ho
    have hlt : nI k < nI n := nI_lt (by omega) (by omega)
    have hk8 : k < 8 := by omega
    have hst : M (nb + (9 + 4 * k)) 3 = s (41 + 28 * k) := (h.2.2.1 k (by omega)).2.2.2 3 (by omega) (by omega)
    have ho2 := h_ok_s n s k o ho
    by_cases hd : s (41 + 28 * k) = nI 2
    · have es : f_hs n s k o = o := by unfold f_hs; rw [if_pos hd]
      rw [es] at ho2
      obtain ⟨U', w5', e1, p1⟩ := ih (k + 1) o U w5 (by omega) hU ho2
      refine ⟨U', w5', ?_, p1⟩
      rw [z_fd_s, es, ← e1]
      conv => lhs; rw [zk_C_hardest_25]
      simp (disch := first | assumption | omega | exact Nat.le_of_ble_eq_true rfl | decide) only [xo_2_0, xo_0_1, xo_48, xo_5, xo_43, xo_54, xo_55, xc_64_2 hC, xw_64w_2 hW, xk_v, xk_n, xo_10_2i, xo_10_2r, xo_10_2n, xo_10_3i, xo_10_3r, xo_10_3n, xo_11_4i, xo_11_4r, xo_11_4n, xo_1_4, xc_17_5 hC, xw_17w_5 hW, xc_17_6 hC, xw_16w hW, xw_16b hW, xo_45, zk_C_hardest_37, xw_34 hW, xo_42, xo_63_1, xo_11_5i, xo_11_5r, xo_11_5n, xo_0_2, xo_1_5, xo_0_3, xo_63_2, zk_C_hardest_103, xo_15_4i, xo_15_4r, xo_15_4n, xo_49, xo_70, xv_16w hW hD dj, xv_17w_5 hW hD dj, xv_34 hW hD dj, xv_16b hW hD dj, m0, hst, hd, hlt, nI_add, pk_mul, Nat.add_zero, if_true, if_false, eq_self, Bool.true_eq_false, Bool.false_eq_true]
    · have es : f_hs n s k o = f_hx1 k (f_un n 300 (f_fa k s)) o := by unfold f_hs; rw [if_neg hd]
      have hT : z_F n J (B + 1) (f_fa k s) := by
        have := F_tu (i := k) hF (by omega) (by omega)
        unfold f_tu at this
        rw [if_neg hd] at this
        exact this
      obtain ⟨U1, c1, r1⟩ := k_cp hC M U h hF hU
      obtain ⟨U3, c3, r3⟩ := s_W_drop (i := k) hW M (R_ft r1) hn (by omega)
      obtain ⟨U2, c2, n2⟩ := s_C_until2 hW M r3 hT (by omega) (by omega)
      have hp : ∀ j, f_un n 300 (f_fa k s) = some j → j ≤ 300 := fun j e => f_un_le _ _ _ _ e
      rw [es] at ho2
      generalize f_un n 300 (f_fa k s) = p at es c2 hp ho2
      obtain ⟨U', w5', e1, p1⟩ := ih (k + 1) (f_hx1 k p o) U2 (.int (z_on p)) (by omega) n2 ho2
      refine ⟨U', w5', ?_, p1⟩
      rw [z_fd_s, es, ← e1]
      conv => lhs; rw [zk_C_hardest_25]
      cases o with
      | none =>
        have hb0 : h_b none = nI 4294967295 := rfl
        have hx1 : f_hx1 k p none = some (k, p) := rfl
        have hb1 : h_b (some (k, p)) = nI k := rfl
        have hl1 : h_l (some (k, p)) = z_on p := rfl
        rw [hx1, hb1, hl1, hb0]
        simp (disch := first | assumption | omega | exact Nat.le_of_ble_eq_true rfl | decide) only [xo_2_0, xo_0_1, xo_48, xo_5, xo_43, xo_54, xo_55, xc_64_2 hC, xw_64w_2 hW, xk_v, xk_n, xo_10_2i, xo_10_2r, xo_10_2n, xo_10_3i, xo_10_3r, xo_10_3n, xo_11_4i, xo_11_4r, xo_11_4n, xo_1_4, xc_17_5 hC, xw_17w_5 hW, xc_17_6 hC, xw_16w hW, xw_16b hW, xo_45, zk_C_hardest_37, xw_34 hW, xo_42, zk_C_hardest_54, xo_63_1, xo_11_5i, xo_11_5r, xo_11_5n, xo_0_2, xo_1_5, xo_0_3, xo_63_2, zk_C_hardest_97, zk_C_hardest_103, xo_15_4i, xo_15_4r, xo_15_4n, xo_49, xo_70, xv_16w hW hD dj, xv_17w_5 hW hD dj, xv_34 hW hD dj, xv_16b hW hD dj, m0, hst, hd, hlt, c1, c2, c3, nI_add, pk_mul, Nat.add_zero, if_true, if_false, eq_self, Bool.true_eq_false, Bool.false_eq_true]
      | some iq =>
        obtain ⟨i, q⟩ := iq
        have hi : (nI i = nI 4294967295) = False := nIm i (by have := ho.1; omega)
        have hl := c_C_isLonger (G := G) (wr M 81 U2) hp ho.2
        have hb0 : h_b (some (i, q)) = nI i := rfl
        have hl0 : h_l (some (i, q)) = z_on q := rfl
        by_cases hg : hv q < hv p
        · have hx1 : f_hx1 k p (some (i, q)) = some (k, p) := if_pos hg
          have hb1 : h_b (some (k, p)) = nI k := rfl
          have hl1 : h_l (some (k, p)) = z_on p := rfl
          rw [decide_eq_true hg] at hl
          rw [hx1, hb1, hl1, hb0, hl0]
          simp (disch := first | assumption | omega | exact Nat.le_of_ble_eq_true rfl | decide) only [xo_2_0, xo_0_1, xo_48, xo_5, xo_43, xo_54, xo_55, xc_64_2 hC, xw_64w_2 hW, xk_v, xk_n, xo_10_2i, xo_10_2r, xo_10_2n, xo_10_3i, xo_10_3r, xo_10_3n, xo_11_4i, xo_11_4r, xo_11_4n, xo_1_4, xc_17_5 hC, xw_17w_5 hW, xc_17_6 hC, xw_16w hW, xw_16b hW, xo_45, zk_C_hardest_37, xw_34 hW, xo_42, zk_C_hardest_54, xo_63_1, xo_11_5i, xo_11_5r, xo_11_5n, xo_0_2, zk_C_hardest_88, xo_1_5, xo_0_3, xo_63_2, zk_C_hardest_97, zk_C_hardest_103, xo_15_4i, xo_15_4r, xo_15_4n, xo_49, xo_70, xv_16w hW hD dj, xv_17w_5 hW hD dj, xv_34 hW hD dj, xv_16b hW hD dj, m0, hst, hd, hlt, hi, hl, z_b0, c1, c2, c3, nI_add, pk_mul, Nat.add_zero, if_true, if_false, eq_self, Bool.true_eq_false, Bool.false_eq_true]
        · have hx1 : f_hx1 k p (some (i, q)) = some (i, q) := if_neg hg
          rw [decide_eq_false hg] at hl
          rw [hx1, hb0, hl0]
          simp (disch := first | assumption | omega | exact Nat.le_of_ble_eq_true rfl | decide) only [xo_2_0, xo_0_1, xo_48, xo_5, xo_43, xo_54, xo_55, xc_64_2 hC, xw_64w_2 hW, xk_v, xk_n, xo_10_2i, xo_10_2r, xo_10_2n, xo_10_3i, xo_10_3r, xo_10_3n, xo_11_4i, xo_11_4r, xo_11_4n, xo_1_4, xc_17_5 hC, xw_17w_5 hW, xc_17_6 hC, xw_16w hW, xw_16b hW, xo_45, zk_C_hardest_37, xw_34 hW, xo_42, zk_C_hardest_54, xo_63_1, xo_11_5i, xo_11_5r, xo_11_5n, xo_0_2, zk_C_hardest_88, xo_1_5, xo_0_3, xo_63_2, zk_C_hardest_103, xo_15_4i, xo_15_4r, xo_15_4n, xo_49, xo_70, xv_16w hW hD dj, xv_17w_5 hW hD dj, xv_34 hW hD dj, xv_16b hW hD dj, m0, hst, hd, hlt, hi, hl, z_b0, c1, c2, c3, nI_add, pk_mul, Nat.add_zero, if_true, if_false, eq_self, Bool.true_eq_false, Bool.false_eq_true]
theorem k_hardest (hC : z_HC G nb pb) (M : zM) (h : z_R true (0, 0) n B (fun k => M (nb + k)) s) (hF : z_F n J B s) (hB : B ≤ 60000000) (hN : ∀ i, i < 8 → M (81 + (9 + 4 * i)) 0 = nI i) {w : Nat} (hw : w < 2) : ∃ M', z_call 134 [.ref 32, .int (nI w)] G M = some (.inl (some (.int (q_hard n s w))), G, M') ∧ z_Pc M M' := by
  have e81 := wr_id M 81
  have hb := k_need1 hC M
  rw [← e81] at hb
  have hW := HC_P hC
  obtain ⟨U', w5', e1, p1⟩ := l_C_hardest hC M h hF hB (nI w) n 0 none (fun k => M (81 + k)) .null (by omega) hN trivial
  refine ⟨wr M 81 U', ?_, Pc_wr M p1⟩
  refine (congrArg (z_call 134 [.ref 32, .int (nI w)] G) e81.symm).trans ?_
  have hb0 : h_b none = nI 4294967295 := rfl
  have hl0 : h_l none = nI 4294967295 := rfl
  rw [hb0, hl0] at e1
  have e0 : z_call 134 [.ref 32, .int (nI w)] G (wr M 81 (fun k => M (81 + k))) = z_ex 134 (z_blk 134 25) [.ref 32, .int (nI w), .int (nI 4294967295), .int (nI 4294967295), .int (nI 0), .null] [] G (wr M 81 (fun k => M (81 + k))) := by
    match w, hw with
    | 0, _ => simp (disch := first | assumption | omega | exact Nat.le_of_ble_eq_true rfl | decide) only [ze_C_hardest, zk_C_hardest_0, xo_2_0, xo_0_1, xo_48, xo_5, xo_43, zk_C_hardest_10, xo_54, xo_55, zk_C_hardest_15, xc_64_2 hC, xw_64w_2 hW, xk_v, xk_n, xo_10_2i, xo_10_2r, xo_10_2n, xo_10_3i, xo_10_3r, xo_10_3n, xo_11_4i, xo_11_4r, xo_11_4n, xo_1_4, xc_17_5 hC, xw_17w_5 hW, xc_17_6 hC, xw_16w hW, xw_16b hW, xo_45, xw_34 hW, xo_42, xo_63_1, xo_11_5i, xo_11_5r, xo_11_5n, xo_0_2, xo_1_5, xo_0_3, xo_63_2, xo_15_4i, xo_15_4r, xo_15_4n, xo_49, xo_70, zer0, hb, if_true, if_false, eq_self, Bool.true_eq_false, Bool.false_eq_true]
    | 1, _ => simp (disch := first | assumption | omega | exact Nat.le_of_ble_eq_true rfl | decide) only [ze_C_hardest, zk_C_hardest_0, xo_2_0, xo_0_1, xo_48, zk_C_hardest_5, xo_5, xo_43, zk_C_hardest_10, xo_54, xo_55, zk_C_hardest_15, xc_64_2 hC, xw_64w_2 hW, xk_v, xk_n, xo_10_2i, xo_10_2r, xo_10_2n, xo_10_3i, xo_10_3r, xo_10_3n, xo_11_4i, xo_11_4r, xo_11_4n, xo_1_4, xc_17_5 hC, xw_17w_5 hW, xc_17_6 hC, xw_16w hW, xw_16b hW, xo_45, xw_34 hW, xo_42, xo_63_1, xo_11_5i, xo_11_5r, xo_11_5n, xo_0_2, xo_1_5, xo_0_3, xo_63_2, xo_15_4i, xo_15_4r, xo_15_4n, xo_49, xo_70, one0, hb, if_true, if_false, eq_self, Bool.true_eq_false, Bool.false_eq_true]
    | k + 2, h => exact absurd h (by omega)
  rw [e0, e1]
  unfold q_hard
  match w, hw with
  | 0, _ => simp (disch := first | assumption | omega | exact Nat.le_of_ble_eq_true rfl | decide) only [xo_2_0, xo_0_1, xo_48, xo_5, xo_43, xo_54, xo_55, xc_64_2 hC, xw_64w_2 hW, xk_v, xk_n, xo_10_2i, xo_10_2r, xo_10_2n, xo_10_3i, xo_10_3r, xo_10_3n, xo_11_4i, xo_11_4r, xo_11_4n, xo_1_4, xc_17_5 hC, xw_17w_5 hW, xc_17_6 hC, xw_16w hW, xw_16b hW, xo_45, xw_34 hW, xo_42, xo_63_1, xo_11_5i, xo_11_5r, xo_11_5n, xo_0_2, xo_1_5, xo_0_3, xo_63_2, xo_15_4i, xo_15_4r, xo_15_4n, zk_C_hardest_109, xo_49, zk_C_hardest_113, zk_C_hardest_118, xo_70, zer0, if_true, if_false, eq_self, Bool.true_eq_false, Bool.false_eq_true]
  | 1, _ => simp (disch := first | assumption | omega | exact Nat.le_of_ble_eq_true rfl | decide) only [xo_2_0, xo_0_1, xo_48, xo_5, xo_43, xo_54, xo_55, xc_64_2 hC, xw_64w_2 hW, xk_v, xk_n, xo_10_2i, xo_10_2r, xo_10_2n, xo_10_3i, xo_10_3r, xo_10_3n, xo_11_4i, xo_11_4r, xo_11_4n, xo_1_4, xc_17_5 hC, xw_17w_5 hW, xc_17_6 hC, xw_16w hW, xw_16b hW, xo_45, xw_34 hW, xo_42, xo_63_1, xo_11_5i, xo_11_5r, xo_11_5n, xo_0_2, xo_1_5, xo_0_3, xo_63_2, xo_15_4i, xo_15_4r, xo_15_4n, zk_C_hardest_109, xo_49, zk_C_hardest_117, zk_C_hardest_118, xo_70, one0, Nat.one_ne_zero, if_true, if_false, eq_self, Bool.true_eq_false, Bool.false_eq_true]
  | k + 2, h => exact absurd h (by omega)
theorem k_storms_f (hC : z_HC G nb pb) (M : zM) {x y w : Int32} (hx : zf_in x (nI 1) (nI 20) = false ∨ zf_in w (nI 0) (nI 2) = false) : z_call 144 [.ref 32, .int x, .int y, .int w] G M = some (.inr 1, z_thr G, rfc M 1) := by
  have hb := k_ref1 hC M
  have hW := HC_P hC
  by_cases a1 : x < nI 1
  · simp (disch := first | assumption | omega | exact Nat.le_of_ble_eq_true rfl | decide) only [ze_C_storms, zk_C_storms_0, xo_2_0, xo_0_1, xo_5, xo_44, xo_6, xo_46, xo_0_3, xo_50, xo_54, zk_C_storms_25, xo_55, zk_C_storms_26, xc_64_2 hC, xw_64w_2 hW, xk_v, xk_n, xo_11_4i, xo_11_4r, xo_11_4n, xo_11_5i, xo_11_5r, xo_11_5n, xo_11_6i, xo_11_6r, xo_11_6n, xo_11_7i, xo_11_7r, xo_11_7n, xo_1_7, xo_45, xc_17_10 hC, xc_17_6 hC, xc_17_5 hC, xo_0_2, xo_20, xo_18, xo_63_2, xo_63_1, xo_11_8i, xo_11_8r, xo_11_8n, xo_1_8, xo_42, xo_15_4i, xo_15_4r, xo_15_4n, xo_1_5, xo_86, xo_1_6, xo_15_7i, xo_15_7r, xo_15_7n, xo_49, xo_1_4, xo_43, xo_70, a1, hb, xk_x, if_true, if_false, eq_self, Bool.true_eq_false, Bool.false_eq_true]
  · by_cases a2 : nI 20 < x
    · simp (disch := first | assumption | omega | exact Nat.le_of_ble_eq_true rfl | decide) only [ze_C_storms, zk_C_storms_0, xo_2_0, xo_0_1, xo_5, xo_44, zk_C_storms_6, xo_6, xo_46, xo_0_3, xo_50, xo_54, zk_C_storms_25, xo_55, zk_C_storms_26, xc_64_2 hC, xw_64w_2 hW, xk_v, xk_n, xo_11_4i, xo_11_4r, xo_11_4n, xo_11_5i, xo_11_5r, xo_11_5n, xo_11_6i, xo_11_6r, xo_11_6n, xo_11_7i, xo_11_7r, xo_11_7n, xo_1_7, xo_45, xc_17_10 hC, xc_17_6 hC, xc_17_5 hC, xo_0_2, xo_20, xo_18, xo_63_2, xo_63_1, xo_11_8i, xo_11_8r, xo_11_8n, xo_1_8, xo_42, xo_15_4i, xo_15_4r, xo_15_4n, xo_1_5, xo_86, xo_1_6, xo_15_7i, xo_15_7r, xo_15_7n, xo_49, xo_1_4, xo_43, xo_70, a1, a2, hb, xk_x, if_true, if_false, eq_self, Bool.true_eq_false, Bool.false_eq_true]
    · by_cases a3 : w < 0
      · simp (disch := first | assumption | omega | exact Nat.le_of_ble_eq_true rfl | decide) only [ze_C_storms, zk_C_storms_0, xo_2_0, xo_0_1, xo_5, xo_44, zk_C_storms_6, xo_6, xo_46, zk_C_storms_12, xo_0_3, xo_50, xo_54, zk_C_storms_25, xo_55, zk_C_storms_26, xc_64_2 hC, xw_64w_2 hW, xk_v, xk_n, xo_11_4i, xo_11_4r, xo_11_4n, xo_11_5i, xo_11_5r, xo_11_5n, xo_11_6i, xo_11_6r, xo_11_6n, xo_11_7i, xo_11_7r, xo_11_7n, xo_1_7, xo_45, xc_17_10 hC, xc_17_6 hC, xc_17_5 hC, xo_0_2, xo_20, xo_18, xo_63_2, xo_63_1, xo_11_8i, xo_11_8r, xo_11_8n, xo_1_8, xo_42, xo_15_4i, xo_15_4r, xo_15_4n, xo_1_5, xo_86, xo_1_6, xo_15_7i, xo_15_7r, xo_15_7n, xo_49, xo_1_4, xo_43, xo_70, a1, a2, a3, hb, xk_x, if_true, if_false, eq_self, Bool.true_eq_false, Bool.false_eq_true]
      · by_cases a4 : nI 2 < w
        · simp (disch := first | assumption | omega | exact Nat.le_of_ble_eq_true rfl | decide) only [ze_C_storms, zk_C_storms_0, xo_2_0, xo_0_1, xo_5, xo_44, zk_C_storms_6, xo_6, xo_46, zk_C_storms_12, xo_0_3, xo_50, zk_C_storms_16, xo_54, zk_C_storms_25, xo_55, zk_C_storms_26, xc_64_2 hC, xw_64w_2 hW, xk_v, xk_n, xo_11_4i, xo_11_4r, xo_11_4n, xo_11_5i, xo_11_5r, xo_11_5n, xo_11_6i, xo_11_6r, xo_11_6n, xo_11_7i, xo_11_7r, xo_11_7n, xo_1_7, xo_45, xc_17_10 hC, xc_17_6 hC, xc_17_5 hC, xo_0_2, xo_20, xo_18, xo_63_2, xo_63_1, xo_11_8i, xo_11_8r, xo_11_8n, xo_1_8, xo_42, xo_15_4i, xo_15_4r, xo_15_4n, xo_1_5, xo_86, xo_1_6, xo_15_7i, xo_15_7r, xo_15_7n, xo_49, xo_1_4, xo_43, xo_70, a1, a2, a3, a4, hb, xk_x, if_true, if_false, eq_self, Bool.true_eq_false, Bool.false_eq_true]
        · exfalso
          unfold zf_in at hx
          rw [nI_0] at hx
          rcases hx with hx | hx
          · exact of_decide_eq_false hx ⟨a1, a2⟩
          · exact of_decide_eq_false hx ⟨a3, a4⟩
theorem l_C_storms (hC : z_HC G nb pb) (M0 : zM) (h : z_R true (0, 0) n B (fun k => M0 (nb + k)) s) (hF : z_F n J B s) (hB : B ≤ 40000000) {N : Nat} (hN : N ≤ 20) (x w : Int32) : ∀ r k (a : Nat × Nat × Nat) M U w8, k + r = N → (∀ q, q ≠ 123 → M q = M0 q) → (∀ i, i < 8 → U (9 + 4 * i) 0 = nI i) → z_Ok3 k a → ∃ M' U' w8', z_ex 144 (z_blk 144 41) [.ref 32, .int (nI N), .int x, .int w, .int (nI a.1), .int (nI a.2.1), .int (nI a.2.2), .int (nI k), w8] [] G (wr M 81 U) = z_ex 144 (z_blk 144 120) [.ref 32, .int (nI N), .int x, .int w, .int (nI (z_fd (f_sto n s x) r k a).1), .int (nI (z_fd (f_sto n s x) r k a).2.1), .int (nI (z_fd (f_sto n s x) r k a).2.2), .int (nI N), w8'] [] G (wr M' 81 U') ∧ (∀ q, q ≠ 123 → M' q = M0 q) ∧ ∀ i, i < 8 → U' (9 + 4 * i) 0 = nI i := by
  have hn := hF.1.1.2
  have lo := HC_lo hC
  have hW := HC_P hC
  have hD : z_kd G 123 = (0, 0) := hC.2.2.2.2.1
  intro r
  induction r with
  | zero =>
    intro k a M U w8 hk hM hU ho
    have hk' : k = N := by omega
    subst hk'
    have hlt : ¬ nI k < nI k := nI_nlt (Nat.le_refl _) (by omega)
    refine ⟨M, U, w8, ?_, hM, hU⟩
    rw [z_fd_0]
    conv => lhs; rw [zk_C_storms_41]
    simp (disch := first | assumption | omega | exact Nat.le_of_ble_eq_true rfl | decide) only [xo_2_0, xo_0_1, xo_5, xo_44, xo_6, xo_46, xo_0_3, xo_50, xo_54, xo_55, xc_64_2 hC, xw_64w_2 hW, xk_v, xk_n, xo_11_4i, xo_11_4r, xo_11_4n, xo_11_5i, xo_11_5r, xo_11_5n, xo_11_6i, xo_11_6r, xo_11_6n, xo_11_7i, xo_11_7r, xo_11_7n, xo_1_7, xo_45, xc_17_10 hC, xc_17_6 hC, xc_17_5 hC, xo_0_2, xo_20, xo_18, xo_63_2, xo_63_1, xo_11_8i, xo_11_8r, xo_11_8n, xo_1_8, xo_42, xo_15_4i, xo_15_4r, xo_15_4n, xo_1_5, xo_86, xo_1_6, xo_15_7i, xo_15_7r, xo_15_7n, xo_49, xo_1_4, xo_43, xo_70, hlt, if_true, if_false, eq_self, Bool.true_eq_false, Bool.false_eq_true]
  | succ r ih =>
    intro k a M U w8 hk hM hU ho
    have hlt : nI k < nI N := nI_lt (by omega) (by omega)
    have eM : z_sA (wr M 81 U) 123 (z_u (wr M 81 U 123) 0 (x + nI k)) = wr (z_sA M 123 (z_u (M 123) 0 (x + nI k))) 81 U := by
      rw [wr_sC _ _ (by omega), wr_o _ _ _ _ (by omega)]
    have eD : z_sA M 123 (z_u (M 123) 0 (x + nI k)) 123 0 = x + nI k := by rw [z_sA_s, z_u_s]
    have eQ : ∀ q, q ≠ 123 → z_sA M 123 (z_u (M 123) 0 (x + nI k)) q = M0 q := fun q hq => by rw [z_sA_n _ _ _ _ hq]; exact hM q hq
    generalize z_sA M 123 (z_u (M 123) 0 (x + nI k)) = M1 at eM eD eQ
    obtain ⟨U1, c1, r1⟩ := k_cp hC M1 U (z_R_V h hn (fun j hj => eQ _ (by omega))) hF hU
    obtain ⟨U3, M3, c3, m3, q3, ⟨B3, b3, r3⟩, B4, b4, f3⟩ := s_C_storm (d := 123) hW (by omega) (by omega) hD M1 U1 (R_ft r1) hF (by omega) (by omega)
    rw [eD] at m3 r3 f3
    obtain ⟨U2, c2, n2⟩ := s_C_until2 hW M3 r3 f3 (by omega) (by omega)
    have hp : ∀ j, f_un n 300 (f_st n (s, x + nI k)).1 = some j → j ≤ 300 := fun j e => f_un_le _ _ _ _ e
    have ho2 := Ok3_s n s x k a ho
    obtain ⟨M', U', w8', e1, p1, p2⟩ := ih (k + 1) (f_sto n s x k a) M3 U2 (.int (z_on (f_un n 300 (f_st n (s, x + nI k)).1))) (by omega) (fun q hq => (q3 q hq).trans (eQ q hq)) n2 ho2
    refine ⟨M', U', w8', ?_, p1, p2⟩
    rw [z_fd_s, ← e1]
    obtain ⟨o1, o2, o3⟩ := ho
    unfold f_sto
    conv => lhs; rw [zk_C_storms_41]
    cases hc : f_un n 300 (f_st n (s, x + nI k)).1 with
    | none =>
      rw [hc] at c2
      have e0 : z_on none = nI 4294967295 := rfl
      simp (disch := first | assumption | omega | exact Nat.le_of_ble_eq_true rfl | decide) only [xo_2_0, xo_0_1, xo_5, xo_44, xo_6, xo_46, xo_0_3, xo_50, xo_54, xo_55, xc_64_2 hC, xw_64w_2 hW, xk_v, xk_n, xo_11_4i, xo_11_4r, xo_11_4n, xo_11_5i, xo_11_5r, xo_11_5n, xo_11_6i, xo_11_6r, xo_11_6n, xo_11_7i, xo_11_7r, xo_11_7n, xo_1_7, xo_45, zk_C_storms_47, xc_17_10 hC, xc_17_6 hC, xc_17_5 hC, xo_0_2, xo_20, xo_18, xo_63_2, xo_63_1, xo_11_8i, xo_11_8r, xo_11_8n, xo_1_8, xo_42, xo_15_4i, xo_15_4r, xo_15_4n, xo_1_5, xo_86, xo_1_6, zk_C_storms_114, xo_15_7i, xo_15_7r, xo_15_7n, xo_49, xo_1_4, xo_43, xo_70, hlt, eM, nI_add, pk_mul, Nat.add_zero, c1, c2, c3, e0, if_true, if_false, eq_self, Bool.true_eq_false, Bool.false_eq_true]
    | some t =>
      rw [hc] at c2
      have ht := hp t hc
      have e0 : z_on (some t) = nI t := rfl
      have en := nIm t ht
      have em := mx_2 o2 ht
      simp (disch := first | assumption | omega | exact Nat.le_of_ble_eq_true rfl | decide) only [xo_2_0, xo_0_1, xo_5, xo_44, xo_6, xo_46, xo_0_3, xo_50, xo_54, xo_55, xc_64_2 hC, xw_64w_2 hW, xk_v, xk_n, xo_11_4i, xo_11_4r, xo_11_4n, xo_11_5i, xo_11_5r, xo_11_5n, xo_11_6i, xo_11_6r, xo_11_6n, xo_11_7i, xo_11_7r, xo_11_7n, xo_1_7, xo_45, zk_C_storms_47, xc_17_10 hC, xc_17_6 hC, xc_17_5 hC, xo_0_2, xo_20, xo_18, xo_63_2, xo_63_1, xo_11_8i, xo_11_8r, xo_11_8n, xo_1_8, xo_42, zk_C_storms_95, xo_15_4i, xo_15_4r, xo_15_4n, xo_1_5, xo_86, xo_1_6, zk_C_storms_114, xo_15_7i, xo_15_7r, xo_15_7n, xo_49, xo_1_4, xo_43, xo_70, hlt, eM, nI_add, pk_mul, Nat.add_zero, c1, c2, c3, e0, en, em, if_true, if_false, eq_self, Bool.true_eq_false, Bool.false_eq_true]
theorem k_storms (hC : z_HC G nb pb) (M : zM) (h : z_R true (0, 0) n B (fun k => M (nb + k)) s) (hF : z_F n J B s) (hB : B ≤ 40000000) (hN : ∀ i, i < 8 → M (81 + (9 + 4 * i)) 0 = nI i) {N w : Nat} (h1 : 1 ≤ N) (hN1 : N ≤ 20) (x : Int32) (hw : w < 3) : ∃ M', z_call 144 [.ref 32, .int (nI N), .int x, .int (nI w)] G M = some (.inl (some (.int (q_sto n s N x w))), G, M') ∧ z_Pc M M' := by
  have e81 := wr_id M 81
  have hb := k_need1 hC M
  rw [← e81] at hb
  have hW := HC_P hC
  obtain ⟨M', U', w8', e1, p1, p2⟩ := l_C_storms hC M h hF hB hN1 x (nI w) N 0 (0, 0, 0) M (fun k => M (81 + k)) .null (by omega) (fun _ _ => rfl) hN ⟨Nat.le_refl _, Nat.zero_le _, Nat.zero_le _⟩
  refine ⟨wr M' 81 U', ?_, fun q hq h3 => by rw [wr_o _ _ _ _ (by omega)]; exact p1 q h3, (Pc_wr M' p2).2⟩
  refine (congrArg (z_call 144 [.ref 32, .int (nI N), .int x, .int (nI w)] G) e81.symm).trans ?_
  have a1 : ¬ nI N < nI 1 := nI_nlt h1 (by omega)
  have a2 : ¬ nI 20 < nI N := nI_nlt hN1 (by omega)
  have a3 : ¬ nI w < 0 := nI_pos (by omega)
  have a4 : ¬ nI 2 < nI w := nI_nlt (by omega) (by omega)
  have e0 : z_call 144 [.ref 32, .int (nI N), .int x, .int (nI w)] G (wr M 81 (fun k => M (81 + k))) = z_ex 144 (z_blk 144 41) [.ref 32, .int (nI N), .int x, .int (nI w), .int (nI 0), .int (nI 0), .int (nI 0), .int (nI 0), .null] [] G (wr M 81 (fun k => M (81 + k))) := by
    simp (disch := first | assumption | omega | exact Nat.le_of_ble_eq_true rfl | decide) only [ze_C_storms, zk_C_storms_0, xo_2_0, xo_0_1, xo_5, xo_44, zk_C_storms_6, xo_6, xo_46, zk_C_storms_12, xo_0_3, xo_50, zk_C_storms_16, zk_C_storms_21, xo_54, xo_55, zk_C_storms_26, xc_64_2 hC, xw_64w_2 hW, xk_v, xk_n, xo_11_4i, xo_11_4r, xo_11_4n, xo_11_5i, xo_11_5r, xo_11_5n, xo_11_6i, xo_11_6r, xo_11_6n, xo_11_7i, xo_11_7r, xo_11_7n, xo_1_7, xo_45, xc_17_10 hC, xc_17_6 hC, xc_17_5 hC, xo_0_2, xo_20, xo_18, xo_63_2, xo_63_1, xo_11_8i, xo_11_8r, xo_11_8n, xo_1_8, xo_42, xo_15_4i, xo_15_4r, xo_15_4n, xo_1_5, xo_86, xo_1_6, xo_15_7i, xo_15_7r, xo_15_7n, xo_49, xo_1_4, xo_43, xo_70, a1, a2, a3, a4, hb, if_true, if_false, eq_self, Bool.true_eq_false, Bool.false_eq_true]
  rw [e0, e1]
  unfold q_sto
  match w, hw with
  | 0, _ => simp (disch := first | assumption | omega | exact Nat.le_of_ble_eq_true rfl | decide) only [xo_2_0, xo_0_1, xo_5, xo_44, xo_6, xo_46, xo_0_3, xo_50, xo_54, xo_55, xc_64_2 hC, xw_64w_2 hW, xk_v, xk_n, xo_11_4i, xo_11_4r, xo_11_4n, xo_11_5i, xo_11_5r, xo_11_5n, xo_11_6i, xo_11_6r, xo_11_6n, xo_11_7i, xo_11_7r, xo_11_7n, xo_1_7, xo_45, xc_17_10 hC, xc_17_6 hC, xc_17_5 hC, xo_0_2, xo_20, xo_18, xo_63_2, xo_63_1, xo_11_8i, xo_11_8r, xo_11_8n, xo_1_8, xo_42, xo_15_4i, xo_15_4r, xo_15_4n, xo_1_5, xo_86, xo_1_6, xo_15_7i, xo_15_7r, xo_15_7n, zk_C_storms_120, xo_49, zk_C_storms_124, xo_1_4, xo_43, zk_C_storms_141, xo_70, zer0, if_true, if_false, eq_self, Bool.true_eq_false, Bool.false_eq_true]
  | 1, _ => simp (disch := first | assumption | omega | exact Nat.le_of_ble_eq_true rfl | decide) only [xo_2_0, xo_0_1, xo_5, xo_44, xo_6, xo_46, xo_0_3, xo_50, xo_54, xo_55, xc_64_2 hC, xw_64w_2 hW, xk_v, xk_n, xo_11_4i, xo_11_4r, xo_11_4n, xo_11_5i, xo_11_5r, xo_11_5n, xo_11_6i, xo_11_6r, xo_11_6n, xo_11_7i, xo_11_7r, xo_11_7n, xo_1_7, xo_45, xc_17_10 hC, xc_17_6 hC, xc_17_5 hC, xo_0_2, xo_20, xo_18, xo_63_2, xo_63_1, xo_11_8i, xo_11_8r, xo_11_8n, xo_1_8, xo_42, xo_15_4i, xo_15_4r, xo_15_4n, xo_1_5, xo_86, xo_1_6, xo_15_7i, xo_15_7r, xo_15_7n, zk_C_storms_120, xo_49, xo_1_4, zk_C_storms_129, xo_43, zk_C_storms_134, zk_C_storms_141, xo_70, one0, Nat.one_ne_zero, if_true, if_false, eq_self, Bool.true_eq_false, Bool.false_eq_true]
  | 2, _ =>
    have n1 : (nI 2 = 0) = False := by decide
    have n2 : (nI 2 = nI 1) = False := by decide
    simp (disch := first | assumption | omega | exact Nat.le_of_ble_eq_true rfl | decide) only [xo_2_0, xo_0_1, xo_5, xo_44, xo_6, xo_46, xo_0_3, xo_50, xo_54, xo_55, xc_64_2 hC, xw_64w_2 hW, xk_v, xk_n, xo_11_4i, xo_11_4r, xo_11_4n, xo_11_5i, xo_11_5r, xo_11_5n, xo_11_6i, xo_11_6r, xo_11_6n, xo_11_7i, xo_11_7r, xo_11_7n, xo_1_7, xo_45, xc_17_10 hC, xc_17_6 hC, xc_17_5 hC, xo_0_2, xo_20, xo_18, xo_63_2, xo_63_1, xo_11_8i, xo_11_8r, xo_11_8n, xo_1_8, xo_42, xo_15_4i, xo_15_4r, xo_15_4n, xo_1_5, xo_86, xo_1_6, xo_15_7i, xo_15_7r, xo_15_7n, zk_C_storms_120, xo_49, xo_1_4, zk_C_storms_129, xo_43, zk_C_storms_139, zk_C_storms_141, xo_70, n1, n2, show (2 = 0) = False by decide, show (2 = 1) = False by decide, if_true, if_false, eq_self, Bool.true_eq_false, Bool.false_eq_true]
  | k + 3, h => exact absurd h (by omega)
end
