/-! ===== the class on paper ===== -/
theorem R_ru {fl : Bool} {kp : Nat × Nat} {n B : Nat} {V : zM} {s : Nat → Int32} (h : z_R fl kp n B V s) (hn : n ≤ 8) {k : Nat} (hk : k < 4) (v : Int32) : z_R fl kp n B (z_w V 1 k v) (z_u s (2 + k) v) := by
  obtain ⟨⟨a1, a2, a3, a4, a5, a6, a7⟩, h1, h2, h3, h4, h5⟩ := h
  have hw : ∀ x, x ≠ 1 → z_w V 1 k v x = V x := fun x hx => z_w_c _ _ _ _ _ hx
  have hs : ∀ a, (a < 2 ∨ 6 ≤ a) → z_u s (2 + k) v a = s a := fun a ha => z_u_n _ _ _ _ (by omega)
  refine ⟨⟨by rw [hw 0 (by omega), hs 0 (by omega)]; exact a1, by rw [hw 0 (by omega), hs 1 (by omega)]; exact a2, by rw [hw 0 (by omega), hs 6 (by omega)]; exact a3, fun j hj => ?_, by rw [hw 4 (by omega), hs 7 (by omega)]; exact a5, fun j hj => by rw [hw 6 (by omega), hs _ (by omega)]; exact a6 j hj, fun j hj => by rw [hw 7 (by omega), hs _ (by omega)]; exact a7 j hj⟩, z_R1_eq h1 hn (hw 2 (by omega)) (fun a _ _ => hs a (by omega)), ?_, ?_, z_R4_eq h4 (by rw [hw 0 (by omega)]) (fun f _ => by rw [hw 4 (by omega)]) (hw 5 (by omega)) (hs 8 (by omega)) (fun a _ _ => hs a (by omega)), z_R5_eq h5 (by rw [hw 0 (by omega)]) (hw 8 (by omega)) (fun a _ => hs a (by omega)) (fun j _ => by rw [hw _ (by omega)])⟩
  · by_cases e : j = k
    · subst e; rw [z_w_s, z_u_s]
    · rw [z_w_n _ _ _ _ _ _ (by omega), z_u_n _ _ _ _ (by omega)]; exact a4 j hj
  · intro j hj
    obtain ⟨p1, p2, ⟨a, q1, q2, q3⟩, p4⟩ := h2 j hj
    rw [hw _ (by omega)]
    refine ⟨p1, by rw [hs _ (by omega)]; exact p2, ⟨a, q1, q2, fun i hi => ?_⟩, fun g g3 g12 => ?_⟩
    · rw [hs _ (by omega), hs _ (by omega)]; exact q3 i hi
    · rw [hs _ (by omega)]; exact p4 g g3 g12
  · intro e j hj
    obtain ⟨p1, p2, p3⟩ := h3 e j hj
    rw [hw _ (by omega), hw _ (by omega), hw _ (by omega)]
    exact ⟨fun q hq => by rw [hs _ (by omega)]; exact p1 q hq, fun q hq => by rw [hs _ (by omega)]; exact p2 q hq, fun q hq => by rw [hs _ (by omega)]; exact p3 q hq⟩
def z_Pc (M M' : zM) : Prop := (∀ q, (q < 81 ∨ 122 ≤ q) → q ≠ 123 → M' q = M q) ∧ ∀ i, i < 8 → M' (81 + (9 + 4 * i)) 0 = nI i
theorem Pc_wr (M : zM) {U : zM} (h : ∀ i, i < 8 → U (9 + 4 * i) 0 = nI i) : z_Pc M (wr M 81 U) := ⟨fun q hq _ => wr_o _ _ _ _ (by omega), fun i hi => by rw [wr_k _ _ _ _ (by omega)]; exact h i hi⟩
section
variable {G : zG} {nb : Nat} {pb : Nat → Nat} {n J B : Nat} {s : Nat → Int32}
theorem k_cp (hC : z_HC G nb pb) (M U : zM) (h : z_R true (0, 0) n B (fun k => M (nb + k)) s) (hF : z_F n J B s) (hN : ∀ i, i < 8 → U (9 + 4 * i) 0 = nI i) : ∃ U', z_call 25 [.ref 81, .ref nb] G (wr M 81 U) = some (.inl none, G, wr M 81 U') ∧ z_R true (0, 0) n B U' s := by
  have lo := HC_lo hC
  exact s_W_copyFrom (HC_P hC) (HC_W hC) (by omega) M U h hF hN
theorem k_until (hC : z_HC G nb pb) (M : zM) (h : z_R true (0, 0) n B (fun k => M (nb + k)) s) (hF : z_F n J B s) (hB : B ≤ 60000000) (hN : ∀ i, i < 8 → M (81 + (9 + 4 * i)) 0 = nI i) : ∃ M', z_call 32 [.ref 32] G M = some (.inl (some (.int (z_on (f_un n 300 s)))), G, M') ∧ z_Pc M M' := by
  have e81 := wr_id M 81
  obtain ⟨U1, c1, r1⟩ := k_cp hC M (fun k => M (81 + k)) h hF hN
  obtain ⟨U2, c2, n2⟩ := s_C_until2 (HC_P hC) M (R_ft r1) hF (by omega) (by omega)
  refine ⟨wr M 81 U2, ?_, Pc_wr M n2⟩
  have hW := HC_P hC
  refine (congrArg (z_call 32 [.ref 32] G) e81.symm).trans ?_
  simp (disch := first | assumption | omega | exact Nat.le_of_ble_eq_true rfl | decide) only [ze_C_until, zk_C_until_0, xo_2_0, xc_17_6 hC, xc_17_5 hC, xw_64w_2 hW, xk_v, xk_n, xo_63_1, xo_70, c1, c2, if_true, if_false, eq_self, Bool.true_eq_false, Bool.false_eq_true]
theorem k_untilBy_f (hC : z_HC G nb pb) (M : zM) (h : z_R true (0, 0) n B (fun k => M (nb + k)) s) (hF : z_F n J B s) {x : Int32} (hx : x < 0 ∨ ¬ x < nI n) : z_call 131 [.ref 32, .int x] G M = some (.inr 0, z_thr G, rfc M 0) := by
  have hr := k_mem1 hC M (fun k => M (nb + k)) (R_00 h hF) hx
  rw [wr_id] at hr
  have hW := HC_P hC
  simp (disch := first | assumption | omega | exact Nat.le_of_ble_eq_true rfl | decide) only [ze_C_untilBy, zk_C_untilBy_0, xo_2_0, xo_0_1, xc_64_2 hC, xw_64w_2 hW, xk_v, xk_n, xc_17_6 hC, xc_17_5 hC, xo_63_1, xo_70, hr, xk_x, if_true, if_false, eq_self, Bool.true_eq_false, Bool.false_eq_true]
theorem k_untilBy (hC : z_HC G nb pb) (M : zM) (h : z_R true (0, 0) n B (fun k => M (nb + k)) s) (hF : z_F n J B s) (hB : B ≤ 60000000) (hN : ∀ i, i < 8 → M (81 + (9 + 4 * i)) 0 = nI i) {i : Nat} (hi : i < n) : ∃ M', z_call 131 [.ref 32, .int (nI i)] G M = some (.inl (some (.int (z_on (f_un n 300 (f_tu i s))))), G, M') ∧ z_Pc M M' := by
  have e81 := wr_id M 81
  have hn := hF.1.1.2
  have hr := k_mem0 hC M (fun k => M (nb + k)) (R_00 h hF) hn hi
  rw [wr_id, ← e81] at hr
  obtain ⟨U1, c1, r1⟩ := k_cp hC M (fun k => M (81 + k)) h hF hN
  obtain ⟨U3, c3, r3⟩ := s_W_turn (HC_P hC) M (R_ft r1) hF hi (by omega)
  obtain ⟨U2, c2, n2⟩ := s_C_until2 (HC_P hC) M r3 (F_tu hF hi (by omega)) (by omega) (by omega)
  refine ⟨wr M 81 U2, ?_, Pc_wr M n2⟩
  have hW := HC_P hC
  refine (congrArg (z_call 131 [.ref 32, .int (nI i)] G) e81.symm).trans ?_
  simp (disch := first | assumption | omega | exact Nat.le_of_ble_eq_true rfl | decide) only [ze_C_untilBy, zk_C_untilBy_0, xo_2_0, xo_0_1, xc_64_2 hC, xw_64w_2 hW, xk_v, xk_n, xc_17_6 hC, xc_17_5 hC, xo_63_1, xo_70, hr, c1, c2, c3, if_true, if_false, eq_self, Bool.true_eq_false, Bool.false_eq_true]
theorem k_untilRule_f (hC : z_HC G nb pb) (M : zM) (hS : z_St G M) {x v : Int32} (hx : q_rule x v = false) : z_call 137 [.ref 32, .int x, .int v] G M = some (.inr 1, z_thr G, rfc M 1) := by
  have hr := k_rule hS x v
  rw [hx, show z_b false = nI 0 from rfl] at hr
  have hb := k_ref1 hC M
  have hW := HC_P hC
  simp (disch := first | assumption | omega | exact Nat.le_of_ble_eq_true rfl | decide) only [ze_C_untilRule, zk_C_untilRule_0, xo_2_0, xo_0_1, xo_0_2, xo_63_2, xk_v, xk_n, xc_64_2 hC, xw_64w_2 hW, xc_17_6 hC, xc_17_5 hC, xw_17w_3 hW, xw_33_1 hW, xo_33, xo_63_1, xo_70, hr, hb, xk_x, if_true, if_false, eq_self, Bool.true_eq_false, Bool.false_eq_true]
theorem k_untilRule (hC : z_HC G nb pb) (M : zM) (h : z_R true (0, 0) n B (fun k => M (nb + k)) s) (hF : z_F n J B s) (hB : B ≤ 60000000) (hN : ∀ i, i < 8 → M (81 + (9 + 4 * i)) 0 = nI i) (hS : z_St G M) {k : Nat} (hk : k < 4) {v : Int32} (hx : q_rule (nI k) v = true) (hv : zf_in v (q_lo k) (q_hi k) = true) : ∃ M', z_call 137 [.ref 32, .int (nI k), .int v] G M = some (.inl (some (.int (z_on (f_un n 300 (z_u s (2 + k) v))))), G, M') ∧ z_Pc M M' := by
  have e81 := wr_id M 81
  have hn := hF.1.1.2
  have hr := k_rule hS (nI k) v
  rw [hx, show z_b true = nI 1 from rfl, ← e81] at hr
  have hb := k_need1 hC M
  rw [← e81] at hb
  obtain ⟨U1, c1, r1⟩ := k_cp hC M (fun k => M (81 + k)) h hF hN
  obtain ⟨U2, c2, n2⟩ := s_C_until2 (HC_P hC) M (R_ru (R_ft r1) hn hk v) (F_ru hF hk hv) (by omega) (by omega)
  refine ⟨wr M 81 U2, ?_, Pc_wr M n2⟩
  have hW := HC_P hC
  refine (congrArg (z_call 137 [.ref 32, .int (nI k), .int v] G) e81.symm).trans ?_
  simp (disch := first | assumption | omega | exact Nat.le_of_ble_eq_true rfl | decide) only [ze_C_untilRule, zk_C_untilRule_0, xo_2_0, xo_0_1, xo_0_2, xo_63_2, xk_v, xk_n, xc_64_2 hC, xw_64w_2 hW, xc_17_6 hC, xc_17_5 hC, xw_17w_3 hW, xw_33_1 hW, xo_33, xo_63_1, xo_70, hr, hb, c1, c2, if_true, if_false, eq_self, Bool.true_eq_false, Bool.false_eq_true]
theorem k_untilLinks_f (hC : z_HC G nb pb) (M : zM) (h : z_R true (0, 0) n B (fun k => M (nb + k)) s) (hF : z_F n J B s) {w x : Int32} (hx : (w < 0 ∨ ¬ w < nI 2) ∨ (w = nI 1 ∧ zf_in x (nI 0) (nI (2 ^ n - 1)) = false)) : z_call 139 [.ref 32, .int w, .int x] G M = some (.inr 1, z_thr G, rfc M 1) := by
  have enb := wr_id M nb
  have hW := HC_W hC
  have hs := k_set hW M (fun k => M (nb + k)) (R_00 h hF) hF.1.1.2 x
  have hb := k_ref1 hC (wr M nb (fun k => M (nb + k)))
  refine (congrArg (z_call 139 [.ref 32, .int w, .int x] G) enb.symm).trans ?_
  refine Eq.trans (b := some (.inr 1, z_thr G, rfc (wr M nb (fun k => M (nb + k))) 1)) ?_ (by rw [enb])
  rcases hx with hx | ⟨e, hx⟩
  · have h0 : (w = 0) = False := eq_false (fun q => by
      subst q
      rcases hx with hx | hx
      · exact absurd hx (by decide)
      · exact hx (by decide))
    have h1 : (w = nI 1) = False := eq_false (fun q => by
      subst q
      rcases hx with hx | hx
      · exact absurd hx (by decide)
      · exact hx (by decide))
    simp (disch := first | assumption | omega | exact Nat.le_of_ble_eq_true rfl | decide) only [ze_C_untilLinks, zk_C_untilLinks_0, xo_2_0, xo_0_1, xo_48, zk_C_untilLinks_5, xo_5, xo_43, xc_17_5 hC, xc_17_6 hC, xo_0_2, xw_64w_2 hW, xc_64_2 hC, xk_v, xk_n, xo_54, zk_C_untilLinks_25, xo_55, zk_C_untilLinks_26, xo_49, xw_64w_1 hW, xo_41, xo_63_1, xo_70, h0, h1, hb, xk_x, if_true, if_false, eq_self, Bool.true_eq_false, Bool.false_eq_true]
  · subst e
    simp (disch := first | assumption | omega | exact Nat.le_of_ble_eq_true rfl | decide) only [ze_C_untilLinks, zk_C_untilLinks_0, xo_2_0, xo_0_1, xo_48, zk_C_untilLinks_5, xo_5, xo_43, zk_C_untilLinks_10, xc_17_5 hC, xc_17_6 hC, xo_0_2, xw_64w_2 hW, xc_64_2 hC, xk_v, xk_n, xo_54, zk_C_untilLinks_25, xo_55, zk_C_untilLinks_26, xo_49, xw_64w_1 hW, xo_41, xo_63_1, xo_70, one0, hs, hx, z_b0, hb, xk_x, if_true, if_false, eq_self, Bool.true_eq_false, Bool.false_eq_true]
theorem k_untilLinks0 (hC : z_HC G nb pb) (M : zM) (h : z_R true (0, 0) n B (fun k => M (nb + k)) s) (hF : z_F n J B s) (hB : B ≤ 60000000) (hN : ∀ i, i < 8 → M (81 + (9 + 4 * i)) 0 = nI i) (x : Int32) : ∃ M', z_call 139 [.ref 32, .int (nI 0), .int x] G M = some (.inl (some (.int (z_on (f_un n 300 (f_he n s))))), G, M') ∧ z_Pc M M' := by
  have e81 := wr_id M 81
  have hb := k_need1 hC M
  rw [← e81] at hb
  obtain ⟨U1, c1, r1⟩ := k_cp hC M (fun k => M (81 + k)) h hF hN
  obtain ⟨U3, c3, r3⟩ := s_W_mend (HC_P hC) M (R_ft r1) hF
  obtain ⟨U2, c2, n2⟩ := s_C_until2 (HC_P hC) M r3 (F_he hF) (by omega) (by omega)
  refine ⟨wr M 81 U2, ?_, Pc_wr M n2⟩
  have hW := HC_P hC
  refine (congrArg (z_call 139 [.ref 32, .int (nI 0), .int x] G) e81.symm).trans ?_
  simp (disch := first | assumption | omega | exact Nat.le_of_ble_eq_true rfl | decide) only [ze_C_untilLinks, zk_C_untilLinks_0, xo_2_0, xo_0_1, xo_48, xo_5, xo_43, xc_17_5 hC, xc_17_6 hC, xo_0_2, xw_64w_2 hW, xc_64_2 hC, xk_v, xk_n, zk_C_untilLinks_21, xo_54, xo_55, zk_C_untilLinks_26, xo_49, zk_C_untilLinks_44, xw_64w_1 hW, xo_41, zk_C_untilLinks_64, xo_63_1, xo_70, zer0, hb, c1, c2, c3, if_true, if_false, eq_self, Bool.true_eq_false, Bool.false_eq_true]
theorem k_untilLinks1 (hC : z_HC G nb pb) (M : zM) (h : z_R true (0, 0) n B (fun k => M (nb + k)) s) (hF : z_F n J B s) (hB : B ≤ 60000000) (hN : ∀ i, i < 8 → M (81 + (9 + 4 * i)) 0 = nI i) {x : Int32} (hx : zf_in x (nI 0) (nI (2 ^ n - 1)) = true) : ∃ M', z_call 139 [.ref 32, .int (nI 1), .int x] G M = some (.inl (some (.int (z_on (f_un n 300 (f_cu x n s).1)))), G, M') ∧ z_Pc M M' := by
  have e81 := wr_id M 81
  have hn := hF.1.1.2
  have hp2 : 2 ^ n ≤ 2 ^ 8 := Nat.pow_le_pow_right (by omega) hn
  obtain ⟨u, hu, eu⟩ : ∃ u, u < 256 ∧ x = nI u := by
    rcases rg_1 x (2 ^ n) (by omega) with ⟨j, hj, e⟩ | hx2
    · exact ⟨j, by omega, e⟩
    · rw [in_f (by omega) (by rw [Nat.sub_add_cancel Nat.one_le_two_pow]; exact hx2)] at hx; exact absurd hx (by decide)
  subst eu
  have hs := k_set (HC_W hC) M (fun k => M (nb + k)) (R_00 h hF) hn (nI u)
  rw [wr_id, hx, show z_b true = nI 1 from rfl, ← e81] at hs
  have hb := k_need1 hC M
  rw [← e81] at hb
  obtain ⟨U1, c1, r1⟩ := k_cp hC M (fun k => M (81 + k)) h hF hN
  obtain ⟨U3, c3, r3⟩ := s_W_sever (HC_P hC) M (R_ft r1) hF hu
  obtain ⟨U2, c2, n2⟩ := s_C_until2 (HC_P hC) M r3 (F_cu hF (nI u)) (by omega) (by omega)
  refine ⟨wr M 81 U2, ?_, Pc_wr M n2⟩
  have hW := HC_P hC
  have hq := HC_W hC
  have e64 : ∀ (m c pc : Nat) (ops : List zO) (ls st : List Value) (M : zM) (w1 : Value) (hc : z_cat st ≤ 8) (hv : z_cat [.ref nb, w1] ≤ 2), z_ex m ((64, 82, 2, c, pc) :: ops) ls (w1 :: .ref nb :: st) G M = z_k 64 m ops ls st (z_call 82 [.ref nb, w1] G M) := fun m c pc ops ls st M w1 hc hv => xo_64_2 _ _ _ _ _ _ _ _ _ _ _ hq.2.1 hq.1 hc hv
  refine (congrArg (z_call 139 [.ref 32, .int (nI 1), .int (nI u)] G) e81.symm).trans ?_
  simp (disch := first | assumption | omega | exact Nat.le_of_ble_eq_true rfl | decide) only [e64, ze_C_untilLinks, zk_C_untilLinks_0, xo_2_0, xo_0_1, xo_48, zk_C_untilLinks_5, xo_5, xo_43, zk_C_untilLinks_10, xc_17_5 hC, xc_17_6 hC, xo_0_2, xw_64w_2 hW, xc_64_2 hC, xk_v, xk_n, zk_C_untilLinks_21, xo_54, xo_55, zk_C_untilLinks_26, xo_49, xw_64w_1 hW, xo_41, zk_C_untilLinks_55, zk_C_untilLinks_64, xo_63_1, xo_70, one0, hs, hb, c1, c2, c3, if_true, if_false, eq_self, Bool.true_eq_false, Bool.false_eq_true]
theorem k_ahead_f (hC : z_HC G nb pb) (M : zM) {x w : Int32} (hx : zf_in x (nI 1) (nI 100) = false ∨ zf_in w (nI 0) (nI 4) = false) : z_call 141 [.ref 32, .int x, .int w] G M = some (.inr 1, z_thr G, rfc M 1) := by
  have hb := k_ref1 hC M
  have hW := HC_P hC
  by_cases a1 : x < nI 1
  · simp (disch := first | assumption | omega | exact Nat.le_of_ble_eq_true rfl | decide) only [ze_C_ahead, zk_C_ahead_0, xo_2_0, xo_0_1, xo_5, xo_44, xo_6, xo_46, xo_0_2, xo_50, xo_54, zk_C_ahead_25, xo_55, zk_C_ahead_26, xc_64_2 hC, xw_64w_2 hW, xk_v, xk_n, xc_17_6 hC, xc_17_5 hC, xw_17w_6 hW, xo_10_3i, xo_10_3r, xo_10_3n, xo_56, xo_63_1, xo_70, xw_16a hW, xo_0_3, a1, hb, xk_x, if_true, if_false, eq_self, Bool.true_eq_false, Bool.false_eq_true]
  · by_cases a2 : nI 100 < x
    · simp (disch := first | assumption | omega | exact Nat.le_of_ble_eq_true rfl | decide) only [ze_C_ahead, zk_C_ahead_0, xo_2_0, xo_0_1, xo_5, xo_44, zk_C_ahead_6, xo_6, xo_46, xo_0_2, xo_50, xo_54, zk_C_ahead_25, xo_55, zk_C_ahead_26, xc_64_2 hC, xw_64w_2 hW, xk_v, xk_n, xc_17_6 hC, xc_17_5 hC, xw_17w_6 hW, xo_10_3i, xo_10_3r, xo_10_3n, xo_56, xo_63_1, xo_70, xw_16a hW, xo_0_3, a1, a2, hb, xk_x, if_true, if_false, eq_self, Bool.true_eq_false, Bool.false_eq_true]
    · by_cases a3 : w < 0
      · simp (disch := first | assumption | omega | exact Nat.le_of_ble_eq_true rfl | decide) only [ze_C_ahead, zk_C_ahead_0, xo_2_0, xo_0_1, xo_5, xo_44, zk_C_ahead_6, xo_6, xo_46, zk_C_ahead_12, xo_0_2, xo_50, xo_54, zk_C_ahead_25, xo_55, zk_C_ahead_26, xc_64_2 hC, xw_64w_2 hW, xk_v, xk_n, xc_17_6 hC, xc_17_5 hC, xw_17w_6 hW, xo_10_3i, xo_10_3r, xo_10_3n, xo_56, xo_63_1, xo_70, xw_16a hW, xo_0_3, a1, a2, a3, hb, xk_x, if_true, if_false, eq_self, Bool.true_eq_false, Bool.false_eq_true]
      · by_cases a4 : nI 4 < w
        · simp (disch := first | assumption | omega | exact Nat.le_of_ble_eq_true rfl | decide) only [ze_C_ahead, zk_C_ahead_0, xo_2_0, xo_0_1, xo_5, xo_44, zk_C_ahead_6, xo_6, xo_46, zk_C_ahead_12, xo_0_2, xo_50, zk_C_ahead_16, xo_54, zk_C_ahead_25, xo_55, zk_C_ahead_26, xc_64_2 hC, xw_64w_2 hW, xk_v, xk_n, xc_17_6 hC, xc_17_5 hC, xw_17w_6 hW, xo_10_3i, xo_10_3r, xo_10_3n, xo_56, xo_63_1, xo_70, xw_16a hW, xo_0_3, a1, a2, a3, a4, hb, xk_x, if_true, if_false, eq_self, Bool.true_eq_false, Bool.false_eq_true]
        · exfalso
          unfold zf_in at hx
          rw [nI_0] at hx
          rcases hx with hx | hx
          · exact of_decide_eq_false hx ⟨a1, a2⟩
          · exact of_decide_eq_false hx ⟨a3, a4⟩
theorem k_ahead (hC : z_HC G nb pb) (M : zM) (h : z_R true (0, 0) n B (fun k => M (nb + k)) s) (hF : z_F n J B s) (hB : B ≤ 60000000) (hN : ∀ i, i < 8 → M (81 + (9 + 4 * i)) 0 = nI i) {N w : Nat} (h1 : 1 ≤ N) (hN1 : N ≤ 100) (hw : w < 5) : ∃ M', z_call 141 [.ref 32, .int (nI N), .int (nI w)] G M = some (.inl (some (.int (q_ah n J s N w))), G, M') ∧ z_Pc M M' := by
  have e81 := wr_id M 81
  have hb := k_need1 hC M
  rw [← e81] at hb
  obtain ⟨U1, c1, r1⟩ := k_cp hC M (fun k => M (81 + k)) h hF hN
  obtain ⟨U2, c2, r2, f2⟩ := s_W_run (HC_P hC) M r1 hF hN1 (by omega) (by omega)
  refine ⟨wr M 81 U2, ?_, Pc_wr M r2.2.2.2.2.2.2⟩
  have hW := HC_P hC
  have d0 := s_S_circles hW M r2 f2
  have d1 := s_S_twice hW M r2 f2
  have d4 := s_S_chiefOfMost hW M r2 f2
  have d2 := r2.1.2.2.2.2.1
  have a1 : ¬ nI N < nI 1 := nI_nlt h1 (by omega)
  have a2 : ¬ nI 100 < nI N := nI_nlt hN1 (by omega)
  have a3 : ¬ nI w < 0 := nI_pos (by omega)
  have a4 : ¬ nI 4 < nI w := nI_nlt (by omega) (by omega)
  refine (congrArg (z_call 141 [.ref 32, .int (nI N), .int (nI w)] G) e81.symm).trans ?_
  have e0 : z_call 141 [.ref 32, .int (nI N), .int (nI w)] G (wr M 81 (fun k => M (81 + k))) = z_ex 141 (z_blk 141 (z_swt 6 (nI w))) [.ref 32, .int (nI N), .int (nI w), .int (nI (f_ra n N s).2)] [] G (wr M 81 U2) := by
    unfold f_ra
    simp (disch := first | assumption | omega | exact Nat.le_of_ble_eq_true rfl | decide) only [ze_C_ahead, zk_C_ahead_0, xo_2_0, xo_0_1, xo_5, xo_44, zk_C_ahead_6, xo_6, xo_46, zk_C_ahead_12, xo_0_2, xo_50, zk_C_ahead_16, zk_C_ahead_21, xo_54, xo_55, zk_C_ahead_26, xc_64_2 hC, xw_64w_2 hW, xk_v, xk_n, xc_17_6 hC, xc_17_5 hC, xw_17w_6 hW, xo_10_3i, xo_10_3r, xo_10_3n, xo_56, xo_63_1, xo_70, xw_16a hW, xo_0_3, a1, a2, a3, a4, hb, c1, c2, if_true, if_false, eq_self, Bool.true_eq_false, Bool.false_eq_true]
  rw [e0]
  unfold q_ah
  unfold f_ra at *
  match w, hw with
  | 0, _ =>
    rw [show z_swt 6 (nI 0) = 80 by decide]
    simp (disch := first | assumption | omega | exact Nat.le_of_ble_eq_true rfl | decide) only [xo_2_0, xo_0_1, xo_5, xo_44, xo_6, xo_46, xo_0_2, xo_50, xo_54, xo_55, xc_64_2 hC, xw_64w_2 hW, xk_v, xk_n, xc_17_6 hC, xc_17_5 hC, xw_17w_6 hW, xo_10_3i, xo_10_3r, xo_10_3n, xo_56, zk_C_ahead_80, xo_63_1, xo_70, xw_16a hW, xo_0_3, d0, if_true, if_false, eq_self, Bool.true_eq_false, Bool.false_eq_true]
  | 1, _ =>
    rw [show z_swt 6 (nI 1) = 88 by decide]
    simp (disch := first | assumption | omega | exact Nat.le_of_ble_eq_true rfl | decide) only [xo_2_0, xo_0_1, xo_5, xo_44, xo_6, xo_46, xo_0_2, xo_50, xo_54, xo_55, xc_64_2 hC, xw_64w_2 hW, xk_v, xk_n, xc_17_6 hC, xc_17_5 hC, xw_17w_6 hW, xo_10_3i, xo_10_3r, xo_10_3n, xo_56, xo_63_1, xo_70, zk_C_ahead_88, xw_16a hW, xo_0_3, d1, Nat.one_ne_zero, if_true, if_false, eq_self, Bool.true_eq_false, Bool.false_eq_true]
  | 2, _ =>
    rw [show z_swt 6 (nI 2) = 96 by decide]
    simp (disch := first | assumption | omega | exact Nat.le_of_ble_eq_true rfl | decide) only [xo_2_0, xo_0_1, xo_5, xo_44, xo_6, xo_46, xo_0_2, xo_50, xo_54, xo_55, xc_64_2 hC, xw_64w_2 hW, xk_v, xk_n, xc_17_6 hC, xc_17_5 hC, xw_17w_6 hW, xo_10_3i, xo_10_3r, xo_10_3n, xo_56, xo_63_1, xo_70, zk_C_ahead_96, xw_16a hW, xo_0_3, d2, show (2 = 0) = False by decide, show (2 = 1) = False by decide, if_true, if_false, eq_self, Bool.true_eq_false, Bool.false_eq_true]
  | 3, _ =>
    rw [show z_swt 6 (nI 3) = 107 by decide]
    simp (disch := first | assumption | omega | exact Nat.le_of_ble_eq_true rfl | decide) only [xo_2_0, xo_0_1, xo_5, xo_44, xo_6, xo_46, xo_0_2, xo_50, xo_54, xo_55, xc_64_2 hC, xw_64w_2 hW, xk_v, xk_n, xc_17_6 hC, xc_17_5 hC, xw_17w_6 hW, xo_10_3i, xo_10_3r, xo_10_3n, xo_56, xo_63_1, xo_70, xw_16a hW, zk_C_ahead_107, xo_0_3, show (3 = 0) = False by decide, show (3 = 1) = False by decide, show (3 = 2) = False by decide, if_true, if_false, eq_self, Bool.true_eq_false, Bool.false_eq_true]
  | 4, _ =>
    rw [show z_swt 6 (nI 4) = 109 by decide]
    simp (disch := first | assumption | omega | exact Nat.le_of_ble_eq_true rfl | decide) only [xo_2_0, xo_0_1, xo_5, xo_44, xo_6, xo_46, xo_0_2, xo_50, xo_54, xo_55, xc_64_2 hC, xw_64w_2 hW, xk_v, xk_n, xc_17_6 hC, xc_17_5 hC, xw_17w_6 hW, xo_10_3i, xo_10_3r, xo_10_3n, xo_56, xo_63_1, xo_70, xw_16a hW, xo_0_3, zk_C_ahead_109, d4, show (4 = 0) = False by decide, show (4 = 1) = False by decide, show (4 = 2) = False by decide, show (4 = 3) = False by decide, if_true, if_false, eq_self, Bool.true_eq_false, Bool.false_eq_true]
  | k + 5, h => exact absurd h (by omega)
end
