/-! ===== the layout stays, but where the reader's bytes lie ===== -/
def z_Gk (G G' : zG) : Prop := (∀ a, z_kd G' a = z_kd G a) ∧ ∀ a k, (a ≠ 35 ∨ k ≠ 3) → z_rf G' a k = z_rf G a k
theorem Gk_thr (G : zG) : z_Gk G (z_thr G) := ⟨fun _ => rfl, fun _ _ _ => rfl⟩
theorem Gk_L (G : zG) (p k : Nat) (x : Int64) : z_Gk G (z_setL G p k x) := ⟨fun _ => rfl, fun _ _ _ => rfl⟩
theorem Gk_35 (G : zG) (q : Nat) : z_Gk G (z_setR G 35 3 q) := ⟨fun _ => rfl, fun a k h => by
  unfold z_rf z_setR
  by_cases e : a = 35
  · subst e
    have e3 : k ≠ 3 := h.elim (fun q => absurd rfl q) (fun q => q)
    show (if 35 = 35 then (fun j => if j = 3 then q else G.2.2.1 35 j) else G.2.2.1 35) k = _
    rw [if_pos rfl]
    show (if k = 3 then q else G.2.2.1 35 k) = _
    rw [if_neg e3]
  · show (if a = 35 then (fun j => if j = 3 then q else G.2.2.1 35 j) else G.2.2.1 a) k = _
    rw [if_neg e]⟩
theorem Gk_33 (G : zG) : z_rf (z_setR G 35 3 33) 35 3 = 33 := rfl
theorem Gk_refl (G : zG) : z_Gk G G := ⟨fun _ => rfl, fun _ _ _ => rfl⟩
theorem Gk_trans {G G1 G2 : zG} (h : z_Gk G G1) (g : z_Gk G1 G2) : z_Gk G G2 := ⟨fun a => (g.1 a).trans (h.1 a), fun a k q => (g.2 a k q).trans (h.2 a k q)⟩
theorem HW_k {G G' : zG} {b : Nat} (h : z_Gk G G') (hW : z_HW G b) (h2 : 36 ≤ b) : z_HW G' b := by
  have e : ∀ j k, j < 41 → z_rf G' (b + j) k = z_rf G (b + j) k := fun j k x => h.2 _ _ (Or.inl (by omega))
  have e0 : ∀ k, z_rf G' b k = z_rf G b k := fun k => h.2 _ _ (Or.inl (by omega))
  have k : ∀ a, z_kd G' a = z_kd G a := h.1
  have l9 : ∀ i, i < 8 → 9 + 4 * i < 41 := fun i hi => by omega
  clear h2
  obtain ⟨hb, w0, ⟨w3, w4, w5, w6, w7⟩, x12, x34, x56, a0, ⟨a1, a2, a3⟩, x78, x910, x1112, x1314, hmem⟩ := hW
  refine ⟨hb, (k _).trans w0, ⟨(e0 _).trans w3, (e0 _).trans w4, (e0 _).trans w5, (e0 _).trans w6, (e0 _).trans w7⟩, by rw [k]; exact x12, by rw [k]; exact x34, by rw [k]; exact x56, (k _).trans a0, ⟨(e 4 _ (by decide)).trans a1, (e 4 _ (by decide)).trans a2, (e 4 _ (by decide)).trans a3⟩, by rw [k]; exact x78, by rw [k]; exact x910, by rw [k]; exact x1112, by rw [k]; exact x1314, fun i hi => ?_⟩
  have l := l9 i hi
  obtain ⟨m0, m1, ⟨m2, m3, m4⟩, y12, y34, y56⟩ := hmem i hi
  exact ⟨(e 3 _ (by decide)).trans m0, (k _).trans m1, ⟨(e _ _ l).trans m2, (e _ _ l).trans m3, (e _ _ l).trans m4⟩, by rw [k]; exact y12, by rw [k]; exact y34, by rw [k]; exact y56⟩
theorem HM_k {G G' : zG} (h : z_Gk G G') (hM : z_HM G) : z_HM G' := by
  obtain ⟨k, e'⟩ := h
  have e : ∀ a k, 36 ≤ a → z_rf G' a k = z_rf G a k := fun a k x => e' _ _ (Or.inl (by omega))
  obtain ⟨k0, ⟨r1, r8, r9, r10, r11, r12, r13, r17⟩, q12, q34, q56, q78, q910, q1112, q1314, q1516, hp⟩ := hM
  refine ⟨(k _).trans k0, ⟨by rw [e _ _ (by omega)]; exact r1, by rw [e _ _ (by omega)]; exact r8, by rw [e _ _ (by omega)]; exact r9, by rw [e _ _ (by omega)]; exact r10, by rw [e _ _ (by omega)]; exact r11, by rw [e _ _ (by omega)]; exact r12, by rw [e _ _ (by omega)]; exact r13, by rw [e _ _ (by omega)]; exact r17⟩, by rw [k]; exact q12, by rw [k]; exact q34, by rw [k]; exact q56, by rw [k]; exact q78, by rw [k]; exact q910, by rw [k]; exact q1112, by rw [k]; exact q1314, by rw [k]; exact q1516, fun j hj => ?_⟩
  obtain ⟨h1, h2, h3⟩ := hp j hj
  exact ⟨by rw [e _ _ (by omega)]; exact h1, by rw [k]; exact h2, by rw [k]; exact h3⟩
theorem HC_k {G G' : zG} {nb : Nat} {pb : Nat → Nat} (h : z_Gk G G') (hC : z_HC G nb pb) : z_HC G' nb pb := by
  have b := HC_bs hC
  have hWn : ∀ d, z_HW G d → 36 ≤ d → z_HW G' d := fun d h1 h2 => HW_k h h1 h2
  have lo := HC_lo hC
  have lb : ∀ k, k < 8 → 36 ≤ pb k := fun k hk => by have := HC_blo hC hk; omega
  obtain ⟨k, e⟩ := h
  obtain ⟨k0, ⟨r0, r3, r4, r5, r6, r7, r10⟩, k33, k34, k123, k122, hW, hP, hB, _⟩ := id hC
  refine ⟨(k _).trans k0, ⟨by rw [e _ _ (by omega)]; exact r0, by rw [e _ _ (by omega)]; exact r3, by rw [e _ _ (by omega)]; exact r4, by rw [e _ _ (by omega)]; exact r5, by rw [e _ _ (by omega)]; exact r6, by rw [e _ _ (by omega)]; exact r7, by rw [e _ _ (by omega)]; exact r10⟩, by rw [k]; exact k33, by rw [k]; exact k34, (k _).trans k123, by rw [k]; exact k122, hWn _ hW (by omega), hWn _ hP (by omega), fun j hj => ⟨by rw [e _ _ (by omega)]; exact (hB j hj).1, hWn _ (hB j hj).2 (lb j hj)⟩, b⟩
theorem St_k {G G' : zG} {M M' : zM} (h : z_Gk G G') (hS : z_St G M) (e : ∀ q, q < 32 → M' q = M q) : z_St G' M' := fun p hp => by
  obtain ⟨a, b⟩ := hS p hp
  exact ⟨by rw [h.1]; exact a, by rw [e p (by omega)]; exact b⟩
/-- the reader, wherever its bytes lie -/
def z_HQ (G : zG) : Prop := z_kd G 35 = (0, 4) ∧ z_rf G 35 0 = 36 ∧ z_HP G 36
theorem HQ_k {G G' : zG} (h : z_Gk G G') (hQ : z_HQ G) : z_HQ G' := by
  obtain ⟨k, e⟩ := h
  obtain ⟨h1, h2, h3, h4, ⟨h5, h6⟩, h7, h8⟩ := hQ
  exact ⟨(k _).trans h1, (e _ _ (by omega)).trans h2, h3, (k _).trans h4, ⟨(e _ _ (by omega)).trans h5, (e _ _ (by omega)).trans h6⟩, by rw [k]; exact h7, by rw [k]; exact h8⟩
theorem HQ_T {G : zG} {nb : Nat} {pb : Nat → Nat} (hC : z_HC G nb pb) (hQ : z_HQ G) : z_HT (z_setR G 35 3 33) := by
  obtain ⟨q1, q2, q3, q4, ⟨q5, q6⟩, q7, q8⟩ := HQ_k (Gk_35 G 33) hQ
  have k33 := (HC_k (Gk_35 G 33) hC).2.2.1
  exact ⟨q1, ⟨q2, Gk_33 G⟩, q4, ⟨q5, q6⟩, q7, q8, k33⟩
theorem SU_p {n : Nat} {M : zM} {S : Nat → Int32} (h : z_SU n M S) : z_SUp 36 n M S := h
theorem Bc_V {n : Nat} {S : Nat → Int32} {U V : zM} (hn : n ≤ 8) (h : z_Bc n S U) (e : ∀ k, k < 41 → V k = U k) : z_Bc n S V := by
  obtain ⟨⟨g00, g01, g02, g08⟩, g1, g2, ⟨g41, g42, g43⟩, g6, g7, gN, gm⟩ := h
  rw [← e 0 (by omega)] at g00 g01 g02 g08
  rw [← e 1 (by omega)] at g1
  rw [← e 2 (by omega)] at g2
  rw [← e 4 (by omega)] at g41 g42 g43
  rw [← e 6 (by omega)] at g6
  rw [← e 7 (by omega)] at g7
  exact ⟨⟨g00, g01, g02, g08⟩, g1, g2, ⟨g41, g42, g43⟩, g6, g7, fun i hi => by rw [e _ (by omega)]; exact gN i hi, fun i hi => Bm_eq (gm i hi) (fun c _ _ => e c (by omega))⟩
/-! ===== the class reads a text ===== -/
def z_Kt (nb : Nat) (M M' : zM) : Prop := (∀ q, q ≠ 32 → (q < 35 ∨ 38 < q) → (q < nb ∨ nb + 41 ≤ q) → M' q = M q) ∧ (∀ f, f ≠ 1 → f ≠ 2 → f ≠ 9 → M' 32 f = M 32 f) ∧ M' 32 1 = nI 0
section
variable {G : zG} {nb : Nat} {pb : Nat → Nat} {sz : Nat}
theorem k_text_f (hC : z_HC G nb pb) (M : zM) {t : Nat} {x : Int32} (h1 : M 32 1 = nI t) (ht : t ≤ 200) (hx : x < 0 ∨ ¬ x < nI (t + 1)) : z_call 59 [.ref 32, .int x] G M = some (.inr 1, z_thr G, rfc M 1) := by
  have r := k_ref1 hC M
  have hW := HC_W hC
  by_cases hz : x < 0
  · simp (disch := first | assumption | omega | exact Nat.le_of_ble_eq_true rfl | decide) only [ze_C_text, zk_C_text_0, xo_2_0, xo_0_1, xo_50, xc_16 hC, xo_16, xw_16w hW, xo_46, xo_5, xo_54, zk_C_text_17, xo_55, zk_C_text_18, xc_64_2 hC, xw_64w_2 hW, xk_v, xk_n, xc_18 hC, xc_17_4 hC, xc_17_0 hC, xc_17_5 hC, xo_17, xo_64_3, xo_49, xo_6, xo_21, xo_70, hz, r, xk_x, if_true, if_false, eq_self, Bool.true_eq_false, Bool.false_eq_true]
  · have hl : ¬ x < nI (t + 1) := hx.elim (fun q => absurd q hz) (fun q => q)
    obtain ⟨j, hj, e⟩ := nI_of hz
    subst e
    have hj2 : ¬ j < t + 1 := fun q => hl ((nI_ltI hj (by omega)).mpr q)
    have hg : nI t < nI j := nI_lt (by omega) (by omega)
    simp (disch := first | assumption | omega | exact Nat.le_of_ble_eq_true rfl | decide) only [ze_C_text, zk_C_text_0, xo_2_0, xo_0_1, xo_50, zk_C_text_5, xc_16 hC, xo_16, xw_16w hW, xo_46, xo_5, xo_54, zk_C_text_17, xo_55, zk_C_text_18, xc_64_2 hC, xw_64w_2 hW, xk_v, xk_n, xc_18 hC, xc_17_4 hC, xc_17_0 hC, xc_17_5 hC, xo_17, xo_64_3, xo_49, xo_6, xo_21, xo_70, hz, h1, hg, r, xk_x, if_true, if_false, eq_self, Bool.true_eq_false, Bool.false_eq_true]
theorem k_text_e (hC : z_HC G nb pb) (hQ : z_HQ G) (M : zM) {t : Nat} (h1 : M 32 1 = nI t) (ht : t ≤ 200) (hsz : sz ≤ t) : z_call 59 [.ref 32, .int (nI sz)] G M = z_k 64 59 [(49, 63, 41, 0, 38)] [.ref 32, .int (nI sz)] [] (z_call 61 [.ref 35, .ref 33, .int (nI sz)] G (z_sA M 32 (z_u (M 32) 1 (nI 0)))) := by
  have r := k_need1 hC M
  have hW := HC_W hC
  have hz : ¬ nI sz < 0 := nI_pos (by omega)
  have hg : ¬ nI t < nI sz := nI_nlt hsz (by omega)
  have kt : z_kd G 35 = (0, z_rc 61) := hQ.1
  simp (disch := first | assumption | omega | exact Nat.le_of_ble_eq_true rfl | decide) only [ze_C_text, zk_C_text_0, xo_2_0, xo_0_1, xo_50, zk_C_text_5, xc_16 hC, xo_16, xw_16w hW, xo_46, zk_C_text_13, xo_5, xo_54, xo_55, zk_C_text_18, xc_64_2 hC, xw_64w_2 hW, xk_v, xk_n, xc_18 hC, xc_17_4 hC, xc_17_0 hC, xc_17_5 hC, xo_17, xo_64_3, xo_49, xo_6, xo_21, xo_70, xo_64_3, hz, h1, hg, r, if_true, if_false, eq_self, Bool.true_eq_false, Bool.false_eq_true]
theorem k_text1 (hC : z_HC G nb pb) (hQ : z_HQ G) (M : zM) {t : Nat} (h1 : M 32 1 = nI t) (ht : t ≤ 200) (hsz : sz ≤ t) (hY : ∀ k, k < sz → ∃ u, u < 256 ∧ M 33 k = nI u) (hSt : z_St G M) {k p : Nat} (hq : y_text (M 33) sz = .inl (k, p)) : ∃ M', z_call 59 [.ref 32, .int (nI sz)] G M = some (.inl (some (.int (nI k - nI 10))), z_setR G 35 3 33, M') ∧ z_Kt nb M M' ∧ (∀ q, nb ≤ q → q < nb + 41 → M' q = M q) ∧ M' 32 2 = nI p ∧ M' 32 9 = M 32 9 := by
  have lo := HC_lo hC
  have hC1 := HC_k (Gk_35 G 33) hC
  obtain ⟨M0, hM0⟩ : ∃ M0, M0 = z_sA M 32 (z_u (M 32) 1 (nI 0)) := ⟨_, rfl⟩
  have o0 : ∀ q, q ≠ 32 → M0 q = M q := fun q hq => by rw [hM0, z_sA_n _ _ _ _ hq]
  have f0 : ∀ f, f ≠ 1 → M0 32 f = M 32 f := fun f hf => by rw [hM0, z_sA_s, z_u_n _ _ _ _ hf]
  have f1 : M0 32 1 = nI 0 := by rw [hM0, z_sA_s, z_u_s]
  have e0 := k_text_e hC hQ M h1 ht hsz
  rw [← hM0] at e0
  clear hM0
  have m33 : M0 33 = M 33 := o0 33 (by omega)
  obtain ⟨M1, c1, c2, c3, c4⟩ := c_T_accepts hQ.1 (HQ_T hC hQ) M0 (sz := sz) (by omega) (by rw [m33]; exact hY) (fun p hp => by rw [o0 p (by omega)]; exact hSt p hp)
  rw [m33] at c1 c3 c4
  rw [hq] at c1
  obtain ⟨d1, d2⟩ := c3 k p hq
  have kt : z_kd (z_setR G 35 3 33) 35 = (0, 4) := hQ.1
  have zz : z_b (Sum.inl (k, p) : (Nat × Nat) ⊕ (Nat × (Nat → Int32))).isRight = nI 0 := rfl
  rw [zz] at c1
  refine ⟨z_sA M1 32 (z_u (M1 32) 2 (nI p)), ?_, ⟨fun q a b c => ?_, fun f a b c => ?_, ?_⟩, fun q a b => ?_, ?_, ?_⟩
  · rw [e0, c1]
    have dd : z_sA M1 32 (z_u (M1 32) 2 (nI p)) 35 = M1 35 := z_sA_n _ _ _ _ (by omega)
    simp (disch := first | assumption | omega | exact Nat.le_of_ble_eq_true rfl | decide) only [xk_v, xo_49, zer0, zk_C_text_41, xo_2_0, xc_17_4 hC1, xo_16, xc_18 hC1, xo_6, xo_21, xo_70, d1, d2, dd, if_true, if_false, eq_self, Bool.true_eq_false, Bool.false_eq_true]
  · rw [z_sA_n _ _ _ _ a, c2 q b, o0 q a]
  · rw [z_sA_s, z_u_n _ _ _ _ b, c2 32 (by omega), f0 f a]
  · rw [z_sA_s, z_u_n _ _ _ _ (by omega), c2 32 (by omega), f1]
  · rw [z_sA_n _ _ _ _ (by omega), c2 q (by omega), o0 q (by omega)]
  · rw [z_sA_s, z_u_s]
  · rw [z_sA_s, z_u_n _ _ _ _ (by omega), c2 32 (by omega), f0 9 (by omega)]
theorem k_text2 (hC : z_HC G nb pb) (hQ : z_HQ G) (M : zM) {t : Nat} (h1 : M 32 1 = nI t) (ht : t ≤ 200) (hsz : sz ≤ t) (hY : ∀ k, k < sz → ∃ u, u < 256 ∧ M 33 k = nI u) (hSt : z_St G M) {n c : Nat} {S : Nat → Int32} (hq : y_text (M 33) sz = .inr (n, S)) (h8 : M nb 8 = nI c) (hc : c < 2 ^ 31 - 100) (hN : ∀ i, i < 8 → M (nb + (9 + 4 * i)) 0 = nI i) : ∃ M', z_call 59 [.ref 32, .int (nI sz)] G M = some (.inl (some (.int (nI n))), z_setR G 35 3 33, M') ∧ z_Kt nb M M' ∧ M' 32 2 = nI 4294967295 ∧ M' 32 9 = nI 0 ∧ z_Bc n S (fun k => M' (nb + k)) := by
  have lo := HC_lo hC
  have hC1 := HC_k (Gk_35 G 33) hC
  have hQ1 := HQ_k (Gk_35 G 33) hQ
  have hW1 := HC_W hC1
  obtain ⟨_, _, hn⟩ := SF_text hq
  obtain ⟨M0, hM0⟩ : ∃ M0, M0 = z_sA M 32 (z_u (M 32) 1 (nI 0)) := ⟨_, rfl⟩
  have o0 : ∀ q, q ≠ 32 → M0 q = M q := fun q hq => by rw [hM0, z_sA_n _ _ _ _ hq]
  have f0 : ∀ f, f ≠ 1 → M0 32 f = M 32 f := fun f hf => by rw [hM0, z_sA_s, z_u_n _ _ _ _ hf]
  have f1 : M0 32 1 = nI 0 := by rw [hM0, z_sA_s, z_u_s]
  have e0 := k_text_e hC hQ M h1 ht hsz
  rw [← hM0] at e0
  clear hM0
  have m33 : M0 33 = M 33 := o0 33 (by omega)
  obtain ⟨M1, c1, c2, c3, c4⟩ := c_T_accepts hQ.1 (HQ_T hC hQ) M0 (sz := sz) (by omega) (by rw [m33]; exact hY) (fun p hp => by rw [o0 p (by omega)]; exact hSt p hp)
  rw [m33] at c1 c3 c4
  rw [hq] at c1
  obtain ⟨d1, d2, d3⟩ := c4 n S hq
  have zz : z_b (Sum.inr (n, S) : (Nat × Nat) ⊕ (Nat × (Nat → Int32))).isRight = nI 1 := rfl
  rw [zz] at c1
  obtain ⟨M2, hM2⟩ : ∃ M2, M2 = z_sA M1 32 (z_u (z_u (M1 32) 2 (nI 4294967295)) 9 (nI 0)) := ⟨_, rfl⟩
  have o2 : ∀ q, q ≠ 32 → M2 q = M1 q := fun q hq => by rw [hM2, z_sA_n _ _ _ _ hq]
  have p2 : M2 32 = z_u (z_u (M1 32) 2 (nI 4294967295)) 9 (nI 0) := by rw [hM2, z_sA_s]
  have on : ∀ q, nb ≤ q → q < nb + 41 → M2 q = M q := fun q a b => by rw [o2 q (by omega), c2 q (by omega), o0 q (by omega)]
  obtain ⟨V', g1, g2⟩ := c_W_begin hW1 hQ1.2.2 (by omega) M2 (fun k => M2 (nb + k)) hn (c := c) (S := S) ⟨⟨by rw [o2 36 (by omega)]; exact d1.1.1, d1.1.2⟩, by rw [o2 36 (by omega)]; exact d1.2.1, fun k hk => by rw [o2 _ (by omega)]; exact d1.2.2.1 k hk, fun i hi => by rw [o2 _ (by omega)]; exact d1.2.2.2 i hi⟩ (by show M2 (nb + 0) 8 = _; rw [on _ (by omega) (by omega)]; exact h8) hc (fun i hi => by show M2 (nb + _) 0 = _; rw [on _ (by omega) (by omega)]; exact hN i hi)
  rw [wr_id] at g1
  have n0 : V' 0 0 = nI n := g2.1.1
  refine ⟨wr M2 nb V', ?_, ⟨fun q a b c => ?_, fun f a b c => ?_, ?_⟩, ?_, ?_, Bc_V hn g2 (fun k hk => wr_k _ _ _ _ hk)⟩
  · have kn : z_kd (z_setR G 35 3 33) nb = (0, z_rc 8) := hW1.2.1
    have kt : z_kd (z_setR G 35 3 33) 35 = (0, 4) := hQ.1
    have r0 : z_rf (z_setR G 35 3 33) 35 0 = 36 := hQ1.2.1
    have r1 : z_rf (z_setR G 35 3 33) 35 0 ≠ 0 := by omega
    have b32 : 32 ≤ nb := by omega
    rw [e0, c1]
    have e2 : z_ex 59 (z_blk 59 63) [.ref 32, .int (nI sz)] [] (z_setR G 35 3 33) M1 = z_k 64 59 [(2, 0, 0, 0, 87), (17, 6, 5, 30, 88), (16, 5, 0, 84, 91), (70, 0, 0, 0, 94)] [.ref 32, .int (nI sz)] [] (z_call 8 [.ref nb, .ref 36] (z_setR G 35 3 33) M2) := by
      rw [hM2]
      simp (disch := first | assumption | omega | exact Nat.le_of_ble_eq_true rfl | decide) only [zk_C_text_63, xo_2_0, xo_5, xc_18 hC1, xc_17_5 hC1, xc_17_4 hC1, xo_17, r0, xo_64_2, z_sA_s, z_sA_sA, if_true, if_false, eq_self, Bool.true_eq_false, Bool.false_eq_true]
    simp (disch := first | assumption | omega | exact Nat.le_of_ble_eq_true rfl | decide) only [xk_v, xo_49, one0, if_true, if_false, eq_self, Bool.true_eq_false, Bool.false_eq_true]
    rw [e2, g1]
    simp (disch := first | assumption | omega | exact Nat.le_of_ble_eq_true rfl | decide) only [xk_n, xo_2_0, xc_17_5 hC1, xw_16w hW1, n0, xo_70]
  · rw [wr_o _ _ _ _ c, o2 q a, c2 q b, o0 q a]
  · rw [wr_o _ _ _ _ (by omega), p2, z_u_n _ _ _ _ c, z_u_n _ _ _ _ b, c2 32 (by omega), f0 f a]
  · rw [wr_o _ _ _ _ (by omega), p2, z_u_n _ _ _ _ (by omega), z_u_n _ _ _ _ (by omega), c2 32 (by omega), f1]
  · rw [wr_o _ _ _ _ (by omega), p2, z_u_n _ _ _ _ (by omega), z_u_s]
  · rw [wr_o _ _ _ _ (by omega), p2, z_u_s]
/-! ===== the reference reads a text ===== -/
def z_Mt2 (M M' : zM) : Prop := (∀ q, q ≠ 455 → q ≠ 458 → q ≠ 459 → M' q = M q) ∧ M' 455 0 = nI 0 ∧ M' 455 2 = nI 0
theorem m_text1 (hM : z_HM G) (M : zM) {t : Nat} (h2 : M 455 2 = nI t) (ht : t ≤ 200) (hsz : sz ≤ t) (hY : ∀ k, k < sz → ∃ u, u < 256 ∧ M 457 k = nI u) (hSt : z_St G M) {k p : Nat} (hq : y_text (M 457) sz = .inl (k, p)) : ∃ M', z_call 159 [.ref 455, .int (nI sz)] G M = some (.inl (some (.int (nI k - nI 10))), G, M') ∧ z_Mt2 M M' ∧ M' 458 = M 458 ∧ M' 455 5 = nI p ∧ M' 455 14 = M 455 14 := by
  obtain ⟨M1, w2, e0, t1, f1, _⟩ := l_M_text hM M (sz := sz) (by rw [h2]; exact in_t hsz (by omega)) (by omega) hY hSt
  obtain ⟨⟨g6, g7⟩, k1, k4⟩ := f1 k p hq
  have n6 : ¬ M1 455 6 = 0 := by rw [g6]; exact nI_ne0 (by omega) (by omega)
  obtain ⟨M2, hM2⟩ : ∃ M2, M2 = z_sA M1 455 (z_u (M1 455) 5 (nI p)) := ⟨_, rfl⟩
  have s6 : M2 455 6 = nI k := by rw [hM2, z_sA_s, z_u_n _ _ _ _ (by omega)]; exact g6
  have cf := c_M_fine hM M2
  rw [decide_eq_false (by rw [s6]; exact nI_ne0 (by omega) (by omega))] at cf
  refine ⟨M2, ?_, ⟨fun q a _ c => ?_, ?_, ?_⟩, ?_, ?_, ?_⟩
  · rw [e0]
    have e1 : z_ex 159 (z_blk 159 125) [.ref 455, .int (nI sz), w2] [] G M1 = z_k 64 159 [(49, 148, 140, 0, 137)] [.ref 455, .int (nI sz), w2] [] (z_call 165 [.ref 455] G M2) := by
      rw [hM2]
      obtain ⟨k0, ⟨r1, r8, r9, r10, r11, r12, r13, r17⟩, ⟨q1, q2⟩, ⟨q3, q4⟩, ⟨q5, q6⟩, ⟨q7, q8⟩, ⟨q9, q10⟩, ⟨q11, q12⟩, ⟨q13, q14⟩, ⟨q15, q16⟩, hp⟩ := id hM; have kr : ∀ a, z_rc a = 7 → z_kd G 455 = (0, z_rc a) := fun a h => (by rw [h]; exact k0)
      simp (disch := first | assumption | exact kr _ rfl | omega | exact Nat.le_of_ble_eq_true rfl) only [xo_2_0, xo_5, xo_18, xo_0_1, xo_16, xo_63_3, xk_v, xk_n, xo_49, xo_54, xo_55, xo_64_4, xo_48, xo_70, xo_64_1, xo_41, xo_10_2i, xo_10_2r, xo_10_2n, xo_79, xo_64_2, xo_0_2, xo_64_3, xo_6, xo_42, zk_M_text_125, xo_21, xo_17, xo_32, g7, if_true, if_false, eq_self, Bool.true_eq_false, Bool.false_eq_true]
    rw [e1, cf]
    obtain ⟨k0, ⟨r1, r8, r9, r10, r11, r12, r13, r17⟩, ⟨q1, q2⟩, ⟨q3, q4⟩, ⟨q5, q6⟩, ⟨q7, q8⟩, ⟨q9, q10⟩, ⟨q11, q12⟩, ⟨q13, q14⟩, ⟨q15, q16⟩, hp⟩ := id hM; have kr : ∀ a, z_rc a = 7 → z_kd G 455 = (0, z_rc a) := fun a h => (by rw [h]; exact k0)
    simp (disch := first | assumption | exact kr _ rfl | omega | exact Nat.le_of_ble_eq_true rfl) only [xk_v, z_b0, xo_2_0, xo_5, xo_18, xo_0_1, xo_16, xo_63_3, xk_v, xk_n, xo_49, xo_54, xo_55, xo_64_4, xo_48, xo_70, xo_64_1, xo_41, xo_10_2i, xo_10_2r, xo_10_2n, xo_79, xo_64_2, xo_0_2, xo_64_3, xo_6, xo_42, zk_M_text_140, xo_21, xo_17, xo_32, xo_49, s6, if_true, if_false, eq_self, Bool.true_eq_false, Bool.false_eq_true, and_true, true_and, and_false, false_and, or_true, true_or, or_false, false_or, ne_eq, not_true_eq_false, not_false_eq_true, decide_true, decide_false, z_sA_id]
  · rw [hM2, z_sA_n _ _ _ _ a, t1.1 q a c]
  · rw [hM2, z_sA_s, z_u_n _ _ _ _ (by omega)]; exact t1.2.1.1
  · rw [hM2, z_sA_s, z_u_n _ _ _ _ (by omega)]; exact t1.2.1.2
  · rw [hM2, z_sA_n _ _ _ _ (by omega), t1.1 458 (by omega) (by omega)]
  · rw [hM2, z_sA_s, z_u_s]
  · rw [hM2, z_sA_s, z_u_n _ _ _ _ (by omega)]; exact t1.2.2 14 (by omega) (by omega) (by omega) (by omega) (by omega) (by omega) (by omega) (by omega)
theorem m_text2 (hM : z_HM G) (M : zM) {t : Nat} (h2 : M 455 2 = nI t) (ht : t ≤ 200) (hsz : sz ≤ t) (hY : ∀ k, k < sz → ∃ u, u < 256 ∧ M 457 k = nI u) (hSt : z_St G M) {n : Nat} {S : Nat → Int32} (hq : y_text (M 457) sz = .inr (n, S)) : ∃ M', z_call 159 [.ref 455, .int (nI sz)] G M = some (.inl (some (.int (nI n))), G, M') ∧ z_Mt2 M M' ∧ M' 455 5 = nI 4294967295 ∧ M' 455 14 = nI 0 ∧ z_Bg n S (M' 458) := by
  obtain ⟨hS, _, hn⟩ := SF_text hq
  obtain ⟨M1, w2, e0, t1, _, f1⟩ := l_M_text hM M (sz := sz) (by rw [h2]; exact in_t hsz (by omega)) (by omega) hY hSt
  obtain ⟨g6, g7, gD⟩ := f1 n S hq
  obtain ⟨M2, hM2⟩ : ∃ M2, M2 = z_sA M1 455 (z_u (M1 455) 5 (nI 4294967295)) := ⟨_, rfl⟩
  have s6 : M2 455 6 = 0 := by rw [hM2, z_sA_s, z_u_n _ _ _ _ (by omega)]; exact g6
  have o2 : ∀ q, q ≠ 455 → M2 q = M1 q := fun q hq => by rw [hM2, z_sA_n _ _ _ _ hq]
  have cf := c_M_fine hM M2
  rw [decide_eq_true s6] at cf
  obtain ⟨r, cb, hB⟩ := c_M_begins hM M2 hS hn (fun k hk => by rw [o2 459 (by omega)]; exact gD k hk)
  have r0 : r 0 = nI n := (hB.1 0 (by omega) (by omega)).trans hS.1
  obtain ⟨M3, hM3⟩ : ∃ M3, M3 = z_sA (z_sA M2 458 r) 455 (z_u (z_sA M2 458 r 455) 14 (nI 0)) := ⟨_, rfl⟩
  have q8 : M3 458 = r := by rw [hM3, z_sA_n _ _ _ _ (by omega), z_sA_s]
  have q5 : ∀ f, f ≠ 14 → f ≠ 5 → M3 455 f = M1 455 f := fun f a b => by rw [hM3, z_sA_s, z_u_n _ _ _ _ a, z_sA_n _ _ _ _ (by omega), hM2, z_sA_s, z_u_n _ _ _ _ b]
  refine ⟨M3, ?_, ⟨fun q a b c => ?_, ?_, ?_⟩, ?_, ?_, by rw [q8]; exact hB⟩
  · rw [e0]
    have e1 : z_ex 159 (z_blk 159 125) [.ref 455, .int (nI sz), w2] [] G M1 = z_k 64 159 [(49, 148, 140, 0, 137)] [.ref 455, .int (nI sz), w2] [] (z_call 165 [.ref 455] G M2) := by
      rw [hM2]
      obtain ⟨k0, ⟨r1, r8, r9, r10, r11, r12, r13, r17⟩, ⟨q1, q2⟩, ⟨q3, q4⟩, ⟨q5, q6⟩, ⟨q7, q8⟩, ⟨q9, q10⟩, ⟨q11, q12⟩, ⟨q13, q14⟩, ⟨q15, q16⟩, hp⟩ := id hM; have kr : ∀ a, z_rc a = 7 → z_kd G 455 = (0, z_rc a) := fun a h => (by rw [h]; exact k0)
      simp (disch := first | assumption | exact kr _ rfl | omega | exact Nat.le_of_ble_eq_true rfl) only [xo_2_0, xo_5, xo_18, xo_0_1, xo_16, xo_63_3, xk_v, xk_n, xo_49, xo_54, xo_55, xo_64_4, xo_48, xo_70, xo_64_1, xo_41, xo_10_2i, xo_10_2r, xo_10_2n, xo_79, xo_64_2, xo_0_2, xo_64_3, xo_6, xo_42, zk_M_text_125, xo_21, xo_17, xo_32, g7, if_true, if_false, eq_self, Bool.true_eq_false, Bool.false_eq_true]
    rw [e1, cf]
    have e2 : z_ex 159 (z_blk 159 148) [.ref 455, .int (nI sz), w2] [] G M2 = some (.inl (some (.int (M3 458 0))), G, M3) := by
      rw [hM3]
      obtain ⟨k0, ⟨r1, r8, r9, r10, r11, r12, r13, r17⟩, ⟨q1, q2⟩, ⟨q3, q4⟩, ⟨q5, q6⟩, ⟨q7, q8⟩, ⟨q9, q10⟩, ⟨q11, q12⟩, ⟨q13, q14⟩, ⟨q15, q16⟩, hp⟩ := id hM; have kr : ∀ a, z_rc a = 7 → z_kd G 455 = (0, z_rc a) := fun a h => (by rw [h]; exact k0)
      simp (disch := first | assumption | exact kr _ rfl | omega | exact Nat.le_of_ble_eq_true rfl) only [xo_2_0, xo_5, xo_18, xo_0_1, xo_16, xo_63_3, xk_v, xk_n, xo_49, xo_54, xo_55, xo_64_4, xo_48, xo_70, xo_64_1, xo_41, xo_10_2i, xo_10_2r, xo_10_2n, xo_79, xo_64_2, xo_0_2, xo_64_3, xo_6, xo_42, xo_21, zk_M_text_148, xo_17, xo_32, r10, r9, cb, if_true, if_false, eq_self, Bool.true_eq_false, Bool.false_eq_true]
    rw [q8, r0] at e2
    obtain ⟨k0, ⟨r1, r8, r9, r10, r11, r12, r13, r17⟩, ⟨q1, q2⟩, ⟨q3, q4⟩, ⟨q5, q6⟩, ⟨q7, q8⟩, ⟨q9, q10⟩, ⟨q11, q12⟩, ⟨q13, q14⟩, ⟨q15, q16⟩, hp⟩ := id hM; have kr : ∀ a, z_rc a = 7 → z_kd G 455 = (0, z_rc a) := fun a h => (by rw [h]; exact k0)
    simp (disch := first | assumption | exact kr _ rfl | omega | exact Nat.le_of_ble_eq_true rfl) only [xk_v, z_b0, xo_49, e2, if_true, if_false, eq_self, Bool.true_eq_false, Bool.false_eq_true, and_true, true_and, and_false, false_and, or_true, true_or, or_false, false_or, ne_eq, not_true_eq_false, not_false_eq_true, decide_true, decide_false, z_sA_id]
  · rw [hM3, z_sA_n _ _ _ _ a, z_sA_n _ _ _ _ b, o2 q a, t1.1 q a c]
  · rw [q5 0 (by omega) (by omega)]; exact t1.2.1.1
  · rw [q5 2 (by omega) (by omega)]; exact t1.2.1.2
  · rw [hM3, z_sA_s, z_u_n _ _ _ _ (by omega), z_sA_n _ _ _ _ (by omega), hM2, z_sA_s, z_u_s]
  · rw [hM3, z_sA_s, z_u_s]
end
