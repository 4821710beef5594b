/-! ===== letters are sent, in both ===== -/
theorem z_sim {S β : Type} (E : Nat → zM → β) (f : Nat → S → S) (I : Nat → zM → S → Prop) (N : Nat) (hs : ∀ k V s, k < N → I k V s → ∃ V', E k V = E (k + 1) V' ∧ I (k + 1) V' (f k s)) : ∀ (r k : Nat) (V : zM) (s : S), k + r = N → I k V s → ∃ V', E k V = E N V' ∧ I N V' (z_fd f r k s)
  | 0, k, V, s, e, h => ⟨V, by rw [show k = N by omega], by rw [show k = N by omega] at h; exact h⟩
  | r + 1, k, V, s, e, h => by
    obtain ⟨V1, e1, h1⟩ := hs k V s (by omega) h
    obtain ⟨V2, e2, h2⟩ := z_sim E f I N hs r (k + 1) V1 (f k s) (by omega) h1
    exact ⟨V2, e1.trans e2, h2⟩
def z_bz (V : zM) (p w : Nat) (L : Nat → Int32) : zM := z_sA V 5 (z_bw (V 5) p w L)
theorem bz_0 (V : zM) (p : Nat) (L : Nat → Int32) : z_bz V p 0 L = V := by unfold z_bz; rw [z_bw_0, z_sA_id]
theorem bz_u (V : zM) (p w : Nat) (L : Nat → Int32) : z_w (z_bz V p w L) 5 (p + w) (L w) = z_bz V p (w + 1) L := by
  unfold z_w z_bz; rw [z_sA_s, z_sA_sA, z_bw_u]
theorem bz_c (V : zM) (p w : Nat) (L : Nat → Int32) (c : Nat) (h : c ≠ 5) : z_bz V p w L c = V c := z_sA_n _ _ _ _ h
theorem bz_5 (V : zM) (p w : Nat) (L : Nat → Int32) : z_bz V p w L 5 = z_bw (V 5) p w L := z_sA_s _ _ _
def g_lt (i0 : Int32) (to k : Nat) (due grp ext : Int32) (src : Nat → Int32) : Nat → Int32 := fun t => if t = 0 then i0 else if t = 1 then nI to else if t = 2 then nI k else if t = 3 then due else if t = 4 then grp else if t = 5 then ext else src (t - 6)
theorem g_lt_6 (i0 : Int32) (to k : Nat) (due grp ext : Int32) (src : Nat → Int32) (t : Nat) : g_lt i0 to k due grp ext src (6 + t) = src t := by
  unfold g_lt
  rw [if_neg (by omega), if_neg (by omega), if_neg (by omega), if_neg (by omega), if_neg (by omega), if_neg (by omega), show 6 + t - 6 = t by omega]
def g_ad (i to k : Nat) (due grp ext : Int32) (V : zM) : zM := if V 4 1 - V 4 2 < nI 300 ∧ V 4 1 < nI 600 then z_w (z_bz (z_w V 6 k (V 6 k + nI 1)) (z_n (V 4 1) * 12) 12 (g_lt (V (9 + 4 * i) 0) to k due grp ext (V (10 + 4 * i)))) 4 1 (V 4 1 + nI 1) else z_w (z_w V 6 k (V 6 k + nI 1)) 4 3 (V 4 3 + nI 1)
theorem c_A_add {G : zG} {b : Nat} (hW : z_HW G b) (M V : zM) {i to k sz : Nat} (hi : i < 8) (hk : k < 8) (hsz : sz ≤ 600) (hV : V 4 1 = nI sz) (due grp ext : Int32) : z_call 40 [.ref (b + 4), .ref (b + (9 + 4 * i)), .int (nI to), .int (nI k), .int due, .int grp, .int ext] G (wr M b V) = some (.inl none, G, wr M b (g_ad i to k due grp ext V)) := by
  have hz : z_n (nI sz) = sz := z_nN (by omega)
  unfold g_ad
  by_cases h1 : V 4 1 - V 4 2 < nI 300
  · by_cases h2 : V 4 1 < nI 600
    · rw [if_pos ⟨h1, h2⟩]
      rw [hV] at h1 h2 ⊢
      rw [hz]
      have hsz6 : sz < 600 := (nI_ltI (by omega) (by omega)).mp h2
      have e0 : z_call 40 [.ref (b + 4), .ref (b + (9 + 4 * i)), .int (nI to), .int (nI k), .int due, .int grp, .int ext] G (wr M b V) = z_ex 40 (z_blk 40 124) [.ref (b + 4), .ref (b + (9 + 4 * i)), .int (nI to), .int (nI k), .int due, .int grp, .int ext, .int (nI (sz * 12)), .int (nI 0)] [] G (wr M b (z_w (z_w (z_w (z_w (z_w (z_w (z_w V 6 k (V 6 k + nI 1)) 5 (sz * 12) (V (9 + 4 * i) 0)) 5 (sz * 12 + 1) (nI to)) 5 (sz * 12 + 2) (nI k)) 5 (sz * 12 + 3) due) 5 (sz * 12 + 4) grp) 5 (sz * 12 + 5) ext)) := by
        simp (disch := first | assumption | omega | exact Nat.le_of_ble_eq_true rfl | decide) only [ze_A_add, zk_A_add_0, xo_2_0, xw_17a_4 hW, xw_17a_0 hW, xw_17b_12 hW, xo_0_3, xo_40, xw_32_6 hW, xw_32_5 hW, xw_32_l hW, xo_5, xo_20, xw_33_6 hW, xw_33_5 hW, xw_33_l hW, xw_16a hW, xw_16b hW, xo_21, xo_7, xo_45, zk_A_add_25, xo_44, xo_39i, xo_39r, xw_18a hW, xo_69, zk_A_add_46, xo_6, xo_22, xo_11_7i, xo_11_7r, xo_11_7n, xo_1_7, xo_2_1, xo_0_2, xo_1_4, xo_1_5, xo_1_6, xo_11_8i, xo_11_8r, xo_11_8n, xo_55, xo_1_8, xo_15_8i, xo_15_8r, xo_15_8n, xo_54, nI_add, pk_mul, Nat.add_zero, z_w_s, z_w_n, hV, h1, h2, if_true, if_false, eq_self, Bool.true_eq_false, Bool.false_eq_true]
      rw [e0]
      generalize hV1 : z_w V 6 k (V 6 k + nI 1) = V1
      have hl : V1 (10 + 4 * i) = V (10 + 4 * i) := by rw [← hV1]; exact z_w_c _ _ _ _ _ (by omega)
      have h41 : V1 4 1 = nI sz := by rw [← hV1, z_w_n _ _ _ _ _ _ (by omega)]; exact hV
      have h6 : z_w (z_w (z_w (z_w (z_w (z_w V1 5 (sz * 12) (V (9 + 4 * i) 0)) 5 (sz * 12 + 1) (nI to)) 5 (sz * 12 + 2) (nI k)) 5 (sz * 12 + 3) due) 5 (sz * 12 + 4) grp) 5 (sz * 12 + 5) ext = z_bz V1 (sz * 12) 6 (g_lt (V (9 + 4 * i) 0) to k due grp ext (V (10 + 4 * i))) := by
        rw [← bz_u V1 (sz * 12) 5, ← bz_u V1 (sz * 12) 4, ← bz_u V1 (sz * 12) 3, ← bz_u V1 (sz * 12) 2, ← bz_u V1 (sz * 12) 1, ← bz_u V1 (sz * 12) 0, bz_0]
        rfl
      rw [h6]
      generalize hL : g_lt (V (9 + 4 * i) 0) to k due grp ext (V (10 + 4 * i)) = L
      have hL6 : ∀ j, L (6 + j) = V1 (10 + 4 * i) j := fun j => by rw [← hL, g_lt_6, hl]
      have e1 := z_chain (fun j => z_ex 40 (z_blk 40 124) [.ref (b + 4), .ref (b + (9 + 4 * i)), .int (nI to), .int (nI k), .int due, .int grp, .int ext, .int (nI (sz * 12)), .int (nI j)] [] G (wr M b (z_bz V1 (sz * 12) (6 + j) L))) 6 (by
        intro j hj
        have hlt : nI j < nI 6 := nI_lt hj (by omega)
        have hr : z_bz V1 (sz * 12) (6 + j) L (10 + 4 * i) j = L (6 + j) := by rw [bz_c _ _ _ _ _ (by omega), hL6]
        have hw := bz_u V1 (sz * 12) (6 + j) L
        rw [show sz * 12 + (6 + j) = sz * 12 + 6 + j by omega, show 6 + j + 1 = 6 + (j + 1) by omega] at hw
        conv => lhs; rw [zk_A_add_124]
        simp (disch := first | assumption | omega | exact Nat.le_of_ble_eq_true rfl | decide) only [xo_2_0, xw_17a_4 hW, xw_17a_0 hW, xw_17b_12 hW, xo_0_3, xo_40, xw_32_6 hW, xw_32_5 hW, xw_32_l hW, xo_5, xo_20, xw_33_6 hW, xw_33_5 hW, xw_33_l hW, xw_16a hW, xw_16b hW, xo_21, xo_7, xo_45, xo_44, xo_39i, xo_39r, xw_18a hW, xo_69, xo_6, xo_22, xo_11_7i, xo_11_7r, xo_11_7n, xo_1_7, xo_2_1, xo_0_2, xo_1_4, xo_1_5, xo_1_6, xo_11_8i, xo_11_8r, xo_11_8n, xo_55, xo_1_8, zk_A_add_131, xo_15_8i, xo_15_8r, xo_15_8n, xo_54, nI_add, pk_mul, Nat.add_zero, hlt, if_true, if_false, eq_self, Bool.true_eq_false, Bool.false_eq_true, hr, hw]) 6 0 rfl
      rw [Nat.add_zero] at e1
      rw [e1]
      have hlt : ¬ nI 6 < nI 6 := nI_nlt (Nat.le_refl _) (by omega)
      have h41' : z_bz V1 (sz * 12) 12 L 4 1 = nI sz := by rw [bz_c _ _ _ _ _ (by omega)]; exact h41
      conv => lhs; rw [zk_A_add_124]
      simp (disch := first | assumption | omega | exact Nat.le_of_ble_eq_true rfl | decide) only [xo_2_0, xw_17a_4 hW, xw_17a_0 hW, xw_17b_12 hW, xo_0_3, xo_40, xw_32_6 hW, xw_32_5 hW, xw_32_l hW, xo_5, xo_20, xw_33_6 hW, xw_33_5 hW, xw_33_l hW, xw_16a hW, xw_16b hW, xo_21, xo_7, xo_45, xo_44, xo_39i, xo_39r, xw_18a hW, xo_69, xo_6, xo_22, xo_11_7i, xo_11_7r, xo_11_7n, xo_1_7, xo_2_1, xo_0_2, xo_1_4, xo_1_5, xo_1_6, xo_11_8i, xo_11_8r, xo_11_8n, xo_55, xo_1_8, xo_15_8i, xo_15_8r, xo_15_8n, xo_54, zk_A_add_157, nI_add, pk_mul, Nat.add_zero, hlt, if_true, if_false, eq_self, Bool.true_eq_false, Bool.false_eq_true, h41']
    · rw [if_neg (fun q => h2 q.2)]
      simp (disch := first | assumption | omega | exact Nat.le_of_ble_eq_true rfl | decide) only [ze_A_add, zk_A_add_0, xo_2_0, xw_17a_4 hW, xw_17a_0 hW, xw_17b_12 hW, xo_0_3, xo_40, xw_32_6 hW, xw_32_5 hW, xw_32_l hW, xo_5, xo_20, xw_33_6 hW, xw_33_5 hW, xw_33_l hW, xw_16a hW, xw_16b hW, xo_21, xo_7, xo_45, zk_A_add_25, xo_44, zk_A_add_35, xo_39i, xo_39r, xw_18a hW, xo_69, xo_6, xo_22, xo_11_7i, xo_11_7r, xo_11_7n, xo_1_7, xo_2_1, xo_0_2, xo_1_4, xo_1_5, xo_1_6, xo_11_8i, xo_11_8r, xo_11_8n, xo_55, xo_1_8, xo_15_8i, xo_15_8r, xo_15_8n, xo_54, nI_add, pk_mul, Nat.add_zero, z_w_s, z_w_n, h1, h2, if_true, if_false, eq_self, Bool.true_eq_false, Bool.false_eq_true]
  · rw [if_neg (fun q => h1 q.1)]
    simp (disch := first | assumption | omega | exact Nat.le_of_ble_eq_true rfl | decide) only [ze_A_add, zk_A_add_0, xo_2_0, xw_17a_4 hW, xw_17a_0 hW, xw_17b_12 hW, xo_0_3, xo_40, xw_32_6 hW, xw_32_5 hW, xw_32_l hW, xo_5, xo_20, xw_33_6 hW, xw_33_5 hW, xw_33_l hW, xw_16a hW, xw_16b hW, xo_21, xo_7, xo_45, xo_44, zk_A_add_35, xo_39i, xo_39r, xw_18a hW, xo_69, xo_6, xo_22, xo_11_7i, xo_11_7r, xo_11_7n, xo_1_7, xo_2_1, xo_0_2, xo_1_4, xo_1_5, xo_1_6, xo_11_8i, xo_11_8r, xo_11_8n, xo_55, xo_1_8, xo_15_8i, xo_15_8r, xo_15_8n, xo_54, nI_add, pk_mul, Nat.add_zero, z_w_s, z_w_n, h1, if_true, if_false, eq_self, Bool.true_eq_false, Bool.false_eq_true]
theorem z_ct_mono (P : Nat → Bool) {j k : Nat} (h : j ≤ k) : z_ct P j ≤ z_ct P k := by
  induction h with
  | refl => exact Nat.le_refl _
  | step _ ih => rw [z_ct_s]; exact Nat.le_trans ih (Nat.le_add_right _ _)
theorem z_ct_lt (P : Nat → Bool) {j k : Nat} (h : j < k) (hp : P j = true) : z_ct P j + 1 ≤ z_ct P k := by
  have := z_ct_mono P (Nat.succ_le_of_lt h)
  rw [Nat.succ_eq_add_one, z_ct_s, hp] at this
  exact this
theorem z_R_sz {fl : Bool} {kp : Nat × Nat} {n B : Nat} {V : zM} {s : Nat → Int32} (h : z_R fl kp n B V s) : ∃ sz, sz ≤ 600 ∧ V 4 1 = nI sz := by
  obtain ⟨_, sz, g1, g2, _⟩ := h.2.2.2.2.1
  exact ⟨sz, g1, g2⟩
/-- a letter is sent -/
theorem R_sd {fl : Bool} {kp : Nat × Nat} {n J B Bf : Nat} {V : zM} {s : Nat → Int32} (h : z_R fl kp n B V s) (hF : z_F n J Bf s) {i to k : Nat} (hi : i < n) (hk : k < 8) (grp ext who up : Int32) (h5 : k = 5 → ext = who) (h7 : k = 7 → ext = up) : z_R fl kp n B (g_ad i to k (V 0 2 + V 1 3) grp ext V) (f_sd i to k grp who up s) := by
  have hn : n ≤ 8 := hF.1.1.2
  obtain ⟨h0, h1, h2, hfl, h4, hc5⟩ := h
  obtain ⟨gk, sz, g1, g2, g3, g4, g5, g6, g7, g8, g9⟩ := id h4
  obtain ⟨d, d1, d2, d3⟩ := hF.2.2.2.1
  have hcn : z_cn V kp.1 ≤ kp.1 := z_ct_le _ _
  have hz : z_n (V 4 1) = sz := by rw [g2]; exact z_nN (by omega)
  have hz8 : z_n (s 8) = z_cn V kp.1 + (sz - kp.1) := by rw [g6]; exact z_nN (by omega)
  have hdif : V 4 1 - V 4 2 = nI (z_cn V kp.1 + (sz - kp.1)) := by
    rw [g2, g5, pk_sub (by omega), show sz - (kp.1 - z_cn V kp.1) = z_cn V kp.1 + (sz - kp.1) by omega]
  obtain ⟨q1, q2, q3, q4, q5, q6, q7⟩ := id h0
  unfold g_ad f_sd
  rw [hdif, hz, hz8]
  by_cases hfull : z_cn V kp.1 + (sz - kp.1) = 300
  · rw [if_neg (fun q => absurd ((nI_ltI (by omega) (by omega)).mp q.1) (by omega)), if_pos (by rw [g6, hfull])]
    refine ⟨⟨?_, ?_, ?_, ?_, ?_, ?_, ?_⟩, ?_, ?_, ?_, ?_, ?_⟩
    · rw [z_w_n _ _ _ _ _ _ (by omega), z_w_n _ _ _ _ _ _ (by omega), z_u_n _ _ _ _ (by omega), z_u_n _ _ _ _ (by omega)]; exact q1
    · rw [z_w_n _ _ _ _ _ _ (by omega), z_w_n _ _ _ _ _ _ (by omega), z_u_n _ _ _ _ (by omega), z_u_n _ _ _ _ (by omega)]; exact q2
    · rw [z_w_n _ _ _ _ _ _ (by omega), z_w_n _ _ _ _ _ _ (by omega), z_u_n _ _ _ _ (by omega), z_u_n _ _ _ _ (by omega)]; exact q3
    · intro j hj
      rw [z_w_n _ _ _ _ _ _ (by omega), z_w_n _ _ _ _ _ _ (by omega), z_u_n _ _ _ _ (by omega), z_u_n _ _ _ _ (by omega)]; exact q4 j hj
    · rw [z_w_s, z_u_s, q5]
    · intro j hj
      rw [z_w_n _ _ _ _ _ _ (by omega), z_u_n _ _ _ _ (by omega)]
      by_cases e : j = k
      · subst e; rw [z_w_s, z_u_s, q6 j hj]
      · rw [z_w_n _ _ _ _ _ _ (by omega), z_u_n _ _ _ _ (by omega)]; exact q6 j hj
    · intro j hj
      rw [z_w_n _ _ _ _ _ _ (by omega), z_w_n _ _ _ _ _ _ (by omega), z_u_n _ _ _ _ (by omega), z_u_n _ _ _ _ (by omega)]; exact q7 j hj
    · exact z_R1_eq h1 hn (by rw [z_w_c _ _ _ _ _ (by omega), z_w_c _ _ _ _ _ (by omega)]) (fun a _ _ => by rw [z_u_n _ _ _ _ (by omega), z_u_n _ _ _ _ (by omega)])
    · intro j hj
      rw [z_w_c _ _ _ _ _ (by omega), z_w_c _ _ _ _ _ (by omega)]
      obtain ⟨p1, p2, ⟨a, r1, r2, r3⟩, p4⟩ := h2 j hj
      refine ⟨p1, by rw [z_u_n _ _ _ _ (by omega), z_u_n _ _ _ _ (by omega)]; exact p2, ⟨a, r1, r2, fun x hx => ?_⟩, fun f f3 f12 => ?_⟩
      · rw [z_u_n _ _ (33 + j) _ (by omega), z_u_n _ _ (33 + j) _ (by omega), z_u_n _ _ (33 + x) _ (by omega), z_u_n _ _ (33 + x) _ (by omega)]; exact r3 x hx
      · rw [z_u_n _ _ _ _ (by omega), z_u_n _ _ _ _ (by omega)]; exact p4 f f3 f12
    · intro e j hj
      obtain ⟨p1, p2, p3⟩ := hfl e j hj
      rw [z_w_c _ _ _ _ _ (by omega), z_w_c _ _ _ _ _ (by omega), z_w_c _ _ _ _ _ (by omega), z_w_c _ _ _ _ _ (by omega), z_w_c _ _ _ _ _ (by omega), z_w_c _ _ _ _ _ (by omega)]
      exact ⟨fun x hx => by rw [z_u_n _ _ _ _ (by omega), z_u_n _ _ _ _ (by omega)]; exact p1 x hx, fun x hx => by rw [z_u_n _ _ _ _ (by omega), z_u_n _ _ _ _ (by omega)]; exact p2 x hx, fun x hx => by rw [z_u_n _ _ _ _ (by omega), z_u_n _ _ _ _ (by omega)]; exact p3 x hx⟩
    · exact z_R4_eq h4 (by rw [z_w_n _ _ _ _ _ _ (by omega), z_w_n _ _ _ _ _ _ (by omega)]) (fun f hf => by rw [z_w_n _ _ _ _ _ _ (by omega), z_w_n _ _ _ _ _ _ (by omega)]) (by rw [z_w_c _ _ _ _ _ (by omega), z_w_c _ _ _ _ _ (by omega)]) (by rw [z_u_n _ _ _ _ (by omega), z_u_n _ _ _ _ (by omega)]) (fun a _ _ => by rw [z_u_n _ _ _ _ (by omega), z_u_n _ _ _ _ (by omega)])
    · exact z_R5_eq hc5 (by rw [z_w_n _ _ _ _ _ _ (by omega), z_w_n _ _ _ _ _ _ (by omega)]) (by rw [z_w_c _ _ _ _ _ (by omega), z_w_c _ _ _ _ _ (by omega)]) (fun a _ => by rw [z_u_n _ _ _ _ (by omega), z_u_n _ _ _ _ (by omega)]) (fun j _ => by rw [z_w_c _ _ _ _ _ (by omega), z_w_c _ _ _ _ _ (by omega)])
  · have hne : ¬ s 8 = nI 300 := fun e => hfull ((nI_eq (by omega) (by omega)).mp (g6.symm.trans e))
    rw [if_pos ⟨nI_lt (by omega) (by omega), by rw [g2]; exact nI_lt (by omega) (by omega)⟩, if_neg hne]
    generalize hm : z_cn V kp.1 + (sz - kp.1) = m at *
    generalize hgL : g_lt (V (9 + 4 * i) 0) to k (V 0 2 + V 1 3) grp ext (V (10 + 4 * i)) = gL
    generalize hfL : z_lt i to k (s 6 + s 5) grp who up (fun t => s (41 + 28 * i + (8 + t))) = fL
    have hLR : z_LR fl gL fL := by
      obtain ⟨p1, _⟩ := h2 i hi
      rw [← hgL, ← hfL]
      refine ⟨fun t ht => ?_, fun e => ?_, fun e => ?_, fun e t ht => ?_⟩
      · rcases (show t = 0 ∨ t = 1 ∨ t = 2 ∨ t = 3 ∨ t = 4 by omega) with e | e | e | e | e
        · subst e; exact p1
        · subst e; rfl
        · subst e; rfl
        · subst e; show V 0 2 + V 1 3 = s 6 + s 5; rw [q3, q4 3 (by omega)]
        · subst e; rfl
      · exact h5 ((nI_eq (by omega) (by omega)).mp e)
      · exact h7 ((nI_eq (by omega) (by omega)).mp e)
      · rw [g_lt_6, z_lt_7]; exact (hfl e i hi).1 t ht
    have hVc : ∀ c, c ≠ 4 → c ≠ 5 → c ≠ 6 → z_w (z_bz (z_w V 6 k (V 6 k + nI 1)) (sz * 12) 12 gL) 4 1 (V 4 1 + nI 1) c = V c := fun c e1 e2 e3 => by
      rw [z_w_c _ _ _ _ _ e1, bz_c _ _ _ _ _ e2, z_w_c _ _ _ _ _ e3]
    have hV5 : z_w (z_bz (z_w V 6 k (V 6 k + nI 1)) (sz * 12) 12 gL) 4 1 (V 4 1 + nI 1) 5 = z_bw (V 5) (sz * 12) 12 gL := by
      rw [z_w_c _ _ _ _ _ (by omega), bz_5, z_w_c _ _ _ _ _ (by omega)]
    have hV4 : ∀ f, z_w (z_bz (z_w V 6 k (V 6 k + nI 1)) (sz * 12) 12 gL) 4 1 (V 4 1 + nI 1) 4 f = if f = 1 then nI (sz + 1) else V 4 f := fun f => by
      by_cases e : f = 1
      · subst e; rw [z_w_s, if_pos rfl, g2, nI_add]
      · rw [z_w_n _ _ _ _ _ _ (by omega), bz_c _ _ _ _ _ (by omega), z_w_c _ _ _ _ _ (by omega), if_neg e]
    have hV6 : ∀ j, z_w (z_bz (z_w V 6 k (V 6 k + nI 1)) (sz * 12) 12 gL) 4 1 (V 4 1 + nI 1) 6 j = if j = k then V 6 k + nI 1 else V 6 j := fun j => by
      rw [z_w_n _ _ _ _ _ _ (by omega), bz_c _ _ _ _ _ (by omega)]
      by_cases e : j = k
      · subst e; rw [z_w_s, if_pos rfl]
      · rw [z_w_n _ _ _ _ _ _ (by omega), if_neg e]
    generalize z_w (z_bz (z_w V 6 k (V 6 k + nI 1)) (sz * 12) 12 gL) 4 1 (V 4 1 + nI 1) = U at hVc hV5 hV4 hV6 ⊢
    have hslo : ∀ a, a ≠ 8 → a ≠ 9 + k → (a < 265 + 13 * m ∨ 265 + 13 * m + 13 ≤ a) → z_u (z_bw (z_u s (9 + k) (s (9 + k) + nI 1)) (265 + 13 * m) 13 fL) 8 (s 8 + nI 1) a = s a := fun a e1 e2 e3 => by
      rw [z_u_n _ _ _ _ e1, z_bw_out _ _ _ _ _ (by omega), z_u_n _ _ _ _ e2]
    have hsk : z_u (z_bw (z_u s (9 + k) (s (9 + k) + nI 1)) (265 + 13 * m) 13 fL) 8 (s 8 + nI 1) (9 + k) = s (9 + k) + nI 1 := by
      rw [z_u_n _ _ _ _ (by omega), z_bw_out _ _ _ _ _ (by omega), z_u_s]
    have hsin : ∀ t, t < 13 → z_u (z_bw (z_u s (9 + k) (s (9 + k) + nI 1)) (265 + 13 * m) 13 fL) 8 (s 8 + nI 1) (265 + 13 * m + t) = fL t := fun t ht => by
      rw [z_u_n _ _ _ _ (by omega), z_bw_in _ _ _ _ _ ht]
    have hs8 : z_u (z_bw (z_u s (9 + k) (s (9 + k) + nI 1)) (265 + 13 * m) 13 fL) 8 (s 8 + nI 1) 8 = nI (m + 1) := by
      rw [z_u_s, g6, nI_add]
    generalize z_u (z_bw (z_u s (9 + k) (s (9 + k) + nI 1)) (265 + 13 * m) 13 fL) 8 (s 8 + nI 1) = t at hslo hsk hsin hs8 ⊢
    have hcnj : ∀ j, j ≤ kp.1 → z_cn U j = z_cn V j := fun j hj => z_cn_eq (by rw [hVc 0 (by omega) (by omega) (by omega)]) j (fun a ha => by rw [hV5, z_bw_out _ _ _ _ _ (by omega)])
    refine ⟨⟨?_, ?_, ?_, ?_, ?_, ?_, ?_⟩, ?_, ?_, ?_, ?_, ?_⟩
    · rw [hVc 0 (by omega) (by omega) (by omega), hslo 0 (by omega) (by omega) (by omega)]; exact q1
    · rw [hVc 0 (by omega) (by omega) (by omega), hslo 1 (by omega) (by omega) (by omega)]; exact q2
    · rw [hVc 0 (by omega) (by omega) (by omega), hslo 6 (by omega) (by omega) (by omega)]; exact q3
    · intro j hj; rw [hVc 1 (by omega) (by omega) (by omega), hslo _ (by omega) (by omega) (by omega)]; exact q4 j hj
    · rw [hV4, if_neg (by omega), hslo 7 (by omega) (by omega) (by omega)]; exact q5
    · intro j hj
      rw [hV6]
      by_cases e : j = k
      · subst e; rw [if_pos rfl, hsk, q6 j hj]
      · rw [if_neg e, hslo _ (by omega) (by omega) (by omega)]; exact q6 j hj
    · intro j hj; rw [hVc 7 (by omega) (by omega) (by omega), hslo _ (by omega) (by omega) (by omega)]; exact q7 j hj
    · exact z_R1_eq h1 hn (hVc 2 (by omega) (by omega) (by omega)) (fun a _ _ => hslo a (by omega) (by omega) (by omega))
    · intro j hj
      rw [hVc _ (by omega) (by omega) (by omega)]
      have m3 : ∀ g, g < 12 → z_mf g < 28 := by intro g; unfold z_mf; split <;> (try split) <;> omega
      obtain ⟨p1, p2, ⟨a, r1, r2, r3⟩, p4⟩ := h2 j hj
      refine ⟨p1, by rw [hslo _ (by omega) (by omega) (by omega)]; exact p2, ⟨a, r1, r2, fun x hx => ?_⟩, fun f f3 f12 => ?_⟩
      · rw [hslo (33 + j) (by omega) (by omega) (by omega), hslo (33 + x) (by omega) (by omega) (by omega)]; exact r3 x hx
      · have := m3 f f12
        rw [hslo _ (by omega) (by omega) (by omega)]; exact p4 f f3 f12
    · intro e j hj
      obtain ⟨p1, p2, p3⟩ := hfl e j hj
      rw [hVc _ (by omega) (by omega) (by omega), hVc _ (by omega) (by omega) (by omega), hVc _ (by omega) (by omega) (by omega)]
      exact ⟨fun x hx => by rw [hslo _ (by omega) (by omega) (by omega)]; exact p1 x hx, fun x hx => by rw [hslo _ (by omega) (by omega) (by omega)]; exact p2 x hx, fun x hx => by rw [hslo _ (by omega) (by omega) (by omega)]; exact p3 x hx⟩
    · refine ⟨by rw [hcnj kp.1 (Nat.le_refl _)]; exact gk, sz + 1, by omega, by rw [hV4, if_pos rfl], by omega, g4, by rw [hV4, if_neg (by omega), hcnj kp.1 (Nat.le_refl _)]; exact g5, by rw [hs8, hcnj kp.1 (Nat.le_refl _)]; congr 1; omega, by rw [hcnj kp.1 (Nat.le_refl _)]; omega, fun j hj hd => ?_, fun j j1 j2 => ?_⟩
      · have hcj : z_cn V j ≤ j := z_ct_le _ _
        have hcj2 : z_cn V j + 1 ≤ z_cn V kp.1 := by
          rw [hV5, z_bw_out _ _ _ _ _ (by omega), hVc 0 (by omega) (by omega) (by omega)] at hd
          exact z_ct_lt _ hj (by simp [hd])
        rw [hV5, z_bw_out _ _ _ _ _ (by omega), hVc 0 (by omega) (by omega) (by omega)] at hd
        exact z_LR_eq (g8 j hj hd) (fun x hx => by rw [hV5, z_bw_out _ _ _ _ _ (by omega)]) (fun x hx => by rw [hcnj j (by omega)]; exact hslo _ (by omega) (by omega) (by omega))
      · rw [hcnj kp.1 (Nat.le_refl _)]
        by_cases e : j = sz
        · subst e
          exact z_LR_eq hLR (fun x hx => by rw [hV5, z_bw_in _ _ _ _ _ hx]) (fun x hx => by rw [show 265 + 13 * (z_cn V kp.1 + (j - kp.1)) + x = 265 + 13 * m + x by omega]; exact hsin x hx)
        · exact z_LR_eq (g9 j j1 (by omega)) (fun x hx => by rw [hV5, z_bw_out _ _ _ _ _ (by omega)]) (fun x hx => hslo _ (by omega) (by omega) (by omega))
    · exact z_R5_eq hc5 (by rw [hVc 0 (by omega) (by omega) (by omega)]) (hVc 8 (by omega) (by omega) (by omega)) (fun a ha => hslo a (by omega) (by omega) (by omega)) (fun j _ => by rw [hVc _ (by omega) (by omega) (by omega)])
