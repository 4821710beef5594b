/-! ===== the class acts ===== -/
def z_Kc (pb : Nat → Nat) (pn c n B : Nat) (s : Nat → Int32) (M M' : zM) : Prop := (∀ q, q ≠ 32 → (q < pb pn ∨ pb pn + 41 ≤ q) → M' q = M q) ∧ (∀ f, f ≠ 8 → f ≠ 9 → M' 32 f = M 32 f) ∧ M' 32 8 = nI ((pn + 1) % 8) ∧ M' 32 9 = nI (min (c + 1) 8) ∧ z_R true (0, 0) n B (fun k => M' (pb pn + k)) s
def z_Ka (nb : Nat) (pb : Nat → Nat) (pn c n B : Nat) (s : Nat → Int32) (M M' : zM) : Prop := (∀ q, q ≠ 32 → (q < pb pn ∨ pb pn + 41 ≤ q) → (q < nb ∨ nb + 41 ≤ q) → M' q = M q) ∧ (∀ f, f ≠ 8 → f ≠ 9 → M' 32 f = M 32 f) ∧ M' 32 8 = nI ((pn + 1) % 8) ∧ M' 32 9 = nI (min (c + 1) 8) ∧ z_R true (0, 0) n B (fun k => M' (pb pn + k)) s
section
variable {G : zG} {nb : Nat} {pb : Nat → Nat} {n J B pn c : Nat} {s : Nat → Int32}
theorem HC_B (hC : z_HC G nb pb) {k : Nat} (hk : k < 8) : z_HW G (pb k) := (hC.2.2.2.2.2.2.2.2.1 k hk).2
theorem HC_bs (hC : z_HC G nb pb) : z_Bs nb pb := hC.2.2.2.2.2.2.2.2.2
theorem HC_dj (hC : z_HC G nb pb) {k : Nat} (hk : k < 8) : nb + 41 ≤ pb k ∨ pb k + 41 ≤ nb := by
  have b := HC_bs hC
  have h := b.2.1 k hk
  rcases z_base_dj h.1 b.1 h.2 with q | q
  · exact Or.inr q
  · exact Or.inl q
theorem HC_blo (hC : z_HC G nb pb) {k : Nat} (hk : k < 8) : 40 ≤ pb k ∧ pb k + 41 ≤ 452 ∧ (pb k + 41 ≤ 81 ∨ 124 ≤ pb k) := z_base_lo ((HC_bs hC).2.1 k hk).1
theorem md_8 : ∀ pn, pn < 8 → nI (pn + 1) - nI (pn + 1) / nI 8 * nI 8 = nI ((pn + 1) % 8) := by decide +kernel
theorem md_7 : ∀ pn, pn < 8 → nI pn + nI 8 - nI 1 - (nI pn + nI 8 - nI 1) / nI 8 * nI 8 = nI ((pn + 7) % 8) := by decide +kernel
theorem k_keep (hC : z_HC G nb pb) (M : zM) (hpn : pn < 8) (hc : c ≤ 8) (h8 : M 32 8 = nI pn) (h9 : M 32 9 = nI c) (h : z_R true (0, 0) n B (fun k => M (nb + k)) s) (hF : z_F n J B s) (hN : ∀ i, i < 8 → M (pb pn + (9 + 4 * i)) 0 = nI i) : ∃ M', z_call 24 [.ref 32] G M = some (.inl none, G, M') ∧ z_Kc pb pn c n B s M M' := by
  have hW := HC_B hC hpn
  have lo := HC_blo hC hpn
  have dj := HC_dj hC hpn
  obtain ⟨V', c1, r1⟩ := s_W_copyFrom hW (HC_W hC) dj M (fun k => M (pb pn + k)) h hF hN
  have e := wr_id M (pb pn)
  have w32 : ∀ V, wr M (pb pn) V 32 = M 32 := fun V => wr_C lo.1 M V (by omega)
  have m8 := md_8 pn hpn
  have n8 : ¬ nI 8 = 0 := by decide
  have n98 : ∀ x, z_u (M 32) 8 x 9 = nI c := fun x => by rw [z_u_n _ _ _ _ (by omega)]; exact h9
  have fin : ∀ f : Nat → Int32, f 8 = nI ((pn + 1) % 8) → f 9 = nI (min (c + 1) 8) → (∀ k, k ≠ 8 → k ≠ 9 → f k = M 32 k) → z_Kc pb pn c n B s M (z_sA (wr M (pb pn) V') 32 f) := by
    intro f f8 f9 fo
    refine ⟨fun q h1 h2 => by rw [z_sA_n _ _ _ _ h1, wr_o _ _ _ _ h2], fun k a b => by rw [z_sA_s]; exact fo k a b, by rw [z_sA_s]; exact f8, by rw [z_sA_s]; exact f9, z_R_V r1 hF.1.1.2 (fun k hk => ?_)⟩
    show z_sA (wr M (pb pn) V') 32 f (pb pn + k) = V' k
    rw [z_sA_n _ _ _ _ (by omega), wr_k _ _ _ _ hk]
  by_cases hc8 : c < 8
  · have hlt : nI c < nI 8 := nI_lt hc8 (by omega)
    refine ⟨z_sA (wr M (pb pn) V') 32 (z_u (z_u (M 32) 8 (nI ((pn + 1) % 8))) 9 (nI (c + 1))), ?_, fin _ (by rw [z_u_n _ _ _ _ (by omega), z_u_s]) (by rw [z_u_s, show min (c + 1) 8 = c + 1 by omega]) (fun k a b => by rw [z_u_n _ _ _ _ b, z_u_n _ _ _ _ a])⟩
    refine (congrArg (z_call 24 [.ref 32] G) e.symm).trans ?_
    simp (disch := first | assumption | omega | exact Nat.le_of_ble_eq_true rfl | decide) only [ze_C_keepPast, zk_C_keepPast_0, xo_2_0, xc_17_7 hC, xc_17_5 hC, xc_16 hC, xw_34 hW, xw_64w_2 hW, xk_v, xk_n, xo_5, xo_20, xo_6, xo_30, xc_18 hC, xo_45, zk_C_keepPast_38, xo_39i, xo_39r, xo_55, zk_C_keepPast_48, xo_69, xc_34 hC, w32, h8, h9, c1, m8, hlt, n98, z_sA_s, z_sA_sA, nI_add, if_true, if_false, eq_self, Bool.true_eq_false, Bool.false_eq_true]
  · have hlt : ¬ nI c < nI 8 := nI_nlt (by omega) (by omega)
    have hce : c = 8 := by omega
    subst hce
    refine ⟨z_sA (wr M (pb pn) V') 32 (z_u (M 32) 8 (nI ((pn + 1) % 8))), ?_, fin _ (by rw [z_u_s]) (by rw [z_u_n _ _ _ _ (by omega)]; exact h9) (fun k a b => by rw [z_u_n _ _ _ _ a])⟩
    refine (congrArg (z_call 24 [.ref 32] G) e.symm).trans ?_
    simp (disch := first | assumption | omega | exact Nat.le_of_ble_eq_true rfl | decide) only [ze_C_keepPast, zk_C_keepPast_0, xo_2_0, xc_17_7 hC, xc_17_5 hC, xc_16 hC, xw_34 hW, xw_64w_2 hW, xk_v, xk_n, xo_5, xo_20, xo_6, xo_30, xc_18 hC, xo_45, xo_39i, xo_39r, xo_55, zk_C_keepPast_48, xo_69, xc_34 hC, w32, h8, h9, c1, m8, hlt, n98, z_sA_s, z_sA_sA, nI_add, if_true, if_false, eq_self, Bool.true_eq_false, Bool.false_eq_true]
/-- the world is told anew -/
theorem Kc_R (hC : z_HC G nb pb) {M M1 : zM} (hpn : pn < 8) (hn : n ≤ 8) (k1 : z_Kc pb pn c n B s M M1) (h : z_R true (0, 0) n B (fun k => M (nb + k)) s) : z_R true (0, 0) n B (fun k => M1 (nb + k)) s := by
  have dj := HC_dj hC hpn
  have lo := HC_lo hC
  exact z_R_V h hn (fun k hk => k1.1 _ (by omega) (by omega))
theorem Ka_fin (hC : z_HC G nb pb) {M M1 V : zM} (hpn : pn < 8) (hn : n ≤ 8) (k1 : z_Kc pb pn c n B s M M1) : z_Ka nb pb pn c n B s M (wr M1 nb V) := by
  have dj := HC_dj hC hpn
  have lo := HC_lo hC
  obtain ⟨p1, p2, p3, p4, p5⟩ := k1
  have w32 : wr M1 nb V 32 = M1 32 := wr_C lo.1 M1 V (by omega)
  refine ⟨fun q a b d => by rw [wr_o _ _ _ _ d]; exact p1 q a b, fun f a b => by rw [w32]; exact p2 f a b, by rw [w32]; exact p3, by rw [w32]; exact p4, z_R_V p5 hn (fun k hk => ?_)⟩
  exact wr_o _ _ _ _ (by omega)
theorem R_wr {M1 V : zM} {B' : Nat} {t : Nat → Int32} (hn : n ≤ 8) (r : z_R true (0, 0) n B' V t) : z_R true (0, 0) n B' (fun k => wr M1 nb V (nb + k)) t := z_R_V r hn (fun k hk => wr_k _ _ _ _ hk)
theorem k_ticks_f (hC : z_HC G nb pb) (M : zM) {x : Int32} (hx : zf_in x (nI 1) (nI 100) = false) : z_call 75 [.ref 32, .int x] G M = some (.inr 1, z_thr G, rfc M 1) := by
  have hb := k_ref1 hC M
  have hW := HC_P hC
  by_cases a1 : x < nI 1
  · simp (disch := first | assumption | omega | exact Nat.le_of_ble_eq_true rfl | decide) only [ze_C_ticks, zk_C_ticks_0, xo_2_0, xo_0_1, xo_5, xo_44, xo_6, xo_46, xo_54, zk_C_ticks_16, xo_55, zk_C_ticks_17, xc_64_2 hC, xw_64w_2 hW, xk_v, xk_n, xc_64_1 hC, xc_17_5 hC, xo_70, a1, hb, xk_x, if_true, if_false, eq_self, Bool.true_eq_false, Bool.false_eq_true]
  · by_cases a2 : nI 100 < x
    · simp (disch := first | assumption | omega | exact Nat.le_of_ble_eq_true rfl | decide) only [ze_C_ticks, zk_C_ticks_0, xo_2_0, xo_0_1, xo_5, xo_44, zk_C_ticks_6, xo_6, xo_46, xo_54, zk_C_ticks_16, xo_55, zk_C_ticks_17, xc_64_2 hC, xw_64w_2 hW, xk_v, xk_n, xc_64_1 hC, xc_17_5 hC, xo_70, a1, a2, hb, xk_x, if_true, if_false, eq_self, Bool.true_eq_false, Bool.false_eq_true]
    · unfold zf_in at hx
      exact absurd ⟨a1, a2⟩ (of_decide_eq_false hx)
theorem k_ticks (hC : z_HC G nb pb) (M : zM) (hpn : pn < 8) (hc : c ≤ 8) (h8 : M 32 8 = nI pn) (h9 : M 32 9 = nI c) (h : z_R true (0, 0) n B (fun k => M (nb + k)) s) (hF : z_F n J B s) (hB : B ≤ 60000000) (hN : ∀ i, i < 8 → M (pb pn + (9 + 4 * i)) 0 = nI i) {N : Nat} (h1 : 1 ≤ N) (hN1 : N ≤ 100) : ∃ M', z_call 75 [.ref 32, .int (nI N)] G M = some (.inl (some (.int (nI (f_ra n N s).2))), G, M') ∧ z_Ka nb pb pn c n B s M M' ∧ z_R true (0, 0) n (B + 308 * N) (fun k => M' (nb + k)) (f_ra n N s).1 := by
  have hn := hF.1.1.2
  have hW := HC_W hC
  obtain ⟨M1, c1, k1⟩ := k_keep hC M hpn hc h8 h9 h hF hN
  obtain ⟨V', c2, r2, f2⟩ := s_W_run hW M1 (Kc_R hC hpn hn k1 h) hF hN1 (by omega) (by omega)
  refine ⟨wr M1 nb V', ?_, Ka_fin hC hpn hn k1, R_wr hn r2⟩
  rw [← wr_id M1 nb] at c1
  have hb := k_need1 hC M
  have a1 : ¬ nI N < nI 1 := nI_nlt h1 (by omega)
  have a2 : ¬ nI 100 < nI N := nI_nlt hN1 (by omega)
  unfold f_ra
  simp (disch := first | assumption | omega | exact Nat.le_of_ble_eq_true rfl | decide) only [ze_C_ticks, zk_C_ticks_0, xo_2_0, xo_0_1, xo_5, xo_44, zk_C_ticks_6, xo_6, xo_46, zk_C_ticks_12, xo_54, xo_55, zk_C_ticks_17, xc_64_2 hC, xw_64w_2 hW, xk_v, xk_n, xc_64_1 hC, xc_17_5 hC, xo_70, a1, a2, hb, c1, c2, if_true, if_false, eq_self, Bool.true_eq_false, Bool.false_eq_true]
theorem k_cut_f (hC : z_HC G nb pb) (M : zM) (h : z_R true (0, 0) n B (fun k => M (nb + k)) s) (hF : z_F n J B s) {x : Int32} (hx : zf_in x (nI 0) (nI (2 ^ n - 1)) = false) : z_call 81 [.ref 32, .int x] G M = some (.inr 1, z_thr G, rfc M 1) := by
  have e := wr_id M nb
  have hW := HC_W hC
  have hs := k_set hW M (fun k => M (nb + k)) (R_00 h hF) hF.1.1.2 x
  rw [hx, show z_b false = nI 0 from rfl] at hs
  have hb := k_ref1 hC (wr M nb (fun k => M (nb + k)))
  refine (congrArg (z_call 81 [.ref 32, .int x] G) e.symm).trans ?_
  refine Eq.trans (b := some (.inr 1, z_thr G, rfc (wr M nb (fun k => M (nb + k))) 1)) ?_ (by rw [e])
  simp (disch := first | assumption | omega | exact Nat.le_of_ble_eq_true rfl | decide) only [ze_C_cut, zk_C_cut_0, xo_2_0, xc_17_5 hC, xo_0_1, xw_64w_2 hW, xc_64_2 hC, xk_v, xk_n, xc_64_1 hC, xo_70, hs, hb, xk_x, if_true, if_false, eq_self, Bool.true_eq_false, Bool.false_eq_true]
theorem k_cut (hC : z_HC G nb pb) (M : zM) (hpn : pn < 8) (hc : c ≤ 8) (h8 : M 32 8 = nI pn) (h9 : M 32 9 = nI c) (h : z_R true (0, 0) n B (fun k => M (nb + k)) s) (hF : z_F n J B s) (hN : ∀ i, i < 8 → M (pb pn + (9 + 4 * i)) 0 = nI i) {x : Int32} (hx : zf_in x (nI 0) (nI (2 ^ n - 1)) = true) : ∃ M', z_call 81 [.ref 32, .int x] G M = some (.inl (some (.int (nI (f_cu x n s).2))), G, M') ∧ z_Ka nb pb pn c n B s M M' ∧ z_R true (0, 0) n B (fun k => M' (nb + k)) (f_cu x n s).1 := by
  have hn := hF.1.1.2
  have e := wr_id M nb
  have hW := HC_W hC
  have hp2 : 2 ^ n ≤ 2 ^ 8 := Nat.pow_le_pow_right (by omega) hn
  obtain ⟨u, hu, eu⟩ : ∃ u, u < 256 ∧ x = nI u := by
    rcases rg_1 x (2 ^ n) (by omega) with ⟨j, hj, e⟩ | hx2
    · exact ⟨j, by omega, e⟩
    · rw [in_f (by omega) (by rw [Nat.sub_add_cancel Nat.one_le_two_pow]; exact hx2)] at hx; exact absurd hx (by decide)
  subst eu
  have hs := k_set hW M (fun k => M (nb + k)) (R_00 h hF) hn (nI u)
  rw [hx, show z_b true = nI 1 from rfl] at hs
  have hb := k_need1 hC (wr M nb (fun k => M (nb + k)))
  obtain ⟨M1, c1, k1⟩ := k_keep hC M hpn hc h8 h9 h hF hN
  obtain ⟨V', c2, r2⟩ := s_W_sever hW M1 (Kc_R hC hpn hn k1 h) hF hu
  refine ⟨wr M1 nb V', ?_, Ka_fin hC hpn hn k1, R_wr hn r2⟩
  rw [← wr_id M1 nb, ← e] at c1
  refine (congrArg (z_call 81 [.ref 32, .int (nI u)] G) e.symm).trans ?_
  simp (disch := first | assumption | omega | exact Nat.le_of_ble_eq_true rfl | decide) only [ze_C_cut, zk_C_cut_0, xo_2_0, xc_17_5 hC, xo_0_1, xw_64w_2 hW, xc_64_2 hC, xk_v, xk_n, xc_64_1 hC, xo_70, hs, hb, c1, c2, if_true, if_false, eq_self, Bool.true_eq_false, Bool.false_eq_true]
theorem k_heal (hC : z_HC G nb pb) (M : zM) (hpn : pn < 8) (hc : c ≤ 8) (h8 : M 32 8 = nI pn) (h9 : M 32 9 = nI c) (h : z_R true (0, 0) n B (fun k => M (nb + k)) s) (hF : z_F n J B s) (hN : ∀ i, i < 8 → M (pb pn + (9 + 4 * i)) 0 = nI i) : ∃ M', z_call 23 [.ref 32] G M = some (.inl (some (.int (nI (f_hc n s / 2)))), G, M') ∧ z_Ka nb pb pn c n B s M M' ∧ z_R true (0, 0) n B (fun k => M' (nb + k)) (f_he n s) := by
  have hn := hF.1.1.2
  have hW := HC_W hC
  obtain ⟨M1, c1, k1⟩ := k_keep hC M hpn hc h8 h9 h hF hN
  obtain ⟨V', c2, r2⟩ := s_W_mend hW M1 (Kc_R hC hpn hn k1 h) hF
  refine ⟨wr M1 nb V', ?_, Ka_fin hC hpn hn k1, R_wr hn r2⟩
  rw [← wr_id M1 nb] at c1
  simp (disch := first | assumption | omega | exact Nat.le_of_ble_eq_true rfl | decide) only [ze_C_heal, zk_C_heal_0, xo_2_0, xc_64_1 hC, xw_64w_1 hW, xk_v, xk_n, xc_17_5 hC, xo_70, c1, c2, if_true, if_false, eq_self, Bool.true_eq_false, Bool.false_eq_true]
theorem k_fall_f0 (hC : z_HC G nb pb) (M : zM) (h : z_R true (0, 0) n B (fun k => M (nb + k)) s) (hF : z_F n J B s) {x : Int32} (hx : x < 0 ∨ ¬ x < nI n) : z_call 85 [.ref 32, .int x] G M = some (.inr 0, z_thr G, rfc M 0) := by
  have hr := k_mem1 hC M (fun k => M (nb + k)) (R_00 h hF) hx
  rw [wr_id] at hr
  have hW := HC_P hC
  simp (disch := first | assumption | omega | exact Nat.le_of_ble_eq_true rfl | decide) only [ze_C_fall, zk_C_fall_0, xo_2_0, xo_0_1, xc_64_2 hC, xw_64w_2 hW, xw_64a_2 hW, xk_v, xk_n, xc_17_5 hC, xw_17w_5 hW, xw_17w_6 hW, xw_34 hW, xw_16b hW, xo_5, xo_42, xo_54, xo_55, xc_64_1 hC, xo_70, hr, xk_x, if_true, if_false, eq_self, Bool.true_eq_false, Bool.false_eq_true]
theorem k_fall_f1 (hC : z_HC G nb pb) (M : zM) (h : z_R true (0, 0) n B (fun k => M (nb + k)) s) (hF : z_F n J B s) {i : Nat} (hi : i < n) (hd : s (41 + 28 * i) = nI 2) : z_call 85 [.ref 32, .int (nI i)] G M = some (.inr 2, z_thr G, rfc M 2) := by
  have e := wr_id M nb
  have hn := hF.1.1.2
  have hW := HC_W hC
  have hr := k_mem0 hC M (fun k => M (nb + k)) (R_00 h hF) hn hi
  have hst : (fun k => M (nb + k)) (9 + 4 * i) 3 = nI 2 := ((h.2.2.1 i hi).2.2.2 3 (by omega) (by omega)).trans hd
  generalize (fun k => M (nb + k)) = V at e hr hst
  have hb := k_ref2 hC (wr M nb V)
  refine (congrArg (z_call 85 [.ref 32, .int (nI i)] G) e.symm).trans ?_
  refine Eq.trans (b := some (.inr 2, z_thr G, rfc (wr M nb V) 2)) ?_ (by rw [e])
  simp (disch := first | assumption | omega | exact Nat.le_of_ble_eq_true rfl | decide) only [ze_C_fall, zk_C_fall_0, xo_2_0, xo_0_1, xc_64_2 hC, xw_64w_2 hW, xw_64a_2 hW, xk_v, xk_n, xc_17_5 hC, xw_17w_5 hW, xw_17w_6 hW, xw_34 hW, xw_16b hW, xo_5, xo_42, xo_54, zk_C_fall_26, xo_55, zk_C_fall_27, xc_64_1 hC, xo_70, hr, hst, hb, xk_x, if_true, if_false, eq_self, Bool.true_eq_false, Bool.false_eq_true]
theorem k_fall (hC : z_HC G nb pb) (M : zM) (hpn : pn < 8) (hc : c ≤ 8) (h8 : M 32 8 = nI pn) (h9 : M 32 9 = nI c) (h : z_R true (0, 0) n B (fun k => M (nb + k)) s) (hF : z_F n J B s) (hB : B ≤ 60000000) (hN : ∀ i, i < 8 → M (pb pn + (9 + 4 * i)) 0 = nI i) {i : Nat} (hi : i < n) (hd : ¬ s (41 + 28 * i) = nI 2) : ∃ M', z_call 85 [.ref 32, .int (nI i)] G M = some (.inl (some (.int (nI (f_lc i s)))), G, M') ∧ z_Ka nb pb pn c n B s M M' ∧ z_R true (0, 0) n B (fun k => M' (nb + k)) (f_fa i s) := by
  have e := wr_id M nb
  have hn := hF.1.1.2
  have hW := HC_W hC
  obtain ⟨M1, c1, k1⟩ := k_keep hC M hpn hc h8 h9 h hF hN
  obtain ⟨V', c2, r2⟩ := s_W_drop (i := i) hW M1 (Kc_R hC hpn hn k1 h) hn hi
  have c3 := s_A_underWayTo (i := i) hW M1 r2 (J := J) (Bf := B + 1) (by
    have := F_tu (i := i) hF hi (by omega)
    unfold f_tu at this
    rw [if_neg hd] at this
    exact this)
  have el : f_lc i (f_fa i s) = f_lc i s := by
    have a8 : f_fa i s 8 = s 8 := by unfold f_fa; rw [z_u_n _ _ _ _ (by omega), z_u_n _ _ _ _ (by omega)]
    unfold f_lc
    rw [a8]
    refine z_ct_congr _ (fun k _ => ?_)
    have : f_fa i s (265 + 13 * k + 1) = s (265 + 13 * k + 1) := by unfold f_fa; rw [z_u_n _ _ _ _ (by omega), z_u_n _ _ _ _ (by omega)]
    rw [this]
  rw [el] at c3
  refine ⟨wr M1 nb V', ?_, Ka_fin hC hpn hn k1, R_wr hn r2⟩
  rw [← wr_id M1 nb, ← e] at c1
  have hr := k_mem0 hC M (fun k => M (nb + k)) (R_00 h hF) hn hi
  have hst : (fun k => M (nb + k)) (9 + 4 * i) 3 = s (41 + 28 * i) := (h.2.2.1 i hi).2.2.2 3 (by omega) (by omega)
  generalize (fun k => M (nb + k)) = V at e hr hst c1
  have hb := k_need2 hC (wr M nb V)
  refine (congrArg (z_call 85 [.ref 32, .int (nI i)] G) e.symm).trans ?_
  simp (disch := first | assumption | omega | exact Nat.le_of_ble_eq_true rfl | decide) only [ze_C_fall, zk_C_fall_0, xo_2_0, xo_0_1, xc_64_2 hC, xw_64w_2 hW, xw_64a_2 hW, xk_v, xk_n, xc_17_5 hC, xw_17w_5 hW, xw_17w_6 hW, xw_34 hW, xw_16b hW, xo_5, xo_42, zk_C_fall_22, xo_54, xo_55, zk_C_fall_27, xc_64_1 hC, xo_70, hr, hst, hd, hb, c1, c2, c3, if_true, if_false, eq_self, Bool.true_eq_false, Bool.false_eq_true]
theorem k_rise_f0 (hC : z_HC G nb pb) (M : zM) (h : z_R true (0, 0) n B (fun k => M (nb + k)) s) (hF : z_F n J B s) {x : Int32} (hx : x < 0 ∨ ¬ x < nI n) : z_call 92 [.ref 32, .int x] G M = some (.inr 0, z_thr G, rfc M 0) := by
  have hr := k_mem1 hC M (fun k => M (nb + k)) (R_00 h hF) hx
  rw [wr_id] at hr
  have hW := HC_P hC
  simp (disch := first | assumption | omega | exact Nat.le_of_ble_eq_true rfl | decide) only [ze_C_rise, zk_C_rise_0, xo_2_0, xo_0_1, xc_64_2 hC, xw_64w_2 hW, xk_v, xk_n, xc_17_5 hC, xw_17w_5 hW, xw_34 hW, xw_16b hW, xo_5, xo_43, xo_54, xo_55, xc_64_1 hC, xo_70, hr, xk_x, if_true, if_false, eq_self, Bool.true_eq_false, Bool.false_eq_true]
theorem k_rise_f1 (hC : z_HC G nb pb) (M : zM) (h : z_R true (0, 0) n B (fun k => M (nb + k)) s) (hF : z_F n J B s) {i : Nat} (hi : i < n) (hd : ¬ s (41 + 28 * i) = nI 2) : z_call 92 [.ref 32, .int (nI i)] G M = some (.inr 2, z_thr G, rfc M 2) := by
  have e := wr_id M nb
  have hn := hF.1.1.2
  have hW := HC_W hC
  have hr := k_mem0 hC M (fun k => M (nb + k)) (R_00 h hF) hn hi
  have hst : (fun k => M (nb + k)) (9 + 4 * i) 3 = s (41 + 28 * i) := (h.2.2.1 i hi).2.2.2 3 (by omega) (by omega)
  generalize (fun k => M (nb + k)) = V at e hr hst
  have hb := k_ref2 hC (wr M nb V)
  refine (congrArg (z_call 92 [.ref 32, .int (nI i)] G) e.symm).trans ?_
  refine Eq.trans (b := some (.inr 2, z_thr G, rfc (wr M nb V) 2)) ?_ (by rw [e])
  simp (disch := first | assumption | omega | exact Nat.le_of_ble_eq_true rfl | decide) only [ze_C_rise, zk_C_rise_0, xo_2_0, xo_0_1, xc_64_2 hC, xw_64w_2 hW, xk_v, xk_n, xc_17_5 hC, xw_17w_5 hW, xw_34 hW, xw_16b hW, xo_5, xo_43, xo_54, zk_C_rise_26, xo_55, zk_C_rise_27, xc_64_1 hC, xo_70, hr, hst, hd, hb, xk_x, if_true, if_false, eq_self, Bool.true_eq_false, Bool.false_eq_true]
theorem k_rise (hC : z_HC G nb pb) (M : zM) (hpn : pn < 8) (hc : c ≤ 8) (h8 : M 32 8 = nI pn) (h9 : M 32 9 = nI c) (h : z_R true (0, 0) n B (fun k => M (nb + k)) s) (hF : z_F n J B s) (hB : B ≤ 60000000) (hN : ∀ i, i < 8 → M (pb pn + (9 + 4 * i)) 0 = nI i) {i : Nat} (hi : i < n) (hd : s (41 + 28 * i) = nI 2) : ∃ M', z_call 92 [.ref 32, .int (nI i)] G M = some (.inl (some (.int (f_al i s (41 + 28 * i + 3)))), G, M') ∧ z_Ka nb pb pn c n B s M M' ∧ z_R true (0, 0) n (B + 1) (fun k => M' (nb + k)) (f_al i s) := by
  have e := wr_id M nb
  have hn := hF.1.1.2
  have hW := HC_W hC
  obtain ⟨M1, c1, k1⟩ := k_keep hC M hpn hc h8 h9 h hF hN
  obtain ⟨V', c2, r2⟩ := s_W_goAlone (i := i) hW M1 (Kc_R hC hpn hn k1 h) hF hi (by omega)
  refine ⟨wr M1 nb V', ?_, Ka_fin hC hpn hn k1, R_wr hn r2⟩
  rw [← wr_id M1 nb, ← e] at c1
  have hr := k_mem0 hC M (fun k => M (nb + k)) (R_00 h hF) hn hi
  have hst : (fun k => M (nb + k)) (9 + 4 * i) 3 = nI 2 := ((h.2.2.1 i hi).2.2.2 3 (by omega) (by omega)).trans hd
  have hg : V' (9 + 4 * i) 6 = f_al i s (41 + 28 * i + 3) := (r2.2.2.1 i hi).2.2.2 6 (by omega) (by omega)
  generalize (fun k => M (nb + k)) = V at e hr hst c1
  have hb := k_need2 hC (wr M nb V)
  refine (congrArg (z_call 92 [.ref 32, .int (nI i)] G) e.symm).trans ?_
  simp (disch := first | assumption | omega | exact Nat.le_of_ble_eq_true rfl | decide) only [ze_C_rise, zk_C_rise_0, xo_2_0, xo_0_1, xc_64_2 hC, xw_64w_2 hW, xk_v, xk_n, xc_17_5 hC, xw_17w_5 hW, xw_34 hW, xw_16b hW, xo_5, xo_43, zk_C_rise_22, xo_54, xo_55, zk_C_rise_27, xc_64_1 hC, xo_70, hr, hst, hb, c1, c2, hg, if_true, if_false, eq_self, Bool.true_eq_false, Bool.false_eq_true]
theorem k_rule_f (hC : z_HC G nb pb) (M : zM) (hS : z_St G M) {x v : Int32} (hx : q_rule x v = false) : z_call 94 [.ref 32, .int x, .int v] G M = some (.inr 1, z_thr G, rfc M 1) := by
  have hr := k_rule hS x v
  rw [hx, show z_b false = nI 0 from rfl] at hr
  have hb := k_ref1 hC M
  have hW := HC_P hC
  simp (disch := first | assumption | omega | exact Nat.le_of_ble_eq_true rfl | decide) only [ze_C_rule, zk_C_rule_0, xo_2_0, xo_0_1, xo_0_2, xo_63_2, xk_v, xk_n, xc_64_2 hC, xc_64_1 hC, xc_17_5 hC, xw_17w_3 hW, xw_32_1 hW, xo_32, xo_10_3i, xo_10_3r, xo_10_3n, xw_33_1 hW, xo_33, xo_0_3, xo_70, hr, hb, xk_x, if_true, if_false, eq_self, Bool.true_eq_false, Bool.false_eq_true]
theorem k_rule_t (hC : z_HC G nb pb) (M : zM) (hpn : pn < 8) (hc : c ≤ 8) (h8 : M 32 8 = nI pn) (h9 : M 32 9 = nI c) (h : z_R true (0, 0) n B (fun k => M (nb + k)) s) (hF : z_F n J B s) (hN : ∀ i, i < 8 → M (pb pn + (9 + 4 * i)) 0 = nI i) (hS : z_St G M) {k : Nat} (hk : k < 4) {v : Int32} (hx : q_rule (nI k) v = true) : ∃ M', z_call 94 [.ref 32, .int (nI k), .int v] G M = some (.inl (some (.int (s (2 + k)))), G, M') ∧ z_Ka nb pb pn c n B s M M' ∧ z_R true (0, 0) n B (fun k => M' (nb + k)) (z_u s (2 + k) v) := by
  have hn := hF.1.1.2
  have hW := HC_W hC
  obtain ⟨M1, c1, k1⟩ := k_keep hC M hpn hc h8 h9 h hF hN
  have h2 := Kc_R hC hpn hn k1 h
  refine ⟨wr M1 nb (z_w (fun k => M1 (nb + k)) 1 k v), ?_, Ka_fin hC hpn hn k1, R_wr hn (R_ru h2 hn hk v)⟩
  rw [← wr_id M1 nb] at c1
  have hr := k_rule hS (nI k) v
  rw [hx, show z_b true = nI 1 from rfl] at hr
  have hb := k_need1 hC M
  have hru : (fun k => M1 (nb + k)) 1 k = s (2 + k) := h2.1.2.2.2.1 k hk
  generalize (fun k => M1 (nb + k)) = V at c1 hru
  simp (disch := first | assumption | omega | exact Nat.le_of_ble_eq_true rfl | decide) only [ze_C_rule, zk_C_rule_0, xo_2_0, xo_0_1, xo_0_2, xo_63_2, xk_v, xk_n, xc_64_2 hC, xc_64_1 hC, xc_17_5 hC, xw_17w_3 hW, xw_32_1 hW, xo_32, xo_10_3i, xo_10_3r, xo_10_3n, xw_33_1 hW, xo_33, xo_0_3, xo_70, hr, hb, c1, hru, if_true, if_false, eq_self, Bool.true_eq_false, Bool.false_eq_true]
end
