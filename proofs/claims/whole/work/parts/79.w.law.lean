/-! ===== the law ===== -/
theorem and_31 (y : Int32) : ∃ d, d < 32 ∧ y &&& nI 31 = nI d := by
  rw [z_toN y, z_andNN]
  exact ⟨_, Nat.lt_of_le_of_lt Nat.and_le_right (by omega), rfl⟩
theorem zsw_11 : ∀ d, d < 32 → z_swt 11 (nI d) = [176, 249, 305, 318, 374, 430, 443, 499, 555, 623, 636, 692, 760, 840, 908, 983, 1051, 1119, 1187, 1255, 1268, 1336, 1349, 1405, 1461, 1529, 1597, 1665, 1745, 1759].getD d 1784 := by decide +kernel
section
variable {t len : Nat} {sc : Nat → Int32} {G : zG} {M : zM} {w5 w6 : Value}
theorem S_none (hJ : z_J t len sc G M) : z_Sx 1784 t len sc G M w5 w6 := by
  obtain ⟨nb, pb, n, J, B, tp, pn, c, hG, h1, hB, hm⟩ := hJ
  exact ⟨G, M, w5, w6, rfl, nb, pb, n, J, B, tp, pn, c, JG_k hG (Gk_refl _) ⟨Nat.le_add_right _ 1, Nat.le_add_right _ 6⟩ (fun _ _ => rfl), h1, b_up hB, hm⟩
theorem S_any (hJ : z_J t len sc G M) (hi : 6 * t + 6 ≤ len) (hl : len ≤ 3072) {d : Nat} (hd : d < 32) : z_Sx (z_swt 11 (nI d)) t len sc G M w5 w6 := by
  rw [zsw_11 d hd]
  match d, hd with
  | 0, _ => exact S_feed hJ hi hl
  | 1, _ => exact S_text hJ hi hl
  | 2, _ => exact S_fault hJ hi hl
  | 3, _ => exact S_ticks hJ hi hl
  | 4, _ => exact S_cut hJ hi hl
  | 5, _ => exact S_heal hJ hi hl
  | 6, _ => exact S_fall hJ hi hl
  | 7, _ => exact S_rise hJ hi hl
  | 8, _ => exact S_rule hJ hi hl
  | 9, _ => exact S_undo hJ hi hl
  | 10, _ => exact S_told hJ hi hl
  | 11, _ => exact S_member hJ hi hl
  | 12, _ => exact S_units hJ hi hl
  | 13, _ => exact S_job hJ hi hl
  | 14, _ => exact S_link hJ hi hl
  | 15, _ => exact S_letter hJ hi hl
  | 16, _ => exact S_sent hJ hi hl
  | 17, _ => exact S_tally hJ hi hl
  | 18, _ => exact S_change hJ hi hl
  | 19, _ => exact S_chiefs hJ hi hl
  | 20, _ => exact S_ranked hJ hi hl
  | 21, _ => exact S_until hJ hi hl
  | 22, _ => exact S_untilBy hJ hi hl
  | 23, _ => exact S_hardest hJ hi hl
  | 24, _ => exact S_untilRule hJ hi hl
  | 25, _ => exact S_untilLinks hJ hi hl
  | 26, _ => exact S_ahead hJ hi hl
  | 27, _ => exact S_storms hJ hi hl
  | 28, _ => exact S_print hJ hi hl
  | 29, _ => exact S_status hJ hi hl
  | 30, _ => exact S_none hJ
  | 31, _ => exact S_none hJ
  | d + 32, h => exact absurd h (by omega)
theorem hd_cmp (hl : len ≤ 3072) (ht : t ≤ 512) : (nI len - nI 6 < nI (6 * t)) ↔ len < 6 * t + 6 := by
  by_cases h : 6 ≤ len
  · rw [nI_sub h, nI_ltI (by omega) (by omega)]; omega
  · have e : nI len - nI 6 < 0 := by
      rcases (show len = 0 ∨ len = 1 ∨ len = 2 ∨ len = 3 ∨ len = 4 ∨ len = 5 by omega) with e | e | e | e | e | e <;> subst e <;> decide
    have p : ¬ nI (6 * t) < 0 := nI_pos (by omega)
    have : nI len - nI 6 < nI (6 * t) := by
      rw [Int32.lt_iff_toInt_lt] at e p ⊢
      omega
    exact ⟨fun _ => by omega, fun _ => this⟩
theorem l_law (hl : len ≤ 3072) : ∀ r t G M w5 w6, z_J t len sc G M → t + r = len / 6 → ∃ G1 M1, z_ex 248 (z_blk 248 23) [.ref 1, .ref 32, .ref 455, .ref 472, .int (nI (6 * t)), w5, w6] [] G M = some (.inl (some (.int (nI 1))), G1, M1) ∧ z_nc G1 ≤ 441 + len / 6 ∧ z_ns G1 ≤ 129251 + 6 * (len / 6) := by
  intro r
  induction r with
  | zero =>
    intro t G M w5 w6 hJ ht
    obtain ⟨nb, pb, n, J, B, tp, pn, c, ⟨_, _, _, _, hcn, _, k1⟩, _⟩ := hJ
    have s1 : (z_kd G 1).1 = 1 := by rw [k1]
    have s2 : (z_kd G 1).2 = len := by rw [k1]
    have hc : nI len - nI 6 < nI (6 * t) := (hd_cmp hl (by omega)).mpr (by omega)
    refine ⟨G, M, ?_, by rw [← ht]; exact hcn.1, by rw [← ht]; exact hcn.2⟩
    conv => lhs; rw [zk_L_law_23]
    simp (disch := first | assumption | omega | exact Nat.le_of_ble_eq_true rfl | decide) only [xo_1_4, xo_2_0, xo_36, xo_6, xo_21, xo_46, s2, hc, if_true, zk_L_law_1790, xo_5, xo_72b]
  | succ r ih =>
    intro t G M w5 w6 hJ ht
    have hi : 6 * t + 6 ≤ len := by omega
    obtain ⟨nb, pb, n, J, B, tp, pn, c, ⟨_, _, _, _, hcn, _, k1⟩, h1, _⟩ := id hJ
    have s1 : (z_kd G 1).1 = 1 := by rw [k1]
    have s2 : (z_kd G 1).2 = len := by rw [k1]
    have hc : ¬ nI len - nI 6 < nI (6 * t) := fun q => by have := (hd_cmp hl (by omega)).mp q; omega
    obtain ⟨d, hd, ed⟩ := and_31 (M 1 (6 * t))
    obtain ⟨G', M', w5', w6', e1, hJ'⟩ := S_any (w5 := w5) (w6 := w6) hJ hi hl hd
    obtain ⟨G1, M1, e2, c1, c2⟩ := ih (t + 1) G' M' w5' w6' hJ' (by omega)
    refine ⟨G1, M1, ?_, c1, c2⟩
    have l0 : 6 * t < (z_kd G 1).2 := by omega
    have e0 : z_ex 248 (z_blk 248 23) [.ref 1, .ref 32, .ref 455, .ref 472, .int (nI (6 * t)), w5, w6] [] G M = z_ex 248 (z_blk 248 (z_swt 11 (nI d))) [.ref 1, .ref 32, .ref 455, .ref 472, .int (nI (6 * t)), w5, w6] [] G M := by
      conv => lhs; rw [zk_L_law_23]
      simp (disch := first | assumption | omega | exact Nat.le_of_ble_eq_true rfl | decide) only [xo_1_4, xo_2_0, xo_36, xo_6, xo_21, xo_46, s2, hc, if_false, zk_L_law_33, xo_32, xo_23, ed, xo_56]
    rw [e0, e1, ← e2, show 6 * (t + 1) = 6 * t + 6 by omega]
    conv => lhs; rw [zk_L_law_1784]
    simp (disch := first | assumption | omega | exact Nat.le_of_ble_eq_true rfl | decide) only [xo_15_4i, xo_15_4r, xo_15_4n, xo_54, nI_add]
end
/-- the law, on the small machine -/
theorem c_L_law {G : zG} {M : zM} {len : Nat} (h32 : z_np G = 32) (hnc : z_nc G = 0) (hns : z_ns G = 0) (k1 : z_kd G 1 = (1, len)) (hSt : z_St G M) (hl : len ≤ 3072) : ∃ G1 M1, z_call 248 [.ref 1] G M = some (.inl (some (.int (nI 1))), G1, M1) ∧ z_nc G1 ≤ 1000 ∧ z_ns G1 ≤ 140000 := by
  have h0 : z_np G = z_nc G + 32 := by omega
  have a1 : z_Al (z_new G (0, 6) 11) 32 6 := by have := new_Al (c := 6) (s := 11) h0; rwa [h32] at this
  have np1 : z_np (z_new G (0, 6) 11) = 33 := by show z_np G + 1 = _; omega
  obtain ⟨Ma, hMa⟩ : ∃ Ma, Ma = z_sA M 32 (fun _ => 0) := ⟨_, rfl⟩
  have xa : z_Xt 32 1 11 G (z_new G (0, 6) 11) M Ma := by rw [hMa, ← h32]; exact Xt_new _ M _
  obtain ⟨G1, M1, c1, x1, hC1, hQ1, ⟨f1, f2, f8, f9⟩, z34, bc, n81, nK⟩ := c_C_init a1 np1 Ma (by rw [hMa, z_sA_s])
  have x01 := Xt_trans xa x1 (Or.inl rfl)
  have np2 : z_np G1 = 455 := by rw [x1.1.1, np1]
  have nc2 : z_np G1 = z_nc G1 + 32 := by rw [x01.1.1, x01.1.2.1]; omega
  have a2 : z_Al (z_new G1 (0, 7) 20) 455 7 := by have := new_Al (c := 7) (s := 20) nc2; rwa [np2] at this
  have np3 : z_np (z_new G1 (0, 7) 20) = 456 := by show z_np G1 + 1 = _; omega
  obtain ⟨Mb, hMb⟩ : ∃ Mb, Mb = z_sA M1 455 (fun _ => 0) := ⟨_, rfl⟩
  have xb : z_Xt 455 1 20 G1 (z_new G1 (0, 7) 20) M1 Mb := by rw [hMb, ← np2]; exact Xt_new _ M1 _
  obtain ⟨G2, M2, c2, x2, hM2, ⟨g0, g2, g5, g14⟩, z456, bg⟩ := c_M_init (M := Mb) a2 np3 (by rw [hMb, z_sA_s])
  have x12 := Xt_trans xb x2 (Or.inl rfl)
  have np4 : z_np G2 = 472 := by rw [x12.1.1, np2]
  have x02 := Xt_trans x01 x12 (Or.inr (by omega))
  have nc4 : z_np G2 = z_nc G2 + 32 := by rw [x02.1.1, x02.1.2.1]; omega
  obtain ⟨G3, hG3⟩ : ∃ G3, G3 = z_new G2 (2, 1) 1 := ⟨_, rfl⟩
  obtain ⟨M3, hM3⟩ : ∃ M3, M3 = z_sA M2 472 (fun _ => 0) := ⟨_, rfl⟩
  have x23 : z_Xt 472 1 1 G2 G3 M2 M3 := by rw [hG3, hM3, ← np4]; exact Xt_new _ M2 _
  have k472 : z_kd G3 472 = (2, 1) := by rw [hG3, ← np4]; exact new_kds _ _ _
  have x03 := Xt_trans x02 x23 (Or.inr (by omega))
  have x13 := Xt_trans x12 x23 (Or.inr (by omega))
  -- the layout stands
  have kd : ∀ a, a < 455 → z_kd G3 a = z_kd G1 a := fun a ha => x13.2.1 a (by omega)
  have rf : ∀ a k, a < 455 → z_rf G3 a k = z_rf G1 a k := fun a k ha => x13.2.2.1 a k (by omega) (by omega)
  have hW : ∀ b, 36 ≤ b → b + 41 ≤ 455 → z_HW G1 b → z_HW G3 b := fun b h1 h2 h => HW_x h (fun j hj => kd _ (by omega)) (fun j k hj => rf _ _ (by omega))
  have hC3 : z_HC G3 40 (fun k => 124 + 41 * k) := by
    obtain ⟨k0, ⟨r0, r3, r4, r5, r6, r7, r10⟩, k33, k34, k123, k122, w, p, hB, hb⟩ := hC1
    exact ⟨(kd _ (by omega)).trans k0, ⟨(rf _ _ (by omega)).trans r0, (rf _ _ (by omega)).trans r3, (rf _ _ (by omega)).trans r4, (rf _ _ (by omega)).trans r5, (rf _ _ (by omega)).trans r6, (rf _ _ (by omega)).trans r7, (rf _ _ (by omega)).trans r10⟩, by rw [kd _ (by omega)]; exact k33, by rw [kd _ (by omega)]; exact k34, (kd _ (by omega)).trans k123, by rw [kd _ (by omega)]; exact k122, hW _ (by omega) (by omega) w, hW _ (by omega) (by omega) p, fun j hj => ⟨(rf _ _ (by omega)).trans (hB j hj).1, hW _ (by show 36 ≤ 124 + 41 * j; omega) (by show 124 + 41 * j + 41 ≤ 455; omega) (hB j hj).2⟩, hb⟩
  have hM3' : z_HM G3 := by
    have kd2 : ∀ a, a < 472 → z_kd G3 a = z_kd G2 a := fun a ha => x23.2.1 a (by omega)
    have rf2 : ∀ a k, a < 472 → z_rf G3 a k = z_rf G2 a k := fun a k ha => x23.2.2.1 a k (by omega) (by omega)
    obtain ⟨k0, ⟨r1, r8, r9, r10, r11, r12, r13, r17⟩, q12, q34, q56, q78, q910, q1112, q1314, q1516, hp⟩ := hM2
    refine ⟨(kd2 _ (by omega)).trans k0, ⟨(rf2 _ _ (by omega)).trans r1, (rf2 _ _ (by omega)).trans r8, (rf2 _ _ (by omega)).trans r9, (rf2 _ _ (by omega)).trans r10, (rf2 _ _ (by omega)).trans r11, (rf2 _ _ (by omega)).trans r12, (rf2 _ _ (by omega)).trans r13, (rf2 _ _ (by omega)).trans r17⟩, by rw [kd2 _ (by omega)]; exact q12, by rw [kd2 _ (by omega)]; exact q34, by rw [kd2 _ (by omega)]; exact q56, by rw [kd2 _ (by omega)]; exact q78, by rw [kd2 _ (by omega)]; exact q910, by rw [kd2 _ (by omega)]; exact q1112, by rw [kd2 _ (by omega)]; exact q1314, by rw [kd2 _ (by omega)]; exact q1516, fun j hj => ?_⟩
    obtain ⟨h1, h2, h3⟩ := hp j hj
    exact ⟨(rf2 _ _ (by omega)).trans h1, by rw [kd2 _ (by omega)]; exact h2, by rw [kd2 _ (by omega)]; exact h3⟩
  have hQ3 : z_HQ G3 := by
    obtain ⟨h1, h2, h3, h4, ⟨h5, h6⟩, h7, h8⟩ := hQ1
    exact ⟨(kd _ (by omega)).trans h1, (rf _ _ (by omega)).trans h2, h3, (kd _ (by omega)).trans h4, ⟨(rf _ _ (by omega)).trans h5, (rf _ _ (by omega)).trans h6⟩, by rw [kd _ (by omega)]; exact h7, by rw [kd _ (by omega)]; exact h8⟩
  have lowk : ∀ a, a < 32 → z_kd G3 a = z_kd G a := fun a ha => x03.2.1 a (by omega)
  have lowM : ∀ a, a < 32 → M3 a = M a := fun a ha => x03.2.2.2 a (by omega) (by omega)
  have hSt3 : z_St G3 M3 := fun p hp => by
    obtain ⟨a, b⟩ := hSt p hp
    exact ⟨by rw [lowk p (by omega)]; exact a, by rw [lowM p (by omega)]; exact b⟩
  have m3 : ∀ a, a < 472 → M3 a = M2 a := fun a ha => x23.2.2.2 a (by omega) (by omega)
  have m31 : ∀ a, a < 455 → M3 a = M1 a := fun a ha => x13.2.2.2 a (by omega) (by omega)
  obtain ⟨J, hF⟩ := F_bg (SF_0 2 (by omega)) (by omega) (by omega) bg
  have hR := R_bg (SF_0 2 (by omega)) (by omega) bg bc
  have hJ : z_J 0 len (M 1) G3 M3 := by
    refine ⟨40, fun k => 124 + 41 * k, 2, J, 1, 0, 0, 0, ⟨hC3, hM3', hQ3, hSt3, ⟨?_, ?_⟩, k472, (lowk 1 (by omega)).trans k1⟩, lowM 1 (by omega), by omega, z_R_V (by rw [m3 458 (by omega)]; exact z_R_mono (by omega) hR) (by omega) (fun k hk => m31 _ (by omega)), by rw [m3 458 (by omega)]; exact hF, ⟨by rw [m31 32 (by omega)]; exact f1, by rw [m3 455 (by omega)]; exact g2, by omega, fun k => ⟨fun h => absurd h (by omega), by rw [m3 457 (by omega), m31 33 (by omega), (z456 k).2, (z34 k).1]⟩⟩, fun k hk => by rw [m3 456 (by omega), m31 34 (by omega), (z456 k).1, (z34 k).2], by rw [m31 32 (by omega), m3 455 (by omega), f2, g5], ⟨by rw [m31 32 (by omega)]; exact f8, by omega, by rw [m31 32 (by omega)]; exact f9, by omega, by rw [m3 455 (by omega)]; exact g14⟩, fun j hj => absurd hj (by omega), fun i hi => by rw [m31 _ (by omega)]; exact n81 i hi, fun k hk i hi => ?_⟩
    · rw [x03.1.2.1]; omega
    · rw [x03.1.2.2]; omega
    · show M3 (124 + 41 * k + (9 + 4 * i)) 0 = nI i
      rw [m31 _ (by omega)]; exact nK k hk i hi
  obtain ⟨G4, M4, e4, b1, b2⟩ := l_law hl (len / 6) 0 G3 M3 .null .null hJ (by omega)
  refine ⟨G4, M4, ?_, by omega, by omega⟩
  rw [← e4, hG3, hM3]
  clear e4 b1 b2 hJ hR hF m31 m3 hSt3 lowM lowk hQ3 hM3' hC3 hW rf kd x13 x03 x23 x02 x12 xb x2 xa x1 x01 hC1 hQ1 hM2 bc bg k472 hG3 hM3
  have e1 : z_call 248 [.ref 1] G M = z_k 65 248 [(12, 1, 0, 0, 7), (73, 7, 0, 86, 8), (39, 0, 0, 0, 11), (65, 147, 1, 88, 12), (12, 2, 0, 0, 15), (5, 1, 0, 0, 16), (75, 0, 0, 0, 17), (12, 3, 0, 0, 19), (5, 0, 0, 0, 20), (11, 4, 0, 0, 21), (55, 23, 0, 0, 23)] [.ref 1, .null, .null, .null, .null, .null, .null] [.ref 32] (z_call 0 [.ref 32] (z_new G (0, 6) 11) Ma) := by
    rw [hMa]
    simp (disch := first | assumption | omega | exact Nat.le_of_ble_eq_true rfl | decide) only [ze_L_law, zk_L_law_0, xo_73, xo_39r, xo_65_1, h32]
    rfl
  have e2 : z_k 65 248 [(12, 1, 0, 0, 7), (73, 7, 0, 86, 8), (39, 0, 0, 0, 11), (65, 147, 1, 88, 12), (12, 2, 0, 0, 15), (5, 1, 0, 0, 16), (75, 0, 0, 0, 17), (12, 3, 0, 0, 19), (5, 0, 0, 0, 20), (11, 4, 0, 0, 21), (55, 23, 0, 0, 23)] [.ref 1, .null, .null, .null, .null, .null, .null] [.ref 32] (some (.inl none, G1, M1)) = z_k 65 248 [(12, 2, 0, 0, 15), (5, 1, 0, 0, 16), (75, 0, 0, 0, 17), (12, 3, 0, 0, 19), (5, 0, 0, 0, 20), (11, 4, 0, 0, 21), (55, 23, 0, 0, 23)] [.ref 1, .ref 32, .null, .null, .null, .null, .null] [.ref 455] (z_call 147 [.ref 455] (z_new G1 (0, 7) 20) Mb) := by
    rw [hMb]
    simp (disch := first | assumption | omega | exact Nat.le_of_ble_eq_true rfl | decide) only [xk_n, xo_12_1i, xo_12_1r, xo_12_1n, xo_73, xo_39r, xo_65_1, np2]
    rfl
  rw [e1, c1, e2, c2]
  simp (disch := first | assumption | omega | exact Nat.le_of_ble_eq_true rfl | decide) only [xk_n, xo_12_2i, xo_12_2r, xo_12_2n, xo_5, xo_75, xo_12_3i, xo_12_3r, xo_12_3n, xo_11_4i, xo_11_4r, xo_11_4n, xo_55, np4]
