theorem b_up {B t : Nat} (h : B ≤ 1 + 30801 * t) : B ≤ 1 + 30801 * (t + 1) := Nat.le_trans h (Nat.add_le_add_left (Nat.mul_le_mul_left _ (Nat.le_succ _)) _)
theorem b_up2 {B N t : Nat} (h : B ≤ 1 + 30801 * t) (hN : N ≤ 100) : B + 308 * N ≤ 1 + 30801 * (t + 1) := by
  have h2 : 308 * N ≤ 30801 := Nat.le_trans (Nat.mul_le_mul_left 308 hN) (by decide)
  rw [Nat.mul_succ, ← Nat.add_assoc]
  exact Nat.add_le_add h h2
theorem b_up1 {B t : Nat} (h : B ≤ 1 + 30801 * t) : B + 1 ≤ 1 + 30801 * (t + 1) := by
  rw [Nat.mul_succ, ← Nat.add_assoc]
  exact Nat.add_le_add h (by decide)
/-! ===== every case of the law, one by one (printed by wip/whole/gensx.py) ===== -/
theorem S_ticks {t len : Nat} {sc : Nat → Int32} {G : zG} {M : zM} {w5 w6 : Value} (hJ : z_J t len sc G M) (hi : 6 * t + 6 ≤ len) (hl : len ≤ 3072) : z_Sx 318 t len sc G M w5 w6 := by
  obtain ⟨nb, pb, n, J, B, tp, pn, c, hG, h1, hB, hm⟩ := hJ
  obtain ⟨hC, hM, hQ, hSt, hcn, k472, k1⟩ := id hG
  obtain ⟨hR, hF, ⟨t1, t2, t3, t4⟩, hrf, hfp, ⟨p1, p2, p3, p4, p5⟩, hP, hN, hK⟩ := id hm
  have hn : n ≤ 8 := hF.1.1.2
  have ht : t ≤ 511 := by omega
  have hB2 : B ≤ 15800000 := by omega
  have s1 : (z_kd G 1).1 = 1 := by rw [k1]
  have s2 : (z_kd G 1).2 = len := by rw [k1]
  have o1 : (z_kd G 472).1 = 2 := by rw [k472]
  have o2 : (z_kd G 472).2 = 1 := by rw [k472]
  have f8 : ∀ e, rfc M e 458 = M 458 := fun e => z_sA_n _ _ _ _ (by omega)
  have f5 : ∀ e, rfc M e 455 = M 455 := fun e => z_sA_n _ _ _ _ (by omega)
  have f1 : ∀ e, rfc M e 1 = M 1 := fun e => z_sA_n _ _ _ _ (by omega)
  have hMl : ∀ x : Int64, z_HM (z_setL G 472 0 x) := fun x => HM_k (Gk_L _ _ _ _) hM
  have hMt : z_HM (z_thr G) := HM_k (Gk_thr _) hM
  have hSr : ∀ e, z_St (z_thr G) (rfc M e) := fun e => St_k (Gk_thr _) hSt (fun q hq => z_sA_n _ _ _ _ (by omega))
  rcases rg_2 (M 1 (6 * t + 1)) 100 (by omega) with ⟨N, n1, n2, ex⟩ | hx
  · skip
    obtain ⟨M1, e1, x, r⟩ := k_ticks hC M p2 p4 p1 p3 hR hF (by omega) (hK pn p2) n1 n2
    obtain ⟨q8, q5, q1⟩ := Ka_k hG p2 x
    have qs : z_St G M1 := St_k (Gk_refl _) hSt (fun q hq => by have lo := HC_lo hC; have bp := HC_blo hC p2; exact x.1 q (by omega) (by omega) (by omega))
    obtain ⟨M2, e2, y⟩ := m_ticks (hMl _) M1 (by rw [q8]; exact hF) (by omega) p4 (by rw [q5]; exact p5) n1 n2
    rw [q8] at e2 y
    exact ⟨_, _, _, _, law_ticks (k := 0) (hx1 := ex) s1 s2 hi hl (w_ticks_0 hC.1 e1 o1 o2) s1 s2 q1 hM.1 e2 (Rm_0 y) o1 o2 (fun _ => lg_s _ _ _ _) (by omega), J_a hG h1 hm x r (F_ra hF (by omega) N n2) (Nat.le_add_right _ _) (b_up2 hB n2) y _⟩
  · skip
    have e1 := k_ticks_f hC M hx
    have e2 := m_ticks_f hMt (rfc M 1) hx
    exact ⟨_, _, _, _, law_ticks (k := 1) (hx1 := rfl) s1 s2 hi hl (w_ticks_x1 hC.1 e1) s1 s2 (f1 1) hM.1 e2 (rfm_0 _ _ _) o1 o2 (fun q => absurd q (by omega)) (by omega), J_r hG h1 hB hm 1 (by omega)⟩
theorem S_cut {t len : Nat} {sc : Nat → Int32} {G : zG} {M : zM} {w5 w6 : Value} (hJ : z_J t len sc G M) (hi : 6 * t + 6 ≤ len) (hl : len ≤ 3072) : z_Sx 374 t len sc G M w5 w6 := by
  obtain ⟨nb, pb, n, J, B, tp, pn, c, hG, h1, hB, hm⟩ := hJ
  obtain ⟨hC, hM, hQ, hSt, hcn, k472, k1⟩ := id hG
  obtain ⟨hR, hF, ⟨t1, t2, t3, t4⟩, hrf, hfp, ⟨p1, p2, p3, p4, p5⟩, hP, hN, hK⟩ := id hm
  have hn : n ≤ 8 := hF.1.1.2
  have ht : t ≤ 511 := by omega
  have hB2 : B ≤ 15800000 := by omega
  have s1 : (z_kd G 1).1 = 1 := by rw [k1]
  have s2 : (z_kd G 1).2 = len := by rw [k1]
  have o1 : (z_kd G 472).1 = 2 := by rw [k472]
  have o2 : (z_kd G 472).2 = 1 := by rw [k472]
  have f8 : ∀ e, rfc M e 458 = M 458 := fun e => z_sA_n _ _ _ _ (by omega)
  have f5 : ∀ e, rfc M e 455 = M 455 := fun e => z_sA_n _ _ _ _ (by omega)
  have f1 : ∀ e, rfc M e 1 = M 1 := fun e => z_sA_n _ _ _ _ (by omega)
  have hMl : ∀ x : Int64, z_HM (z_setL G 472 0 x) := fun x => HM_k (Gk_L _ _ _ _) hM
  have hMt : z_HM (z_thr G) := HM_k (Gk_thr _) hM
  have hSr : ∀ e, z_St (z_thr G) (rfc M e) := fun e => St_k (Gk_thr _) hSt (fun q hq => z_sA_n _ _ _ _ (by omega))
  cases hx : zf_in (M 1 (6 * t + 1)) (nI 0) (nI (2 ^ n - 1)) with
  | true =>
    obtain ⟨M1, e1, x, r⟩ := k_cut hC M p2 p4 p1 p3 hR hF (hK pn p2) hx
    obtain ⟨q8, q5, q1⟩ := Ka_k hG p2 x
    have qs : z_St G M1 := St_k (Gk_refl _) hSt (fun q hq => by have lo := HC_lo hC; have bp := HC_blo hC p2; exact x.1 q (by omega) (by omega) (by omega))
    obtain ⟨M2, e2, y⟩ := m_cut (hMl _) M1 (by rw [q8]; exact hF.1.1.1) hn p4 (by rw [q5]; exact p5) hx
    rw [q8] at e2 y
    exact ⟨_, _, _, _, law_cut (k := 0) (hx1 := rfl) s1 s2 hi hl (w_cut_0 hC.1 e1 o1 o2) s1 s2 q1 hM.1 e2 (Rm_0 y) o1 o2 (fun _ => lg_s _ _ _ _) (by omega), J_a hG h1 hm x r (F_cu hF _) (Nat.le_refl B) (b_up hB) y _⟩
  | false =>
    have e1 := k_cut_f hC M hR hF hx
    have e2 := m_cut_f hMt (rfc M 1) (by rw [f8]; exact hF.1.1.1) hn hx
    exact ⟨_, _, _, _, law_cut (k := 1) (hx1 := rfl) s1 s2 hi hl (w_cut_x1 hC.1 e1) s1 s2 (f1 1) hM.1 e2 (rfm_0 _ _ _) o1 o2 (fun q => absurd q (by omega)) (by omega), J_r hG h1 hB hm 1 (by omega)⟩
theorem S_fall {t len : Nat} {sc : Nat → Int32} {G : zG} {M : zM} {w5 w6 : Value} (hJ : z_J t len sc G M) (hi : 6 * t + 6 ≤ len) (hl : len ≤ 3072) : z_Sx 443 t len sc G M w5 w6 := by
  obtain ⟨nb, pb, n, J, B, tp, pn, c, hG, h1, hB, hm⟩ := hJ
  obtain ⟨hC, hM, hQ, hSt, hcn, k472, k1⟩ := id hG
  obtain ⟨hR, hF, ⟨t1, t2, t3, t4⟩, hrf, hfp, ⟨p1, p2, p3, p4, p5⟩, hP, hN, hK⟩ := id hm
  have hn : n ≤ 8 := hF.1.1.2
  have ht : t ≤ 511 := by omega
  have hB2 : B ≤ 15800000 := by omega
  have s1 : (z_kd G 1).1 = 1 := by rw [k1]
  have s2 : (z_kd G 1).2 = len := by rw [k1]
  have o1 : (z_kd G 472).1 = 2 := by rw [k472]
  have o2 : (z_kd G 472).2 = 1 := by rw [k472]
  have f8 : ∀ e, rfc M e 458 = M 458 := fun e => z_sA_n _ _ _ _ (by omega)
  have f5 : ∀ e, rfc M e 455 = M 455 := fun e => z_sA_n _ _ _ _ (by omega)
  have f1 : ∀ e, rfc M e 1 = M 1 := fun e => z_sA_n _ _ _ _ (by omega)
  have hMl : ∀ x : Int64, z_HM (z_setL G 472 0 x) := fun x => HM_k (Gk_L _ _ _ _) hM
  have hMt : z_HM (z_thr G) := HM_k (Gk_thr _) hM
  have hSr : ∀ e, z_St (z_thr G) (rfc M e) := fun e => St_k (Gk_thr _) hSt (fun q hq => z_sA_n _ _ _ _ (by omega))
  rcases rg_1 (M 1 (6 * t + 1)) n (by omega) with ⟨i, hin, ex⟩ | hx
  · by_cases hd : M 458 (41 + 28 * i) = nI 2
    · skip
      have e1 := k_fall_f1 hC M hR hF hin hd
      have e2 := m_fall_f1 hMt (rfc M 2) (by rw [f8]; exact hF) hin (by rw [f8]; exact hd)
      exact ⟨_, _, _, _, law_fall (k := 2) (hx1 := ex) s1 s2 hi hl (w_fall_x2 hC.1 e1) s1 s2 (f1 2) hM.1 e2 (rfm_0 _ _ _) o1 o2 (fun q => absurd q (by omega)) (by omega), J_r hG h1 hB hm 2 (by omega)⟩
    · skip
      obtain ⟨M1, e1, x, r⟩ := k_fall hC M p2 p4 p1 p3 hR hF (by omega) (hK pn p2) hin hd
      obtain ⟨q8, q5, q1⟩ := Ka_k hG p2 x
      have qs : z_St G M1 := St_k (Gk_refl _) hSt (fun q hq => by have lo := HC_lo hC; have bp := HC_blo hC p2; exact x.1 q (by omega) (by omega) (by omega))
      obtain ⟨M2, e2, y⟩ := m_fall (hMl _) M1 (by rw [q8]; exact hF) hin (by rw [q8]; exact hd) p4 (by rw [q5]; exact p5)
      rw [q8] at e2 y
      exact ⟨_, _, _, _, law_fall (k := 0) (hx1 := ex) s1 s2 hi hl (w_fall_0 hC.1 e1 o1 o2) s1 s2 q1 hM.1 e2 (Rm_0 y) o1 o2 (fun _ => lg_s _ _ _ _) (by omega), J_a hG h1 hm x r (FX_fa hF hin).1 (Nat.le_refl B) (b_up hB) y _⟩
  · skip
    have e1 := k_fall_f0 hC M hR hF hx
    have e2 := m_fall_f0 hMt (rfc M 0) (by rw [f8]; exact hF) hx
    exact ⟨_, _, _, _, law_fall (k := 1) (hx1 := rfl) s1 s2 hi hl (w_fall_x0 hC.1 e1) s1 s2 (f1 0) hM.1 e2 (rfm_0 _ _ _) o1 o2 (fun q => absurd q (by omega)) (by omega), J_r hG h1 hB hm 1 (by omega)⟩
theorem S_rise {t len : Nat} {sc : Nat → Int32} {G : zG} {M : zM} {w5 w6 : Value} (hJ : z_J t len sc G M) (hi : 6 * t + 6 ≤ len) (hl : len ≤ 3072) : z_Sx 499 t len sc G M w5 w6 := by
  obtain ⟨nb, pb, n, J, B, tp, pn, c, hG, h1, hB, hm⟩ := hJ
  obtain ⟨hC, hM, hQ, hSt, hcn, k472, k1⟩ := id hG
  obtain ⟨hR, hF, ⟨t1, t2, t3, t4⟩, hrf, hfp, ⟨p1, p2, p3, p4, p5⟩, hP, hN, hK⟩ := id hm
  have hn : n ≤ 8 := hF.1.1.2
  have ht : t ≤ 511 := by omega
  have hB2 : B ≤ 15800000 := by omega
  have s1 : (z_kd G 1).1 = 1 := by rw [k1]
  have s2 : (z_kd G 1).2 = len := by rw [k1]
  have o1 : (z_kd G 472).1 = 2 := by rw [k472]
  have o2 : (z_kd G 472).2 = 1 := by rw [k472]
  have f8 : ∀ e, rfc M e 458 = M 458 := fun e => z_sA_n _ _ _ _ (by omega)
  have f5 : ∀ e, rfc M e 455 = M 455 := fun e => z_sA_n _ _ _ _ (by omega)
  have f1 : ∀ e, rfc M e 1 = M 1 := fun e => z_sA_n _ _ _ _ (by omega)
  have hMl : ∀ x : Int64, z_HM (z_setL G 472 0 x) := fun x => HM_k (Gk_L _ _ _ _) hM
  have hMt : z_HM (z_thr G) := HM_k (Gk_thr _) hM
  have hSr : ∀ e, z_St (z_thr G) (rfc M e) := fun e => St_k (Gk_thr _) hSt (fun q hq => z_sA_n _ _ _ _ (by omega))
  rcases rg_1 (M 1 (6 * t + 1)) n (by omega) with ⟨i, hin, ex⟩ | hx
  · by_cases hd : M 458 (41 + 28 * i) = nI 2
    · skip
      obtain ⟨M1, e1, x, r⟩ := k_rise hC M p2 p4 p1 p3 hR hF (by omega) (hK pn p2) hin hd
      obtain ⟨q8, q5, q1⟩ := Ka_k hG p2 x
      have qs : z_St G M1 := St_k (Gk_refl _) hSt (fun q hq => by have lo := HC_lo hC; have bp := HC_blo hC p2; exact x.1 q (by omega) (by omega) (by omega))
      obtain ⟨M2, e2, y⟩ := m_rise (hMl _) M1 (by rw [q8]; exact hF) hin (by rw [q8]; exact hd) p4 (by rw [q5]; exact p5)
      rw [q8] at e2 y
      exact ⟨_, _, _, _, law_rise (k := 0) (hx1 := ex) s1 s2 hi hl (w_rise_0 hC.1 e1 o1 o2) s1 s2 q1 hM.1 e2 (Rm_0 y) o1 o2 (fun _ => lg_s _ _ _ _) (by omega), J_a hG h1 hm x r (FX_al hF hin (by omega)).1 (Nat.le_add_right _ _) (b_up1 hB) y _⟩
    · skip
      have e1 := k_rise_f1 hC M hR hF hin hd
      have e2 := m_rise_f1 hMt (rfc M 2) (by rw [f8]; exact hF) hin (by rw [f8]; exact hd)
      exact ⟨_, _, _, _, law_rise (k := 2) (hx1 := ex) s1 s2 hi hl (w_rise_x2 hC.1 e1) s1 s2 (f1 2) hM.1 e2 (rfm_0 _ _ _) o1 o2 (fun q => absurd q (by omega)) (by omega), J_r hG h1 hB hm 2 (by omega)⟩
  · skip
    have e1 := k_rise_f0 hC M hR hF hx
    have e2 := m_rise_f0 hMt (rfc M 0) (by rw [f8]; exact hF) hx
    exact ⟨_, _, _, _, law_rise (k := 1) (hx1 := rfl) s1 s2 hi hl (w_rise_x0 hC.1 e1) s1 s2 (f1 0) hM.1 e2 (rfm_0 _ _ _) o1 o2 (fun q => absurd q (by omega)) (by omega), J_r hG h1 hB hm 1 (by omega)⟩
theorem S_rule {t len : Nat} {sc : Nat → Int32} {G : zG} {M : zM} {w5 w6 : Value} (hJ : z_J t len sc G M) (hi : 6 * t + 6 ≤ len) (hl : len ≤ 3072) : z_Sx 555 t len sc G M w5 w6 := by
  obtain ⟨nb, pb, n, J, B, tp, pn, c, hG, h1, hB, hm⟩ := hJ
  obtain ⟨hC, hM, hQ, hSt, hcn, k472, k1⟩ := id hG
  obtain ⟨hR, hF, ⟨t1, t2, t3, t4⟩, hrf, hfp, ⟨p1, p2, p3, p4, p5⟩, hP, hN, hK⟩ := id hm
  have hn : n ≤ 8 := hF.1.1.2
  have ht : t ≤ 511 := by omega
  have hB2 : B ≤ 15800000 := by omega
  have s1 : (z_kd G 1).1 = 1 := by rw [k1]
  have s2 : (z_kd G 1).2 = len := by rw [k1]
  have o1 : (z_kd G 472).1 = 2 := by rw [k472]
  have o2 : (z_kd G 472).2 = 1 := by rw [k472]
  have f8 : ∀ e, rfc M e 458 = M 458 := fun e => z_sA_n _ _ _ _ (by omega)
  have f5 : ∀ e, rfc M e 455 = M 455 := fun e => z_sA_n _ _ _ _ (by omega)
  have f1 : ∀ e, rfc M e 1 = M 1 := fun e => z_sA_n _ _ _ _ (by omega)
  have hMl : ∀ x : Int64, z_HM (z_setL G 472 0 x) := fun x => HM_k (Gk_L _ _ _ _) hM
  have hMt : z_HM (z_thr G) := HM_k (Gk_thr _) hM
  have hSr : ∀ e, z_St (z_thr G) (rfc M e) := fun e => St_k (Gk_thr _) hSt (fun q hq => z_sA_n _ _ _ _ (by omega))
  cases hx : q_rule (M 1 (6 * t + 1)) (M 1 (6 * t + 2)) with
  | true =>
    obtain ⟨k, hk, ex, hv⟩ := q_rule_t hx
    rw [ex] at hx
    obtain ⟨M1, e1, x, r⟩ := k_rule_t hC M p2 p4 p1 p3 hR hF (hK pn p2) hSt hk hx
    obtain ⟨q8, q5, q1⟩ := Ka_k hG p2 x
    have qs : z_St G M1 := St_k (Gk_refl _) hSt (fun q hq => by have lo := HC_lo hC; have bp := HC_blo hC p2; exact x.1 q (by omega) (by omega) (by omega))
    obtain ⟨M2, e2, y⟩ := m_rule_t (hMl _) M1 hk (St_k (Gk_L _ _ _ _) qs (fun _ _ => rfl)) hx p4 (by rw [q5]; exact p5)
    rw [q8] at e2 y
    exact ⟨_, _, _, _, law_rule (k := 0) (hx1 := ex) (hx2 := rfl) s1 s2 hi hl (w_rule_0 hC.1 e1 o1 o2) s1 s2 q1 hM.1 e2 (Rm_0 y) o1 o2 (fun _ => lg_s _ _ _ _) (by omega), J_a hG h1 hm x r (F_ru hF hk hv) (Nat.le_refl B) (b_up hB) y _⟩
  | false =>
    have e1 := k_rule_f hC M hSt hx
    have e2 := m_rule_f hMt (rfc M 1) (hSr 1) hx
    exact ⟨_, _, _, _, law_rule (k := 1) (hx1 := rfl) (hx2 := rfl) s1 s2 hi hl (w_rule_x1 hC.1 e1) s1 s2 (f1 1) hM.1 e2 (rfm_0 _ _ _) o1 o2 (fun q => absurd q (by omega)) (by omega), J_r hG h1 hB hm 1 (by omega)⟩
theorem S_told {t len : Nat} {sc : Nat → Int32} {G : zG} {M : zM} {w5 w6 : Value} (hJ : z_J t len sc G M) (hi : 6 * t + 6 ≤ len) (hl : len ≤ 3072) : z_Sx 636 t len sc G M w5 w6 := by
  obtain ⟨nb, pb, n, J, B, tp, pn, c, hG, h1, hB, hm⟩ := hJ
  obtain ⟨hC, hM, hQ, hSt, hcn, k472, k1⟩ := id hG
  obtain ⟨hR, hF, ⟨t1, t2, t3, t4⟩, hrf, hfp, ⟨p1, p2, p3, p4, p5⟩, hP, hN, hK⟩ := id hm
  have hn : n ≤ 8 := hF.1.1.2
  have ht : t ≤ 511 := by omega
  have hB2 : B ≤ 15800000 := by omega
  have s1 : (z_kd G 1).1 = 1 := by rw [k1]
  have s2 : (z_kd G 1).2 = len := by rw [k1]
  have o1 : (z_kd G 472).1 = 2 := by rw [k472]
  have o2 : (z_kd G 472).2 = 1 := by rw [k472]
  have f8 : ∀ e, rfc M e 458 = M 458 := fun e => z_sA_n _ _ _ _ (by omega)
  have f5 : ∀ e, rfc M e 455 = M 455 := fun e => z_sA_n _ _ _ _ (by omega)
  have f1 : ∀ e, rfc M e 1 = M 1 := fun e => z_sA_n _ _ _ _ (by omega)
  have hMl : ∀ x : Int64, z_HM (z_setL G 472 0 x) := fun x => HM_k (Gk_L _ _ _ _) hM
  have hMt : z_HM (z_thr G) := HM_k (Gk_thr _) hM
  have hSr : ∀ e, z_St (z_thr G) (rfc M e) := fun e => St_k (Gk_thr _) hSt (fun q hq => z_sA_n _ _ _ _ (by omega))
  rcases rg_1 (M 1 (6 * t + 1)) 19 (by omega) with ⟨k, hk, ex⟩ | hx
  · skip
    have e1 := k_told hC M (V := fun k => M (nb + k)) hR hF (by omega) hk
    rw [wr_id] at e1
    have e2 := m_told (hMl (q_told n J (M 458) (M 32 9) (M 32 1) k).toInt64) M hF hk
    rw [show M 455 14 = M 32 9 from p5.trans p3.symm, show M 455 2 = M 32 1 from t2.trans t1.symm] at e2
    exact ⟨_, _, _, _, law_told (k := 0) (hx1 := ex) s1 s2 hi hl (w_told_0 hC.1 e1 o1 o2) s1 s2 rfl hM.1 e2 (th0_f0 M) o1 o2 (fun _ => lg_s _ _ _ _) (by omega), J_q hG h1 hB hm _⟩
  · skip
    have e1 := k_told_f hC M hx
    have e2 := m_told_f hMt (rfc M 1) hx
    exact ⟨_, _, _, _, law_told (k := 1) (hx1 := rfl) s1 s2 hi hl (w_told_x1 hC.1 e1) s1 s2 (f1 1) hM.1 e2 (rfm_0 _ _ _) o1 o2 (fun q => absurd q (by omega)) (by omega), J_r hG h1 hB hm 1 (by omega)⟩
theorem S_member {t len : Nat} {sc : Nat → Int32} {G : zG} {M : zM} {w5 w6 : Value} (hJ : z_J t len sc G M) (hi : 6 * t + 6 ≤ len) (hl : len ≤ 3072) : z_Sx 692 t len sc G M w5 w6 := by
  obtain ⟨nb, pb, n, J, B, tp, pn, c, hG, h1, hB, hm⟩ := hJ
  obtain ⟨hC, hM, hQ, hSt, hcn, k472, k1⟩ := id hG
  obtain ⟨hR, hF, ⟨t1, t2, t3, t4⟩, hrf, hfp, ⟨p1, p2, p3, p4, p5⟩, hP, hN, hK⟩ := id hm
  have hn : n ≤ 8 := hF.1.1.2
  have ht : t ≤ 511 := by omega
  have hB2 : B ≤ 15800000 := by omega
  have s1 : (z_kd G 1).1 = 1 := by rw [k1]
  have s2 : (z_kd G 1).2 = len := by rw [k1]
  have o1 : (z_kd G 472).1 = 2 := by rw [k472]
  have o2 : (z_kd G 472).2 = 1 := by rw [k472]
  have f8 : ∀ e, rfc M e 458 = M 458 := fun e => z_sA_n _ _ _ _ (by omega)
  have f5 : ∀ e, rfc M e 455 = M 455 := fun e => z_sA_n _ _ _ _ (by omega)
  have f1 : ∀ e, rfc M e 1 = M 1 := fun e => z_sA_n _ _ _ _ (by omega)
  have hMl : ∀ x : Int64, z_HM (z_setL G 472 0 x) := fun x => HM_k (Gk_L _ _ _ _) hM
  have hMt : z_HM (z_thr G) := HM_k (Gk_thr _) hM
  have hSr : ∀ e, z_St (z_thr G) (rfc M e) := fun e => St_k (Gk_thr _) hSt (fun q hq => z_sA_n _ _ _ _ (by omega))
  rcases rg_1 (M 1 (6 * t + 1)) n (by omega) with ⟨i, hin, ex⟩ | hx
  · rcases rg_1 (M 1 (6 * t + 2)) 13 (by omega) with ⟨k, hk, ey⟩ | hy
    · skip
      have e1 := k_member hC M (V := fun k => M (nb + k)) hR hF hin hk
      rw [wr_id] at e1
      have e2 := fun x => m_member (hMl x) M hF hin hk
      exact ⟨_, _, _, _, law_member (k := 0) (hx1 := ex) (hx2 := ey) s1 s2 hi hl (w_member_0 hC.1 e1 o1 o2) s1 s2 rfl hM.1 (e2 _) (th0_f0 M) o1 o2 (fun _ => lg_s _ _ _ _) (by omega), J_q hG h1 hB hm _⟩
    · skip
      have e1 := k_member_f1 hC M (V := fun k => M (nb + k)) hR hF hin hy
      rw [wr_id] at e1
      have e2 := m_member_f1 hMt (rfc M 1) (by rw [f8]; exact hF) hin hy
      exact ⟨_, _, _, _, law_member (k := 2) (hx1 := ex) (hx2 := rfl) s1 s2 hi hl (w_member_x1 hC.1 e1) s1 s2 (f1 1) hM.1 e2 (rfm_0 _ _ _) o1 o2 (fun q => absurd q (by omega)) (by omega), J_r hG h1 hB hm 2 (by omega)⟩
  · skip
    have e1 := k_member_f0 hC M (V := fun k => M (nb + k)) hR hF (w := (M 1 (6 * t + 2))) hx
    rw [wr_id] at e1
    have e2 := m_member_f0 hMt (rfc M 0) (w := (M 1 (6 * t + 2))) (by rw [f8]; exact hF) hx
    exact ⟨_, _, _, _, law_member (k := 1) (hx1 := rfl) (hx2 := rfl) s1 s2 hi hl (w_member_x0 hC.1 e1) s1 s2 (f1 0) hM.1 e2 (rfm_0 _ _ _) o1 o2 (fun q => absurd q (by omega)) (by omega), J_r hG h1 hB hm 1 (by omega)⟩
theorem S_tally {t len : Nat} {sc : Nat → Int32} {G : zG} {M : zM} {w5 w6 : Value} (hJ : z_J t len sc G M) (hi : 6 * t + 6 ≤ len) (hl : len ≤ 3072) : z_Sx 1119 t len sc G M w5 w6 := by
  obtain ⟨nb, pb, n, J, B, tp, pn, c, hG, h1, hB, hm⟩ := hJ
  obtain ⟨hC, hM, hQ, hSt, hcn, k472, k1⟩ := id hG
  obtain ⟨hR, hF, ⟨t1, t2, t3, t4⟩, hrf, hfp, ⟨p1, p2, p3, p4, p5⟩, hP, hN, hK⟩ := id hm
  have hn : n ≤ 8 := hF.1.1.2
  have ht : t ≤ 511 := by omega
  have hB2 : B ≤ 15800000 := by omega
  have s1 : (z_kd G 1).1 = 1 := by rw [k1]
  have s2 : (z_kd G 1).2 = len := by rw [k1]
  have o1 : (z_kd G 472).1 = 2 := by rw [k472]
  have o2 : (z_kd G 472).2 = 1 := by rw [k472]
  have f8 : ∀ e, rfc M e 458 = M 458 := fun e => z_sA_n _ _ _ _ (by omega)
  have f5 : ∀ e, rfc M e 455 = M 455 := fun e => z_sA_n _ _ _ _ (by omega)
  have f1 : ∀ e, rfc M e 1 = M 1 := fun e => z_sA_n _ _ _ _ (by omega)
  have hMl : ∀ x : Int64, z_HM (z_setL G 472 0 x) := fun x => HM_k (Gk_L _ _ _ _) hM
  have hMt : z_HM (z_thr G) := HM_k (Gk_thr _) hM
  have hSr : ∀ e, z_St (z_thr G) (rfc M e) := fun e => St_k (Gk_thr _) hSt (fun q hq => z_sA_n _ _ _ _ (by omega))
  rcases rg_1 (M 1 (6 * t + 1)) n (by omega) with ⟨i, hin, ex⟩ | hx
  · rcases rg_1 (M 1 (6 * t + 2)) 7 (by omega) with ⟨k, hk, ey⟩ | hy
    · skip
      have e1 := k_tally hC M (V := fun k => M (nb + k)) hR hF hin hk
      rw [wr_id] at e1
      have e2 := fun x => m_tally (hMl x) M hF hin hk
      exact ⟨_, _, _, _, law_tally (k := 0) (hx1 := ex) (hx2 := ey) s1 s2 hi hl (w_tally_0 hC.1 e1 o1 o2) s1 s2 rfl hM.1 (e2 _) (th0_f0 M) o1 o2 (fun _ => lg_s _ _ _ _) (by omega), J_q hG h1 hB hm _⟩
    · skip
      have e1 := k_tally_f1 hC M (V := fun k => M (nb + k)) hR hF hin hy
      rw [wr_id] at e1
      have e2 := m_tally_f1 hMt (rfc M 1) (by rw [f8]; exact hF) hin hy
      exact ⟨_, _, _, _, law_tally (k := 2) (hx1 := ex) (hx2 := rfl) s1 s2 hi hl (w_tally_x1 hC.1 e1) s1 s2 (f1 1) hM.1 e2 (rfm_0 _ _ _) o1 o2 (fun q => absurd q (by omega)) (by omega), J_r hG h1 hB hm 2 (by omega)⟩
  · skip
    have e1 := k_tally_f0 hC M (V := fun k => M (nb + k)) hR hF (w := (M 1 (6 * t + 2))) hx
    rw [wr_id] at e1
    have e2 := m_tally_f0 hMt (rfc M 0) (w := (M 1 (6 * t + 2))) (by rw [f8]; exact hF) hx
    exact ⟨_, _, _, _, law_tally (k := 1) (hx1 := rfl) (hx2 := rfl) s1 s2 hi hl (w_tally_x0 hC.1 e1) s1 s2 (f1 0) hM.1 e2 (rfm_0 _ _ _) o1 o2 (fun q => absurd q (by omega)) (by omega), J_r hG h1 hB hm 1 (by omega)⟩
theorem S_units {t len : Nat} {sc : Nat → Int32} {G : zG} {M : zM} {w5 w6 : Value} (hJ : z_J t len sc G M) (hi : 6 * t + 6 ≤ len) (hl : len ≤ 3072) : z_Sx 760 t len sc G M w5 w6 := by
  obtain ⟨nb, pb, n, J, B, tp, pn, c, hG, h1, hB, hm⟩ := hJ
  obtain ⟨hC, hM, hQ, hSt, hcn, k472, k1⟩ := id hG
  obtain ⟨hR, hF, ⟨t1, t2, t3, t4⟩, hrf, hfp, ⟨p1, p2, p3, p4, p5⟩, hP, hN, hK⟩ := id hm
  have hn : n ≤ 8 := hF.1.1.2
  have ht : t ≤ 511 := by omega
  have hB2 : B ≤ 15800000 := by omega
  have s1 : (z_kd G 1).1 = 1 := by rw [k1]
  have s2 : (z_kd G 1).2 = len := by rw [k1]
  have o1 : (z_kd G 472).1 = 2 := by rw [k472]
  have o2 : (z_kd G 472).2 = 1 := by rw [k472]
  have f8 : ∀ e, rfc M e 458 = M 458 := fun e => z_sA_n _ _ _ _ (by omega)
  have f5 : ∀ e, rfc M e 455 = M 455 := fun e => z_sA_n _ _ _ _ (by omega)
  have f1 : ∀ e, rfc M e 1 = M 1 := fun e => z_sA_n _ _ _ _ (by omega)
  have hMl : ∀ x : Int64, z_HM (z_setL G 472 0 x) := fun x => HM_k (Gk_L _ _ _ _) hM
  have hMt : z_HM (z_thr G) := HM_k (Gk_thr _) hM
  have hSr : ∀ e, z_St (z_thr G) (rfc M e) := fun e => St_k (Gk_thr _) hSt (fun q hq => z_sA_n _ _ _ _ (by omega))
  rcases rg_1 (M 1 (6 * t + 1)) n (by omega) with ⟨i, hin, ex⟩ | hx
  · rcases rg_1 (M 1 (6 * t + 2)) J (by have := hF.2.2.1.2.2; omega) with ⟨j, hj, ey⟩ | hy
    · rcases rg_1 (M 1 (6 * t + 3)) 2 (by omega) with ⟨k, hk, ez⟩ | hz
      · skip
        have e1 := k_units hC M (V := fun k => M (nb + k)) hR hF hin hj hk
        rw [wr_id] at e1
        have e2 := fun x => m_units (hMl x) M hF hin hj hk
        exact ⟨_, _, _, _, law_units (k := 0) (hx1 := ex) (hx2 := ey) (hx3 := ez) s1 s2 hi hl (w_units_0 hC.1 e1 o1 o2) s1 s2 rfl hM.1 (e2 _) (th0_f0 M) o1 o2 (fun _ => lg_s _ _ _ _) (by omega), J_q hG h1 hB hm _⟩
      · skip
        have e1 := k_units_f2 hC M (V := fun k => M (nb + k)) hR hF hin hj hz
        rw [wr_id] at e1
        have e2 := m_units_f2 hMt (rfc M 1) (by rw [f8]; exact hF) hin hj hz
        exact ⟨_, _, _, _, law_units (k := 2) (hx1 := ex) (hx2 := ey) (hx3 := rfl) s1 s2 hi hl (w_units_x1 hC.1 e1) s1 s2 (f1 1) hM.1 e2 (rfm_0 _ _ _) o1 o2 (fun q => absurd q (by omega)) (by omega), J_r hG h1 hB hm 2 (by omega)⟩
    · skip
      have e1 := k_units_f1 hC M (V := fun k => M (nb + k)) hR hF (w := (M 1 (6 * t + 3))) hin hy
      rw [wr_id] at e1
      have e2 := m_units_f1 hMt (rfc M 0) (w := (M 1 (6 * t + 3))) (by rw [f8]; exact hF) hin hy
      exact ⟨_, _, _, _, law_units (k := 1) (hx1 := ex) (hx2 := rfl) (hx3 := rfl) s1 s2 hi hl (w_units_x0 hC.1 e1) s1 s2 (f1 0) hM.1 e2 (rfm_0 _ _ _) o1 o2 (fun q => absurd q (by omega)) (by omega), J_r hG h1 hB hm 1 (by omega)⟩
  · skip
    have e1 := k_units_f0 hC M (V := fun k => M (nb + k)) hR hF (y := (M 1 (6 * t + 2))) (w := (M 1 (6 * t + 3))) hx
    rw [wr_id] at e1
    have e2 := m_units_f0 hMt (rfc M 0) (y := (M 1 (6 * t + 2))) (w := (M 1 (6 * t + 3))) (by rw [f8]; exact hF) hx
    exact ⟨_, _, _, _, law_units (k := 1) (hx1 := rfl) (hx2 := rfl) (hx3 := rfl) s1 s2 hi hl (w_units_x0 hC.1 e1) s1 s2 (f1 0) hM.1 e2 (rfm_0 _ _ _) o1 o2 (fun q => absurd q (by omega)) (by omega), J_r hG h1 hB hm 1 (by omega)⟩
theorem S_job {t len : Nat} {sc : Nat → Int32} {G : zG} {M : zM} {w5 w6 : Value} (hJ : z_J t len sc G M) (hi : 6 * t + 6 ≤ len) (hl : len ≤ 3072) : z_Sx 840 t len sc G M w5 w6 := by
  obtain ⟨nb, pb, n, J, B, tp, pn, c, hG, h1, hB, hm⟩ := hJ
  obtain ⟨hC, hM, hQ, hSt, hcn, k472, k1⟩ := id hG
  obtain ⟨hR, hF, ⟨t1, t2, t3, t4⟩, hrf, hfp, ⟨p1, p2, p3, p4, p5⟩, hP, hN, hK⟩ := id hm
  have hn : n ≤ 8 := hF.1.1.2
  have ht : t ≤ 511 := by omega
  have hB2 : B ≤ 15800000 := by omega
  have s1 : (z_kd G 1).1 = 1 := by rw [k1]
  have s2 : (z_kd G 1).2 = len := by rw [k1]
  have o1 : (z_kd G 472).1 = 2 := by rw [k472]
  have o2 : (z_kd G 472).2 = 1 := by rw [k472]
  have f8 : ∀ e, rfc M e 458 = M 458 := fun e => z_sA_n _ _ _ _ (by omega)
  have f5 : ∀ e, rfc M e 455 = M 455 := fun e => z_sA_n _ _ _ _ (by omega)
  have f1 : ∀ e, rfc M e 1 = M 1 := fun e => z_sA_n _ _ _ _ (by omega)
  have hMl : ∀ x : Int64, z_HM (z_setL G 472 0 x) := fun x => HM_k (Gk_L _ _ _ _) hM
  have hMt : z_HM (z_thr G) := HM_k (Gk_thr _) hM
  have hSr : ∀ e, z_St (z_thr G) (rfc M e) := fun e => St_k (Gk_thr _) hSt (fun q hq => z_sA_n _ _ _ _ (by omega))
  rcases rg_1 (M 1 (6 * t + 1)) J (by have := hF.2.2.1.2.2; omega) with ⟨j, hj, ex⟩ | hx
  · rcases rg_1 (M 1 (6 * t + 2)) 4 (by omega) with ⟨k, hk, ey⟩ | hy
    · skip
      have e1 := k_jobq hC M (V := fun k => M (nb + k)) hR hF hj hk
      rw [wr_id] at e1
      have e2 := fun x => m_job (hMl x) M hF hj hk
      exact ⟨_, _, _, _, law_job (k := 0) (hx1 := ex) (hx2 := ey) s1 s2 hi hl (w_job_0 hC.1 e1 o1 o2) s1 s2 rfl hM.1 (e2 _) (th0_f0 M) o1 o2 (fun _ => lg_s _ _ _ _) (by omega), J_q hG h1 hB hm _⟩
    · skip
      have e1 := k_jobq_f1 hC M (V := fun k => M (nb + k)) hR hF hj hy
      rw [wr_id] at e1
      have e2 := m_job_f1 hMt (rfc M 1) (by rw [f8]; exact hF) hj hy
      exact ⟨_, _, _, _, law_job (k := 2) (hx1 := ex) (hx2 := rfl) s1 s2 hi hl (w_job_x1 hC.1 e1) s1 s2 (f1 1) hM.1 e2 (rfm_0 _ _ _) o1 o2 (fun q => absurd q (by omega)) (by omega), J_r hG h1 hB hm 2 (by omega)⟩
  · skip
    have e1 := k_jobq_f0 hC M (V := fun k => M (nb + k)) hR hF (w := (M 1 (6 * t + 2))) hx
    rw [wr_id] at e1
    have e2 := m_job_f0 hMt (rfc M 0) (w := (M 1 (6 * t + 2))) (by rw [f8]; exact hF) hx
    exact ⟨_, _, _, _, law_job (k := 1) (hx1 := rfl) (hx2 := rfl) s1 s2 hi hl (w_job_x0 hC.1 e1) s1 s2 (f1 0) hM.1 e2 (rfm_0 _ _ _) o1 o2 (fun q => absurd q (by omega)) (by omega), J_r hG h1 hB hm 1 (by omega)⟩
theorem S_link {t len : Nat} {sc : Nat → Int32} {G : zG} {M : zM} {w5 w6 : Value} (hJ : z_J t len sc G M) (hi : 6 * t + 6 ≤ len) (hl : len ≤ 3072) : z_Sx 908 t len sc G M w5 w6 := by
  obtain ⟨nb, pb, n, J, B, tp, pn, c, hG, h1, hB, hm⟩ := hJ
  obtain ⟨hC, hM, hQ, hSt, hcn, k472, k1⟩ := id hG
  obtain ⟨hR, hF, ⟨t1, t2, t3, t4⟩, hrf, hfp, ⟨p1, p2, p3, p4, p5⟩, hP, hN, hK⟩ := id hm
  have hn : n ≤ 8 := hF.1.1.2
  have ht : t ≤ 511 := by omega
  have hB2 : B ≤ 15800000 := by omega
  have s1 : (z_kd G 1).1 = 1 := by rw [k1]
  have s2 : (z_kd G 1).2 = len := by rw [k1]
  have o1 : (z_kd G 472).1 = 2 := by rw [k472]
  have o2 : (z_kd G 472).2 = 1 := by rw [k472]
  have f8 : ∀ e, rfc M e 458 = M 458 := fun e => z_sA_n _ _ _ _ (by omega)
  have f5 : ∀ e, rfc M e 455 = M 455 := fun e => z_sA_n _ _ _ _ (by omega)
  have f1 : ∀ e, rfc M e 1 = M 1 := fun e => z_sA_n _ _ _ _ (by omega)
  have hMl : ∀ x : Int64, z_HM (z_setL G 472 0 x) := fun x => HM_k (Gk_L _ _ _ _) hM
  have hMt : z_HM (z_thr G) := HM_k (Gk_thr _) hM
  have hSr : ∀ e, z_St (z_thr G) (rfc M e) := fun e => St_k (Gk_thr _) hSt (fun q hq => z_sA_n _ _ _ _ (by omega))
  rcases rg_1 (M 1 (6 * t + 1)) n (by omega) with ⟨i, hin, ex⟩ | hx
  · rcases rg_1 (M 1 (6 * t + 2)) n (by omega) with ⟨j, hj, ey⟩ | hy
    · by_cases ne : i = j
      · subst ne
        have e1 := k_link_f2 hC M (V := fun k => M (nb + k)) hR hF hin
        rw [wr_id] at e1
        have e2 := m_link_f2 hMt (rfc M 1) (by rw [f8]; exact hF) hin
        exact ⟨_, _, _, _, law_link (k := 2) (hx1 := ex) (hx2 := ey) s1 s2 hi hl (w_link_x1 hC.1 e1) s1 s2 (f1 1) hM.1 e2 (rfm_0 _ _ _) o1 o2 (Or.inl rfl) (fun q => absurd q (by omega)) (by omega), J_r hG h1 hB hm 2 (by omega)⟩
      · have e1 := k_link hC M (V := fun k => M (nb + k)) hR hF hin hj ne
        rw [wr_id] at e1
        have e2 := fun x => m_link (hMl x) M hF hin hj ne
        cases hb : (!zf_has (M 458 (25 + i)) (nI j)) with
        | true =>
          rw [hb] at e1
          have e2' := e2 (Int64.ofNat 1)
          rw [hb] at e2'
          exact ⟨_, _, _, _, law_link (k := 0) (hx1 := ex) (hx2 := ey) s1 s2 hi hl (w_link_t hC.1 e1 o1 o2) s1 s2 rfl hM.1 e2' (th0_f0 M) o1 o2 (Or.inr rfl) (fun _ => by rw [lg_s]; exact (if_neg (by decide)).symm) (by omega), J_q hG h1 hB hm _⟩
        | false =>
          rw [hb] at e1
          have e2' := e2 (Int64.ofNat 0)
          rw [hb] at e2'
          exact ⟨_, _, _, _, law_link (k := 0) (hx1 := ex) (hx2 := ey) s1 s2 hi hl (w_link_f hC.1 e1 o1 o2) s1 s2 rfl hM.1 e2' (th0_f0 M) o1 o2 (Or.inl rfl) (fun _ => by rw [lg_s]; exact (if_pos rfl).symm) (by omega), J_q hG h1 hB hm _⟩
    · skip
      have e1 := k_link_f1 hC M (V := fun k => M (nb + k)) hR hF hin hy
      rw [wr_id] at e1
      have e2 := m_link_f1 hMt (rfc M 0) (by rw [f8]; exact hF) hin hy
      exact ⟨_, _, _, _, law_link (k := 1) (hx1 := ex) (hx2 := rfl) s1 s2 hi hl (w_link_x0 hC.1 e1) s1 s2 (f1 0) hM.1 e2 (rfm_0 _ _ _) o1 o2 (Or.inl rfl) (fun q => absurd q (by omega)) (by omega), J_r hG h1 hB hm 1 (by omega)⟩
  · skip
    have e1 := k_link_f0 hC M (V := fun k => M (nb + k)) hR hF (y := (M 1 (6 * t + 2))) hx
    rw [wr_id] at e1
    have e2 := m_link_f0 hMt (rfc M 0) (y := (M 1 (6 * t + 2))) (by rw [f8]; exact hF) hx
    exact ⟨_, _, _, _, law_link (k := 1) (hx1 := rfl) (hx2 := rfl) s1 s2 hi hl (w_link_x0 hC.1 e1) s1 s2 (f1 0) hM.1 e2 (rfm_0 _ _ _) o1 o2 (Or.inl rfl) (fun q => absurd q (by omega)) (by omega), J_r hG h1 hB hm 1 (by omega)⟩
theorem S_letter {t len : Nat} {sc : Nat → Int32} {G : zG} {M : zM} {w5 w6 : Value} (hJ : z_J t len sc G M) (hi : 6 * t + 6 ≤ len) (hl : len ≤ 3072) : z_Sx 983 t len sc G M w5 w6 := by
  obtain ⟨nb, pb, n, J, B, tp, pn, c, hG, h1, hB, hm⟩ := hJ
  obtain ⟨hC, hM, hQ, hSt, hcn, k472, k1⟩ := id hG
  obtain ⟨hR, hF, ⟨t1, t2, t3, t4⟩, hrf, hfp, ⟨p1, p2, p3, p4, p5⟩, hP, hN, hK⟩ := id hm
  have hn : n ≤ 8 := hF.1.1.2
  have ht : t ≤ 511 := by omega
  have hB2 : B ≤ 15800000 := by omega
  have s1 : (z_kd G 1).1 = 1 := by rw [k1]
  have s2 : (z_kd G 1).2 = len := by rw [k1]
  have o1 : (z_kd G 472).1 = 2 := by rw [k472]
  have o2 : (z_kd G 472).2 = 1 := by rw [k472]
  have f8 : ∀ e, rfc M e 458 = M 458 := fun e => z_sA_n _ _ _ _ (by omega)
  have f5 : ∀ e, rfc M e 455 = M 455 := fun e => z_sA_n _ _ _ _ (by omega)
  have f1 : ∀ e, rfc M e 1 = M 1 := fun e => z_sA_n _ _ _ _ (by omega)
  have hMl : ∀ x : Int64, z_HM (z_setL G 472 0 x) := fun x => HM_k (Gk_L _ _ _ _) hM
  have hMt : z_HM (z_thr G) := HM_k (Gk_thr _) hM
  have hSr : ∀ e, z_St (z_thr G) (rfc M e) := fun e => St_k (Gk_thr _) hSt (fun q hq => z_sA_n _ _ _ _ (by omega))
  obtain ⟨m, m3, e8, v41, hLR⟩ := R_let hR
  rcases rg_1 (M 1 (6 * t + 1)) m (by omega) with ⟨i, hin, ex⟩ | hx
  · rcases rg_1 (M 1 (6 * t + 2)) 7 (by omega) with ⟨k, hk, ey⟩ | hy
    · skip
      have e1 := k_letter hC M (V := fun k => M (nb + k)) hR hF e8 m3 v41 (hLR i hin) hin hk
      rw [wr_id] at e1
      have e2 := fun x => m_letter (hMl x) M e8 m3 hin hk
      exact ⟨_, _, _, _, law_letter (k := 0) (hx1 := ex) (hx2 := ey) s1 s2 hi hl (w_letter_0 hC.1 e1 o1 o2) s1 s2 rfl hM.1 (e2 _) (th0_f0 M) o1 o2 (fun _ => lg_s _ _ _ _) (by omega), J_q hG h1 hB hm _⟩
    · skip
      have e1 := k_letter_f1 hC M (V := fun k => M (nb + k)) v41 m3 hin hy
      rw [wr_id] at e1
      have e2 := m_letter_f1 hMt (rfc M 1) (by rw [f8]; exact e8) m3 hin hy
      exact ⟨_, _, _, _, law_letter (k := 2) (hx1 := ex) (hx2 := rfl) s1 s2 hi hl (w_letter_x1 hC.1 e1) s1 s2 (f1 1) hM.1 e2 (rfm_0 _ _ _) o1 o2 (fun q => absurd q (by omega)) (by omega), J_r hG h1 hB hm 2 (by omega)⟩
  · skip
    have e1 := k_letter_f0 hC M (V := fun k => M (nb + k)) (w := (M 1 (6 * t + 2))) v41 hx
    rw [wr_id] at e1
    have e2 := m_letter_f0 hMt (rfc M 0) (w := (M 1 (6 * t + 2))) (by rw [f8]; exact e8) m3 hx
    exact ⟨_, _, _, _, law_letter (k := 1) (hx1 := rfl) (hx2 := rfl) s1 s2 hi hl (w_letter_x0 hC.1 e1) s1 s2 (f1 0) hM.1 e2 (rfm_0 _ _ _) o1 o2 (fun q => absurd q (by omega)) (by omega), J_r hG h1 hB hm 1 (by omega)⟩
theorem S_sent {t len : Nat} {sc : Nat → Int32} {G : zG} {M : zM} {w5 w6 : Value} (hJ : z_J t len sc G M) (hi : 6 * t + 6 ≤ len) (hl : len ≤ 3072) : z_Sx 1051 t len sc G M w5 w6 := by
  obtain ⟨nb, pb, n, J, B, tp, pn, c, hG, h1, hB, hm⟩ := hJ
  obtain ⟨hC, hM, hQ, hSt, hcn, k472, k1⟩ := id hG
  obtain ⟨hR, hF, ⟨t1, t2, t3, t4⟩, hrf, hfp, ⟨p1, p2, p3, p4, p5⟩, hP, hN, hK⟩ := id hm
  have hn : n ≤ 8 := hF.1.1.2
  have ht : t ≤ 511 := by omega
  have hB2 : B ≤ 15800000 := by omega
  have s1 : (z_kd G 1).1 = 1 := by rw [k1]
  have s2 : (z_kd G 1).2 = len := by rw [k1]
  have o1 : (z_kd G 472).1 = 2 := by rw [k472]
  have o2 : (z_kd G 472).2 = 1 := by rw [k472]
  have f8 : ∀ e, rfc M e 458 = M 458 := fun e => z_sA_n _ _ _ _ (by omega)
  have f5 : ∀ e, rfc M e 455 = M 455 := fun e => z_sA_n _ _ _ _ (by omega)
  have f1 : ∀ e, rfc M e 1 = M 1 := fun e => z_sA_n _ _ _ _ (by omega)
  have hMl : ∀ x : Int64, z_HM (z_setL G 472 0 x) := fun x => HM_k (Gk_L _ _ _ _) hM
  have hMt : z_HM (z_thr G) := HM_k (Gk_thr _) hM
  have hSr : ∀ e, z_St (z_thr G) (rfc M e) := fun e => St_k (Gk_thr _) hSt (fun q hq => z_sA_n _ _ _ _ (by omega))
  rcases rg_1 (M 1 (6 * t + 1)) 8 (by omega) with ⟨k, hk, ex⟩ | hx
  · rcases rg_1 (M 1 (6 * t + 2)) 2 (by omega) with ⟨j, hj, ey⟩ | hy
    · skip
      have e1 := k_sent hC M (V := fun k => M (nb + k)) hR hk hj
      rw [wr_id] at e1
      have e2 := fun x => m_sent (hMl x) M hk hj
      exact ⟨_, _, _, _, law_sent (k := 0) (hx1 := ex) (hx2 := ey) s1 s2 hi hl (w_sent_0 hC.1 e1 o1 o2) s1 s2 rfl hM.1 (e2 _) (th0_f0 M) o1 o2 (fun _ => lg_s _ _ _ _) (by omega), J_q hG h1 hB hm _⟩
    · skip
      have e1 := k_sent_f hC M (x := (M 1 (6 * t + 1))) (Or.inr hy)
      have e2 := m_sent_f hMt (rfc M 1) (x := (M 1 (6 * t + 1))) (Or.inr hy)
      exact ⟨_, _, _, _, law_sent (k := 1) (hx1 := rfl) (hx2 := rfl) s1 s2 hi hl (w_sent_x1 hC.1 e1) s1 s2 (f1 1) hM.1 e2 (rfm_0 _ _ _) o1 o2 (fun q => absurd q (by omega)) (by omega), J_r hG h1 hB hm 1 (by omega)⟩
  · skip
    have e1 := k_sent_f hC M (w := (M 1 (6 * t + 2))) (Or.inl hx)
    have e2 := m_sent_f hMt (rfc M 1) (w := (M 1 (6 * t + 2))) (Or.inl hx)
    exact ⟨_, _, _, _, law_sent (k := 1) (hx1 := rfl) (hx2 := rfl) s1 s2 hi hl (w_sent_x1 hC.1 e1) s1 s2 (f1 1) hM.1 e2 (rfm_0 _ _ _) o1 o2 (fun q => absurd q (by omega)) (by omega), J_r hG h1 hB hm 1 (by omega)⟩
theorem S_change {t len : Nat} {sc : Nat → Int32} {G : zG} {M : zM} {w5 w6 : Value} (hJ : z_J t len sc G M) (hi : 6 * t + 6 ≤ len) (hl : len ≤ 3072) : z_Sx 1187 t len sc G M w5 w6 := by
  obtain ⟨nb, pb, n, J, B, tp, pn, c, hG, h1, hB, hm⟩ := hJ
  obtain ⟨hC, hM, hQ, hSt, hcn, k472, k1⟩ := id hG
  obtain ⟨hR, hF, ⟨t1, t2, t3, t4⟩, hrf, hfp, ⟨p1, p2, p3, p4, p5⟩, hP, hN, hK⟩ := id hm
  have hn : n ≤ 8 := hF.1.1.2
  have ht : t ≤ 511 := by omega
  have hB2 : B ≤ 15800000 := by omega
  have s1 : (z_kd G 1).1 = 1 := by rw [k1]
  have s2 : (z_kd G 1).2 = len := by rw [k1]
  have o1 : (z_kd G 472).1 = 2 := by rw [k472]
  have o2 : (z_kd G 472).2 = 1 := by rw [k472]
  have f8 : ∀ e, rfc M e 458 = M 458 := fun e => z_sA_n _ _ _ _ (by omega)
  have f5 : ∀ e, rfc M e 455 = M 455 := fun e => z_sA_n _ _ _ _ (by omega)
  have f1 : ∀ e, rfc M e 1 = M 1 := fun e => z_sA_n _ _ _ _ (by omega)
  have hMl : ∀ x : Int64, z_HM (z_setL G 472 0 x) := fun x => HM_k (Gk_L _ _ _ _) hM
  have hMt : z_HM (z_thr G) := HM_k (Gk_thr _) hM
  have hSr : ∀ e, z_St (z_thr G) (rfc M e) := fun e => St_k (Gk_thr _) hSt (fun q hq => z_sA_n _ _ _ _ (by omega))
  obtain ⟨m, m3, e8⟩ := hF.1.2.2
  rcases rg_1 (M 1 (6 * t + 1)) m (by omega) with ⟨i, hin, ex⟩ | hx
  · rcases rg_1 (M 1 (6 * t + 2)) 4 (by omega) with ⟨k, hk, ey⟩ | hy
    · skip
      have e1 := k_change hC M (V := fun k => M (nb + k)) hR (by omega) e8 m3 hin hk
      rw [wr_id] at e1
      have e2 := fun x => m_change (hMl x) M e8 m3 hin hk
      exact ⟨_, _, _, _, law_change (k := 0) (hx1 := ex) (hx2 := ey) s1 s2 hi hl (w_change_0 hC.1 e1 o1 o2) s1 s2 rfl hM.1 (e2 _) (th0_f0 M) o1 o2 (fun _ => lg_s _ _ _ _) (by omega), J_q hG h1 hB hm _⟩
    · skip
      have e1 := k_change_f1 hC M (V := fun k => M (nb + k)) hR (by omega) e8 m3 hin hy
      rw [wr_id] at e1
      have e2 := m_change_f1 hMt (rfc M 1) (by rw [f8]; exact e8) m3 hin hy
      exact ⟨_, _, _, _, law_change (k := 2) (hx1 := ex) (hx2 := rfl) s1 s2 hi hl (w_change_x1 hC.1 e1) s1 s2 (f1 1) hM.1 e2 (rfm_0 _ _ _) o1 o2 (fun q => absurd q (by omega)) (by omega), J_r hG h1 hB hm 2 (by omega)⟩
  · skip
    have e1 := k_change_f0 hC M (V := fun k => M (nb + k)) hR (by omega) (w := (M 1 (6 * t + 2))) e8 hx
    rw [wr_id] at e1
    have e2 := m_change_f0 hMt (rfc M 0) (w := (M 1 (6 * t + 2))) (by rw [f8]; exact e8) (by omega) hx
    exact ⟨_, _, _, _, law_change (k := 1) (hx1 := rfl) (hx2 := rfl) s1 s2 hi hl (w_change_x0 hC.1 e1) s1 s2 (f1 0) hM.1 e2 (rfm_0 _ _ _) o1 o2 (fun q => absurd q (by omega)) (by omega), J_r hG h1 hB hm 1 (by omega)⟩
theorem S_ranked {t len : Nat} {sc : Nat → Int32} {G : zG} {M : zM} {w5 w6 : Value} (hJ : z_J t len sc G M) (hi : 6 * t + 6 ≤ len) (hl : len ≤ 3072) : z_Sx 1268 t len sc G M w5 w6 := by
  obtain ⟨nb, pb, n, J, B, tp, pn, c, hG, h1, hB, hm⟩ := hJ
  obtain ⟨hC, hM, hQ, hSt, hcn, k472, k1⟩ := id hG
  obtain ⟨hR, hF, ⟨t1, t2, t3, t4⟩, hrf, hfp, ⟨p1, p2, p3, p4, p5⟩, hP, hN, hK⟩ := id hm
  have hn : n ≤ 8 := hF.1.1.2
  have ht : t ≤ 511 := by omega
  have hB2 : B ≤ 15800000 := by omega
  have s1 : (z_kd G 1).1 = 1 := by rw [k1]
  have s2 : (z_kd G 1).2 = len := by rw [k1]
  have o1 : (z_kd G 472).1 = 2 := by rw [k472]
  have o2 : (z_kd G 472).2 = 1 := by rw [k472]
  have f8 : ∀ e, rfc M e 458 = M 458 := fun e => z_sA_n _ _ _ _ (by omega)
  have f5 : ∀ e, rfc M e 455 = M 455 := fun e => z_sA_n _ _ _ _ (by omega)
  have f1 : ∀ e, rfc M e 1 = M 1 := fun e => z_sA_n _ _ _ _ (by omega)
  have hMl : ∀ x : Int64, z_HM (z_setL G 472 0 x) := fun x => HM_k (Gk_L _ _ _ _) hM
  have hMt : z_HM (z_thr G) := HM_k (Gk_thr _) hM
  have hSr : ∀ e, z_St (z_thr G) (rfc M e) := fun e => St_k (Gk_thr _) hSt (fun q hq => z_sA_n _ _ _ _ (by omega))
  rcases rg_1 (M 1 (6 * t + 1)) n (by omega) with ⟨i, hin, ex⟩ | hx
  · skip
    have e1 := k_ranked hC M (V := fun k => M (nb + k)) hR hF (w := (M 1 (6 * t + 2))) hin
    rw [wr_id] at e1
    have e2 := fun x => m_ranked (hMl x) M (w := (M 1 (6 * t + 2))) hF hin (f_ci_t hF hin).1
    exact ⟨_, _, _, _, law_ranked (k := 0) (hx1 := ex) (hx2 := rfl) s1 s2 hi hl (w_ranked_0 hC.1 e1 o1 o2) s1 s2 rfl hM.1 (e2 _) (th0_f0 M) o1 o2 (fun _ => lg_s _ _ _ _) (by omega), J_q hG h1 hB hm _⟩
  · skip
    have e1 := k_ranked_f hC M (V := fun k => M (nb + k)) hR hF (w := (M 1 (6 * t + 2))) hx
    rw [wr_id] at e1
    have e2 := m_ranked_f hMt (rfc M 0) (w := (M 1 (6 * t + 2))) (by rw [f8]; exact hF) hx
    exact ⟨_, _, _, _, law_ranked (k := 1) (hx1 := rfl) (hx2 := rfl) s1 s2 hi hl (w_ranked_x0 hC.1 e1) s1 s2 (f1 0) hM.1 e2 (rfm_0 _ _ _) o1 o2 (fun q => absurd q (by omega)) (by omega), J_r hG h1 hB hm 1 (by omega)⟩
theorem S_untilBy {t len : Nat} {sc : Nat → Int32} {G : zG} {M : zM} {w5 w6 : Value} (hJ : z_J t len sc G M) (hi : 6 * t + 6 ≤ len) (hl : len ≤ 3072) : z_Sx 1349 t len sc G M w5 w6 := by
  obtain ⟨nb, pb, n, J, B, tp, pn, c, hG, h1, hB, hm⟩ := hJ
  obtain ⟨hC, hM, hQ, hSt, hcn, k472, k1⟩ := id hG
  obtain ⟨hR, hF, ⟨t1, t2, t3, t4⟩, hrf, hfp, ⟨p1, p2, p3, p4, p5⟩, hP, hN, hK⟩ := id hm
  have hn : n ≤ 8 := hF.1.1.2
  have ht : t ≤ 511 := by omega
  have hB2 : B ≤ 15800000 := by omega
  have s1 : (z_kd G 1).1 = 1 := by rw [k1]
  have s2 : (z_kd G 1).2 = len := by rw [k1]
  have o1 : (z_kd G 472).1 = 2 := by rw [k472]
  have o2 : (z_kd G 472).2 = 1 := by rw [k472]
  have f8 : ∀ e, rfc M e 458 = M 458 := fun e => z_sA_n _ _ _ _ (by omega)
  have f5 : ∀ e, rfc M e 455 = M 455 := fun e => z_sA_n _ _ _ _ (by omega)
  have f1 : ∀ e, rfc M e 1 = M 1 := fun e => z_sA_n _ _ _ _ (by omega)
  have hMl : ∀ x : Int64, z_HM (z_setL G 472 0 x) := fun x => HM_k (Gk_L _ _ _ _) hM
  have hMt : z_HM (z_thr G) := HM_k (Gk_thr _) hM
  have hSr : ∀ e, z_St (z_thr G) (rfc M e) := fun e => St_k (Gk_thr _) hSt (fun q hq => z_sA_n _ _ _ _ (by omega))
  rcases rg_1 (M 1 (6 * t + 1)) n (by omega) with ⟨i, hin, ex⟩ | hx
  · skip
    obtain ⟨M1, e1, x⟩ := k_untilBy hC M hR hF (by omega) hN hin
    have q8 : M1 458 = M 458 := x.1 458 (by omega) (by omega)
    have q1 : M1 1 = M 1 := x.1 1 (by omega) (by omega)
    have qs : z_St G M1 := St_k (Gk_refl _) hSt (fun q hq => x.1 q (by omega) (by omega))
    obtain ⟨M2, e2, y⟩ := m_untilBy (hMl _) M1 (by rw [q8]; exact hF) (by omega) hin
    rw [q8] at e2
    exact ⟨_, _, _, _, law_untilBy (k := 0) (hx1 := ex) s1 s2 hi hl (w_untilBy_0 hC.1 e1 o1 o2) s1 s2 q1 hM.1 e2 (Pq_0 y) o1 o2 (fun _ => lg_s _ _ _ _) (by omega), J_p hG h1 hB hm x y _⟩
  · skip
    have e1 := k_untilBy_f hC M hR hF hx
    have e2 := m_untilBy_f hMt (rfc M 0) (by rw [f8]; exact hF) hx
    exact ⟨_, _, _, _, law_untilBy (k := 1) (hx1 := rfl) s1 s2 hi hl (w_untilBy_x0 hC.1 e1) s1 s2 (f1 0) hM.1 e2 (rfm_0 _ _ _) o1 o2 (fun q => absurd q (by omega)) (by omega), J_r hG h1 hB hm 1 (by omega)⟩
theorem S_hardest {t len : Nat} {sc : Nat → Int32} {G : zG} {M : zM} {w5 w6 : Value} (hJ : z_J t len sc G M) (hi : 6 * t + 6 ≤ len) (hl : len ≤ 3072) : z_Sx 1405 t len sc G M w5 w6 := by
  obtain ⟨nb, pb, n, J, B, tp, pn, c, hG, h1, hB, hm⟩ := hJ
  obtain ⟨hC, hM, hQ, hSt, hcn, k472, k1⟩ := id hG
  obtain ⟨hR, hF, ⟨t1, t2, t3, t4⟩, hrf, hfp, ⟨p1, p2, p3, p4, p5⟩, hP, hN, hK⟩ := id hm
  have hn : n ≤ 8 := hF.1.1.2
  have ht : t ≤ 511 := by omega
  have hB2 : B ≤ 15800000 := by omega
  have s1 : (z_kd G 1).1 = 1 := by rw [k1]
  have s2 : (z_kd G 1).2 = len := by rw [k1]
  have o1 : (z_kd G 472).1 = 2 := by rw [k472]
  have o2 : (z_kd G 472).2 = 1 := by rw [k472]
  have f8 : ∀ e, rfc M e 458 = M 458 := fun e => z_sA_n _ _ _ _ (by omega)
  have f5 : ∀ e, rfc M e 455 = M 455 := fun e => z_sA_n _ _ _ _ (by omega)
  have f1 : ∀ e, rfc M e 1 = M 1 := fun e => z_sA_n _ _ _ _ (by omega)
  have hMl : ∀ x : Int64, z_HM (z_setL G 472 0 x) := fun x => HM_k (Gk_L _ _ _ _) hM
  have hMt : z_HM (z_thr G) := HM_k (Gk_thr _) hM
  have hSr : ∀ e, z_St (z_thr G) (rfc M e) := fun e => St_k (Gk_thr _) hSt (fun q hq => z_sA_n _ _ _ _ (by omega))
  rcases rg_1 (M 1 (6 * t + 1)) 2 (by omega) with ⟨k, hk, ex⟩ | hx
  · skip
    obtain ⟨M1, e1, x⟩ := k_hardest hC M hR hF (by omega) hN hk
    have q8 : M1 458 = M 458 := x.1 458 (by omega) (by omega)
    have q1 : M1 1 = M 1 := x.1 1 (by omega) (by omega)
    have qs : z_St G M1 := St_k (Gk_refl _) hSt (fun q hq => x.1 q (by omega) (by omega))
    obtain ⟨M2, e2, y⟩ := m_hardest (hMl _) (HC_W (HC_k (Gk_L _ _ _ _) hC)) M1 (by rw [q8]; exact R_ft hR) (by rw [q8]; exact hF) (by omega) hk
    rw [q8] at e2
    exact ⟨_, _, _, _, law_hardest (k := 0) (hx1 := ex) s1 s2 hi hl (w_hardest_0 hC.1 e1 o1 o2) s1 s2 q1 hM.1 e2 (Pq_0 y) o1 o2 (fun _ => lg_s _ _ _ _) (by omega), J_p hG h1 hB hm x y _⟩
  · skip
    have e1 := k_hardest_f hC M hx
    have e2 := m_hardest_f hMt (rfc M 1) hx
    exact ⟨_, _, _, _, law_hardest (k := 1) (hx1 := rfl) s1 s2 hi hl (w_hardest_x1 hC.1 e1) s1 s2 (f1 1) hM.1 e2 (rfm_0 _ _ _) o1 o2 (fun q => absurd q (by omega)) (by omega), J_r hG h1 hB hm 1 (by omega)⟩
theorem S_untilRule {t len : Nat} {sc : Nat → Int32} {G : zG} {M : zM} {w5 w6 : Value} (hJ : z_J t len sc G M) (hi : 6 * t + 6 ≤ len) (hl : len ≤ 3072) : z_Sx 1461 t len sc G M w5 w6 := by
  obtain ⟨nb, pb, n, J, B, tp, pn, c, hG, h1, hB, hm⟩ := hJ
  obtain ⟨hC, hM, hQ, hSt, hcn, k472, k1⟩ := id hG
  obtain ⟨hR, hF, ⟨t1, t2, t3, t4⟩, hrf, hfp, ⟨p1, p2, p3, p4, p5⟩, hP, hN, hK⟩ := id hm
  have hn : n ≤ 8 := hF.1.1.2
  have ht : t ≤ 511 := by omega
  have hB2 : B ≤ 15800000 := by omega
  have s1 : (z_kd G 1).1 = 1 := by rw [k1]
  have s2 : (z_kd G 1).2 = len := by rw [k1]
  have o1 : (z_kd G 472).1 = 2 := by rw [k472]
  have o2 : (z_kd G 472).2 = 1 := by rw [k472]
  have f8 : ∀ e, rfc M e 458 = M 458 := fun e => z_sA_n _ _ _ _ (by omega)
  have f5 : ∀ e, rfc M e 455 = M 455 := fun e => z_sA_n _ _ _ _ (by omega)
  have f1 : ∀ e, rfc M e 1 = M 1 := fun e => z_sA_n _ _ _ _ (by omega)
  have hMl : ∀ x : Int64, z_HM (z_setL G 472 0 x) := fun x => HM_k (Gk_L _ _ _ _) hM
  have hMt : z_HM (z_thr G) := HM_k (Gk_thr _) hM
  have hSr : ∀ e, z_St (z_thr G) (rfc M e) := fun e => St_k (Gk_thr _) hSt (fun q hq => z_sA_n _ _ _ _ (by omega))
  cases hx : q_rule (M 1 (6 * t + 1)) (M 1 (6 * t + 2)) with
  | true =>
    obtain ⟨k, hk, ex, hv⟩ := q_rule_t hx
    rw [ex] at hx
    obtain ⟨M1, e1, x⟩ := k_untilRule hC M hR hF (by omega) hN hSt hk hx hv
    have q8 : M1 458 = M 458 := x.1 458 (by omega) (by omega)
    have q1 : M1 1 = M 1 := x.1 1 (by omega) (by omega)
    have qs : z_St G M1 := St_k (Gk_refl _) hSt (fun q hq => x.1 q (by omega) (by omega))
    obtain ⟨M2, e2, y⟩ := m_untilRule (hMl _) M1 (by rw [q8]; exact hF) (by omega) hk (St_k (Gk_L _ _ _ _) qs (fun _ _ => rfl)) hx hv
    rw [q8] at e2
    exact ⟨_, _, _, _, law_untilRule (k := 0) (hx1 := ex) (hx2 := rfl) s1 s2 hi hl (w_untilRule_0 hC.1 e1 o1 o2) s1 s2 q1 hM.1 e2 (Pq_0 y) o1 o2 (fun _ => lg_s _ _ _ _) (by omega), J_p hG h1 hB hm x y _⟩
  | false =>
    have e1 := k_untilRule_f hC M hSt hx
    have e2 := m_untilRule_f hMt (rfc M 1) (hSr 1) hx
    exact ⟨_, _, _, _, law_untilRule (k := 1) (hx1 := rfl) (hx2 := rfl) s1 s2 hi hl (w_untilRule_x1 hC.1 e1) s1 s2 (f1 1) hM.1 e2 (rfm_0 _ _ _) o1 o2 (fun q => absurd q (by omega)) (by omega), J_r hG h1 hB hm 1 (by omega)⟩
theorem S_untilLinks {t len : Nat} {sc : Nat → Int32} {G : zG} {M : zM} {w5 w6 : Value} (hJ : z_J t len sc G M) (hi : 6 * t + 6 ≤ len) (hl : len ≤ 3072) : z_Sx 1529 t len sc G M w5 w6 := by
  obtain ⟨nb, pb, n, J, B, tp, pn, c, hG, h1, hB, hm⟩ := hJ
  obtain ⟨hC, hM, hQ, hSt, hcn, k472, k1⟩ := id hG
  obtain ⟨hR, hF, ⟨t1, t2, t3, t4⟩, hrf, hfp, ⟨p1, p2, p3, p4, p5⟩, hP, hN, hK⟩ := id hm
  have hn : n ≤ 8 := hF.1.1.2
  have ht : t ≤ 511 := by omega
  have hB2 : B ≤ 15800000 := by omega
  have s1 : (z_kd G 1).1 = 1 := by rw [k1]
  have s2 : (z_kd G 1).2 = len := by rw [k1]
  have o1 : (z_kd G 472).1 = 2 := by rw [k472]
  have o2 : (z_kd G 472).2 = 1 := by rw [k472]
  have f8 : ∀ e, rfc M e 458 = M 458 := fun e => z_sA_n _ _ _ _ (by omega)
  have f5 : ∀ e, rfc M e 455 = M 455 := fun e => z_sA_n _ _ _ _ (by omega)
  have f1 : ∀ e, rfc M e 1 = M 1 := fun e => z_sA_n _ _ _ _ (by omega)
  have hMl : ∀ x : Int64, z_HM (z_setL G 472 0 x) := fun x => HM_k (Gk_L _ _ _ _) hM
  have hMt : z_HM (z_thr G) := HM_k (Gk_thr _) hM
  have hSr : ∀ e, z_St (z_thr G) (rfc M e) := fun e => St_k (Gk_thr _) hSt (fun q hq => z_sA_n _ _ _ _ (by omega))
  rcases rg_1 (M 1 (6 * t + 1)) 2 (by omega) with ⟨k, hk, ex⟩ | hx
  · rcases (show k = 0 ∨ k = 1 by omega) with e | e
    · subst e
      obtain ⟨M1, e1, x⟩ := k_untilLinks0 hC M hR hF (by omega) hN (M 1 (6 * t + 2))
      have q8 : M1 458 = M 458 := x.1 458 (by omega) (by omega)
      have q1 : M1 1 = M 1 := x.1 1 (by omega) (by omega)
      have qs : z_St G M1 := St_k (Gk_refl _) hSt (fun q hq => x.1 q (by omega) (by omega))
      obtain ⟨M2, e2, y⟩ := m_untilLinks0 (hMl _) M1 (by rw [q8]; exact hF) (by omega) (by rw [q8]; exact JM_Lk hm) (M 1 (6 * t + 2))
      rw [q8] at e2
      exact ⟨_, _, _, _, law_untilLinks (k := 0) (hx1 := ex) (hx2 := rfl) s1 s2 hi hl (w_untilLinks_0 hC.1 e1 o1 o2) s1 s2 q1 hM.1 e2 (Pq_0 y) o1 o2 (fun _ => lg_s _ _ _ _) (by omega), J_p hG h1 hB hm x y _⟩
    · subst e
      cases hx : zf_in (M 1 (6 * t + 2)) (nI 0) (nI (2 ^ n - 1)) with
      | true =>
        obtain ⟨M1, e1, x⟩ := k_untilLinks1 hC M hR hF (by omega) hN hx
        have q8 : M1 458 = M 458 := x.1 458 (by omega) (by omega)
        have q1 : M1 1 = M 1 := x.1 1 (by omega) (by omega)
        have qs : z_St G M1 := St_k (Gk_refl _) hSt (fun q hq => x.1 q (by omega) (by omega))
        obtain ⟨M2, e2, y⟩ := m_untilLinks1 (hMl _) M1 (by rw [q8]; exact hF) (by omega) hx
        rw [q8] at e2
        exact ⟨_, _, _, _, law_untilLinks (k := 0) (hx1 := ex) (hx2 := rfl) s1 s2 hi hl (w_untilLinks_0 hC.1 e1 o1 o2) s1 s2 q1 hM.1 e2 (Pq_0 y) o1 o2 (fun _ => lg_s _ _ _ _) (by omega), J_p hG h1 hB hm x y _⟩
      | false =>
        have e1 := k_untilLinks_f hC M hR hF (w := nI 1) (Or.inr ⟨rfl, hx⟩)
        have e2 := m_untilLinks_f hMt (rfc M 1) (by rw [f8]; exact hF.1.1.1) hn (w := nI 1) (Or.inr ⟨rfl, hx⟩)
        exact ⟨_, _, _, _, law_untilLinks (k := 1) (hx1 := ex) (hx2 := rfl) s1 s2 hi hl (w_untilLinks_x1 hC.1 e1) s1 s2 (f1 1) hM.1 e2 (rfm_0 _ _ _) o1 o2 (fun q => absurd q (by omega)) (by omega), J_r hG h1 hB hm 1 (by omega)⟩
  · skip
    have e1 := k_untilLinks_f hC M hR hF (x := (M 1 (6 * t + 2))) (Or.inl hx)
    have e2 := m_untilLinks_f hMt (rfc M 1) (by rw [f8]; exact hF.1.1.1) hn (x := (M 1 (6 * t + 2))) (Or.inl hx)
    exact ⟨_, _, _, _, law_untilLinks (k := 1) (hx1 := rfl) (hx2 := rfl) s1 s2 hi hl (w_untilLinks_x1 hC.1 e1) s1 s2 (f1 1) hM.1 e2 (rfm_0 _ _ _) o1 o2 (fun q => absurd q (by omega)) (by omega), J_r hG h1 hB hm 1 (by omega)⟩
theorem S_ahead {t len : Nat} {sc : Nat → Int32} {G : zG} {M : zM} {w5 w6 : Value} (hJ : z_J t len sc G M) (hi : 6 * t + 6 ≤ len) (hl : len ≤ 3072) : z_Sx 1597 t len sc G M w5 w6 := by
  obtain ⟨nb, pb, n, J, B, tp, pn, c, hG, h1, hB, hm⟩ := hJ
  obtain ⟨hC, hM, hQ, hSt, hcn, k472, k1⟩ := id hG
  obtain ⟨hR, hF, ⟨t1, t2, t3, t4⟩, hrf, hfp, ⟨p1, p2, p3, p4, p5⟩, hP, hN, hK⟩ := id hm
  have hn : n ≤ 8 := hF.1.1.2
  have ht : t ≤ 511 := by omega
  have hB2 : B ≤ 15800000 := by omega
  have s1 : (z_kd G 1).1 = 1 := by rw [k1]
  have s2 : (z_kd G 1).2 = len := by rw [k1]
  have o1 : (z_kd G 472).1 = 2 := by rw [k472]
  have o2 : (z_kd G 472).2 = 1 := by rw [k472]
  have f8 : ∀ e, rfc M e 458 = M 458 := fun e => z_sA_n _ _ _ _ (by omega)
  have f5 : ∀ e, rfc M e 455 = M 455 := fun e => z_sA_n _ _ _ _ (by omega)
  have f1 : ∀ e, rfc M e 1 = M 1 := fun e => z_sA_n _ _ _ _ (by omega)
  have hMl : ∀ x : Int64, z_HM (z_setL G 472 0 x) := fun x => HM_k (Gk_L _ _ _ _) hM
  have hMt : z_HM (z_thr G) := HM_k (Gk_thr _) hM
  have hSr : ∀ e, z_St (z_thr G) (rfc M e) := fun e => St_k (Gk_thr _) hSt (fun q hq => z_sA_n _ _ _ _ (by omega))
  rcases rg_2 (M 1 (6 * t + 1)) 100 (by omega) with ⟨N, n1, n2, ex⟩ | hx
  · rcases rg_1 (M 1 (6 * t + 2)) 5 (by omega) with ⟨k, hk, ey⟩ | hy
    · skip
      obtain ⟨M1, e1, x⟩ := k_ahead hC M hR hF (by omega) hN n1 n2 hk
      have q8 : M1 458 = M 458 := x.1 458 (by omega) (by omega)
      have q1 : M1 1 = M 1 := x.1 1 (by omega) (by omega)
      have qs : z_St G M1 := St_k (Gk_refl _) hSt (fun q hq => x.1 q (by omega) (by omega))
      obtain ⟨M2, e2, y⟩ := m_ahead (hMl _) M1 (by rw [q8]; exact hF) (by omega) n1 n2 hk
      rw [q8] at e2
      exact ⟨_, _, _, _, law_ahead (k := 0) (hx1 := ex) (hx2 := ey) s1 s2 hi hl (w_ahead_0 hC.1 e1 o1 o2) s1 s2 q1 hM.1 e2 (Pq_0 y) o1 o2 (fun _ => lg_s _ _ _ _) (by omega), J_p hG h1 hB hm x y _⟩
    · skip
      have e1 := k_ahead_f hC M (x := (M 1 (6 * t + 1))) (Or.inr (in_f (k := 4) (by omega) hy))
      have e2 := m_ahead_f hMt (rfc M 1) (x := (M 1 (6 * t + 1))) (Or.inr (in_f (k := 4) (by omega) hy))
      exact ⟨_, _, _, _, law_ahead (k := 1) (hx1 := rfl) (hx2 := rfl) s1 s2 hi hl (w_ahead_x1 hC.1 e1) s1 s2 (f1 1) hM.1 e2 (rfm_0 _ _ _) o1 o2 (fun q => absurd q (by omega)) (by omega), J_r hG h1 hB hm 1 (by omega)⟩
  · skip
    have e1 := k_ahead_f hC M (w := (M 1 (6 * t + 2))) (Or.inl hx)
    have e2 := m_ahead_f hMt (rfc M 1) (w := (M 1 (6 * t + 2))) (Or.inl hx)
    exact ⟨_, _, _, _, law_ahead (k := 1) (hx1 := rfl) (hx2 := rfl) s1 s2 hi hl (w_ahead_x1 hC.1 e1) s1 s2 (f1 1) hM.1 e2 (rfm_0 _ _ _) o1 o2 (fun q => absurd q (by omega)) (by omega), J_r hG h1 hB hm 1 (by omega)⟩
theorem S_storms {t len : Nat} {sc : Nat → Int32} {G : zG} {M : zM} {w5 w6 : Value} (hJ : z_J t len sc G M) (hi : 6 * t + 6 ≤ len) (hl : len ≤ 3072) : z_Sx 1665 t len sc G M w5 w6 := by
  obtain ⟨nb, pb, n, J, B, tp, pn, c, hG, h1, hB, hm⟩ := hJ
  obtain ⟨hC, hM, hQ, hSt, hcn, k472, k1⟩ := id hG
  obtain ⟨hR, hF, ⟨t1, t2, t3, t4⟩, hrf, hfp, ⟨p1, p2, p3, p4, p5⟩, hP, hN, hK⟩ := id hm
  have hn : n ≤ 8 := hF.1.1.2
  have ht : t ≤ 511 := by omega
  have hB2 : B ≤ 15800000 := by omega
  have s1 : (z_kd G 1).1 = 1 := by rw [k1]
  have s2 : (z_kd G 1).2 = len := by rw [k1]
  have o1 : (z_kd G 472).1 = 2 := by rw [k472]
  have o2 : (z_kd G 472).2 = 1 := by rw [k472]
  have f8 : ∀ e, rfc M e 458 = M 458 := fun e => z_sA_n _ _ _ _ (by omega)
  have f5 : ∀ e, rfc M e 455 = M 455 := fun e => z_sA_n _ _ _ _ (by omega)
  have f1 : ∀ e, rfc M e 1 = M 1 := fun e => z_sA_n _ _ _ _ (by omega)
  have hMl : ∀ x : Int64, z_HM (z_setL G 472 0 x) := fun x => HM_k (Gk_L _ _ _ _) hM
  have hMt : z_HM (z_thr G) := HM_k (Gk_thr _) hM
  have hSr : ∀ e, z_St (z_thr G) (rfc M e) := fun e => St_k (Gk_thr _) hSt (fun q hq => z_sA_n _ _ _ _ (by omega))
  have lo := HC_lo hC
  rcases rg_2 (M 1 (6 * t + 1)) 20 (by omega) with ⟨N, n1, n2, ex⟩ | hx
  · rcases rg_1 (M 1 (6 * t + 3)) 3 (by omega) with ⟨k, hk, ey⟩ | hy
    · skip
      obtain ⟨M1, e1, x⟩ := k_storms hC M hR hF (by omega) hN n1 n2 (M 1 (6 * t + 2)) hk
      have q8 : M1 458 = M 458 := x.1 458 (by omega) (by omega)
      have q1 : M1 1 = M 1 := x.1 1 (by omega) (by omega)
      have qs : z_St G M1 := St_k (Gk_refl _) hSt (fun q hq => x.1 q (by omega) (by omega))
      obtain ⟨M2, e2, y⟩ := m_storms (hMl _) (HC_W (HC_k (Gk_L _ _ _ _) hC)) (d := 123) (by omega) (by omega) hC.2.2.2.2.1 M1 (by rw [q8]; exact R_ft hR) (by rw [q8]; exact hF) (by omega) n1 n2 (M 1 (6 * t + 2)) hk
      rw [q8] at e2
      exact ⟨_, _, _, _, law_storms (k := 0) (hx1 := ex) (hx2 := rfl) (hx3 := ey) s1 s2 hi hl (w_storms_0 hC.1 e1 o1 o2) s1 s2 q1 hM.1 e2 (Pq_0 y) o1 o2 (fun _ => lg_s _ _ _ _) (by omega), J_p hG h1 hB hm x y _⟩
    · skip
      have e1 := k_storms_f hC M (x := (M 1 (6 * t + 1))) (y := (M 1 (6 * t + 2))) (Or.inr (in_f (k := 2) (by omega) hy))
      have e2 := m_storms_f hMt (rfc M 1) (x := (M 1 (6 * t + 1))) (y := (M 1 (6 * t + 2))) (Or.inr (in_f (k := 2) (by omega) hy))
      exact ⟨_, _, _, _, law_storms (k := 1) (hx1 := rfl) (hx2 := rfl) (hx3 := rfl) s1 s2 hi hl (w_storms_x1 hC.1 e1) s1 s2 (f1 1) hM.1 e2 (rfm_0 _ _ _) o1 o2 (fun q => absurd q (by omega)) (by omega), J_r hG h1 hB hm 1 (by omega)⟩
  · skip
    have e1 := k_storms_f hC M (y := (M 1 (6 * t + 2))) (w := (M 1 (6 * t + 3))) (Or.inl hx)
    have e2 := m_storms_f hMt (rfc M 1) (y := (M 1 (6 * t + 2))) (w := (M 1 (6 * t + 3))) (Or.inl hx)
    exact ⟨_, _, _, _, law_storms (k := 1) (hx1 := rfl) (hx2 := rfl) (hx3 := rfl) s1 s2 hi hl (w_storms_x1 hC.1 e1) s1 s2 (f1 1) hM.1 e2 (rfm_0 _ _ _) o1 o2 (fun q => absurd q (by omega)) (by omega), J_r hG h1 hB hm 1 (by omega)⟩
theorem S_fault {t len : Nat} {sc : Nat → Int32} {G : zG} {M : zM} {w5 w6 : Value} (hJ : z_J t len sc G M) (hi : 6 * t + 6 ≤ len) (hl : len ≤ 3072) : z_Sx 305 t len sc G M w5 w6 := by
  obtain ⟨nb, pb, n, J, B, tp, pn, c, hG, h1, hB, hm⟩ := hJ
  obtain ⟨hC, hM, hQ, hSt, hcn, k472, k1⟩ := id hG
  obtain ⟨hR, hF, ⟨t1, t2, t3, t4⟩, hrf, hfp, ⟨p1, p2, p3, p4, p5⟩, hP, hN, hK⟩ := id hm
  have hn : n ≤ 8 := hF.1.1.2
  have ht : t ≤ 511 := by omega
  have hB2 : B ≤ 15800000 := by omega
  have s1 : (z_kd G 1).1 = 1 := by rw [k1]
  have s2 : (z_kd G 1).2 = len := by rw [k1]
  have o1 : (z_kd G 472).1 = 2 := by rw [k472]
  have o2 : (z_kd G 472).2 = 1 := by rw [k472]
  have f8 : ∀ e, rfc M e 458 = M 458 := fun e => z_sA_n _ _ _ _ (by omega)
  have f5 : ∀ e, rfc M e 455 = M 455 := fun e => z_sA_n _ _ _ _ (by omega)
  have f1 : ∀ e, rfc M e 1 = M 1 := fun e => z_sA_n _ _ _ _ (by omega)
  have hMl : ∀ x : Int64, z_HM (z_setL G 472 0 x) := fun x => HM_k (Gk_L _ _ _ _) hM
  have hMt : z_HM (z_thr G) := HM_k (Gk_thr _) hM
  have hSr : ∀ e, z_St (z_thr G) (rfc M e) := fun e => St_k (Gk_thr _) hSt (fun q hq => z_sA_n _ _ _ _ (by omega))
  have e1 := k_fault hC M
  have e2 := m_fault hM M
  rw [← hfp] at e2
  exact ⟨_, _, _, _, law_fault  s1 s2 hi hl hC.1 e1 s1 s2 rfl hM.1 e2, J_q' hG h1 hB hm⟩
theorem S_heal {t len : Nat} {sc : Nat → Int32} {G : zG} {M : zM} {w5 w6 : Value} (hJ : z_J t len sc G M) (hi : 6 * t + 6 ≤ len) (hl : len ≤ 3072) : z_Sx 430 t len sc G M w5 w6 := by
  obtain ⟨nb, pb, n, J, B, tp, pn, c, hG, h1, hB, hm⟩ := hJ
  obtain ⟨hC, hM, hQ, hSt, hcn, k472, k1⟩ := id hG
  obtain ⟨hR, hF, ⟨t1, t2, t3, t4⟩, hrf, hfp, ⟨p1, p2, p3, p4, p5⟩, hP, hN, hK⟩ := id hm
  have hn : n ≤ 8 := hF.1.1.2
  have ht : t ≤ 511 := by omega
  have hB2 : B ≤ 15800000 := by omega
  have s1 : (z_kd G 1).1 = 1 := by rw [k1]
  have s2 : (z_kd G 1).2 = len := by rw [k1]
  have o1 : (z_kd G 472).1 = 2 := by rw [k472]
  have o2 : (z_kd G 472).2 = 1 := by rw [k472]
  have f8 : ∀ e, rfc M e 458 = M 458 := fun e => z_sA_n _ _ _ _ (by omega)
  have f5 : ∀ e, rfc M e 455 = M 455 := fun e => z_sA_n _ _ _ _ (by omega)
  have f1 : ∀ e, rfc M e 1 = M 1 := fun e => z_sA_n _ _ _ _ (by omega)
  have hMl : ∀ x : Int64, z_HM (z_setL G 472 0 x) := fun x => HM_k (Gk_L _ _ _ _) hM
  have hMt : z_HM (z_thr G) := HM_k (Gk_thr _) hM
  have hSr : ∀ e, z_St (z_thr G) (rfc M e) := fun e => St_k (Gk_thr _) hSt (fun q hq => z_sA_n _ _ _ _ (by omega))
  obtain ⟨M1, e1, x, r⟩ := k_heal hC M p2 p4 p1 p3 hR hF (hK pn p2)
  obtain ⟨q8, q5, q1⟩ := Ka_k hG p2 x
  have qs : z_St G M1 := St_k (Gk_refl _) hSt (fun q hq => by have lo := HC_lo hC; have bp := HC_blo hC p2; exact x.1 q (by omega) (by omega) (by omega))
  obtain ⟨M2, e2, y⟩ := m_heal hM M1 (by rw [q8]; exact hF.1.1.1) hn (by rw [q8]; exact JM_Lk hm) p4 (by rw [q5]; exact p5)
  rw [q8] at e2 y
  exact ⟨_, _, _, _, law_heal s1 s2 hi hl hC.1 e1 s1 s2 q1 hM.1 e2, J_a' hG h1 hm x r (F_he hF) (Nat.le_refl B) (b_up hB) y⟩
theorem S_chiefs {t len : Nat} {sc : Nat → Int32} {G : zG} {M : zM} {w5 w6 : Value} (hJ : z_J t len sc G M) (hi : 6 * t + 6 ≤ len) (hl : len ≤ 3072) : z_Sx 1255 t len sc G M w5 w6 := by
  obtain ⟨nb, pb, n, J, B, tp, pn, c, hG, h1, hB, hm⟩ := hJ
  obtain ⟨hC, hM, hQ, hSt, hcn, k472, k1⟩ := id hG
  obtain ⟨hR, hF, ⟨t1, t2, t3, t4⟩, hrf, hfp, ⟨p1, p2, p3, p4, p5⟩, hP, hN, hK⟩ := id hm
  have hn : n ≤ 8 := hF.1.1.2
  have ht : t ≤ 511 := by omega
  have hB2 : B ≤ 15800000 := by omega
  have s1 : (z_kd G 1).1 = 1 := by rw [k1]
  have s2 : (z_kd G 1).2 = len := by rw [k1]
  have o1 : (z_kd G 472).1 = 2 := by rw [k472]
  have o2 : (z_kd G 472).2 = 1 := by rw [k472]
  have f8 : ∀ e, rfc M e 458 = M 458 := fun e => z_sA_n _ _ _ _ (by omega)
  have f5 : ∀ e, rfc M e 455 = M 455 := fun e => z_sA_n _ _ _ _ (by omega)
  have f1 : ∀ e, rfc M e 1 = M 1 := fun e => z_sA_n _ _ _ _ (by omega)
  have hMl : ∀ x : Int64, z_HM (z_setL G 472 0 x) := fun x => HM_k (Gk_L _ _ _ _) hM
  have hMt : z_HM (z_thr G) := HM_k (Gk_thr _) hM
  have hSr : ∀ e, z_St (z_thr G) (rfc M e) := fun e => St_k (Gk_thr _) hSt (fun q hq => z_sA_n _ _ _ _ (by omega))
  have e1 := k_chiefs hC M (V := fun k => M (nb + k)) hR hF
  rw [wr_id] at e1
  have e2 := c_M_chiefs hM M hF
  exact ⟨_, _, _, _, law_chiefs  s1 s2 hi hl hC.1 e1 s1 s2 rfl hM.1 e2, J_q' hG h1 hB hm⟩
theorem S_until {t len : Nat} {sc : Nat → Int32} {G : zG} {M : zM} {w5 w6 : Value} (hJ : z_J t len sc G M) (hi : 6 * t + 6 ≤ len) (hl : len ≤ 3072) : z_Sx 1336 t len sc G M w5 w6 := by
  obtain ⟨nb, pb, n, J, B, tp, pn, c, hG, h1, hB, hm⟩ := hJ
  obtain ⟨hC, hM, hQ, hSt, hcn, k472, k1⟩ := id hG
  obtain ⟨hR, hF, ⟨t1, t2, t3, t4⟩, hrf, hfp, ⟨p1, p2, p3, p4, p5⟩, hP, hN, hK⟩ := id hm
  have hn : n ≤ 8 := hF.1.1.2
  have ht : t ≤ 511 := by omega
  have hB2 : B ≤ 15800000 := by omega
  have s1 : (z_kd G 1).1 = 1 := by rw [k1]
  have s2 : (z_kd G 1).2 = len := by rw [k1]
  have o1 : (z_kd G 472).1 = 2 := by rw [k472]
  have o2 : (z_kd G 472).2 = 1 := by rw [k472]
  have f8 : ∀ e, rfc M e 458 = M 458 := fun e => z_sA_n _ _ _ _ (by omega)
  have f5 : ∀ e, rfc M e 455 = M 455 := fun e => z_sA_n _ _ _ _ (by omega)
  have f1 : ∀ e, rfc M e 1 = M 1 := fun e => z_sA_n _ _ _ _ (by omega)
  have hMl : ∀ x : Int64, z_HM (z_setL G 472 0 x) := fun x => HM_k (Gk_L _ _ _ _) hM
  have hMt : z_HM (z_thr G) := HM_k (Gk_thr _) hM
  have hSr : ∀ e, z_St (z_thr G) (rfc M e) := fun e => St_k (Gk_thr _) hSt (fun q hq => z_sA_n _ _ _ _ (by omega))
  obtain ⟨M1, e1, x⟩ := k_until hC M hR hF (by omega) hN
  have q8 : M1 458 = M 458 := x.1 458 (by omega) (by omega)
  have q1 : M1 1 = M 1 := x.1 1 (by omega) (by omega)
  obtain ⟨M2, e2, y⟩ := m_until hM M1 (by rw [q8]; exact hF) (by omega)
  rw [q8] at e2
  exact ⟨_, _, _, _, law_until s1 s2 hi hl hC.1 e1 s1 s2 q1 hM.1 e2, J_p' hG h1 hB hm x y⟩
theorem S_print {t len : Nat} {sc : Nat → Int32} {G : zG} {M : zM} {w5 w6 : Value} (hJ : z_J t len sc G M) (hi : 6 * t + 6 ≤ len) (hl : len ≤ 3072) : z_Sx 1745 t len sc G M w5 w6 := by
  obtain ⟨nb, pb, n, J, B, tp, pn, c, hG, h1, hB, hm⟩ := hJ
  obtain ⟨hC, hM, hQ, hSt, hcn, k472, k1⟩ := id hG
  obtain ⟨hR, hF, ⟨t1, t2, t3, t4⟩, hrf, hfp, ⟨p1, p2, p3, p4, p5⟩, hP, hN, hK⟩ := id hm
  have hn : n ≤ 8 := hF.1.1.2
  have ht : t ≤ 511 := by omega
  have hB2 : B ≤ 15800000 := by omega
  have s1 : (z_kd G 1).1 = 1 := by rw [k1]
  have s2 : (z_kd G 1).2 = len := by rw [k1]
  have o1 : (z_kd G 472).1 = 2 := by rw [k472]
  have o2 : (z_kd G 472).2 = 1 := by rw [k472]
  have f8 : ∀ e, rfc M e 458 = M 458 := fun e => z_sA_n _ _ _ _ (by omega)
  have f5 : ∀ e, rfc M e 455 = M 455 := fun e => z_sA_n _ _ _ _ (by omega)
  have f1 : ∀ e, rfc M e 1 = M 1 := fun e => z_sA_n _ _ _ _ (by omega)
  have hMl : ∀ x : Int64, z_HM (z_setL G 472 0 x) := fun x => HM_k (Gk_L _ _ _ _) hM
  have hMt : z_HM (z_thr G) := HM_k (Gk_thr _) hM
  have hSr : ∀ e, z_St (z_thr G) (rfc M e) := fun e => St_k (Gk_thr _) hSt (fun q hq => z_sA_n _ _ _ _ (by omega))
  have e1 := k_print hC M (V := fun k => M (nb + k)) hR hF
  rw [wr_id] at e1
  have e2 := m_print hM M hF
  exact ⟨_, _, _, _, law_print  s1 s2 hi hl hC.1 e1 s1 s2 rfl hM.1 e2, J_q' hG h1 hB hm⟩
theorem S_status {t len : Nat} {sc : Nat → Int32} {G : zG} {M : zM} {w5 w6 : Value} (hJ : z_J t len sc G M) (hi : 6 * t + 6 ≤ len) (hl : len ≤ 3072) : z_Sx 1759 t len sc G M w5 w6 := by
  obtain ⟨nb, pb, n, J, B, tp, pn, c, hG, h1, hB, hm⟩ := hJ
  obtain ⟨hC, hM, hQ, hSt, hcn, k472, k1⟩ := id hG
  obtain ⟨hR, hF, ⟨t1, t2, t3, t4⟩, hrf, hfp, ⟨p1, p2, p3, p4, p5⟩, hP, hN, hK⟩ := id hm
  have hn : n ≤ 8 := hF.1.1.2
  have ht : t ≤ 511 := by omega
  have hB2 : B ≤ 15800000 := by omega
  have s1 : (z_kd G 1).1 = 1 := by rw [k1]
  have s2 : (z_kd G 1).2 = len := by rw [k1]
  have o1 : (z_kd G 472).1 = 2 := by rw [k472]
  have o2 : (z_kd G 472).2 = 1 := by rw [k472]
  have f8 : ∀ e, rfc M e 458 = M 458 := fun e => z_sA_n _ _ _ _ (by omega)
  have f5 : ∀ e, rfc M e 455 = M 455 := fun e => z_sA_n _ _ _ _ (by omega)
  have f1 : ∀ e, rfc M e 1 = M 1 := fun e => z_sA_n _ _ _ _ (by omega)
  have hMl : ∀ x : Int64, z_HM (z_setL G 472 0 x) := fun x => HM_k (Gk_L _ _ _ _) hM
  have hMt : z_HM (z_thr G) := HM_k (Gk_thr _) hM
  have hSr : ∀ e, z_St (z_thr G) (rfc M e) := fun e => St_k (Gk_thr _) hSt (fun q hq => z_sA_n _ _ _ _ (by omega))
  have e1 := k_status hC M (M 1 (6 * t + 1))
  have e2 := m_status hM M (M 1 (6 * t + 1))
  have eq : (if (M 1 (6 * t + 1)) < 0 ∨ ¬ (M 1 (6 * t + 1)) < nI 3 then nI 4294967295 else M 456 (z_n (M 1 (6 * t + 1)))) = if (M 1 (6 * t + 1)) < 0 ∨ ¬ (M 1 (6 * t + 1)) < nI 3 then nI 4294967295 else M 34 (z_n (M 1 (6 * t + 1))) := by
    rcases rg_1 (M 1 (6 * t + 1)) 3 (by omega) with ⟨k, hk, ex⟩ | hx
    · rw [ex, z_nN (by omega), hrf k hk]
    · rw [if_pos hx, if_pos hx]
  rw [eq] at e2
  exact ⟨_, _, _, _, law_status (hx1 := rfl) s1 s2 hi hl hC.1 e1 s1 s2 rfl hM.1 e2, J_q' hG h1 hB hm⟩
