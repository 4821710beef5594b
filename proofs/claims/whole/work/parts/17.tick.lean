/-! ===== the reference: a tick ===== -/
theorem z_sA_comm (M : zM) (a b : Nat) (f g : Nat → Int32) (h : a ≠ b) : z_sA (z_sA M a f) b g = z_sA (z_sA M b g) a f := by
  funext q; unfold z_sA
  by_cases h1 : q = b
  · have h2 : ¬ q = a := fun e => h (e.symm.trans h1)
    simp only [h1, if_true]
    rw [if_neg (fun e => h e.symm)]
  · simp only [h1, if_false]
/-- the memory while letters come: the row, the letter at hand, how many were handled -/
def mm (M : zM) (s nw : Nat → Int32) (h : Nat) : zM := z_sA (z_sA (z_sA M 455 (z_u (M 455) 18 (M 455 18 + nI h))) 471 nw) 458 s
theorem mm_s (M : zM) (s nw : Nat → Int32) (h : Nat) : mm M s nw h 458 = s := z_sA_s _ _ _
theorem mm_n (M : zM) (s nw : Nat → Int32) (h : Nat) : mm M s nw h 471 = nw := by unfold mm; rw [z_sA_n _ _ _ _ (by omega), z_sA_s]
theorem mm_m (M : zM) (s nw : Nat → Int32) (h : Nat) : mm M s nw h 455 = z_u (M 455) 18 (M 455 18 + nI h) := by unfold mm; rw [z_sA_n _ _ _ _ (by omega), z_sA_n _ _ _ _ (by omega), z_sA_s]
theorem mm_us (M : zM) (s nw t : Nat → Int32) (h : Nat) : z_sA (mm M s nw h) 458 t = mm M t nw h := by unfold mm; rw [z_sA_sA]
theorem mm_un (M : zM) (s nw t : Nat → Int32) (h : Nat) : z_sA (mm M s nw h) 471 t = mm M s t h := by
  unfold mm; rw [z_sA_comm _ 458 471 _ _ (by omega), z_sA_sA]
theorem mm_uh (M : zM) (s nw : Nat → Int32) (h : Nat) : z_sA (mm M s nw h) 455 (z_u (z_u (M 455) 18 (M 455 18 + nI h)) 18 (M 455 18 + nI h + nI 1)) = mm M s nw (h + 1) := by
  unfold mm
  rw [z_sA_comm _ 458 455 _ _ (by omega), z_sA_comm _ 471 455 _ _ (by omega), z_sA_sA, z_u_u, ← nI_add h 1, Int32.add_assoc]
theorem f_le_eq {i : Nat} {u v : Nat → Int32} (s : Nat → Int32) (h : ∀ t, t < 6 → u t = v t) : f_le i u s = f_le i v s := by
  unfold f_le z_bw
  funext q
  split
  · rename_i hq
    dsimp only
    rw [h (q - (41 + 28 * i + 8)) (by omega)]
  · rfl
theorem f_hd_eq {n i j k c : Nat} {L K : Nat → Int32} (s : Nat → Int32) (h : ∀ t, t < 13 → L t = K t) : f_hd n i j k c L s = f_hd n i j k c K s := by
  have e : ∀ t, t < 6 → (fun t => L (7 + t)) t = (fun t => K (7 + t)) t := fun t ht => h _ (by omega)
  unfold f_hd f_h6 f_h7 f_rd
  rw [h 4 (by omega), h 6 (by omega)]
  simp only [f_le_eq _ e]
def f_ok (L s : Nat → Int32) : Bool := !zf_has (s (25 + z_n (L 0))) (L 1) && !decide (s (41 + 28 * z_n (L 1)) = nI 2)
def f_av (n : Nat) (L s : Nat → Int32) : Nat → Int32 := if f_ok L s = true then f_hd n (z_n (L 1)) (z_n (L 0)) (z_n (L 2)) (z_n (L 5)) L (z_u s (17 + z_n (L 2)) (s (17 + z_n (L 2)) + nI 1)) else z_u s 7 (s 7 + nI 1)
def f_as (n : Nat) (a : Nat × (Nat → Int32) × Nat) : Nat × (Nat → Int32) × Nat :=
  if a.2.1 (265 + 13 * a.1 + 3) = a.2.1 6 then (a.1, f_av n (fun t => a.2.1 (265 + 13 * a.1 + t)) (f_to a.1 a.2.1), a.2.2 + (f_ok (fun t => a.2.1 (265 + 13 * a.1 + t)) (f_to a.1 a.2.1)).toNat) else (a.1 + 1, a.2.1, a.2.2)
def f_ar (n : Nat) (s : Nat → Int32) : Nat × (Nat → Int32) × Nat := z_fd (fun _ a => f_as n a) (z_n (s 8)) 0 (0, s, 0)
/-- letter k is taken out: what holds stays so -/
theorem f_to_8 {k m : Nat} {s : Nat → Int32} (h : s 8 = nI m) (hk : k < m) : f_to k s 8 = nI (m - 1) := by
  unfold f_to; rw [z_u_s, h, pk_sub (by omega)]
theorem f_to_lo {k m : Nat} {s : Nat → Int32} (h : s 8 = nI m) (hm : m ≤ 300) (q : Nat) (hq : q < 265 + 13 * k) (h8 : q ≠ 8) : f_to k s q = s q := by
  unfold f_to; rw [z_u_n _ _ _ _ h8, z_shf_out _ _ _ _ _ (Or.inl hq)]
theorem f_to_hi {k m : Nat} {s : Nat → Int32} (h : s 8 = nI m) (hm : m ≤ 300) (q : Nat) (hq : 265 + 13 * k ≤ q) (hq2 : q < 265 + 13 * (m - 1)) : f_to k s q = s (q + 13) := by
  unfold f_to
  have hz : z_n (s 8) = m := by rw [h]; exact z_nN (by omega)
  rw [z_u_n _ _ _ _ (by omega), hz, z_shf_in _ _ _ _ _ hq (by omega)]
theorem f_to_up {k m : Nat} {s : Nat → Int32} (h : s 8 = nI m) (hm : m ≤ 300) (hk : k < m) (q : Nat) (hq : 265 + 13 * (m - 1) ≤ q) : f_to k s q = s q := by
  unfold f_to
  have hz : z_n (s 8) = m := by rw [h]; exact z_nN (by omega)
  rw [z_u_n _ _ _ _ (by omega), hz, z_shf_out _ _ _ _ _ (by omega)]
theorem F_to {n J B k m : Nat} {s : Nat → Int32} (h : z_F n J B s) (h8 : s 8 = nI m) (hm : m ≤ 300) (hk : k < m) : z_F n J B (f_to k s) := by
  have hz : z_n (s 8) = m := by rw [h8]; exact z_nN (by omega)
  obtain ⟨⟨⟨a1, a2⟩, _, c, a3, a4⟩, g2, g3, g4, g5, g6⟩ := h
  have hlo := f_to_lo (k := k) h8 hm
  have e8 := f_to_8 h8 hk
  have hz' : z_n (f_to k s 8) = m - 1 := by rw [e8]; exact z_nN (by omega)
  refine ⟨⟨⟨by rw [hlo 0 (by omega) (by omega)]; exact a1, a2⟩, ⟨m - 1, by omega, e8⟩, c, a3, ?_⟩, g2, by rw [hlo 1 (by omega) (by omega)]; exact g3, by rw [hlo 5 (by omega) (by omega)]; exact g4, fun i f hi hf => by rw [hlo _ (by omega) (by omega)]; exact g5 i f hi hf, fun p hp => ?_⟩
  · rw [f_to_up h8 hm hk _ (by omega)]; exact a4
  · rw [hz'] at hp
    by_cases hpk : p < k
    · exact z_Cl_eq (g6 p (by omega)) (fun t ht => hlo _ (by omega) (by omega))
    · exact z_Cl_eq (g6 (p + 1) (by omega)) (fun t ht => by
        rw [f_to_hi h8 hm _ (by omega) (by omega), show 265 + 13 * p + t + 13 = 265 + 13 * (p + 1) + t by omega])
theorem FX_av {n J B : Nat} {L s : Nat → Int32} (h : z_F n J B s) (hL : z_Cl n J L) (hB : B ≤ 100000000) : z_FX n J (B + 1) s (f_av n L s) := by
  have hn : n ≤ 8 := h.1.1.2
  have h0 := z_F_mono (Nat.le_succ B) h
  unfold f_av; split
  · have hLL := hL
    obtain ⟨a, b, k, p1, p2, p3, p4, p5, p6, p7, p8, p9, p10, p11⟩ := hL
    have e0 : z_n (L 0) = a := by rw [p4]; exact z_nN (by omega)
    have e1 : z_n (L 1) = b := by rw [p5]; exact z_nN (by omega)
    have e2 : z_n (L 2) = k := by rw [p6]; exact z_nN (by omega)
    rw [e0, e1, e2]
    have h1 := FX_ug (a := 17 + k) (v := s (17 + k) + nI 1) h (Or.inl (by omega))
    refine FX_trans h1 (FX_hd h1.1 hLL p5 p2 p4 p1 p6 p3 (fun e => ?_) hB)
    obtain ⟨c, c1, c2, _⟩ := p7 e
    rw [c2, z_nN (by omega)]; exact c1
  · exact FX_ug h0 (Or.inl (by omega))
/-- while letters come: t of E are through, a is how far it is -/
def z_AI (n J B E : Nat) (clk : Int32) (t : Nat) (a : Nat × (Nat → Int32) × Nat) : Prop :=
  z_F n J (B + t) a.2.1 ∧ a.2.1 6 = clk ∧ t ≤ E ∧ a.1 + (E - t) ≤ z_n (a.2.1 8) ∧ (∀ p, a.1 + (E - t) ≤ p → p < z_n (a.2.1 8) → a.2.1 (265 + 13 * p + 3) ≠ clk) ∧ E ≤ 300
theorem z_AI_step {n J B E t : Nat} {clk : Int32} {a : Nat × (Nat → Int32) × Nat} (h : z_AI n J B E clk t a) (ht : t < E) (hB : B ≤ 90000000) : z_AI n J B E clk (t + 1) (f_as n a) := by
  obtain ⟨kk, s, hh⟩ := a
  obtain ⟨hF, h6, h1, h2, h3, hE⟩ := h
  dsimp only at hF h6 h1 h2 h3
  obtain ⟨m, hm, e8, z8⟩ := z_F_m hF
  rw [z8] at h2 h3
  unfold f_as
  dsimp only
  by_cases hd : s (265 + 13 * kk + 3) = s 6
  · rw [if_pos hd]
    have hF1 := F_to (k := kk) hF e8 hm (by omega)
    have hL := hF.2.2.2.2.2 kk (by omega)
    have hX := FX_av (L := fun t => s (265 + 13 * kk + t)) hF1 hL (by omega)
    have e8' := f_to_8 (k := kk) e8 (by omega)
    have z8' : z_n (f_to kk s 8) = m - 1 := by rw [e8']; exact z_nN (by omega)
    have h6' : f_to kk s 6 = clk := by rw [f_to_lo e8 hm 6 (by omega) (by omega)]; exact h6
    obtain ⟨d, d1, d2, d3⟩ := hF1.2.2.2.1
    generalize f_av n (fun t => s (265 + 13 * kk + t)) (f_to kk s) = r at hX
    obtain ⟨gF, x1, x2, x3, x4, x5⟩ := hX
    rw [z8'] at x3 x4 x5
    refine ⟨gF, by dsimp only; rw [x1 6 (by omega)]; exact h6', by omega, by dsimp only; omega, ?_, hE⟩
    intro p p1 p2
    dsimp only at p1 p2 ⊢
    by_cases hp : p < m - 1
    · rw [x4 _ (by omega) (by omega), f_to_hi e8 hm _ (by omega) (by omega), show 265 + 13 * p + 3 + 13 = 265 + 13 * (p + 1) + 3 by omega]
      exact h3 (p + 1) (by omega) (by omega)
    · rw [x5 p (by omega) p2, h6', d3]
      have hne : ∀ d, d < 4 → d ≠ 0 → nI d ≠ 0 := by decide
      intro e
      have : nI d = 0 := by
        have e2 := congrArg (fun x => -clk + x) e
        simp only [← Int32.add_assoc, Int32.add_left_neg, Int32.zero_add] at e2
        exact e2
      exact hne d (by omega) (by omega) this
  · rw [if_neg hd]
    refine ⟨z_F_mono (by omega) hF, h6, by omega, by dsimp only; rw [z8]; omega, ?_, hE⟩
    intro p p1 p2
    dsimp only at p1 p2 ⊢
    rw [z8] at p2
    exact h3 p (by omega) p2
theorem l_M_arrives {G : zG} (hM : z_HM G) (M : zM) {n J B E : Nat} {clk : Int32} (hB : B ≤ 90000000) : ∀ (r t : Nat) (a : Nat × (Nat → Int32) × Nat) (nw : Nat → Int32), t + r = E → z_AI n J B E clk t a → ∃ nw', z_ex 181 (z_blk 181 2) [.ref 455, .int (nI a.1)] [] G (mm M a.2.1 nw a.2.2) = z_ex 181 (z_blk 181 2) [.ref 455, .int (nI (z_fd (fun _ a => f_as n a) r t a).1)] [] G (mm M (z_fd (fun _ a => f_as n a) r t a).2.1 nw' (z_fd (fun _ a => f_as n a) r t a).2.2) ∧ z_AI n J B E clk E (z_fd (fun _ a => f_as n a) r t a)
  | 0, t, a, nw, e, h => ⟨nw, rfl, by rw [show E = t by omega] at h ⊢; exact h⟩
  | r + 1, t, a, nw, e, h => by
    have hs := z_AI_step h (by omega) hB
    have key : ∃ nw2, z_ex 181 (z_blk 181 2) [.ref 455, .int (nI a.1)] [] G (mm M a.2.1 nw a.2.2) = z_ex 181 (z_blk 181 2) [.ref 455, .int (nI (f_as n a).1)] [] G (mm M (f_as n a).2.1 nw2 (f_as n a).2.2) := by
      obtain ⟨k0, ⟨r1, r8, r9, r10, r11, r12, r13, r17⟩, ⟨q1, q2⟩, ⟨q3, q4⟩, ⟨q5, q6⟩, ⟨q7, q8⟩, ⟨q9, q10⟩, ⟨q11, q12⟩, ⟨q13, q14⟩, ⟨q15, q16⟩, hp⟩ := id hM; have kr : ∀ a, z_rc a = 7 → z_kd G 455 = (0, z_rc a) := fun a h => (by rw [h]; exact k0)
      obtain ⟨kk, s, hh⟩ := a
      obtain ⟨hF, h6, h1, h2, h3, hE⟩ := h
      dsimp only at hF h6 h1 h2 h3
      have hn : n ≤ 8 := hF.1.1.2
      obtain ⟨m, hm, e8, z8⟩ := z_F_m hF
      rw [z8] at h2 h3
      have hlt : nI kk < nI m := nI_lt (by omega) (by omega)
      unfold f_as
      dsimp only
      by_cases hd : s (265 + 13 * kk + 3) = s 6
      · rw [if_pos hd]
        have hto := c_M_takesOut hM (n := n) (mm M s nw hh) (k := kk) hm (by rw [mm_s]; exact e8) (by omega)
        rw [mm_s, mm_n, mm_un, mm_us] at hto
        have hF1 := F_to (k := kk) hF e8 hm (by omega)
        obtain ⟨a, b, k, p1, p2, p3, p4, p5, p6, p7, p8, p9, p10, p11⟩ := hF.2.2.2.2.2 kk (by omega)
        dsimp only at p4 p5 p6 p7 p8 p9 p10 p11
        have hin : ∀ t, t < 13 → z_bw nw 0 13 (fun t => s (265 + 13 * kk + t)) t = s (265 + 13 * kk + t) := fun t ht => by
          have := z_bw_in nw 0 13 (fun t => s (265 + 13 * kk + t)) t ht
          rw [Nat.zero_add] at this
          exact this
        have eL := f_hd_eq (n := n) (i := b) (j := a) (k := k) (c := z_n (s (265 + 13 * kk + 5))) (L := z_bw nw 0 13 (fun t => s (265 + 13 * kk + t))) (K := fun t => s (265 + 13 * kk + t)) (z_u (f_to kk s) (17 + k) (f_to kk s (17 + k) + nI 1)) hin
        refine ⟨z_bw nw 0 13 (fun t => s (265 + 13 * kk + t)), ?_⟩
        generalize z_bw nw 0 13 (fun t => s (265 + 13 * kk + t)) = nw1 at hto hin eL ⊢
        generalize f_to kk s = s1 at hto hF1 eL ⊢
        have i0 := (hin 0 (by omega)).trans p4
        have i1 := (hin 1 (by omega)).trans p5
        have i2 := (hin 2 (by omega)).trans p6
        have z0 : z_n (s (265 + 13 * kk + 0)) = a := by rw [p4]; exact z_nN (by omega)
        have z1 : z_n (s (265 + 13 * kk + 1)) = b := by rw [p5]; exact z_nN (by omega)
        have z2 : z_n (s (265 + 13 * kk + 2)) = k := by rw [p6]; exact z_nN (by omega)
        unfold f_av f_ok
        dsimp only
        have zb : z_n (nI b) = b := z_nN (by omega)
        simp only [z0, z1, z2, p5, zb]
        have hh := c_M_handles hM (mm M (z_u s1 (17 + k) (s1 (17 + k) + nI 1)) nw1 (hh + 1)) (n := n) (i := b) (j := a) (k := k) (c := z_n (s (265 + 13 * kk + 5))) (by rw [mm_s]; exact (FX_ug (v := s1 (17 + k) + nI 1) hF1 (Or.inl (by omega))).1.1) (by omega) (by omega) p3 (by rw [mm_n]; exact i1) (by rw [mm_n]; exact i0) (by rw [mm_n]; exact i2) (fun e => by
          obtain ⟨c, c1, c2, _⟩ := p7 e
          rw [c2, z_nN (by omega), mm_n]
          exact ⟨by omega, (hin 5 (by omega)).trans c2⟩)
        rw [mm_n, mm_s, mm_us, eL] at hh
        cases hw : zf_has (s1 (25 + a)) (nI b)
        · by_cases hdn : s1 (41 + 28 * b) = nI 2
          · rw [if_neg (by simp [hdn])]
            conv => lhs; rw [zk_M_arrives_2]
            simp (disch := first | assumption | exact kr _ rfl | omega | exact Nat.le_of_ble_eq_true rfl) only [xo_5, xo_10_1i, xo_10_1r, xo_10_1n, xo_55, xo_0_1, xo_2_0, xo_17, xo_6, xo_32, xo_45, zk_M_arrives_13, xo_7, xo_22, xo_20, xo_42, xo_15_1i, xo_15_1r, xo_15_1n, xo_54, zk_M_arrives_44, xo_64_2, xk_v, xk_n, xo_64_3, xo_48, zk_M_arrives_68, zk_M_arrives_81, xo_40, xo_33, xo_39i, xo_39r, xo_16, xo_18, xo_64_1, xo_69, nI_add, pk_mul, Nat.add_zero, z_sA_s, z_sA_sA, z_u_s, r9, r17, mm_s, mm_n, mm_us, e8, hlt, hd, zr_M_takesOut, hto, i0, i1, zr_M_isWhole, c_M_isWhole hM, zr_M_isDown, c_M_isDown hM, hw, hdn, Bool.not_false, Bool.not_true, Bool.and_false, Bool.toNat_false, z_b0, if_true, if_false, eq_self, Bool.true_eq_false, Bool.false_eq_true, and_true, true_and, and_false, false_and, or_true, true_or, or_false, false_or, ne_eq, not_true_eq_false, not_false_eq_true, decide_true, decide_false, z_sA_id]
          · rw [if_pos (by simp [hdn])]
            conv => lhs; rw [zk_M_arrives_2]
            simp (disch := first | assumption | exact kr _ rfl | omega | exact Nat.le_of_ble_eq_true rfl) only [xo_5, xo_10_1i, xo_10_1r, xo_10_1n, xo_55, xo_0_1, xo_2_0, xo_17, xo_6, xo_32, xo_45, zk_M_arrives_13, xo_7, xo_22, xo_20, xo_42, xo_15_1i, xo_15_1r, xo_15_1n, xo_54, zk_M_arrives_44, xo_64_2, xk_v, xk_n, xo_64_3, xo_48, zk_M_arrives_68, xo_40, xo_33, zk_M_arrives_95, xo_39i, xo_39r, xo_16, xo_18, xo_64_1, xo_69, nI_add, pk_mul, Nat.add_zero, z_sA_s, z_sA_sA, z_u_s, r9, r17, mm_s, mm_n, mm_us, mm_m, mm_uh, e8, hlt, hd, zr_M_takesOut, hto, i0, i1, i2, zr_M_isWhole, c_M_isWhole hM, zr_M_isDown, c_M_isDown hM, hw, hdn, Bool.not_false, Bool.not_true, Bool.and_true, Bool.toNat_true, z_b0, if_true, if_false, eq_self, Bool.true_eq_false, Bool.false_eq_true, and_true, true_and, and_false, false_and, or_true, true_or, or_false, false_or, ne_eq, not_true_eq_false, not_false_eq_true, decide_true, decide_false, z_sA_id, zr_M_handles, hh]
        · rw [if_neg (by simp)]
          conv => lhs; rw [zk_M_arrives_2]
          simp (disch := first | assumption | exact kr _ rfl | omega | exact Nat.le_of_ble_eq_true rfl) only [xo_5, xo_10_1i, xo_10_1r, xo_10_1n, xo_55, xo_0_1, xo_2_0, xo_17, xo_6, xo_32, xo_45, zk_M_arrives_13, xo_7, xo_22, xo_20, xo_42, xo_15_1i, xo_15_1r, xo_15_1n, xo_54, zk_M_arrives_44, xo_64_2, xk_v, xk_n, xo_64_3, xo_48, zk_M_arrives_81, xo_40, xo_33, xo_39i, xo_39r, xo_16, xo_18, xo_64_1, xo_69, nI_add, pk_mul, Nat.add_zero, z_sA_s, z_sA_sA, z_u_s, r9, r17, mm_s, mm_n, mm_us, e8, hlt, hd, zr_M_takesOut, hto, i0, i1, zr_M_isWhole, c_M_isWhole hM, hw, Bool.not_true, Bool.false_and, Bool.toNat_false, z_b0, if_true, if_false, eq_self, Bool.true_eq_false, Bool.false_eq_true, and_true, true_and, and_false, false_and, or_true, true_or, or_false, false_or, ne_eq, not_true_eq_false, not_false_eq_true, decide_true, decide_false, z_sA_id]
      · rw [if_neg hd]
        refine ⟨nw, ?_⟩
        conv => lhs; rw [zk_M_arrives_2]
        simp (disch := first | assumption | exact kr _ rfl | omega | exact Nat.le_of_ble_eq_true rfl) only [xo_5, xo_10_1i, xo_10_1r, xo_10_1n, xo_55, xo_0_1, xo_2_0, xo_17, xo_6, xo_32, xo_45, zk_M_arrives_13, xo_7, xo_22, xo_20, xo_42, zk_M_arrives_38, xo_15_1i, xo_15_1r, xo_15_1n, xo_54, xo_64_2, xk_v, xk_n, xo_64_3, xo_48, xo_40, xo_33, xo_39i, xo_39r, xo_16, xo_18, xo_64_1, xo_69, nI_add, pk_mul, Nat.add_zero, z_sA_s, z_sA_sA, z_u_s, r9, mm_s, e8, hlt, hd, if_true, if_false, eq_self, Bool.true_eq_false, Bool.false_eq_true, and_true, true_and, and_false, false_and, or_true, true_or, or_false, false_or, ne_eq, not_true_eq_false, not_false_eq_true, decide_true, decide_false, z_sA_id]
    obtain ⟨nw2, e2⟩ := key
    obtain ⟨nw', e3, e4⟩ := l_M_arrives hM M hB r (t + 1) (f_as n a) nw2 (by omega) hs
    exact ⟨nw', e2.trans e3, e4⟩
