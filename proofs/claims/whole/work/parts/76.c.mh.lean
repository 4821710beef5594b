/-! ===== what lies beyond a row doesn't matter: by the class's own runs ===== -/
theorem f_un_le (n : Nat) : ∀ r s k, f_un n r s = some k → k ≤ r := by
  intro r
  induction r with
  | zero =>
    intro s k h
    unfold f_un at h
    split at h
    · cases h; omega
    · cases h
  | succ r ih =>
    intro s k h
    unfold f_un at h
    split at h
    · cases h; omega
    · cases hc : f_un n r (f_tk n s) with
      | none => rw [hc] at h; cases h
      | some j =>
        rw [hc] at h
        have hj := ih _ _ hc
        have hk : j + 1 = k := Option.some.inj h
        omega
theorem z_on_inj {p q : Option Nat} (hp : ∀ k, p = some k → k ≤ 300) (hq : ∀ k, q = some k → k ≤ 300) (h : z_on p = z_on q) : p = q := by
  have hm : ∀ k, k ≤ 300 → nI k ≠ nI 4294967295 := by decide +kernel
  cases p with
  | none => cases q with
    | none => rfl
    | some k => exact absurd h.symm (hm k (hq k rfl))
  | some j => cases q with
    | none => exact absurd h (hm j (hp j rfl))
    | some k =>
      have a := hp j rfl
      have b := hq k rfl
      rw [(nI_eq (by omega) (by omega)).mp h]
theorem z_val_inj {x y : Int32} {G : zG} {M M' : zM} (h : (some (Sum.inl (some (Value.int x)), G, M) : Option zD) = some (Sum.inl (some (Value.int y)), G, M')) : x = y := by
  cases h; rfl
theorem z_mem_inj {G : zG} {M M' : zM} (h : (some (Sum.inl none, G, M) : Option zD) = some (Sum.inl none, G, M')) : M = M' := by
  cases h; rfl
section
variable {G : zG} {b n J B : Nat} {V : zM} {s t : Nat → Int32}
theorem un_x (hW : z_HW G b) (h : z_R false (0, 0) n B V s) (hF : z_F n J B s) (hB : B ≤ 70000000) (e : ∀ a, a < 4326 → t a = s a) : f_un n 300 t = f_un n 300 s := by
  have hn := hF.1.1.2
  obtain ⟨V1, e1⟩ := s_C_untilOne hW V h hF (by omega) hB
  obtain ⟨V2, e2⟩ := s_C_untilOne hW V (z_R_x h hn e) (z_F_x hF e) (by omega) hB
  rw [e2] at e1
  exact z_on_inj (f_un_le n 300 t) (f_un_le n 300 s) (z_val_inj e1)
theorem un_tu (hW : z_HW G b) (h : z_R false (0, 0) n B V s) (hF : z_F n J B s) (hB : B ≤ 60000000) (e : ∀ a, a < 4326 → t a = s a) {i : Nat} (hi : i < n) : f_un n 300 (f_tu i t) = f_un n 300 (f_tu i s) := by
  have hn := hF.1.1.2
  have h' := z_R_x h hn e
  have hF' := z_F_x hF e
  obtain ⟨V1, e1, R1⟩ := s_W_turn hW V h hF hi (by omega)
  obtain ⟨V2, e2, R2⟩ := s_W_turn hW V h' hF' hi (by omega)
  rw [e2] at e1
  have em := z_mem_inj e1
  obtain ⟨V3, e3⟩ := s_C_untilOne hW V R1 (F_tu hF hi (by omega)) (by omega) (by omega)
  obtain ⟨V4, e4⟩ := s_C_untilOne hW V R2 (F_tu hF' hi (by omega)) (by omega) (by omega)
  rw [em, e3] at e4
  exact (z_on_inj (f_un_le n 300 _) (f_un_le n 300 _) (z_val_inj e4)).symm
theorem un_st {d : Nat} (hd : d < b ∨ b + 41 ≤ d) (h32 : 32 ≤ d) (hD : z_kd G d = (0, 0)) (hW : z_HW G b) (h : z_R false (0, 0) n B V s) (hF : z_F n J B s) (hB : B ≤ 40000000) (e : ∀ a, a < 4326 → t a = s a) (x : Int32) : f_un n 300 (f_st n (t, x)).1 = f_un n 300 (f_st n (s, x)).1 := by
  have hn := hF.1.1.2
  have h' := z_R_x h hn e
  have hF' := z_F_x hF e
  obtain ⟨V1, M1, e1, m1, o1, ⟨B1, b1, R1⟩, B2, b2, F1⟩ := s_C_storm hW hd h32 hD (fun _ _ => x) V h hF (by omega) (by omega)
  obtain ⟨V2, M2, e2, m2, o2, ⟨B3, b3, R2⟩, B4, b4, F2⟩ := s_C_storm hW hd h32 hD (fun _ _ => x) V h' hF' (by omega) (by omega)
  rw [e2] at e1
  have em := z_mem_inj e1
  obtain ⟨V3, e3⟩ := s_C_untilOne hW M1 R1 F1 (by omega) (by omega)
  obtain ⟨V4, e4⟩ := s_C_untilOne hW M2 R2 F2 (by omega) (by omega)
  rw [em, e3] at e4
  exact (z_on_inj (f_un_le n 300 _) (f_un_le n 300 _) (z_val_inj e4)).symm
end
/-! ===== the hardest fall ===== -/
def hv (p : Option Nat) : Nat := p.getD 301
def f_hx1 (k : Nat) (p : Option Nat) (o : Option (Nat × Option Nat)) : Option (Nat × Option Nat) := match o with
  | none => some (k, p)
  | some (i, q) => if hv q < hv p then some (k, p) else some (i, q)
def f_hs (n : Nat) (s : Nat → Int32) (k : Nat) (o : Option (Nat × Option Nat)) : Option (Nat × Option Nat) := if s (41 + 28 * k) = nI 2 then o else f_hx1 k (f_un n 300 (f_fa k s)) o
def h_b : Option (Nat × Option Nat) → Int32
  | none => nI 4294967295
  | some (i, _) => nI i
def h_m : Option (Nat × Option Nat) → Int32
  | none => nI 4294967295
  | some (_, q) => nI (hv q)
def h_l : Option (Nat × Option Nat) → Int32
  | none => nI 4294967295
  | some (_, q) => z_on q
def h_ok (k : Nat) : Option (Nat × Option Nat) → Prop
  | none => True
  | some (i, q) => i < k ∧ ∀ j, q = some j → j ≤ 300
def q_hard (n : Nat) (s : Nat → Int32) (w : Nat) : Int32 := if w = 0 then h_b (z_fd (f_hs n s) n 0 none) else h_l (z_fd (f_hs n s) n 0 none)
theorem h_ok_s (n : Nat) (s : Nat → Int32) (k : Nat) (o : Option (Nat × Option Nat)) (h : h_ok k o) : h_ok (k + 1) (f_hs n s k o) := by
  unfold f_hs f_hx1
  split
  · cases o with
    | none => trivial
    | some p => exact ⟨Nat.lt_succ_of_lt h.1, h.2⟩
  · cases o with
    | none => exact ⟨Nat.lt_succ_self k, f_un_le n 300 _⟩
    | some p =>
      obtain ⟨i, q⟩ := p
      dsimp only
      split
      · exact ⟨Nat.lt_succ_self k, f_un_le n 300 _⟩
      · exact ⟨Nat.lt_succ_of_lt h.1, h.2⟩
theorem nIm : ∀ k, k ≤ 300 → (nI k = nI 4294967295) = False := by decide +kernel
theorem hv_on (p : Option Nat) (hp : ∀ j, p = some j → j ≤ 300) : (if z_on p = nI 4294967295 then nI 301 else z_on p) = nI (hv p) := by
  cases p with
  | none => rfl
  | some k =>
    have e := nIm k (hp k rfl)
    show (if nI k = nI 4294967295 then nI 301 else nI k) = nI k
    exact if_neg (fun q => (e ▸ q : False))
theorem hv_le (p : Option Nat) (hp : ∀ j, p = some j → j ≤ 300) : hv p ≤ 301 := by
  cases p with
  | none => exact Nat.le_refl _
  | some k => have := hp k rfl; show k ≤ 301; omega
section
variable {G : zG} {b n J B : Nat} {V : zM}
theorem m_hardest_f (hM : z_HM G) (M : zM) {w : Int32} (hx : w < 0 ∨ ¬ w < nI 2) : z_call 238 [.ref 455, .int w] G M = some (.inl (some (.int (nI 0))), G, rfm M 1 1) := by
  have ht := in_f (x := w) (k := 1) (by omega) hx
  have hb := bd_1 hM M (a := 1) (k := 1) (by omega) (by omega)
  obtain ⟨k0, ⟨r1, r8, r9, r10, r11, r12, r13, r17⟩, ⟨q1, q2⟩, ⟨q3, q4⟩, ⟨q5, q6⟩, ⟨q7, q8⟩, ⟨q9, q10⟩, ⟨q11, q12⟩, ⟨q13, q14⟩, ⟨q15, q16⟩, hp⟩ := id hM; have kr : ∀ a, z_rc a = 7 → z_kd G 455 = (0, z_rc a) := fun a h => (by rw [h]; exact k0)
  simp (disch := first | assumption | exact kr _ rfl | omega | exact Nat.le_of_ble_eq_true rfl) only [ze_M_hardest, zk_M_hardest_0, xo_2_0, xo_5, xo_18, xo_0_1, xo_63_3, xk_v, xk_n, xo_49, zk_M_hardest_15, xo_54, xo_55, zk_M_hardest_20, xo_64_4, xo_48, zk_M_hardest_28, xo_70, xo_10_2i, xo_10_2r, xo_10_2n, xo_10_3i, xo_10_3r, xo_10_3n, xo_11_4i, xo_11_4r, xo_11_4n, xo_1_4, xo_17, xo_32, xo_45, xo_64_2, xo_11_5i, xo_11_5r, xo_11_5n, xo_1_5, xo_43, xo_7, xo_11_6i, xo_11_6r, xo_11_6n, xo_0_2, xo_42, xo_1_6, xo_0_3, xo_46, xo_15_4i, xo_15_4r, xo_15_4n, xo_47, th0_f, c_M_in, ht, z_b0, hb, one0, zer0, if_true, if_false, eq_self, Bool.true_eq_false, Bool.false_eq_true, and_true, true_and, and_false, false_and, or_true, true_or, or_false, false_or, ne_eq, not_true_eq_false, not_false_eq_true, decide_true, decide_false, z_sA_id]
theorem l_M_hardest (hM : z_HM G) (hW : z_HW G b) (M0 : zM) (h : z_R false (0, 0) n B V (M0 458)) (hF : z_F n J B (M0 458)) (hB : B ≤ 60000000) (w : Int32) : ∀ r k o M w5 w6, k + r = n → z_Pq M0 M → h_ok k o → ∃ M' w5' w6', z_ex 238 (z_blk 238 37) [.ref 455, .int w, .int (h_b o), .int (h_m o), .int (nI k), w5, w6] [] G M = z_ex 238 (z_blk 238 110) [.ref 455, .int w, .int (h_b (z_fd (f_hs n (M0 458)) r k o)), .int (h_m (z_fd (f_hs n (M0 458)) r k o)), .int (nI n), w5', w6'] [] G M' ∧ z_Pq M0 M' := by
  have hn := hF.1.1.2
  intro r
  induction r with
  | zero =>
    intro k o M w5 w6 hk hP ho
    have hk' : k = n := by omega
    subst hk'
    have hlt : ¬ nI k < nI k := nI_nlt (Nat.le_refl _) (by omega)
    have h0 : M 458 0 = nI k := (hP.2.1 0 (by omega)).trans hF.1.1.1
    refine ⟨M, w5, w6, ?_, hP⟩
    rw [z_fd_0]
    obtain ⟨k0, ⟨r1, r8, r9, r10, r11, r12, r13, r17⟩, ⟨q1, q2⟩, ⟨q3, q4⟩, ⟨q5, q6⟩, ⟨q7, q8⟩, ⟨q9, q10⟩, ⟨q11, q12⟩, ⟨q13, q14⟩, ⟨q15, q16⟩, hp⟩ := id hM; have kr : ∀ a, z_rc a = 7 → z_kd G 455 = (0, z_rc a) := fun a h => (by rw [h]; exact k0)
    conv => lhs; rw [zk_M_hardest_37]
    simp (disch := first | assumption | exact kr _ rfl | omega | exact Nat.le_of_ble_eq_true rfl) only [xo_2_0, xo_5, xo_18, xo_0_1, xo_63_3, xk_v, xk_n, xo_49, xo_54, xo_55, xo_64_4, xo_48, xo_70, xo_10_2i, xo_10_2r, xo_10_2n, xo_10_3i, xo_10_3r, xo_10_3n, xo_11_4i, xo_11_4r, xo_11_4n, xo_1_4, xo_17, xo_32, xo_45, xo_64_2, xo_11_5i, xo_11_5r, xo_11_5n, xo_1_5, xo_43, xo_7, xo_11_6i, xo_11_6r, xo_11_6n, xo_0_2, xo_42, xo_1_6, xo_0_3, xo_46, xo_15_4i, xo_15_4r, xo_15_4n, xo_47, r9, h0, hlt, if_true, if_false, eq_self, Bool.true_eq_false, Bool.false_eq_true, and_true, true_and, and_false, false_and, or_true, true_or, or_false, false_or, ne_eq, not_true_eq_false, not_false_eq_true, decide_true, decide_false, z_sA_id]
  | succ r ih =>
    intro k o M w5 w6 hk hP ho
    have hlt : nI k < nI n := nI_lt (by omega) (by omega)
    have h0 : M 458 0 = nI n := (hP.2.1 0 (by omega)).trans hF.1.1.1
    have hd := c_M_isDown hM M (i := k) (by omega)
    rw [hP.2.1 (41 + 28 * k) (by omega)] at hd
    rw [z_fd_s]
    by_cases hc : M0 458 (41 + 28 * k) = nI 2
    · rw [decide_eq_true hc] at hd
      have es : f_hs n (M0 458) k o = o := by unfold f_hs; rw [if_pos hc]
      have ho' := h_ok_s n (M0 458) k o ho
      rw [es] at ho' ⊢
      obtain ⟨M', w5', w6', e, q⟩ := ih (k + 1) o M w5 w6 (by omega) hP ho'
      refine ⟨M', w5', w6', ?_, q⟩
      rw [← e]
      obtain ⟨k0, ⟨r1, r8, r9, r10, r11, r12, r13, r17⟩, ⟨q1, q2⟩, ⟨q3, q4⟩, ⟨q5, q6⟩, ⟨q7, q8⟩, ⟨q9, q10⟩, ⟨q11, q12⟩, ⟨q13, q14⟩, ⟨q15, q16⟩, hp⟩ := id hM; have kr : ∀ a, z_rc a = 7 → z_kd G 455 = (0, z_rc a) := fun a h => (by rw [h]; exact k0)
      conv => lhs; rw [zk_M_hardest_37]
      simp (disch := first | assumption | exact kr _ rfl | omega | exact Nat.le_of_ble_eq_true rfl) only [xo_2_0, xo_5, xo_18, xo_0_1, xo_63_3, xk_v, xk_n, xo_49, xo_54, xo_55, xo_64_4, xo_48, xo_70, xo_10_2i, xo_10_2r, xo_10_2n, xo_10_3i, xo_10_3r, xo_10_3n, xo_11_4i, xo_11_4r, xo_11_4n, xo_1_4, xo_17, xo_32, xo_45, zk_M_hardest_48, xo_64_2, zk_M_hardest_57, xo_11_5i, xo_11_5r, xo_11_5n, xo_1_5, xo_43, xo_7, xo_11_6i, xo_11_6r, xo_11_6n, xo_0_2, xo_42, xo_1_6, xo_0_3, xo_46, zk_M_hardest_104, xo_15_4i, xo_15_4r, xo_15_4n, xo_47, nI_add, pk_mul, Nat.add_zero, z_sA_s, z_sA_sA, z_u_s, r9, h0, hlt, hd, z_b0, if_true, if_false, eq_self, Bool.true_eq_false, Bool.false_eq_true, and_true, true_and, and_false, false_and, or_true, true_or, or_false, false_or, ne_eq, not_true_eq_false, not_false_eq_true, decide_true, decide_false, z_sA_id]
    · rw [decide_eq_false hc] at hd
      have hFM : z_F n J B (M 458) := z_F_x hF hP.2.1
      obtain ⟨M1, c1, q1⟩ := m_untilFall hM M hFM hB (i := k) (by omega)
      rw [un_tu hW h hF hB hP.2.1 (show k < n by omega)] at c1
      have etu : f_tu k (M0 458) = f_fa k (M0 458) := by unfold f_tu; rw [if_neg hc]
      rw [etu] at c1
      have ho' := h_ok_s n (M0 458) k o ho
      have hpl := f_un_le n 300 (f_fa k (M0 458))
      have hvo := hv_on _ hpl
      have hvl := hv_le _ hpl
      have es : f_hs n (M0 458) k o = f_hx1 k (f_un n 300 (f_fa k (M0 458))) o := by unfold f_hs; rw [if_neg hc]
      generalize f_un n 300 (f_fa k (M0 458)) = p at c1 hpl hvo hvl es
      obtain ⟨M', w5', w6', e, q⟩ := ih (k + 1) (f_hs n (M0 458) k o) M1 (.int (z_on p)) (.int (nI (hv p))) (by omega) (Pq_trans hP q1) ho'
      refine ⟨M', w5', w6', ?_, q⟩
      rw [← e]
      rw [es]
      have e82 : ∀ (w6 : Value), z_ex 238 (z_blk 238 37) [.ref 455, .int w, .int (h_b o), .int (h_m o), .int (nI k), w5, w6] [] G M = z_ex 238 (z_blk 238 82) [.ref 455, .int w, .int (h_b o), .int (h_m o), .int (nI k), (.int (z_on p)), w6] [.int (nI (hv p))] G M1 := by
        intro w6
        obtain ⟨k0, ⟨r1, r8, r9, r10, r11, r12, r13, r17⟩, ⟨q1, q2⟩, ⟨q3, q4⟩, ⟨q5, q6⟩, ⟨q7, q8⟩, ⟨q9, q10⟩, ⟨q11, q12⟩, ⟨q13, q14⟩, ⟨q15, q16⟩, hp⟩ := id hM; have kr : ∀ a, z_rc a = 7 → z_kd G 455 = (0, z_rc a) := fun a h => (by rw [h]; exact k0)
        rw [← hvo]
        by_cases hz : z_on p = nI 4294967295
        · conv => lhs; rw [zk_M_hardest_37]
          simp (disch := first | assumption | exact kr _ rfl | omega | exact Nat.le_of_ble_eq_true rfl) only [xo_2_0, xo_5, xo_18, xo_0_1, xo_63_3, xk_v, xk_n, xo_49, xo_54, xo_55, xo_64_4, xo_48, xo_70, xo_10_2i, xo_10_2r, xo_10_2n, xo_10_3i, xo_10_3r, xo_10_3n, xo_11_4i, xo_11_4r, xo_11_4n, xo_1_4, xo_17, xo_32, xo_45, zk_M_hardest_48, xo_64_2, zk_M_hardest_60, xo_11_5i, xo_11_5r, xo_11_5n, xo_1_5, xo_43, zk_M_hardest_74, xo_7, xo_11_6i, xo_11_6r, xo_11_6n, xo_0_2, xo_42, xo_1_6, xo_0_3, xo_46, xo_15_4i, xo_15_4r, xo_15_4n, xo_47, nI_add, pk_mul, Nat.add_zero, z_sA_s, z_sA_sA, z_u_s, r9, h0, hlt, hd, c1, z_b0, hz, if_true, if_false, eq_self, Bool.true_eq_false, Bool.false_eq_true, and_true, true_and, and_false, false_and, or_true, true_or, or_false, false_or, ne_eq, not_true_eq_false, not_false_eq_true, decide_true, decide_false, z_sA_id]
        · conv => lhs; rw [zk_M_hardest_37]
          simp (disch := first | assumption | exact kr _ rfl | omega | exact Nat.le_of_ble_eq_true rfl) only [xo_2_0, xo_5, xo_18, xo_0_1, xo_63_3, xk_v, xk_n, xo_49, xo_54, xo_55, xo_64_4, xo_48, xo_70, xo_10_2i, xo_10_2r, xo_10_2n, xo_10_3i, xo_10_3r, xo_10_3n, xo_11_4i, xo_11_4r, xo_11_4n, xo_1_4, xo_17, xo_32, xo_45, zk_M_hardest_48, xo_64_2, zk_M_hardest_60, xo_11_5i, xo_11_5r, xo_11_5n, xo_1_5, xo_43, xo_7, zk_M_hardest_80, xo_11_6i, xo_11_6r, xo_11_6n, xo_0_2, xo_42, xo_1_6, xo_0_3, xo_46, xo_15_4i, xo_15_4r, xo_15_4n, xo_47, nI_add, pk_mul, Nat.add_zero, z_sA_s, z_sA_sA, z_u_s, r9, h0, hlt, hd, c1, z_b0, hz, if_true, if_false, eq_self, Bool.true_eq_false, Bool.false_eq_true, and_true, true_and, and_false, false_and, or_true, true_or, or_false, false_or, ne_eq, not_true_eq_false, not_false_eq_true, decide_true, decide_false, z_sA_id]
      rw [e82]
      cases o with
      | none =>
        dsimp only [h_b, h_m, f_hx1]
        simp (disch := first | assumption | exact kr _ rfl | omega | exact Nat.le_of_ble_eq_true rfl) only [xo_2_0, xo_5, xo_18, xo_0_1, xo_63_3, xk_v, xk_n, xo_49, xo_54, xo_55, xo_64_4, xo_48, xo_70, xo_10_2i, xo_10_2r, xo_10_2n, xo_10_3i, xo_10_3r, xo_10_3n, xo_11_4i, xo_11_4r, xo_11_4n, xo_1_4, xo_17, xo_32, xo_45, xo_64_2, xo_11_5i, xo_11_5r, xo_11_5n, xo_1_5, xo_43, xo_7, zk_M_hardest_82, xo_11_6i, xo_11_6r, xo_11_6n, xo_0_2, xo_42, xo_1_6, xo_0_3, xo_46, zk_M_hardest_98, zk_M_hardest_104, xo_15_4i, xo_15_4r, xo_15_4n, xo_47, nI_add, pk_mul, Nat.add_zero, if_true, if_false, eq_self, Bool.true_eq_false, Bool.false_eq_true, and_true, true_and, and_false, false_and, or_true, true_or, or_false, false_or, ne_eq, not_true_eq_false, not_false_eq_true, decide_true, decide_false, z_sA_id]
      | some pq =>
        obtain ⟨i, q⟩ := pq
        have hi : (nI i = nI 4294967295) = False := nIm i (by have := ho.1; omega)
        have hq := hv_le q ho.2
        dsimp only [h_b, h_m, f_hx1]
        by_cases hg : hv q < hv p
        · have hl : nI (hv q) < nI (hv p) := nI_lt hg (by omega)
          rw [if_pos hg]
          dsimp only [h_b, h_m]
          simp (disch := first | assumption | exact kr _ rfl | omega | exact Nat.le_of_ble_eq_true rfl) only [xo_2_0, xo_5, xo_18, xo_0_1, xo_63_3, xk_v, xk_n, xo_49, xo_54, xo_55, xo_64_4, xo_48, xo_70, xo_10_2i, xo_10_2r, xo_10_2n, xo_10_3i, xo_10_3r, xo_10_3n, xo_11_4i, xo_11_4r, xo_11_4n, xo_1_4, xo_17, xo_32, xo_45, xo_64_2, xo_11_5i, xo_11_5r, xo_11_5n, xo_1_5, xo_43, xo_7, zk_M_hardest_82, xo_11_6i, xo_11_6r, xo_11_6n, xo_0_2, xo_42, zk_M_hardest_89, xo_1_6, xo_0_3, xo_46, zk_M_hardest_98, zk_M_hardest_104, xo_15_4i, xo_15_4r, xo_15_4n, xo_47, nI_add, pk_mul, Nat.add_zero, hi, hl, if_true, if_false, eq_self, Bool.true_eq_false, Bool.false_eq_true, and_true, true_and, and_false, false_and, or_true, true_or, or_false, false_or, ne_eq, not_true_eq_false, not_false_eq_true, decide_true, decide_false, z_sA_id]
        · have hl : ¬ nI (hv q) < nI (hv p) := nI_nlt (by omega) (by omega)
          rw [if_neg hg]
          dsimp only [h_b, h_m]
          simp (disch := first | assumption | exact kr _ rfl | omega | exact Nat.le_of_ble_eq_true rfl) only [xo_2_0, xo_5, xo_18, xo_0_1, xo_63_3, xk_v, xk_n, xo_49, xo_54, xo_55, xo_64_4, xo_48, xo_70, xo_10_2i, xo_10_2r, xo_10_2n, xo_10_3i, xo_10_3r, xo_10_3n, xo_11_4i, xo_11_4r, xo_11_4n, xo_1_4, xo_17, xo_32, xo_45, xo_64_2, xo_11_5i, xo_11_5r, xo_11_5n, xo_1_5, xo_43, xo_7, zk_M_hardest_82, xo_11_6i, xo_11_6r, xo_11_6n, xo_0_2, xo_42, zk_M_hardest_89, xo_1_6, xo_0_3, xo_46, zk_M_hardest_95, zk_M_hardest_104, xo_15_4i, xo_15_4r, xo_15_4n, xo_47, nI_add, pk_mul, Nat.add_zero, hi, hl, if_true, if_false, eq_self, Bool.true_eq_false, Bool.false_eq_true, and_true, true_and, and_false, false_and, or_true, true_or, or_false, false_or, ne_eq, not_true_eq_false, not_false_eq_true, decide_true, decide_false, z_sA_id]
theorem m_hardest (hM : z_HM G) (hW : z_HW G b) (M : zM) (h : z_R false (0, 0) n B V (M 458)) (hF : z_F n J B (M 458)) (hB : B ≤ 60000000) {w : Nat} (hw : w < 2) : ∃ M', z_call 238 [.ref 455, .int (nI w)] G M = some (.inl (some (.int (q_hard n (M 458) w))), G, M') ∧ z_Pq (th0 M) M' := by
  have e8 : th0 M 458 = M 458 := th0_o M (by omega)
  have ht := in_t (i := w) (k := 1) (by omega) (by omega)
  have hb := bd_0 hM M (nI 1) (nI 1)
  have e0 : z_call 238 [.ref 455, .int (nI w)] G M = z_ex 238 (z_blk 238 37) [.ref 455, .int (nI w), .int (h_b none), .int (h_m none), .int (nI 0), .null, .null] [] G (th0 M) := by
    obtain ⟨k0, ⟨r1, r8, r9, r10, r11, r12, r13, r17⟩, ⟨q1, q2⟩, ⟨q3, q4⟩, ⟨q5, q6⟩, ⟨q7, q8⟩, ⟨q9, q10⟩, ⟨q11, q12⟩, ⟨q13, q14⟩, ⟨q15, q16⟩, hp⟩ := id hM; have kr : ∀ a, z_rc a = 7 → z_kd G 455 = (0, z_rc a) := fun a h => (by rw [h]; exact k0)
    simp (disch := first | assumption | exact kr _ rfl | omega | exact Nat.le_of_ble_eq_true rfl) only [ze_M_hardest, zk_M_hardest_0, xo_2_0, xo_5, xo_18, xo_0_1, xo_63_3, xk_v, xk_n, xo_49, xo_54, zk_M_hardest_19, xo_55, zk_M_hardest_20, xo_64_4, xo_48, xo_70, zk_M_hardest_30, xo_10_2i, xo_10_2r, xo_10_2n, xo_10_3i, xo_10_3r, xo_10_3n, xo_11_4i, xo_11_4r, xo_11_4n, xo_1_4, xo_17, xo_32, xo_45, xo_64_2, xo_11_5i, xo_11_5r, xo_11_5n, xo_1_5, xo_43, xo_7, xo_11_6i, xo_11_6r, xo_11_6n, xo_0_2, xo_42, xo_1_6, xo_0_3, xo_46, xo_15_4i, xo_15_4r, xo_15_4n, xo_47, th0_f, c_M_in, ht, z_b0, hb, one0, zer0, if_true, if_false, eq_self, Bool.true_eq_false, Bool.false_eq_true, and_true, true_and, and_false, false_and, or_true, true_or, or_false, false_or, ne_eq, not_true_eq_false, not_false_eq_true, decide_true, decide_false, z_sA_id]
    rfl
  obtain ⟨M', w5, w6, e1, q⟩ := l_M_hardest (J := J) (B := B) (V := V) hM hW (th0 M) (by rw [e8]; exact h) (by rw [e8]; exact hF) hB (nI w) n 0 none (th0 M) .null .null (by omega) (Pq_refl _) trivial
  rw [e8] at e1
  have ho : h_ok n (z_fd (f_hs n (M 458)) n 0 none) := by
    have := z_fd_inv (f := f_hs n (M 458)) (fun k o => h_ok k o) n 0 none trivial (fun j a _ _ ha => h_ok_s n (M 458) j a ha)
    rw [Nat.zero_add] at this
    exact this
  refine ⟨M', ?_, q⟩
  rw [e0, e1]
  unfold q_hard
  generalize z_fd (f_hs n (M 458)) n 0 none = o at ho
  match w, hw with
  | 0, _ => simp (disch := first | assumption | exact kr _ rfl | omega | exact Nat.le_of_ble_eq_true rfl) only [xo_2_0, xo_5, xo_18, xo_0_1, xo_63_3, xk_v, xk_n, xo_49, xo_54, xo_55, xo_64_4, xo_48, xo_70, xo_10_2i, xo_10_2r, xo_10_2n, xo_10_3i, xo_10_3r, xo_10_3n, xo_11_4i, xo_11_4r, xo_11_4n, xo_1_4, xo_17, xo_32, xo_45, xo_64_2, xo_11_5i, xo_11_5r, xo_11_5n, xo_1_5, xo_43, xo_7, xo_11_6i, xo_11_6r, xo_11_6n, xo_0_2, xo_42, xo_1_6, xo_0_3, xo_46, xo_15_4i, xo_15_4r, xo_15_4n, zk_M_hardest_110, zk_M_hardest_114, xo_47, zk_M_hardest_130, one0, zer0, if_true, if_false, eq_self, Bool.true_eq_false, Bool.false_eq_true, and_true, true_and, and_false, false_and, or_true, true_or, or_false, false_or, ne_eq, not_true_eq_false, not_false_eq_true, decide_true, decide_false, z_sA_id]
  | 1, _ =>
    rw [if_neg (by omega)]
    cases o with
    | none =>
      have c : ¬ nI 300 < nI 4294967295 := by decide
      dsimp only [h_m, h_l]
      simp (disch := first | assumption | exact kr _ rfl | omega | exact Nat.le_of_ble_eq_true rfl) only [xo_2_0, xo_5, xo_18, xo_0_1, xo_63_3, xk_v, xk_n, xo_49, xo_54, xo_55, xo_64_4, xo_48, xo_70, xo_10_2i, xo_10_2r, xo_10_2n, xo_10_3i, xo_10_3r, xo_10_3n, xo_11_4i, xo_11_4r, xo_11_4n, xo_1_4, xo_17, xo_32, xo_45, xo_64_2, xo_11_5i, xo_11_5r, xo_11_5n, xo_1_5, xo_43, xo_7, xo_11_6i, xo_11_6r, xo_11_6n, xo_0_2, xo_42, xo_1_6, xo_0_3, xo_46, xo_15_4i, xo_15_4r, xo_15_4n, zk_M_hardest_110, zk_M_hardest_118, xo_47, zk_M_hardest_129, zk_M_hardest_130, one0, zer0, c, if_true, if_false, eq_self, Bool.true_eq_false, Bool.false_eq_true, and_true, true_and, and_false, false_and, or_true, true_or, or_false, false_or, ne_eq, not_true_eq_false, not_false_eq_true, decide_true, decide_false, z_sA_id]
    | some pq =>
      obtain ⟨i, p⟩ := pq
      dsimp only [h_m, h_l]
      cases p with
      | none =>
        have c : nI 300 < nI (hv none) := by decide
        simp (disch := first | assumption | exact kr _ rfl | omega | exact Nat.le_of_ble_eq_true rfl) only [xo_2_0, xo_5, xo_18, xo_0_1, xo_63_3, xk_v, xk_n, xo_49, xo_54, xo_55, xo_64_4, xo_48, xo_70, xo_10_2i, xo_10_2r, xo_10_2n, xo_10_3i, xo_10_3r, xo_10_3n, xo_11_4i, xo_11_4r, xo_11_4n, xo_1_4, xo_17, xo_32, xo_45, xo_64_2, xo_11_5i, xo_11_5r, xo_11_5n, xo_1_5, xo_43, xo_7, xo_11_6i, xo_11_6r, xo_11_6n, xo_0_2, xo_42, xo_1_6, xo_0_3, xo_46, xo_15_4i, xo_15_4r, xo_15_4n, zk_M_hardest_110, zk_M_hardest_118, xo_47, zk_M_hardest_125, zk_M_hardest_130, one0, zer0, c, if_true, if_false, eq_self, Bool.true_eq_false, Bool.false_eq_true, and_true, true_and, and_false, false_and, or_true, true_or, or_false, false_or, ne_eq, not_true_eq_false, not_false_eq_true, decide_true, decide_false, z_sA_id]
        rfl
      | some k =>
        have hk := ho.2 k rfl
        have c : ¬ nI 300 < nI (hv (some k)) := nI_nlt hk (by omega)
        simp (disch := first | assumption | exact kr _ rfl | omega | exact Nat.le_of_ble_eq_true rfl) only [xo_2_0, xo_5, xo_18, xo_0_1, xo_63_3, xk_v, xk_n, xo_49, xo_54, xo_55, xo_64_4, xo_48, xo_70, xo_10_2i, xo_10_2r, xo_10_2n, xo_10_3i, xo_10_3r, xo_10_3n, xo_11_4i, xo_11_4r, xo_11_4n, xo_1_4, xo_17, xo_32, xo_45, xo_64_2, xo_11_5i, xo_11_5r, xo_11_5n, xo_1_5, xo_43, xo_7, xo_11_6i, xo_11_6r, xo_11_6n, xo_0_2, xo_42, xo_1_6, xo_0_3, xo_46, xo_15_4i, xo_15_4r, xo_15_4n, zk_M_hardest_110, zk_M_hardest_118, xo_47, zk_M_hardest_129, zk_M_hardest_130, one0, zer0, c, if_true, if_false, eq_self, Bool.true_eq_false, Bool.false_eq_true, and_true, true_and, and_false, false_and, or_true, true_or, or_false, false_or, ne_eq, not_true_eq_false, not_false_eq_true, decide_true, decide_false, z_sA_id]
        rfl
  | k + 2, h => exact absurd h (by omega)
end
