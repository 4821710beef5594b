/-! ===== links are mended, members fall: in both ===== -/
theorem z_toN (y : Int32) : y = nI y.toBitVec.toNat := by
  unfold nI
  apply Int32.toBitVec_inj.mp
  simp
theorem z_xorNN (a b : Nat) : nI a ^^^ nI b = nI (a ^^^ b) := by
  unfold nI
  apply Int32.toBitVec_inj.mp
  simp [BitVec.ofNat_xor]
def g_ot (n i : Nat) : Nat := (2 ^ n - 1) &&& (255 - 2 ^ i)
theorem g_ot_8 {n i : Nat} (hn : n ≤ 8) : g_ot n i < 256 := z_and8 (z_pow256 n hn)
theorem g_ot_t {n i j : Nat} (hn : n ≤ 8) (hi : i < 8) (hj : j < 8) : (g_ot n i).testBit j = decide (j < n ∧ j ≠ i) := by
  unfold g_ot
  rw [z_nbT _ (z_pow256 n hn) i hi j hj, z_allT n hn j hj]
  by_cases h1 : j < n <;> by_cases h2 : j = i <;> simp [h1, h2]
def f_he (n : Nat) (s : Nat → Int32) : Nat → Int32 := z_fd (fun a t => z_u t (25 + a) (nI 0)) n 0 s
def f_hc (n : Nat) (s : Nat → Int32) : Nat := z_fd (fun a h => h + z_pc (z_n (s (25 + a)))) n 0 0
theorem f_he_o (n : Nat) (s : Nat → Int32) (q : Nat) (h : q < 25 ∨ 25 + n ≤ q) : f_he n s q = s q := by
  have := z_fd_inv (f := fun a t => z_u t (25 + a) (nI 0)) (fun _ t => t q = s q) n 0 s rfl (fun a t _ ha ht => by
    rw [z_u_n _ _ _ _ (by omega)]; exact ht)
  exact this
theorem f_he_i (n : Nat) (s : Nat → Int32) (a : Nat) (h : a < n) : f_he n s (25 + a) = nI 0 := by
  have := z_fd_inv (f := fun a t => z_u t (25 + a) (nI 0)) (fun k t => ∀ a, a < k → t (25 + a) = nI 0) n 0 s (fun a ha => absurd ha (Nat.not_lt_zero a)) (fun k t _ _ ht a ha => by
    by_cases e : a = k
    · subst e; rw [z_u_s]
    · rw [z_u_n _ _ _ _ (by omega)]; exact ht a (by omega))
  rw [Nat.zero_add] at this
  exact this a h
theorem z_pc_le (k : Nat) : z_pc k ≤ 8 := by unfold z_pc; omega
theorem f_hc_le (n : Nat) (s : Nat → Int32) : f_hc n s ≤ 8 * n := by
  have := z_fd_inv (f := fun a h => h + z_pc (z_n (s (25 + a)))) (fun k h => h ≤ 8 * k) n 0 0 (Nat.le_refl _) (fun a h _ _ hh => by
    have := z_pc_le (z_n (s (25 + a)))
    omega)
  rw [Nat.zero_add] at this
  exact this
theorem c_M_heals {G : zG} (hM : z_HM G) (M : zM) {n : Nat} (h0 : M 458 0 = nI n) (hn : n ≤ 8) (hc : ∀ a, a < n → ∃ c, c < 256 ∧ M 458 (25 + a) = nI c) : z_call 203 [.ref 455] G M = some (.inl (some (.int (nI (f_hc n (M 458) / 2)))), G, z_sA M 458 (f_he n (M 458))) := by
  obtain ⟨k0, ⟨r1, r8, r9, r10, r11, r12, r13, r17⟩, ⟨q1, q2⟩, ⟨q3, q4⟩, ⟨q5, q6⟩, ⟨q7, q8⟩, ⟨q9, q10⟩, ⟨q11, q12⟩, ⟨q13, q14⟩, ⟨q15, q16⟩, hp⟩ := id hM; have kr : ∀ a, z_rc a = 7 → z_kd G 455 = (0, z_rc a) := fun a h => (by rw [h]; exact k0)
  have e0 : z_call 203 [.ref 455] G M = z_ex 203 (z_blk 203 4) [.ref 455, .int (nI 0), .int (nI 0)] [] G (z_sA M 458 (M 458)) := by
    rw [z_sA_id]
    simp only [ze_M_heals, zk_M_heals_0, xo_5, xo_10_1i, xo_10_1r, xo_10_1n, xo_10_2i, xo_10_2r, xo_10_2n, xo_55, xo_0_2, xo_2_0, xo_17, xo_32, xo_45, xo_0_1, xo_6, xo_20, xo_63_1, xk_v, xk_n, xo_33, xo_15_2i, xo_15_2r, xo_15_2n, xo_54, xo_29, xo_70]
  have e := z_loop (fun a (p : (Nat → Int32) × Nat) => z_ex 203 (z_blk 203 4) [.ref 455, .int (nI p.2), .int (nI a)] [] G (z_sA M 458 p.1)) (fun a p => (z_u p.1 (25 + a) (nI 0), p.2 + z_pc (z_n (M 458 (25 + a))))) n (fun k p => p.1 0 = nI n ∧ ∀ a, k ≤ a → a < n → p.1 (25 + a) = M 458 (25 + a)) (by
    intro a p ha hI
    obtain ⟨i1, i2⟩ := hI
    obtain ⟨t, h⟩ := p
    dsimp only at i1 i2 ⊢
    have hlt : nI a < nI n := nI_lt ha (by omega)
    obtain ⟨c, c1, c2⟩ := hc a ha
    have i2a := i2 a (Nat.le_refl _) ha
    rw [c2] at i2a
    have ho := c_M_ones G (z_sA M 458 t) c1
    have hzc : z_n (nI c) = c := z_nN (by omega)
    refine ⟨?_, by rw [z_u_n _ _ _ _ (by omega)]; exact i1, fun x x1 x2 => by rw [z_u_n _ _ _ _ (by omega)]; exact i2 x (by omega) x2⟩
    rw [c2, hzc]
    conv => lhs; rw [zk_M_heals_4]
    simp (disch := first | assumption | exact kr _ rfl | omega | exact Nat.le_of_ble_eq_true rfl) only [xo_5, xo_10_1i, xo_10_1r, xo_10_1n, xo_10_2i, xo_10_2r, xo_10_2n, xo_55, xo_0_2, xo_2_0, xo_17, xo_32, xo_45, zk_M_heals_14, xo_0_1, xo_6, xo_20, xo_63_1, xk_v, xk_n, xo_33, xo_15_2i, xo_15_2r, xo_15_2n, xo_54, xo_29, xo_70, nI_add, pk_mul, Nat.add_zero, z_sA_s, z_sA_sA, z_u_s, r9, i1, hlt, if_true, if_false, eq_self, Bool.true_eq_false, Bool.false_eq_true, and_true, true_and, and_false, false_and, or_true, true_or, or_false, false_or, ne_eq, not_true_eq_false, not_false_eq_true, decide_true, decide_false, z_sA_id, i2a, ho]) n 0 (M 458, 0) (by omega) ⟨h0, fun _ _ _ => rfl⟩
  have hpair : ∀ r k (t : Nat → Int32) (h : Nat), z_fd (fun a (p : (Nat → Int32) × Nat) => (z_u p.1 (25 + a) (nI 0), p.2 + z_pc (z_n (M 458 (25 + a))))) r k (t, h) = (z_fd (fun a t => z_u t (25 + a) (nI 0)) r k t, z_fd (fun a h => h + z_pc (z_n (M 458 (25 + a)))) r k h) := by
    intro r
    induction r with
    | zero => intro k t h; rfl
    | succ r ih => intro k t h; rw [z_fd_s, ih, z_fd_s, z_fd_s]
  rw [hpair] at e
  dsimp only at e
  rw [e0, e]
  have hlt : ¬ nI n < nI n := nI_nlt (Nat.le_refl _) (by omega)
  have h00 : f_he n (M 458) 0 = nI n := by rw [f_he_o _ _ _ (by omega)]; exact h0
  have hle := f_hc_le n (M 458)
  have hdiv : nI (f_hc n (M 458)) / nI 2 = nI (f_hc n (M 458) / 2) := pk_div (by omega) (by omega) (by omega)
  have h2 : nI 2 ≠ 0 := nI_ne0 (by omega) (by omega)
  show z_ex 203 (z_blk 203 4) [.ref 455, .int (nI (f_hc n (M 458))), .int (nI n)] [] G (z_sA M 458 (f_he n (M 458))) = _
  conv => lhs; rw [zk_M_heals_4]
  simp (disch := first | assumption | exact kr _ rfl | omega | exact Nat.le_of_ble_eq_true rfl) only [xo_5, xo_10_1i, xo_10_1r, xo_10_1n, xo_10_2i, xo_10_2r, xo_10_2n, xo_55, xo_0_2, xo_2_0, xo_17, xo_32, xo_45, xo_0_1, xo_6, xo_20, xo_63_1, xk_v, xk_n, xo_33, xo_15_2i, xo_15_2r, xo_15_2n, xo_54, zk_M_heals_45, xo_29, xo_70, nI_add, pk_mul, Nat.add_zero, z_sA_s, z_sA_sA, z_u_s, r9, h00, hlt, if_true, if_false, eq_self, Bool.true_eq_false, Bool.false_eq_true, and_true, true_and, and_false, false_and, or_true, true_or, or_false, false_or, ne_eq, not_true_eq_false, not_false_eq_true, decide_true, decide_false, z_sA_id, hdiv]
def g_me (n : Nat) (V : zM) : zM := z_fd (fun i U => z_w U 2 i (nI (g_ot n i))) n 0 V
def g_mc (n : Nat) (V : zM) : Nat := z_fd (fun i h => h + z_pc (g_ot n i &&& (V 2 i ^^^ nI 4294967295).toBitVec.toNat)) n 0 0
theorem g_me_c (n : Nat) (V : zM) (c : Nat) (h : c ≠ 2) : g_me n V c = V c := by
  have := z_fd_inv (f := fun i U => z_w U 2 i (nI (g_ot n i))) (fun _ U => U c = V c) n 0 V rfl (fun a U _ _ hU => by rw [z_w_c _ _ _ _ _ h]; exact hU)
  exact this
theorem g_me_i (n : Nat) (V : zM) (i : Nat) (h : i < n) : g_me n V 2 i = nI (g_ot n i) := by
  have := z_fd_inv (f := fun i U => z_w U 2 i (nI (g_ot n i))) (fun k U => ∀ a, a < k → U 2 a = nI (g_ot n a)) n 0 V (fun a ha => absurd ha (Nat.not_lt_zero a)) (fun k U _ _ hU a ha => by
    by_cases e : a = k
    · subst e; rw [z_w_s]
    · rw [z_w_n _ _ _ _ _ _ (by omega)]; exact hU a (by omega))
  rw [Nat.zero_add] at this
  exact this i h
theorem g_mc_le (n : Nat) (V : zM) : g_mc n V ≤ 8 * n := by
  have := z_fd_inv (f := fun i h => h + z_pc (g_ot n i &&& (V 2 i ^^^ nI 4294967295).toBitVec.toNat)) (fun k h => h ≤ 8 * k) n 0 0 (Nat.le_refl _) (fun a h _ _ hh => by
    have := z_pc_le (g_ot n a &&& (V 2 a ^^^ nI 4294967295).toBitVec.toNat)
    omega)
  rw [Nat.zero_add] at this
  exact this
theorem c_W_mend {G : zG} {b : Nat} (hW : z_HW G b) (M V : zM) {n : Nat} (h0 : V 0 0 = nI n) (hn : n ≤ 8) : z_call 11 [.ref b] G (wr M b V) = some (.inl (some (.int (nI (g_mc n V / 2)))), G, wr M b (g_me n V)) := by
  have hltn : ¬ nI n < nI n := nI_nlt (Nat.le_refl _) (by omega)
  have e0 : z_call 11 [.ref b] G (wr M b V) = z_ex 11 (z_blk 11 4) [.ref b, .int (nI 0), .int (nI 0), .null] [] G (wr M b V) := by
    simp only [ze_W_mend, zk_W_mend_0, xo_5, xo_10_1i, xo_10_1r, xo_10_1n, xo_10_2i, xo_10_2r, xo_10_2n, xo_55, xo_0_2, xo_2_0, xo_16, xo_45, xo_64_1, xk_v, xk_n, xo_26, xo_25, xo_23, xo_10_3i, xo_10_3r, xo_10_3n, xo_0_1, xo_0_3, xo_17, xo_32, xo_63_1, xo_20, xo_33, xo_15_2i, xo_15_2r, xo_15_2n, xo_54, xo_29, xo_70]
  have e : ∀ r k (U : zM) (h : Nat) (w : Value), k + r = n → U 0 0 = nI n → (∀ a, k ≤ a → a < n → U 2 a = V 2 a) → ∃ w', z_ex 11 (z_blk 11 4) [.ref b, .int (nI h), .int (nI k), w] [] G (wr M b U) = z_ex 11 (z_blk 11 4) [.ref b, .int (nI (z_fd (fun i h => h + z_pc (g_ot n i &&& (V 2 i ^^^ nI 4294967295).toBitVec.toNat)) r k h)), .int (nI n), w'] [] G (wr M b (z_fd (fun i U => z_w U 2 i (nI (g_ot n i))) r k U)) := by
    intro r
    induction r with
    | zero => intro k U h w e _ _; exact ⟨w, by rw [show k = n by omega]; rfl⟩
    | succ r ih =>
      intro k U h w e hU0 hU2
      have hk : k < n := by omega
      have hk8 : k < 8 := by omega
      have hlt : nI k < nI n := nI_lt hk (by omega)
      have hall := c_W_all hW M U hU0
      rw [z_allN n hn] at hall
      have hot : nI (2 ^ n - 1) &&& ((nI 1 <<< (nI k &&& 31)) ^^^ nI 4294967295) = nI (g_ot n k) := z_nbN _ (z_pow256 n hn) k hk8
      have hu2 := hU2 k (Nat.le_refl _) hk
      have hand : nI (g_ot n k) &&& (V 2 k ^^^ nI 4294967295) = nI (g_ot n k &&& (V 2 k ^^^ nI 4294967295).toBitVec.toNat) := by
        rw [← z_andNN, ← z_toN]
      have hbc := c_J_bitCount G (wr M b U) (k := g_ot n k &&& (V 2 k ^^^ nI 4294967295).toBitVec.toNat) (z_and8 (g_ot_8 hn))
      obtain ⟨w', e'⟩ := ih (k + 1) (z_w U 2 k (nI (g_ot n k))) (h + z_pc (g_ot n k &&& (V 2 k ^^^ nI 4294967295).toBitVec.toNat)) (.int (nI (g_ot n k))) (by omega) (by rw [z_w_n _ _ _ _ _ _ (by omega)]; exact hU0) (fun a a1 a2 => by rw [z_w_n _ _ _ _ _ _ (by omega)]; exact hU2 a (by omega) a2)
      refine ⟨w', Eq.trans ?_ e'⟩
      conv => lhs; rw [zk_W_mend_4]
      simp (disch := first | assumption | omega | exact Nat.le_of_ble_eq_true rfl | decide) only [xo_5, xo_10_1i, xo_10_1r, xo_10_1n, xo_10_2i, xo_10_2r, xo_10_2n, xo_55, xo_0_2, xo_2_0, xw_16w hW, xo_45, zk_W_mend_12, xw_64w_1 hW, xk_v, xk_n, xo_26, xo_25, xo_23, xo_10_3i, xo_10_3r, xo_10_3n, xo_0_1, xo_0_3, xw_17w_4 hW, xw_32_2 hW, xo_63_1, xo_20, xw_33_2 hW, xo_15_2i, xo_15_2r, xo_15_2n, xo_54, xo_29, xo_70, nI_add, pk_mul, Nat.add_zero, hU0, hlt, if_true, if_false, eq_self, Bool.true_eq_false, Bool.false_eq_true, hall, hot, hu2, hand, hbc]
  obtain ⟨w', e'⟩ := e n 0 V 0 .null (by omega) h0 (fun _ _ _ => rfl)
  rw [e0, e']
  have h00 : g_me n V 0 0 = nI n := by rw [g_me_c _ _ _ (by omega)]; exact h0
  have hle := g_mc_le n V
  have hdiv : nI (g_mc n V) / nI 2 = nI (g_mc n V / 2) := pk_div (by omega) (by omega) (by omega)
  have h2 : nI 2 ≠ 0 := nI_ne0 (by omega) (by omega)
  show z_ex 11 (z_blk 11 4) [.ref b, .int (nI (g_mc n V)), .int (nI n), w'] [] G (wr M b (g_me n V)) = _
  conv => lhs; rw [zk_W_mend_4]
  simp (disch := first | assumption | omega | exact Nat.le_of_ble_eq_true rfl | decide) only [xo_5, xo_10_1i, xo_10_1r, xo_10_1n, xo_10_2i, xo_10_2r, xo_10_2n, xo_55, xo_0_2, xo_2_0, xw_16w hW, xo_45, xw_64w_1 hW, xk_v, xk_n, xo_26, xo_25, xo_23, xo_10_3i, xo_10_3r, xo_10_3n, xo_0_1, xo_0_3, xw_17w_4 hW, xw_32_2 hW, xo_63_1, xo_20, xw_33_2 hW, xo_15_2i, xo_15_2r, xo_15_2n, xo_54, zk_W_mend_52, xo_29, xo_70, nI_add, pk_mul, Nat.add_zero, h00, hltn, if_true, if_false, eq_self, Bool.true_eq_false, Bool.false_eq_true, hdiv]
theorem z_R0_e3 {V U : zM} {s t : Nat → Int32} (h : z_R0 V s) (hV0 : ∀ f, f < 8 → U 0 f = V 0 f) (hV : ∀ c, c = 1 ∨ c = 4 ∨ c = 6 ∨ c = 7 → U c = V c) (hs : ∀ a, a < 25 → t a = s a) : z_R0 U t := by
  obtain ⟨h1, h2, h3, h4, h5, h6, h7⟩ := h
  refine ⟨?_, ?_, ?_, fun k hk => ?_, ?_, fun k hk => ?_, fun k hk => ?_⟩
  · rw [hV0 0 (by omega), hs 0 (by omega)]; exact h1
  · rw [hV0 1 (by omega), hs 1 (by omega)]; exact h2
  · rw [hV0 2 (by omega), hs 6 (by omega)]; exact h3
  · rw [hV 1 (by omega), hs _ (by omega)]; exact h4 k hk
  · rw [hV 4 (by omega), hs 7 (by omega)]; exact h5
  · rw [hV 6 (by omega), hs _ (by omega)]; exact h6 k hk
  · rw [hV 7 (by omega), hs _ (by omega)]; exact h7 k hk
section
variable {G : zG} {b : Nat} {fl : Bool} {kp : Nat × Nat} {n J B Bf : Nat} {V : zM} {s : Nat → Int32} {i : Nat}
theorem R_cut (h : z_R fl kp n B V s) (hn : n ≤ 8) {U : zM} {t : Nat → Int32} (hU : ∀ c, c ≠ 2 → U c = V c) (ht : ∀ q, (q < 25 ∨ 33 ≤ q) → t q = s q) (h1 : z_R1 n U t) : z_R fl kp n B U t := by
  obtain ⟨h0, _, h2, h3, h4, h5⟩ := h
  exact ⟨z_R0_e3 h0 (fun f _ => by rw [hU 0 (by omega)]) (fun c hc => hU c (by omega)) (fun a ha => ht a (by omega)), h1, z_R2_eq h2 hn (fun j _ => hU _ (by omega)) (fun a a1 _ => ht a (by omega)), fun e => z_R3_eq (h3 e) hn (fun c _ _ => hU c (by omega)) (fun a _ _ => ht a (by omega)), z_R4_eq h4 (by rw [hU 0 (by omega)]) (fun f _ => by rw [hU 4 (by omega)]) (hU 5 (by omega)) (ht 8 (by omega)) (fun a _ _ => ht a (by omega)), z_R5_eq h5 (by rw [hU 0 (by omega)]) (hU 8 (by omega)) (fun a _ => ht a (by omega)) (fun j _ => by rw [hU _ (by omega)])⟩
theorem s_W_mend (hW : z_HW G b) (M : zM) (h : z_R fl kp n B V s) (hF : z_F n J Bf s) : ∃ V', z_call 11 [.ref b] G (wr M b V) = some (.inl (some (.int (nI (f_hc n s / 2)))), G, wr M b V') ∧ z_R fl kp n B V' (f_he n s) := by
  have hn : n ≤ 8 := hF.1.1.2
  have h0 : V 0 0 = nI n := h.1.1.trans hF.1.1.1
  have hcnt : g_mc n V = f_hc n s := by
    refine z_fd_congr n 0 0 (fun j a _ hj => ?_)
    congr 1
    obtain ⟨⟨w, w1, w2, w3⟩, c, c1, c2, c3⟩ := h.2.1 j (by omega)
    rw [c2, z_nN (show c < 2 ^ 31 by omega), w2, z_xorNN, show (nI (w ^^^ 4294967295)).toBitVec.toNat = w ^^^ 4294967295 from pk_tn (Nat.xor_lt_two_pow (n := 32) (by omega) (by omega))]
    congr 1
    apply Nat.eq_of_testBit_eq
    intro x
    by_cases hx : x < 8
    · rw [Nat.testBit_and, g_ot_t hn (by omega) hx, Nat.testBit_xor, w3 x hx, c2, z_hasN c c1 x hx, show (4294967295 : Nat).testBit x = true from (by
        have : ∀ x, x < 8 → (4294967295 : Nat).testBit x = true := by decide
        exact this x hx)]
      cases hc : c.testBit x
      · by_cases hd : x < n ∧ x ≠ j
        · rw [decide_eq_true hd]; rfl
        · rw [decide_eq_false hd]; rfl
      · have := c3 x hx hc
        rw [decide_eq_true (show x < n ∧ x ≠ j from ⟨this.1, this.2.1⟩)]; rfl
    · have e1 : (g_ot n j).testBit x = false := Nat.testBit_lt_two_pow (Nat.lt_of_lt_of_le (g_ot_8 hn) (by
        have : 2 ^ 8 ≤ 2 ^ x := Nat.pow_le_pow_right (by omega) (by omega)
        exact this))
      have e2 : c.testBit x = false := Nat.testBit_lt_two_pow (Nat.lt_of_lt_of_le c1 (by
        have : 2 ^ 8 ≤ 2 ^ x := Nat.pow_le_pow_right (by omega) (by omega)
        exact this))
      rw [Nat.testBit_and, e1, e2, Bool.false_and]
  refine ⟨g_me n V, by rw [← hcnt]; exact c_W_mend hW M V h0 hn, R_cut h hn (fun c hc => g_me_c n V c hc) (fun q hq => f_he_o n s q (by omega)) ?_⟩
  intro i hi
  have hz : ∀ j, j < n → zf_has (f_he n s (25 + j)) = zf_has (nI 0) := fun j hj => by rw [f_he_i n s j hj]
  have hz0 : ∀ x, x < 8 → zf_has (nI 0) (nI x) = false := by decide
  refine ⟨⟨g_ot n i, g_ot_8 hn, g_me_i n V i hi, fun j hj => ?_⟩, 0, by omega, f_he_i n s i hi, fun j hj hb => by rw [Nat.zero_testBit] at hb; exact absurd hb Bool.false_ne_true⟩
  rw [g_ot_t hn (by omega) hj, hz i hi, hz0 j hj, Bool.not_false, Bool.and_true]
def f_fa (i : Nat) (s : Nat → Int32) : Nat → Int32 := z_u (z_u s (41 + 28 * i) (nI 2)) (41 + 28 * i + 6) (nI 0)
theorem FX_fa {s : Nat → Int32} (h : z_F n J B s) (hi : i < n) : z_FX n J B s (f_fa i s) := by
  have h1 := FX_um (f := 0) (v := nI 2) h hi (by omega) (zC_0 (by omega))
  exact FX_trans h1 (FX_um (f := 6) (v := nI 0) h1.1 hi (by omega) (zC_6 (by omega)))
theorem s_W_drop (hW : z_HW G b) (M : zM) (h : z_R fl kp n B V s) (hn : n ≤ 8) (hi : i < n) : ∃ V', z_call 89 [.ref b, .int (nI i)] G (wr M b V) = some (.inl none, G, wr M b V') ∧ z_R fl kp n B V' (f_fa i s) := by
  have hi8 : i < 8 := by omega
  refine ⟨_, ?_, Rm10 (Rm3 h hn hi (nI 2)) hn hi (nI 0)⟩
  simp (disch := first | assumption | omega | exact Nat.le_of_ble_eq_true rfl | decide) only [ze_W_drop, zk_W_drop_0, xo_2_0, xw_17w_5 hW, xo_0_1, xw_34 hW, xo_5, xw_18b hW, xo_69]
def f_tu (i : Nat) (s : Nat → Int32) : Nat → Int32 := if s (41 + 28 * i) = nI 2 then f_al i s else f_fa i s
theorem s_W_turn (hW : z_HW G b) (M : zM) (h : z_R fl kp n B V s) (hF : z_F n J Bf s) (hi : i < n) (hB : B < 2 ^ 31 - 1) : ∃ V', z_call 132 [.ref b, .int (nI i)] G (wr M b V) = some (.inl none, G, wr M b V') ∧ z_R fl kp n (B + 1) V' (f_tu i s) := by
  have hn : n ≤ 8 := hF.1.1.2
  have hi8 : i < 8 := by omega
  have r3 := rd_3 h hi
  unfold f_tu
  by_cases hd : s (41 + 28 * i) = nI 2
  · rw [if_pos hd]
    obtain ⟨V1, e1, R1⟩ := s_W_goAlone hW M h hF hi hB
    exact ⟨V1, by simp (disch := first | assumption | omega | exact Nat.le_of_ble_eq_true rfl | decide) only [ze_W_turn, zk_W_turn_0, xo_2_0, xw_17w_5 hW, xo_0_1, xw_34 hW, xw_16b hW, xo_5, xo_43, zk_W_turn_13, xw_64w_2 hW, xk_v, xk_n, xo_54, xo_55, zk_W_turn_31, xo_69, r3, hd, if_true, if_false, eq_self, Bool.true_eq_false, Bool.false_eq_true, e1], R1⟩
  · rw [if_neg hd]
    obtain ⟨V1, e1, R1⟩ := s_W_drop hW M h hn hi
    exact ⟨V1, by simp (disch := first | assumption | omega | exact Nat.le_of_ble_eq_true rfl | decide) only [ze_W_turn, zk_W_turn_0, xo_2_0, xw_17w_5 hW, xo_0_1, xw_34 hW, xw_16b hW, xo_5, xo_43, xw_64w_2 hW, xk_v, xk_n, xo_54, zk_W_turn_26, xo_55, zk_W_turn_31, xo_69, r3, hd, if_true, if_false, eq_self, Bool.true_eq_false, Bool.false_eq_true, e1], z_R_mono (Nat.le_succ B) R1⟩
def f_lc (i : Nat) (s : Nat → Int32) : Nat := z_ct (fun k => decide (s (265 + 13 * k + 1) = nI i)) (z_n (s 8))
theorem s_A_underWayTo (hW : z_HW G b) (M : zM) (h : z_R fl (0, 0) n B V s) (hF : z_F n J Bf s) : z_call 90 [.ref (b + 4), .int (nI i)] G (wr M b V) = some (.inl (some (.int (nI (f_lc i s)))), G, wr M b V) := by
  obtain ⟨m, hm, m8, mz⟩ := z_F_m hF
  obtain ⟨gk, sz, g1, g2, g3, g4, g5, g6, g7, g8, g9⟩ := id h.2.2.2.2.1
  have em : sz = m := (nI_eq (by omega) (by omega)).mp ((show nI sz = nI (0 + (sz - 0)) by congr 1; omega).trans (g6.symm.trans m8))
  subst em
  have hto : ∀ k, k < sz → V 5 (k * 12 + 1) = s (265 + 13 * k + 1) := fun k hk => by
    have := (g9 k (Nat.zero_le _) hk).1 1 (by omega)
    dsimp only at this
    rw [this]
    show s _ = s _
    congr 2
    show 265 + 13 * (0 + (k - 0)) = _
    omega
  unfold f_lc
  rw [mz]
  have e := z_loop0 (fun k a => z_ex 90 (z_blk 90 4) [.ref (b + 4), .int (nI i), .int (nI a), .int (nI k)] [] G (wr M b V)) (fun k a => a + (decide (s (265 + 13 * k + 1) = nI i)).toNat) sz (by
    intro k a hk
    have hlt : nI k < nI sz := nI_lt hk (by omega)
    have hf := c_A_field hW M V (k := k) (f := 1) (by omega) (by omega)
    rw [hto k hk] at hf
    by_cases hd : s (265 + 13 * k + 1) = nI i
    · rw [decide_eq_true hd, Bool.toNat_true]
      conv => lhs; rw [zk_A_underWayTo_4]
      simp (disch := first | assumption | omega | exact Nat.le_of_ble_eq_true rfl | decide) only [xo_5, xo_10_2i, xo_10_2r, xo_10_2n, xo_10_3i, xo_10_3r, xo_10_3n, xo_55, xo_0_3, xo_2_0, xw_16a hW, xo_45, zk_A_underWayTo_12, xw_64a_3 hW, xk_v, xk_n, xo_0_1, xo_43, zk_A_underWayTo_22, xo_15_2i, xo_15_2r, xo_15_2n, zk_A_underWayTo_25, xo_15_3i, xo_15_3r, xo_15_3n, xo_54, xo_0_2, xo_70, nI_add, pk_mul, Nat.add_zero, g2, hlt, hf, hd, if_true, if_false, eq_self, Bool.true_eq_false, Bool.false_eq_true]
    · rw [decide_eq_false hd, Bool.toNat_false, Nat.add_zero]
      conv => lhs; rw [zk_A_underWayTo_4]
      simp (disch := first | assumption | omega | exact Nat.le_of_ble_eq_true rfl | decide) only [xo_5, xo_10_2i, xo_10_2r, xo_10_2n, xo_10_3i, xo_10_3r, xo_10_3n, xo_55, xo_0_3, xo_2_0, xw_16a hW, xo_45, zk_A_underWayTo_12, xw_64a_3 hW, xk_v, xk_n, xo_0_1, xo_43, xo_15_2i, xo_15_2r, xo_15_2n, zk_A_underWayTo_25, xo_15_3i, xo_15_3r, xo_15_3n, xo_54, xo_0_2, xo_70, nI_add, pk_mul, Nat.add_zero, g2, hlt, hf, hd, if_true, if_false, eq_self, Bool.true_eq_false, Bool.false_eq_true]) sz 0 0 (by omega)
  have e0 : z_call 90 [.ref (b + 4), .int (nI i)] G (wr M b V) = z_ex 90 (z_blk 90 4) [.ref (b + 4), .int (nI i), .int (nI 0), .int (nI 0)] [] G (wr M b V) := by
    simp only [ze_A_underWayTo, zk_A_underWayTo_0, xo_5, xo_10_2i, xo_10_2r, xo_10_2n, xo_10_3i, xo_10_3r, xo_10_3n, xo_55, xo_0_3, xo_2_0, xo_16, xo_45, xo_64_3, xk_v, xk_n, xo_0_1, xo_43, xo_15_2i, xo_15_2r, xo_15_2n, xo_15_3i, xo_15_3r, xo_15_3n, xo_54, xo_0_2, xo_70]
  rw [e0, e]
  have hlt : ¬ nI sz < nI sz := nI_nlt (Nat.le_refl _) (by omega)
  conv => lhs; rw [zk_A_underWayTo_4]
  simp (disch := first | assumption | omega | exact Nat.le_of_ble_eq_true rfl | decide) only [xo_5, xo_10_2i, xo_10_2r, xo_10_2n, xo_10_3i, xo_10_3r, xo_10_3n, xo_55, xo_0_3, xo_2_0, xw_16a hW, xo_45, xw_64a_3 hW, xk_v, xk_n, xo_0_1, xo_43, xo_15_2i, xo_15_2r, xo_15_2n, xo_15_3i, xo_15_3r, xo_15_3n, xo_54, zk_A_underWayTo_31, xo_0_2, xo_70, nI_add, pk_mul, Nat.add_zero, g2, hlt, if_true, if_false, eq_self, Bool.true_eq_false, Bool.false_eq_true, z_ct]
end
theorem c_M_falls {G : zG} (hM : z_HM G) (M : zM) {n J B i : Nat} (hF : z_F n J B (M 458)) (hi : i < n) : z_call 206 [.ref 455, .int (nI i)] G M = some (.inl (some (.int (nI (f_lc i (M 458))))), G, z_sA M 458 (f_fa i (M 458))) := by
  obtain ⟨k0, ⟨r1, r8, r9, r10, r11, r12, r13, r17⟩, ⟨q1, q2⟩, ⟨q3, q4⟩, ⟨q5, q6⟩, ⟨q7, q8⟩, ⟨q9, q10⟩, ⟨q11, q12⟩, ⟨q13, q14⟩, ⟨q15, q16⟩, hp⟩ := id hM; have kr : ∀ a, z_rc a = 7 → z_kd G 455 = (0, z_rc a) := fun a h => (by rw [h]; exact k0)
  have hn : n ≤ 8 := hF.1.1.2
  obtain ⟨m, hm, m8, mz⟩ := z_F_m hF
  have e0 : z_call 206 [.ref 455, .int (nI i)] G M = z_ex 206 (z_blk 206 27) [.ref 455, .int (nI i), .int (nI 0), .int (nI 0)] [] G (z_sA M 458 (f_fa i (M 458))) := by
    simp (disch := first | assumption | exact kr _ rfl | omega | exact Nat.le_of_ble_eq_true rfl) only [ze_M_falls, zk_M_falls_0, xo_2_0, xo_17, xo_0_1, xo_5, xo_63_2, xk_v, xk_n, xo_33, xo_6, xo_10_2i, xo_10_2r, xo_10_2n, xo_10_3i, xo_10_3r, xo_10_3n, xo_55, xo_0_3, xo_32, xo_45, xo_0_2, xo_7, xo_22, xo_20, xo_43, xo_54, xo_15_3i, xo_15_3r, xo_15_3n, xo_70, nI_add, pk_mul, Nat.add_zero, z_sA_s, z_sA_sA, z_u_s, r9, c_M_m, f_fa]
  have h8 : f_fa i (M 458) 8 = nI m := by unfold f_fa; rw [z_u_n _ _ _ _ (by omega), z_u_n _ _ _ _ (by omega)]; exact m8
  have hl : ∀ k, f_fa i (M 458) (265 + 13 * k + 1) = M 458 (265 + 13 * k + 1) := fun k => by unfold f_fa; rw [z_u_n _ _ _ _ (by omega), z_u_n _ _ _ _ (by omega)]
  unfold f_lc
  rw [mz, e0]
  generalize f_fa i (M 458) = t at h8 hl ⊢
  have e := z_loop0 (fun k a => z_ex 206 (z_blk 206 27) [.ref 455, .int (nI i), .int (nI a), .int (nI k)] [] G (z_sA M 458 t)) (fun k a => a + (decide (M 458 (265 + 13 * k + 1) = nI i)).toNat) m (by
    intro k a hk
    have hlt : nI k < nI m := nI_lt hk (by omega)
    have hlk := hl k
    by_cases hd : M 458 (265 + 13 * k + 1) = nI i
    · rw [decide_eq_true hd, Bool.toNat_true]
      conv => lhs; rw [zk_M_falls_27]
      simp (disch := first | assumption | exact kr _ rfl | omega | exact Nat.le_of_ble_eq_true rfl) only [xo_2_0, xo_17, xo_0_1, xo_5, xo_63_2, xk_v, xk_n, xo_33, xo_6, xo_10_2i, xo_10_2r, xo_10_2n, xo_10_3i, xo_10_3r, xo_10_3n, xo_55, xo_0_3, xo_32, xo_45, zk_M_falls_38, xo_0_2, xo_7, xo_22, xo_20, xo_43, zk_M_falls_58, xo_54, zk_M_falls_63, xo_15_3i, xo_15_3r, xo_15_3n, xo_70, nI_add, pk_mul, Nat.add_zero, z_sA_s, z_sA_sA, z_u_s, r9, h8, hlt, hlk, hd, if_true, if_false, eq_self, Bool.true_eq_false, Bool.false_eq_true, and_true, true_and, and_false, false_and, or_true, true_or, or_false, false_or, ne_eq, not_true_eq_false, not_false_eq_true, decide_true, decide_false, z_sA_id]
    · rw [decide_eq_false hd, Bool.toNat_false, Nat.add_zero]
      conv => lhs; rw [zk_M_falls_27]
      simp (disch := first | assumption | exact kr _ rfl | omega | exact Nat.le_of_ble_eq_true rfl) only [xo_2_0, xo_17, xo_0_1, xo_5, xo_63_2, xk_v, xk_n, xo_33, xo_6, xo_10_2i, xo_10_2r, xo_10_2n, xo_10_3i, xo_10_3r, xo_10_3n, xo_55, xo_0_3, xo_32, xo_45, zk_M_falls_38, xo_0_2, xo_7, xo_22, xo_20, xo_43, xo_54, zk_M_falls_62, zk_M_falls_63, xo_15_3i, xo_15_3r, xo_15_3n, xo_70, nI_add, pk_mul, Nat.add_zero, z_sA_s, z_sA_sA, z_u_s, r9, h8, hlt, hlk, hd, if_true, if_false, eq_self, Bool.true_eq_false, Bool.false_eq_true, and_true, true_and, and_false, false_and, or_true, true_or, or_false, false_or, ne_eq, not_true_eq_false, not_false_eq_true, decide_true, decide_false, z_sA_id]) m 0 0 (by omega)
  rw [e]
  have hlt : ¬ nI m < nI m := nI_nlt (Nat.le_refl _) (by omega)
  conv => lhs; rw [zk_M_falls_27]
  simp (disch := first | assumption | exact kr _ rfl | omega | exact Nat.le_of_ble_eq_true rfl) only [xo_2_0, xo_17, xo_0_1, xo_5, xo_63_2, xk_v, xk_n, xo_33, xo_6, xo_10_2i, xo_10_2r, xo_10_2n, xo_10_3i, xo_10_3r, xo_10_3n, xo_55, xo_0_3, xo_32, xo_45, xo_0_2, xo_7, xo_22, xo_20, xo_43, xo_54, xo_15_3i, xo_15_3r, xo_15_3n, zk_M_falls_71, xo_70, nI_add, pk_mul, Nat.add_zero, z_sA_s, z_sA_sA, z_u_s, r9, h8, hlt, if_true, if_false, eq_self, Bool.true_eq_false, Bool.false_eq_true, and_true, true_and, and_false, false_and, or_true, true_or, or_false, false_or, ne_eq, not_true_eq_false, not_false_eq_true, decide_true, decide_false, z_sA_id, z_ct]
