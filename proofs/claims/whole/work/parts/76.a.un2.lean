/-! ===== until all is ONE: members keep their numbers ===== -/
theorem s_C_until2 {G : zG} {b : Nat} {n J B Bf : Nat} {V : zM} {s : Nat → Int32} (hW : z_HW G b) (M : zM) (h : z_R false (0, 0) n B V s) (hF : z_F n J Bf s) (hB : B ≤ 100000000) (hBf : Bf ≤ 70000000) : ∃ V', z_call 33 [.ref b] G (wr M b V) = some (.inl (some (.int (z_on (f_un n 300 s)))), G, wr M b V') ∧ ∀ i, i < 8 → V' (9 + 4 * i) 0 = nI i := by
  have hn : n ≤ 8 := hF.1.1.2
  have hpos : ∀ k, 1 ≤ k → k ≤ 400 → (0 : Int32) < nI k := fun k h1 h2 => by
    have := nI_lt (a := 0) (b := k) (by omega) (by omega)
    rw [nI_0] at this; exact this
  have e : ∀ r k B' Bf' V s, 1 ≤ k → k + r = 300 → z_R false (0, 0) n B' V s → z_F n J Bf' s → B' ≤ 100000000 + 308 * k → Bf' ≤ 70000000 + 308 * k → ∃ V', z_ex 33 (z_blk 33 2) [.ref b, .int (nI k)] [] G (wr M b V) = some (.inl (some (.int (z_on ((f_un n r (f_tk n s)).map (fun q => q + k))))), G, wr M b V') ∧ ∀ i, i < 8 → V' (9 + 4 * i) 0 = nI i := by
    intro r
    induction r with
    | zero =>
      intro k B' Bf' V s hk1 hk h hF hB hBf
      have hk3 : k = 300 := by omega
      subst hk3
      have hle : ¬ nI 300 < nI 300 := nI_nlt (Nat.le_refl _) (by omega)
      have hgt : nI 300 < nI 301 := nI_lt (by omega) (by omega)
      have hp := hpos 300 (by omega) (by omega)
      obtain ⟨V1, e1, R1, F1⟩ := s_W_exchange hW M h hF (by omega) (by omega)
      have R2 := R_wks R1 F1
      have F2 := F_tk hF (by omega)
      have ho := s_S_isOne hW M (s := f_tk n s) R2 F2
      refine ⟨V1, ?_, R2.2.2.2.2.2.2⟩
      unfold f_un
      cases h1 : f_one n (f_tk n s)
      · rw [h1] at ho
        rw [if_neg (by decide)]
        conv => lhs; rw [zk_C_untilOne_2]
        simp (disch := first | assumption | omega | exact Nat.le_of_ble_eq_true rfl | decide) only [xo_5, xo_10_1i, xo_10_1r, xo_10_1n, xo_55, xo_0_1, xo_7, xo_46, zk_C_untilOne_9, xo_53, zk_C_untilOne_13, xo_2_0, xw_64w_1 hW, xk_v, xk_n, xo_41, zk_C_untilOne_18, xo_63_1, xo_48, xo_70, zk_C_untilOne_27, xo_15_1i, xo_15_1r, xo_15_1n, xo_54, nI_add, pk_mul, Nat.add_zero, hle, hp, e1, ho, z_b0, if_true, if_false, eq_self, Bool.true_eq_false, Bool.false_eq_true]
        conv => lhs; rw [zk_C_untilOne_2]
        simp (disch := first | assumption | omega | exact Nat.le_of_ble_eq_true rfl | decide) only [xo_5, xo_10_1i, xo_10_1r, xo_10_1n, xo_55, xo_0_1, xo_7, xo_46, xo_53, xo_2_0, xw_64w_1 hW, xk_v, xk_n, xo_41, xo_63_1, xo_48, xo_70, xo_15_1i, xo_15_1r, xo_15_1n, xo_54, zk_C_untilOne_33, hgt, if_true, if_false, eq_self, Bool.true_eq_false, Bool.false_eq_true]
        rfl
      · rw [h1] at ho
        rw [if_pos rfl]
        conv => lhs; rw [zk_C_untilOne_2]
        simp (disch := first | assumption | omega | exact Nat.le_of_ble_eq_true rfl | decide) only [xo_5, xo_10_1i, xo_10_1r, xo_10_1n, xo_55, xo_0_1, xo_7, xo_46, zk_C_untilOne_9, xo_53, zk_C_untilOne_13, xo_2_0, xw_64w_1 hW, xk_v, xk_n, xo_41, zk_C_untilOne_18, xo_63_1, xo_48, zk_C_untilOne_25, xo_70, xo_15_1i, xo_15_1r, xo_15_1n, xo_54, nI_add, pk_mul, Nat.add_zero, hle, hp, e1, ho, z_b0, if_true, if_false, eq_self, Bool.true_eq_false, Bool.false_eq_true]
        rfl
    | succ r ih =>
      intro k B' Bf' V s hk1 hk h hF hB hBf
      have hle : ¬ nI 300 < nI k := nI_nlt (by omega) (by omega)
      have hp := hpos k hk1 (by omega)
      obtain ⟨V1, e1, R1, F1⟩ := s_W_exchange hW M h hF (by omega) (by omega)
      have R2 := R_wks R1 F1
      have F2 := F_tk hF (by omega)
      have ho := s_S_isOne hW M (s := f_tk n s) R2 F2
      unfold f_un
      cases h1 : f_one n (f_tk n s)
      · rw [h1] at ho
        rw [if_neg (by decide)]
        obtain ⟨V2, e2, n2⟩ := ih (k + 1) (B' + 308) (Bf' + 308) V1 (f_tk n s) (by omega) (by omega) R2 F2 (by omega) (by omega)
        refine ⟨V2, ?_, n2⟩
        have hmap : ((f_un n r (f_tk n (f_tk n s))).map (fun q => q + 1)).map (fun q => q + k) = (f_un n r (f_tk n (f_tk n s))).map (fun q => q + (k + 1)) := by
          rw [Option.map_map]; congr 1; funext q; show q + 1 + k = q + (k + 1); omega
        rw [hmap, ← e2]
        conv => lhs; rw [zk_C_untilOne_2]
        simp (disch := first | assumption | omega | exact Nat.le_of_ble_eq_true rfl | decide) only [xo_5, xo_10_1i, xo_10_1r, xo_10_1n, xo_55, xo_0_1, xo_7, xo_46, zk_C_untilOne_9, xo_53, zk_C_untilOne_13, xo_2_0, xw_64w_1 hW, xk_v, xk_n, xo_41, zk_C_untilOne_18, xo_63_1, xo_48, xo_70, zk_C_untilOne_27, xo_15_1i, xo_15_1r, xo_15_1n, xo_54, nI_add, pk_mul, Nat.add_zero, hle, hp, e1, ho, z_b0, if_true, if_false, eq_self, Bool.true_eq_false, Bool.false_eq_true]
      · rw [h1] at ho
        rw [if_pos rfl]
        refine ⟨V1, ?_, R2.2.2.2.2.2.2⟩
        conv => lhs; rw [zk_C_untilOne_2]
        simp (disch := first | assumption | omega | exact Nat.le_of_ble_eq_true rfl | decide) only [xo_5, xo_10_1i, xo_10_1r, xo_10_1n, xo_55, xo_0_1, xo_7, xo_46, zk_C_untilOne_9, xo_53, zk_C_untilOne_13, xo_2_0, xw_64w_1 hW, xk_v, xk_n, xo_41, zk_C_untilOne_18, xo_63_1, xo_48, zk_C_untilOne_25, xo_70, xo_15_1i, xo_15_1r, xo_15_1n, xo_54, nI_add, pk_mul, Nat.add_zero, hle, hp, e1, ho, z_b0, if_true, if_false, eq_self, Bool.true_eq_false, Bool.false_eq_true]
        show _ = some (Sum.inl (some (Value.int (nI (0 + k)))), G, wr M b V1)
        rw [Nat.zero_add]
  have e0 : z_call 33 [.ref b] G (wr M b V) = z_ex 33 (z_blk 33 2) [.ref b, .int (nI 0)] [] G (wr M b V) := by
    simp only [ze_C_untilOne, zk_C_untilOne_0, xo_5, xo_10_1i, xo_10_1r, xo_10_1n, xo_55, xo_0_1, xo_7, xo_46, xo_53, xo_2_0, xo_64_1, xk_v, xk_n, xo_41, xo_63_1, xo_48, xo_70, xo_15_1i, xo_15_1r, xo_15_1n, xo_54]
  rw [e0]
  have hle : ¬ nI 300 < nI 0 := nI_nlt (by omega) (by omega)
  have hp0 : ¬ (0 : Int32) < nI 0 := by decide
  have ho := s_S_isOne hW M h hF
  show ∃ V', _ = some (Sum.inl (some (Value.int (z_on (if f_one n s = true then some 0 else (f_un n 299 (f_tk n s)).map (fun k => k + 1))))), G, wr M b V') ∧ ∀ i, i < 8 → V' (9 + 4 * i) 0 = nI i
  cases h1 : f_one n s
  · rw [h1] at ho
    rw [if_neg (by decide)]
    obtain ⟨V2, e2, n2⟩ := e 299 1 B Bf V s (by omega) (by omega) h hF (by omega) (by omega)
    refine ⟨V2, ?_, n2⟩
    rw [← e2]
    conv => lhs; rw [zk_C_untilOne_2]
    simp (disch := first | assumption | omega | exact Nat.le_of_ble_eq_true rfl | decide) only [xo_5, xo_10_1i, xo_10_1r, xo_10_1n, xo_55, xo_0_1, xo_7, xo_46, zk_C_untilOne_9, xo_53, xo_2_0, xw_64w_1 hW, xk_v, xk_n, xo_41, zk_C_untilOne_18, xo_63_1, xo_48, xo_70, zk_C_untilOne_27, xo_15_1i, xo_15_1r, xo_15_1n, xo_54, nI_add, pk_mul, Nat.add_zero, hle, hp0, ho, z_b0, if_true, if_false, eq_self, Bool.true_eq_false, Bool.false_eq_true]
  · rw [h1] at ho
    rw [if_pos rfl]
    refine ⟨V, ?_, h.2.2.2.2.2.2⟩
    conv => lhs; rw [zk_C_untilOne_2]
    simp (disch := first | assumption | omega | exact Nat.le_of_ble_eq_true rfl | decide) only [xo_5, xo_10_1i, xo_10_1r, xo_10_1n, xo_55, xo_0_1, xo_7, xo_46, zk_C_untilOne_9, xo_53, xo_2_0, xw_64w_1 hW, xk_v, xk_n, xo_41, zk_C_untilOne_18, xo_63_1, xo_48, zk_C_untilOne_25, xo_70, xo_15_1i, xo_15_1r, xo_15_1n, xo_54, nI_add, pk_mul, Nat.add_zero, hle, hp0, ho, z_b0, if_true, if_false, eq_self, Bool.true_eq_false, Bool.false_eq_true]
    rfl
theorem R_ft {kp : Nat × Nat} {n B : Nat} {V : zM} {s : Nat → Int32} (h : z_R true kp n B V s) : z_R false kp n B V s := by
  obtain ⟨h0, h1, h2, _, h4, h5⟩ := h
  refine ⟨h0, h1, h2, fun e => absurd e (by decide), ?_, h5⟩
  obtain ⟨gk, sz, g1, g2, g3, g4, g5, g6, g7, g8, g9⟩ := h4
  exact ⟨gk, sz, g1, g2, g3, g4, g5, g6, g7, fun j a b => ⟨(g8 j a b).1, (g8 j a b).2.1, (g8 j a b).2.2.1, fun e => absurd e (by decide)⟩, fun j a b => ⟨(g9 j a b).1, (g9 j a b).2.1, (g9 j a b).2.2.1, fun e => absurd e (by decide)⟩⟩
theorem mm_o (M : zM) (s nw : Nat → Int32) (h : Nat) {q : Nat} (h1 : q ≠ 455) (h2 : q ≠ 458) (h3 : q ≠ 471) : mm M s nw h q = M q := by
  unfold mm; rw [z_sA_n _ _ _ _ h2, z_sA_n _ _ _ _ h3, z_sA_n _ _ _ _ h1]
/-! ===== a set of members ===== -/
theorem set_t : ∀ n, n ≤ 8 → ∀ j, j < 2 ^ n → nI j &&& (nI (2 ^ n - 1) ^^^ nI 4294967295) = 0 := by decide +kernel
theorem set_f {x : Int32} {n : Nat} (hn : n ≤ 8) (h : x &&& (nI (2 ^ n - 1) ^^^ nI 4294967295) = 0) : ∃ j, j < 2 ^ n ∧ x = nI j := by
  have hm : (nI (2 ^ n - 1) ^^^ nI 4294967295) = ~~~ nI (2 ^ n - 1) := by
    have : ∀ n, n ≤ 8 → (nI (2 ^ n - 1) ^^^ nI 4294967295) = ~~~ nI (2 ^ n - 1) := by decide +kernel
    exact this n hn
  have h1 : x.toBitVec &&& ~~~ (nI (2 ^ n - 1)).toBitVec = 0#32 := by
    rw [hm] at h
    have := congrArg Int32.toBitVec h
    simpa using this
  have h2 : x.toBitVec = x.toBitVec &&& (nI (2 ^ n - 1)).toBitVec := by
    apply BitVec.eq_of_getLsbD_eq
    intro i hi
    have h3 := congrArg (fun b => b.getLsbD i) h1
    simp only [BitVec.getLsbD_and, BitVec.getLsbD_not, hi, decide_true, Bool.true_and, BitVec.getLsbD_zero] at h3
    rw [BitVec.getLsbD_and]
    cases hx : x.toBitVec.getLsbD i <;> cases hy : (nI (2 ^ n - 1)).toBitVec.getLsbD i <;> rw [hx, hy] at h3 <;> simp_all
  have h4 : x.toBitVec.toNat < 2 ^ n := by
    have e := congrArg BitVec.toNat h2
    rw [BitVec.toNat_and] at e
    have e2 : (nI (2 ^ n - 1)).toBitVec.toNat = 2 ^ n - 1 := by
      have : ∀ n, n ≤ 8 → (nI (2 ^ n - 1)).toBitVec.toNat = 2 ^ n - 1 := by decide +kernel
      exact this n hn
    rw [e2, Nat.and_two_pow_sub_one_eq_mod] at e
    rw [e]
    exact Nat.mod_lt _ (Nat.two_pow_pos n)
  refine ⟨x.toBitVec.toNat, h4, ?_⟩
  apply Int32.toBitVec_inj.mp
  apply BitVec.eq_of_toNat_eq
  have h5 : x.toBitVec.toNat < 2 ^ 32 := x.toBitVec.isLt
  show _ = (nI x.toBitVec.toNat).toBitVec.toNat
  have e3 : ∀ k, k < 2 ^ 32 → (nI k).toBitVec.toNat = k := by
    intro k hk
    show (BitVec.ofNat 32 k).toNat = k
    rw [BitVec.toNat_ofNat]
    exact Nat.mod_eq_of_lt hk
  rw [e3 _ h5]
theorem k_set {G : zG} {b n : Nat} (hW : z_HW G b) (M V : zM) (h0 : V 0 0 = nI n) (hn : n ≤ 8) (x : Int32) : z_call 82 [.ref b, .int x] G (wr M b V) = some (.inl (some (.int (z_b (zf_in x (nI 0) (nI (2 ^ n - 1)))))), G, wr M b V) := by
  have ha := c_W_all hW M V h0
  have hb : (nI 1 <<< (nI n &&& 31)) - nI 1 = nI (2 ^ n - 1) := by
    have : ∀ n, n ≤ 8 → (nI 1 <<< (nI n &&& 31)) - nI 1 = nI (2 ^ n - 1) := by decide +kernel
    exact this n hn
  rw [hb] at ha
  have hp : 1 ≤ 2 ^ n := Nat.one_le_two_pow
  have hp2 : 2 ^ n ≤ 2 ^ 8 := Nat.pow_le_pow_right (by omega) hn
  by_cases hc : x &&& (nI (2 ^ n - 1) ^^^ nI 4294967295) = 0
  · obtain ⟨j, hj, e⟩ := set_f hn hc
    have ht : zf_in x (nI 0) (nI (2 ^ n - 1)) = true := by rw [e]; exact in_t (by omega) (by omega)
    rw [ht]
    simp (disch := first | assumption | omega | exact Nat.le_of_ble_eq_true rfl | decide) only [ze_W_isSet, zk_W_isSet_0, xo_0_1, xo_2_0, xw_64w_1 hW, xk_v, xk_n, xo_5, xo_25, xo_23, xo_49, zk_W_isSet_11, xo_54, xo_55, zk_W_isSet_16, xo_72a, xo_72b, ha, hc, xo_72b, if_true, if_false, eq_self, Bool.true_eq_false, Bool.false_eq_true]
    rfl
  · have ht : zf_in x (nI 0) (nI (2 ^ n - 1)) = false := by
      rcases rg_1 x (2 ^ n) (by omega) with ⟨j, hj, e⟩ | hx
      · subst e; exact absurd (set_t n hn j hj) hc
      · exact in_f (by omega) (by rw [show 2 ^ n - 1 + 1 = 2 ^ n by omega]; exact hx)
    rw [ht]
    simp (disch := first | assumption | omega | exact Nat.le_of_ble_eq_true rfl | decide) only [ze_W_isSet, zk_W_isSet_0, xo_0_1, xo_2_0, xw_64w_1 hW, xk_v, xk_n, xo_5, xo_25, xo_23, xo_49, xo_54, zk_W_isSet_15, xo_55, zk_W_isSet_16, xo_72a, xo_72b, ha, hc, xo_72a, if_true, if_false, eq_self, Bool.true_eq_false, Bool.false_eq_true]
    rfl
