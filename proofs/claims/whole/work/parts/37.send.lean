/-! ===== sets as bits; send, sendToAll, learn ===== -/
def g_b1 (x : Int32) : Int32 := x - (z_ushr x (nI 1) &&& nI 1431655765)
def g_b2 (x : Int32) : Int32 := (x &&& nI 858993459) + (z_ushr x (nI 2) &&& nI 858993459)
def g_b3 (x : Int32) : Int32 := (x + z_ushr x (nI 4)) &&& nI 252645135
def g_b4 (x : Int32) : Int32 := x + z_ushr x (nI 8)
def g_b5 (x : Int32) : Int32 := x + z_ushr x (nI 16)
theorem z_bcN : ∀ k, k < 256 → g_b5 (g_b4 (g_b3 (g_b2 (g_b1 (nI k))))) &&& nI 63 = nI (z_pc k) := by decide +kernel
theorem c_J_bitCount (G : zG) (M : zM) {k : Nat} (hk : k < 256) : z_call 13 [.int (nI k)] G M = some (.inl (some (.int (nI (z_pc k)))), G, M) := by
  rw [← z_bcN k hk]
  simp only [ze_J_bitCount, zk_J_bitCount_0, xo_0_0, xo_5, xo_28, xo_9, xo_23, xo_21, xo_10_0, xo_20, xo_6, xo_70, g_b1, g_b2, g_b3, g_b4, g_b5]
theorem z_andN : ∀ u, u < 256 → ∀ j, j < 8 → (nI u &&& (nI 1 <<< (nI j &&& 31)) = 0 ↔ u.testBit j = false) := by decide +kernel
theorem z_nbN : ∀ u, u < 256 → ∀ c, c < 8 → nI u &&& ((nI 1 <<< (nI c &&& 31)) ^^^ nI 4294967295) = nI (u &&& (255 - 2 ^ c)) := by decide +kernel
theorem z_nbT : ∀ u, u < 256 → ∀ c, c < 8 → ∀ j, j < 8 → (u &&& (255 - 2 ^ c)).testBit j = (u.testBit j && !decide (j = c)) := by decide +kernel
theorem z_allN : ∀ n, n ≤ 8 → (nI 1 <<< (nI n &&& 31)) - nI 1 = nI (2 ^ n - 1) := by decide +kernel
theorem z_allT : ∀ n, n ≤ 8 → ∀ j, j < 8 → (2 ^ n - 1).testBit j = decide (j < n) := by decide +kernel
theorem z_pow256 : ∀ n, n ≤ 8 → 2 ^ n - 1 < 256 := by decide
theorem z_andNN (a b : Nat) : nI a &&& nI b = nI (a &&& b) := by
  unfold nI
  apply Int32.toBitVec_inj.mp
  simp [BitVec.ofNat_and]
theorem z_orNN (a b : Nat) : nI a ||| nI b = nI (a ||| b) := by
  unfold nI
  apply Int32.toBitVec_inj.mp
  simp [BitVec.ofNat_or]
theorem z_pcT : ∀ k, k < 256 → z_pc k = z_ct (fun j => k.testBit j) 8 := by decide +kernel
theorem z_and8 {a b : Nat} (h : a < 256) : a &&& b < 256 := Nat.lt_of_le_of_lt Nat.and_le_left h
theorem z_or256 {a b : Nat} (h : a < 256) (h2 : b < 256) : a ||| b < 256 := Nat.or_lt_two_pow (n := 8) h h2
theorem z_ct_cut {P : Nat → Bool} {n N : Nat} (h : n ≤ N) (hp : ∀ j, n ≤ j → j < N → P j = false) : z_ct P N = z_ct P n := by
  induction h with
  | refl => rfl
  | step hs ih =>
    rename_i k
    rw [z_ct_s, hp k hs (by omega), ih (fun j h1 h2 => hp j h1 (by omega))]
    rfl
theorem c_W_send {G : zG} {b : Nat} (hW : z_HW G b) (M V : zM) {i to k sz : Nat} (hi : i < 8) (hk : k < 8) (hsz : sz ≤ 600) (hV : V 4 1 = nI sz) (grp ext : Int32) : z_call 39 [.ref b, .ref (b + (9 + 4 * i)), .int (nI to), .int (nI k), .int grp, .int ext] G (wr M b V) = some (.inl none, G, wr M b (g_ad i to k (V 0 2 + V 1 3) grp ext V)) := by
  have h1 := c_A_add hW M V (i := i) (to := to) (k := k) hi hk hsz hV (V 0 2 + V 1 3) grp ext
  simp (disch := first | assumption | omega | exact Nat.le_of_ble_eq_true rfl | decide) only [ze_W_send, zk_W_send_0, xo_2_0, xw_17w_6 hW, xw_17w_3 hW, xo_2_1, xo_0_2, xo_0_3, xw_16w hW, xo_5, xw_32_1 hW, xo_20, xo_1_4, xo_1_5, xw_64a_7 hW, xk_v, xk_n, xo_69, nI_add, pk_mul, Nat.add_zero, h1]
theorem s_W_sendToAll {G : zG} {b : Nat} (hW : z_HW G b) (M : zM) {fl : Bool} {kp : Nat × Nat} {n J B Bf : Nat} {V : zM} {s : Nat → Int32} (h : z_R fl kp n B V s) (hF : z_F n J Bf s) {i k u : Nat} (hi : i < n) (hk : k < 8) (hu : u < 256) (grp ext who up : Int32) (h5 : k = 5 → ext = who) (h7 : k = 7 → ext = up) (k5 : k = 5 → ∃ c, c < n ∧ who = nI c ∧ grp ≠ 0) (k7 : k = 7 → ∃ w, w < 256 ∧ (∀ o, o < n → zf_has (nI u) (nI o) = true → w.testBit o = true) ∧ up = nI w) (k5' : k ≠ 5 → who = nI 4294967295) (k7' : k ≠ 7 → up = nI 4294967295) : ∃ V', z_call 44 [.ref b, .ref (b + (9 + 4 * i)), .int (nI u), .int (nI k), .int grp, .int ext] G (wr M b V) = some (.inl none, G, wr M b V') ∧ z_R fl kp n B V' (f_sa n i k (nI u) grp who up s) := by
  have hn : n ≤ 8 := hF.1.1.2
  have hi8 : i < 8 := by omega
  obtain ⟨V', e1, R1, F1⟩ := z_sim (fun j U => z_ex 44 (z_blk 44 3) [.ref b, .ref (b + (9 + 4 * i)), .int (nI u), .int (nI k), .int grp, .int ext, .int (nI j)] [] G (wr M b U)) (fun o t => if o ≠ i ∧ zf_has (nI u) (nI o) = true then f_sd i o k grp who up t else t) (fun _ U t => z_R fl kp n B U t ∧ z_F n J Bf t) n (by
    intro j U t hj hI
    obtain ⟨hR, hT⟩ := hI
    have h0 : U 0 0 = nI n := hR.1.1.trans hT.1.1.1
    have hnum := rd_0 hR hi
    have hlt : nI j < nI n := nI_lt hj (by omega)
    by_cases hji : j = i
    · have e1 : (nI j = nI i) = True := eq_true (by rw [hji])
      refine ⟨U, ?_, ?_⟩
      · conv => lhs; rw [zk_W_sendToAll_3]
        simp (disch := first | assumption | omega | exact Nat.le_of_ble_eq_true rfl | decide) only [xo_5, xo_11_6i, xo_11_6r, xo_11_6n, xo_55, xo_1_6, xo_2_0, xw_16w hW, xw_16b hW, xo_45, zk_W_sendToAll_12, xo_2_1, xo_42, xo_0_2, xo_26, xo_23, xo_48, xw_17w_6 hW, xw_17w_3 hW, xo_0_3, xw_32_1 hW, xo_20, xo_1_4, xo_1_5, xw_64a_7 hW, xk_v, xk_n, zk_W_sendToAll_56, xo_15_6i, xo_15_6r, xo_15_6n, xo_54, xo_69, nI_add, pk_mul, Nat.add_zero, h0, hlt, hnum, e1, if_true, if_false, eq_self, Bool.true_eq_false, Bool.false_eq_true]
      · rw [if_neg (fun q => q.1 hji)]; exact ⟨hR, hT⟩
    · have e1 : (nI j = nI i) = False := eq_false (fun q => hji ((nI_eq (by omega) (by omega)).mp q))
      cases hb : u.testBit j
      · have e2 : nI u &&& (nI 1 <<< (nI j &&& 31)) = 0 := (z_andN u hu j (by omega)).mpr hb
        refine ⟨U, ?_, ?_⟩
        · conv => lhs; rw [zk_W_sendToAll_3]
          simp (disch := first | assumption | omega | exact Nat.le_of_ble_eq_true rfl | decide) only [xo_5, xo_11_6i, xo_11_6r, xo_11_6n, xo_55, xo_1_6, xo_2_0, xw_16w hW, xw_16b hW, xo_45, zk_W_sendToAll_12, xo_2_1, xo_42, zk_W_sendToAll_21, xo_0_2, xo_26, xo_23, xo_48, xw_17w_6 hW, xw_17w_3 hW, xo_0_3, xw_32_1 hW, xo_20, xo_1_4, xo_1_5, xw_64a_7 hW, xk_v, xk_n, zk_W_sendToAll_56, xo_15_6i, xo_15_6r, xo_15_6n, xo_54, xo_69, nI_add, pk_mul, Nat.add_zero, h0, hlt, hnum, e1, e2, if_true, if_false, eq_self, Bool.true_eq_false, Bool.false_eq_true]
        · rw [if_neg (fun q => by rw [z_hasN u hu j (by omega), hb] at q; exact Bool.false_ne_true q.2)]; exact ⟨hR, hT⟩
      · have e2 : ¬ nI u &&& (nI 1 <<< (nI j &&& 31)) = 0 := fun q => by
          have := (z_andN u hu j (by omega)).mp q
          rw [hb] at this; exact Bool.false_ne_true this.symm
        have hc : j ≠ i ∧ zf_has (nI u) (nI j) = true := ⟨hji, by rw [z_hasN u hu j (by omega)]; exact hb⟩
        obtain ⟨sz, z1, z2⟩ := z_R_sz hR
        have ha := c_A_add hW M U (i := i) (to := j) (k := k) hi8 hk z1 z2 (U 0 2 + U 1 3) grp ext
        refine ⟨g_ad i j k (U 0 2 + U 1 3) grp ext U, ?_, ?_⟩
        · conv => lhs; rw [zk_W_sendToAll_3]
          simp (disch := first | assumption | omega | exact Nat.le_of_ble_eq_true rfl | decide) only [xo_5, xo_11_6i, xo_11_6r, xo_11_6n, xo_55, xo_1_6, xo_2_0, xw_16w hW, xw_16b hW, xo_45, zk_W_sendToAll_12, xo_2_1, xo_42, zk_W_sendToAll_21, xo_0_2, xo_26, xo_23, xo_48, zk_W_sendToAll_30, xw_17w_6 hW, xw_17w_3 hW, xo_0_3, xw_32_1 hW, xo_20, xo_1_4, xo_1_5, xw_64a_7 hW, xk_v, xk_n, zk_W_sendToAll_56, xo_15_6i, xo_15_6r, xo_15_6n, xo_54, xo_69, nI_add, pk_mul, Nat.add_zero, h0, hlt, hnum, e1, e2, if_true, if_false, eq_self, Bool.true_eq_false, Bool.false_eq_true, ha]
        · rw [if_pos hc]
          exact ⟨R_sd hR hT hi hk grp ext who up h5 h7, (FX_sd hT hi hj (Ne.symm hji) hk k5 (fun e => by
            obtain ⟨w, w1, w2, w3⟩ := k7 e
            exact ⟨w, w1, w2 j hj hc.2, w3⟩) k5' k7').1⟩) n 0 V s (by omega) ⟨h, hF⟩
  refine ⟨V', ?_, R1⟩
  have h0 : V' 0 0 = nI n := R1.1.1.trans F1.1.1.1
  have hlt : ¬ nI n < nI n := nI_nlt (Nat.le_refl _) (by omega)
  have e0 : z_call 44 [.ref b, .ref (b + (9 + 4 * i)), .int (nI u), .int (nI k), .int grp, .int ext] G (wr M b V) = z_ex 44 (z_blk 44 3) [.ref b, .ref (b + (9 + 4 * i)), .int (nI u), .int (nI k), .int grp, .int ext, .int (nI 0)] [] G (wr M b V) := by
    simp only [ze_W_sendToAll, zk_W_sendToAll_0, xo_5, xo_11_6i, xo_11_6r, xo_11_6n, xo_55, xo_1_6, xo_2_0, xo_16, xo_45, xo_2_1, xo_42, xo_0_2, xo_26, xo_23, xo_48, xo_17, xo_0_3, xo_32, xo_20, xo_1_4, xo_1_5, xo_64_7, xk_v, xk_n, xo_15_6i, xo_15_6r, xo_15_6n, xo_54, xo_69]
  rw [e0]
  refine e1.trans ?_
  conv => lhs; rw [zk_W_sendToAll_3]
  simp (disch := first | assumption | omega | exact Nat.le_of_ble_eq_true rfl | decide) only [xo_5, xo_11_6i, xo_11_6r, xo_11_6n, xo_55, xo_1_6, xo_2_0, xw_16w hW, xw_16b hW, xo_45, xo_2_1, xo_42, xo_0_2, xo_26, xo_23, xo_48, xw_17w_6 hW, xw_17w_3 hW, xo_0_3, xw_32_1 hW, xo_20, xo_1_4, xo_1_5, xw_64a_7 hW, xk_v, xk_n, xo_15_6i, xo_15_6r, xo_15_6n, xo_54, zk_W_sendToAll_62, xo_69, nI_add, pk_mul, Nat.add_zero, h0, hlt, if_true, if_false, eq_self, Bool.true_eq_false, Bool.false_eq_true]
theorem z_bw_J (s : Nat → Int32) (p J : Nat) (L : Nat → Int32) (hJ : J ≤ 6) (h : ∀ t, J ≤ t → t < 6 → L t = s (p + t)) : z_bw s p 6 L = z_bw s p J L := by
  funext q; unfold z_bw
  by_cases h1 : p ≤ q ∧ q < p + J
  · rw [if_pos h1, if_pos (by omega)]
  · rw [if_neg h1]
    split
    · rw [h _ (by omega) (by omega), show p + (q - p) = q by omega]
    · rfl
theorem s_W_learn {G : zG} {b : Nat} (hW : z_HW G b) (M : zM) {fl : Bool} {kp : Nat × Nat} {n J B Bf : Nat} {V : zM} {s : Nat → Int32} (h : z_R fl kp n B V s) (hF : z_F n J Bf s) {i k : Nat} (hi : i < n) (hk : k < 600) (u : Nat → Int32) (hu : fl = true → ∀ t, t < 6 → V 5 (k * 12 + (6 + t)) = u t) (hz : ∀ t, J ≤ t → t < 6 → u t = 0) : ∃ V', z_call 45 [.ref b, .ref (b + (9 + 4 * i)), .int (nI k)] G (wr M b V) = some (.inl none, G, wr M b V') ∧ z_R fl kp n B V' (f_le i u s) := by
  have hn : n ≤ 8 := hF.1.1.2
  have hi8 : i < 8 := by omega
  obtain ⟨hJ, hJ1, hJ6⟩ := hF.2.2.1
  have hle : f_le i u s = z_fd (fun t a => z_u a (41 + 28 * i + 8 + t) (if u t < s (41 + 28 * i + 8 + t) then s (41 + 28 * i + 8 + t) else u t)) J 0 s := by
    rw [z_fd_bw (fun t => if u t < s (41 + 28 * i + 8 + t) then s (41 + 28 * i + 8 + t) else u t)]
    unfold f_le
    refine z_bw_J _ _ _ _ hJ6 (fun t h1 h2 => ?_)
    rw [hz t h1 h2, show 41 + 28 * i + 8 + t = 41 + 28 * i + (8 + t) by omega, F_8 hF hi h2 h1, if_neg (by decide)]
  rw [hle]
  obtain ⟨V', e1, R1, _, _, h01⟩ := z_sim (fun j U => z_ex 45 (z_blk 45 2) [.ref b, .ref (b + (9 + 4 * i)), .int (nI k), .int (nI j)] [] G (wr M b U)) (fun t a => z_u a (41 + 28 * i + 8 + t) (if u t < s (41 + 28 * i + 8 + t) then s (41 + 28 * i + 8 + t) else u t)) (fun j U t => z_R fl kp n B U t ∧ (∀ x, j ≤ x → x < 6 → t (41 + 28 * i + 8 + x) = s (41 + 28 * i + 8 + x)) ∧ U 5 = V 5 ∧ U 0 1 = nI J) J (by
    intro j U t hj hI
    obtain ⟨hR, hx, hV5, h01⟩ := hI
    have hlt : nI j < nI J := nI_lt hj (by omega)
    have hf := c_A_field hW M U (k := k) (f := 6 + j) hk (by omega)
    refine ⟨z_w U (10 + 4 * i) j (if U (10 + 4 * i) j < U 5 (k * 12 + (6 + j)) then U 5 (k * 12 + (6 + j)) else U (10 + 4 * i) j), ?_, ?_, ?_, ?_, ?_⟩
    · conv => lhs; rw [zk_W_learn_2]
      simp (disch := first | assumption | omega | exact Nat.le_of_ble_eq_true rfl | decide) only [xo_5, xo_10_3i, xo_10_3r, xo_10_3n, xo_55, xo_0_3, xo_2_0, xw_16w hW, xo_45, zk_W_learn_10, xo_2_1, xw_17b_12 hW, xw_17w_6 hW, xw_32_l hW, xo_0_2, xo_6, xo_20, xw_64a_3 hW, xk_v, xk_n, xo_86, xw_33_l hW, xo_15_3i, xo_15_3r, xo_15_3n, xo_54, xo_69, nI_add, pk_mul, Nat.add_zero, h01, hlt, if_true, if_false, eq_self, Bool.true_eq_false, Bool.false_eq_true, hf]
    · rw [show 41 + 28 * i + 8 + j = 41 + 28 * i + (8 + j) by omega]
      refine R_mb hR hn hi (Or.inl ⟨rfl, by omega, rfl⟩) _ _ (fun e => ?_)
      rw [hV5, hu e j (by omega), ((hR.2.2.2.1 e) i hi).1 j (by omega)]
      have hxx := hx j (Nat.le_refl _) (by omega)
      rw [show 41 + 28 * i + 8 + j = 41 + 28 * i + (8 + j) by omega] at hxx
      rw [hxx]
      generalize s (41 + 28 * i + (8 + j)) = x
      generalize u j = y
      by_cases h1 : x < y
      · rw [if_pos h1, if_neg (Int32.lt_asymm h1)]
      · rw [if_neg h1]
        by_cases h2 : y < x
        · rw [if_pos h2]
        · rw [if_neg h2]; exact Int32.le_antisymm (Int32.not_lt.mp h2) (Int32.not_lt.mp h1)
    · intro x x1 x2
      rw [z_u_n _ _ _ _ (by omega)]; exact hx x (by omega) x2
    · rw [z_w_c _ _ _ _ _ (by omega)]; exact hV5
    · rw [z_w_n _ _ _ _ _ _ (by omega)]; exact h01) J 0 V s (by omega) ⟨h, fun _ _ _ => rfl, rfl, h.1.2.1.trans hJ⟩
  refine ⟨V', ?_, R1⟩
  have hlt : ¬ nI J < nI J := nI_nlt (Nat.le_refl _) (by omega)
  have e0 : z_call 45 [.ref b, .ref (b + (9 + 4 * i)), .int (nI k)] G (wr M b V) = z_ex 45 (z_blk 45 2) [.ref b, .ref (b + (9 + 4 * i)), .int (nI k), .int (nI 0)] [] G (wr M b V) := by
    simp only [ze_W_learn, zk_W_learn_0, xo_5, xo_10_3i, xo_10_3r, xo_10_3n, xo_55, xo_0_3, xo_2_0, xo_16, xo_45, xo_2_1, xo_17, xo_32, xo_0_2, xo_6, xo_20, xo_64_3, xk_v, xk_n, xo_86, xo_33, xo_15_3i, xo_15_3r, xo_15_3n, xo_54, xo_69]
  rw [e0]
  refine e1.trans ?_
  conv => lhs; rw [zk_W_learn_2]
  simp (disch := first | assumption | omega | exact Nat.le_of_ble_eq_true rfl | decide) only [xo_5, xo_10_3i, xo_10_3r, xo_10_3n, xo_55, xo_0_3, xo_2_0, xw_16w hW, xo_45, xo_2_1, xw_17b_12 hW, xw_17w_6 hW, xw_32_l hW, xo_0_2, xo_6, xo_20, xw_64a_3 hW, xk_v, xk_n, xo_86, xw_33_l hW, xo_15_3i, xo_15_3r, xo_15_3n, xo_54, zk_W_learn_43, xo_69, nI_add, pk_mul, Nat.add_zero, h01, hlt, if_true, if_false, eq_self, Bool.true_eq_false, Bool.false_eq_true]
