/-! ===== the class begins: wiping, setting up ===== -/
theorem c_J_fill {G : zG} (M : zM) {q N : Nat} (v : Int32) (h1 : (z_kd G q).1 = 1) (h2 : (z_kd G q).2 = N) (hq : 32 ≤ q) (hN : N ≤ 1000) : z_call 10 [.ref q, .int v] G M = some (.inl none, G, z_sA M q (z_bw (M q) 0 N (fun _ => v))) := by
  have e0 : z_call 10 [.ref q, .int v] G M = z_ex 10 (z_blk 10 5) [.ref q, .int v, .int (nI 0), .int (nI N)] [] G (z_sA M q (z_bw (M q) 0 0 (fun _ => v))) := by
    rw [z_bw_0, z_sA_id]
    simp (disch := first | assumption | omega | exact Nat.le_of_ble_eq_true rfl | decide) only [ze_J_fill, zk_J_fill_0, xo_5, xo_10_2i, xo_10_2r, xo_10_2n, xo_2_0, xo_36, xo_10_3i, xo_10_3r, xo_10_3n, xo_55, xo_0_2, xo_0_3, xo_45, xo_0_1, xo_33, xo_15_2i, xo_15_2r, xo_15_2n, xo_54, xo_69, h2, if_true, if_false, eq_self, Bool.true_eq_false, Bool.false_eq_true]
  have e1 := z_chain (fun k => z_ex 10 (z_blk 10 5) [.ref q, .int v, .int (nI k), .int (nI N)] [] G (z_sA M q (z_bw (M q) 0 k (fun _ => v)))) N (by
    intro k hk
    have hlt : nI k < nI N := nI_lt hk (by omega)
    have hk2 : k < (z_kd G q).2 := by omega
    have a5 : z_u (z_bw (M q) 0 k (fun _ => v)) k v = z_bw (M q) 0 (k + 1) (fun _ => v) := by
      have := z_bw_u (M q) 0 k (fun _ => v)
      rwa [Nat.zero_add] at this
    conv => lhs; rw [zk_J_fill_5]
    simp (disch := first | assumption | omega | exact Nat.le_of_ble_eq_true rfl | decide) only [xo_5, xo_10_2i, xo_10_2r, xo_10_2n, xo_2_0, xo_36, xo_10_3i, xo_10_3r, xo_10_3n, xo_55, xo_0_2, xo_0_3, xo_45, zk_J_fill_10, xo_0_1, xo_33, xo_15_2i, xo_15_2r, xo_15_2n, xo_54, xo_69, hlt, z_sA_s, z_sA_sA, a5, nI_add, if_true, if_false, eq_self, Bool.true_eq_false, Bool.false_eq_true]) N 0 (by omega)
  have hlt : ¬ nI N < nI N := nI_nlt (Nat.le_refl _) (by omega)
  rw [e0, e1]
  conv => lhs; rw [zk_J_fill_5]
  simp (disch := first | assumption | omega | exact Nat.le_of_ble_eq_true rfl | decide) only [xo_5, xo_10_2i, xo_10_2r, xo_10_2n, xo_2_0, xo_36, xo_10_3i, xo_10_3r, xo_10_3n, xo_55, xo_0_2, xo_0_3, xo_45, xo_0_1, xo_33, xo_15_2i, xo_15_2r, xo_15_2n, xo_54, zk_J_fill_20, xo_69, hlt, if_true, if_false, eq_self, Bool.true_eq_false, Bool.false_eq_true]
/-- a row of zeros -/
def z_zw (V : zM) (c N : Nat) : zM := z_sA V c (z_bw (V c) 0 N (fun _ => nI 0))
theorem zw_s (V : zM) (c N k : Nat) (h : k < N) : z_zw V c N c k = 0 := by
  unfold z_zw; rw [z_sA_s, z_bw_at _ _ _ _ _ (by omega) (by omega)]; rfl
theorem zw_n (V : zM) (c N d : Nat) (h : d ≠ c) : z_zw V c N d = V d := by unfold z_zw; rw [z_sA_n _ _ _ _ h]
section
variable {G : zG} {b : Nat}
theorem xw_fill (hW : z_HW G b) (M V : zM) {c N : Nat} (h1 : (z_kd G (b + c)).1 = 1) (h2 : (z_kd G (b + c)).2 = N) (hc : c < 41) (hN : N ≤ 1000) : z_call 10 [.ref (b + c), .int (nI 0)] G (wr M b V) = some (.inl none, G, wr M b (z_zw V c N)) := by
  rw [c_J_fill _ _ h1 h2 (by have := hW.1; omega) hN, wr_k _ _ _ _ hc, wr_uk _ _ _ _ _ hc]; rfl
theorem c_A_wipe (hW : z_HW G b) (M V : zM) : z_call 9 [.ref (b + 4)] G (wr M b V) = some (.inl none, G, wr M b (z_zw (z_zw (z_w (z_w (z_w V 4 1 (nI 0)) 4 2 (nI 0)) 4 3 (nI 0)) 6 8) 7 8)) := by
  have f6 : ∀ U, z_call 10 [.ref (b + 6), .int (nI 0)] G (wr M b U) = some (.inl none, G, wr M b (z_zw U 6 8)) := fun U => by
    obtain ⟨_, _, _, _, _, _, _, _, _, ⟨x1, x2⟩, _⟩ := id hW
    exact xw_fill hW M U x1 x2 (by omega) (by omega)
  have f7 : ∀ U, z_call 10 [.ref (b + 7), .int (nI 0)] G (wr M b U) = some (.inl none, G, wr M b (z_zw U 7 8)) := fun U => by
    obtain ⟨_, _, _, _, _, _, _, _, _, _, ⟨x1, x2⟩, _⟩ := id hW
    exact xw_fill hW M U x1 x2 (by omega) (by omega)
  simp (disch := first | assumption | omega | exact Nat.le_of_ble_eq_true rfl | decide) only [ze_A_wipe, zk_A_wipe_0, xo_2_0, xo_5, xw_18a hW, xw_17a_4 hW, xw_17a_5 hW, xo_63_2, xk_v, xk_n, xo_69, f6, f7, if_true, if_false, eq_self, Bool.true_eq_false, Bool.false_eq_true]
def g_wi (i : Nat) (V : zM) : zM := z_zw (z_zw (z_zw (z_w (z_w V (9 + 4 * i) 5 (nI 0)) (9 + 4 * i) 6 (nI 0)) (10 + 4 * i) 6) (11 + 4 * i) 6) (12 + 4 * i) 7
theorem c_B_wipe (hW : z_HW G b) (M V : zM) {i : Nat} (hi : i < 8) : z_call 14 [.ref (b + (9 + 4 * i))] G (wr M b V) = some (.inl none, G, wr M b (g_wi i V)) := by
  have fl : ∀ U, z_call 10 [.ref (b + (10 + 4 * i)), .int (nI 0)] G (wr M b U) = some (.inl none, G, wr M b (z_zw U (10 + 4 * i) 6)) := fun U => by
    obtain ⟨_, _, _, _, _, _, _, _, _, _, _, _, hm⟩ := id hW
    obtain ⟨_, _, _, ⟨x1, x2⟩, _⟩ := hm i hi
    exact xw_fill hW M U x1 x2 (by omega) (by omega)
  have fk : ∀ U, z_call 10 [.ref (b + (11 + 4 * i)), .int (nI 0)] G (wr M b U) = some (.inl none, G, wr M b (z_zw U (11 + 4 * i) 6)) := fun U => by
    obtain ⟨_, _, _, _, _, _, _, _, _, _, _, _, hm⟩ := id hW
    obtain ⟨_, _, _, _, ⟨x1, x2⟩, _⟩ := hm i hi
    exact xw_fill hW M U x1 x2 (by omega) (by omega)
  have ft : ∀ U, z_call 10 [.ref (b + (12 + 4 * i)), .int (nI 0)] G (wr M b U) = some (.inl none, G, wr M b (z_zw U (12 + 4 * i) 7)) := fun U => by
    obtain ⟨_, _, _, _, _, _, _, _, _, _, _, _, hm⟩ := id hW
    obtain ⟨_, _, _, _, _, ⟨x1, x2⟩⟩ := hm i hi
    exact xw_fill hW M U x1 x2 (by omega) (by omega)
  unfold g_wi
  simp (disch := first | assumption | omega | exact Nat.le_of_ble_eq_true rfl | decide) only [ze_B_wipe, zk_B_wipe_0, xo_2_0, xo_5, xw_18b hW, xw_17b_12 hW, xw_17b_13 hW, xw_17b_14 hW, xo_63_2, xk_v, xk_n, xo_69, fl, fk, ft, if_true, if_false, eq_self, Bool.true_eq_false, Bool.false_eq_true]
/-! the setup at p, outside the world -/
variable {p : Nat}
theorem xs_16 (hP : z_HP G p) (hd : p + 3 ≤ b ∨ b + 41 ≤ p) (M V : zM) (m c pc : Nat) (ops : List zO) (ls st : List Value) (f : Nat) : z_ex m ((16, 3, f, c, pc) :: ops) ls (.ref p :: st) G (wr M b V) = z_ex m ops ls (.int (M p f) :: st) G (wr M b V) := by
  rw [xo_16 _ _ _ _ _ _ _ _ _ _ _ hP.2.1 hP.1, wr_o _ _ _ _ (by omega)]
theorem xs_17_2 (hP : z_HP G p) (M : zM) (m c pc : Nat) (ops : List zO) (ls st : List Value) : z_ex m ((17, 3, 2, c, pc) :: ops) ls (.ref p :: st) G M = z_ex m ops ls (.ref (p + 1) :: st) G M := by
  have e := hP.2.2.1.1
  rw [xo_17 _ _ _ _ _ _ _ _ _ _ _ hP.2.1 hP.1 (by omega), e]
theorem xs_17_3 (hP : z_HP G p) (M : zM) (m c pc : Nat) (ops : List zO) (ls st : List Value) : z_ex m ((17, 3, 3, c, pc) :: ops) ls (.ref p :: st) G M = z_ex m ops ls (.ref (p + 2) :: st) G M := by
  have e := hP.2.2.1.2
  rw [xo_17 _ _ _ _ _ _ _ _ _ _ _ hP.2.1 hP.1 (by omega), e]
theorem xs_32 (hP : z_HP G p) (hd : p + 3 ≤ b ∨ b + 41 ≤ p) (M V : zM) (m c pc : Nat) (ops : List zO) (ls st : List Value) (j : Nat) (hj : j < 8) : z_ex m ((32, 0, 0, c, pc) :: ops) ls (.int (nI j) :: .ref (p + 2) :: st) G (wr M b V) = z_ex m ops ls (.int (M (p + 2) j) :: st) G (wr M b V) := by
  obtain ⟨_, _, _, _, ⟨x1, x2⟩⟩ := hP
  rw [xo_32 _ _ _ _ _ _ _ _ _ _ _ _ x1 (by omega) (by omega), wr_o _ _ _ _ (by omega)]
theorem xs_80 (hP : z_HP G p) (hW : z_HW G b) (hd : p + 3 ≤ b ∨ b + 41 ≤ p) (M V : zM) (m a a' c pc : Nat) (ops : List zO) (ls : List Value) : z_ex m ((80, a, a', c, pc) :: ops) ls [.int (nI 4), .int (nI 0), .ref (b + 1), .int (nI 0), .ref (p + 1)] G (wr M b V) = z_ex m ops ls [] G (wr M b (z_sA V 1 (va_cpy (M (p + 1)) (V 1) 0 0 4))) := by
  obtain ⟨hb, _, _, ⟨y1, y2⟩, _⟩ := id hW
  obtain ⟨hp, _, _, ⟨x1, x2⟩, _⟩ := hP
  rw [xo_80 _ _ _ _ _ _ _ _ _ _ _ _ _ _ x1 (by omega) y1 (by omega) (by omega) (by omega) (by omega) (by omega) (by omega), wr_o _ _ _ (p + 1) (by omega), wr_k _ _ _ _ (by omega), wr_uk _ _ _ _ _ (by omega)]
end
/-- a member of the class, begun -/
def z_Bm (n : Nat) (S : Nat → Int32) (j : Nat) (U : zM) : Prop := U (9 + 4 * j) 1 = S (33 + j) ∧ (∃ a, a < 256 ∧ U (9 + 4 * j) 2 = nI a ∧ ∀ k, k < 8 → a.testBit k = decide (k < n ∧ S (33 + j) < S (33 + k))) ∧ (∀ f, 3 ≤ f → f < 12 → U (9 + 4 * j) f = y_fm (S 2) j (z_mf f)) ∧ (∀ k, k < 6 → U (10 + 4 * j) k = 0) ∧ (∀ k, k < 6 → U (11 + 4 * j) k = 0) ∧ ∀ k, k < 7 → U (12 + 4 * j) k = y_fm (S 2) j (21 + k)
theorem Bm_eq {n j : Nat} {S : Nat → Int32} {U V : zM} (h : z_Bm n S j U) (e : ∀ c, 9 + 4 * j ≤ c → c < 13 + 4 * j → V c = U c) : z_Bm n S j V := by
  obtain ⟨h1, h2, h3, h4, h5, h6⟩ := h
  exact ⟨by rw [e _ (by omega) (by omega)]; exact h1, by rw [e _ (by omega) (by omega)]; exact h2, by rw [e _ (by omega) (by omega)]; exact h3, by rw [e _ (by omega) (by omega)]; exact h4, by rw [e _ (by omega) (by omega)]; exact h5, by rw [e _ (by omega) (by omega)]; exact h6⟩
/-- a fresh member goes alone -/
theorem Bm_al {n i c : Nat} {S : Nat → Int32} {U : zM} (hi : i < 8) (hc : c < 2 ^ 31 - 1) (h8 : U 0 8 = nI c) (h2 : U 0 2 = 0) (h10 : U 1 0 = S 2) (hN : U (9 + 4 * i) 0 = nI i) (h1 : U (9 + 4 * i) 1 = S (33 + i)) (ha : ∃ a, a < 256 ∧ U (9 + 4 * i) 2 = nI a ∧ ∀ k, k < 8 → a.testBit k = decide (k < n ∧ S (33 + i) < S (33 + k))) : z_Bm n S i (g_al i (g_wi i U)) ∧ (∀ q, q ≠ 0 → q ≠ 8 → (q < 9 + 4 * i ∨ 13 + 4 * i ≤ q) → g_al i (g_wi i U) q = U q) ∧ (∀ f, f ≠ 8 → g_al i (g_wi i U) 0 f = U 0 f) ∧ g_al i (g_wi i U) 0 8 = nI (c + 1) ∧ g_al i (g_wi i U) (9 + 4 * i) 0 = nI i := by
  obtain ⟨W, hW⟩ : ∃ W, W = g_wi i U := ⟨_, rfl⟩
  have wo : ∀ q, (q < 9 + 4 * i ∨ 13 + 4 * i ≤ q) → W q = U q := fun q hq => by
    rw [hW]; unfold g_wi; rw [zw_n _ _ _ _ (by omega), zw_n _ _ _ _ (by omega), zw_n _ _ _ _ (by omega), z_w_c _ _ _ _ _ (by omega), z_w_c _ _ _ _ _ (by omega)]
  have w9 : ∀ f, f ≠ 5 → f ≠ 6 → W (9 + 4 * i) f = U (9 + 4 * i) f := fun f a b => by
    rw [hW]; unfold g_wi; rw [zw_n _ _ _ _ (by omega), zw_n _ _ _ _ (by omega), zw_n _ _ _ _ (by omega), z_w_n _ _ _ _ _ _ (by omega), z_w_n _ _ _ _ _ _ (by omega)]
  have w5 : W (9 + 4 * i) 5 = 0 := by
    rw [hW]; unfold g_wi; rw [zw_n _ _ _ _ (by omega), zw_n _ _ _ _ (by omega), zw_n _ _ _ _ (by omega), z_w_n _ _ _ _ _ _ (by omega), z_w_s]; rfl
  have w6 : W (9 + 4 * i) 6 = 0 := by
    rw [hW]; unfold g_wi; rw [zw_n _ _ _ _ (by omega), zw_n _ _ _ _ (by omega), zw_n _ _ _ _ (by omega), z_w_s]; rfl
  have wl : ∀ k, k < 6 → W (10 + 4 * i) k = 0 := fun k hk => by
    rw [hW]; unfold g_wi; rw [zw_n _ _ _ _ (by omega), zw_n _ _ _ _ (by omega)]; exact zw_s _ _ _ _ hk
  have wk : ∀ k, k < 6 → W (11 + 4 * i) k = 0 := fun k hk => by
    rw [hW]; unfold g_wi; rw [zw_n _ _ _ _ (by omega)]; exact zw_s _ _ _ _ hk
  have wt : ∀ k, k < 7 → W (12 + 4 * i) k = 0 := fun k hk => by
    rw [hW]; unfold g_wi; exact zw_s _ _ _ _ hk
  rw [← hW]
  clear hW
  have v8 : W 0 8 = nI c := by rw [wo 0 (by omega)]; exact h8
  have v2 : W 0 2 = 0 := by rw [wo 0 (by omega)]; exact h2
  have v10 : W 1 0 = S 2 := by rw [wo 1 (by omega)]; exact h10
  have vN : W (9 + 4 * i) 0 = nI i := by rw [w9 0 (by omega) (by omega)]; exact hN
  have eg : g_rg i (nI 10 * (W (9 + 4 * i) 5 + nI 1) + W (9 + 4 * i) 0) (z_w W (9 + 4 * i) 5 (W (9 + 4 * i) 5 + nI 1)) = g_rg1 i (nI (10 + i)) (c % 40 * 4) (z_w W (9 + 4 * i) 5 (nI 1)) := by
    have hne : ¬ (0 : Int32) = nI (10 + i) := fun q => nI_ne0 (n := 10 + i) (by omega) (by omega) q.symm
    unfold g_rg
    rw [w5, vN, ar_01, ar_10 i hi, z_w_n _ _ _ _ _ _ (by omega), w6, if_neg hne, z_w_n _ _ _ _ _ _ (by omega), v8, z_nN (k := c) (by omega)]
  have ea : g_al i W = z_w (z_w (z_w (z_w (z_w (z_w (z_w (z_w (g_rg1 i (nI (10 + i)) (c % 40 * 4) (z_w W (9 + 4 * i) 5 (nI 1))) (9 + 4 * i) 4 (nI i)) (9 + 4 * i) 7 (nI (2 ^ i))) (9 + 4 * i) 8 (nI 0)) (9 + 4 * i) 9 (nI 0)) (9 + 4 * i) 3 (nI 0)) (9 + 4 * i) 10 (nI 1)) (9 + 4 * i) 11 (S 2)) (12 + 4 * i) 3 (nI 1) := by
    unfold g_al
    rw [eg]
    unfold g_aw g_so g_rg1
    simp (disch := omega) only [z_w_n]
    rw [vN, v2, v10, z_bitN i hi, wt 3 (by omega), ar_01, Int32.zero_add]
  rw [ea]
  clear ea eg
  unfold g_rg1
  refine ⟨⟨?_, ?_, fun f f3 f12 => ?_, fun k hk => ?_, fun k hk => ?_, fun k hk => ?_⟩, fun q q0 q8 hq => ?_, fun f hf => ?_, ?_, ?_⟩
  · simp (disch := omega) only [z_w_n]; rw [w9 1 (by omega) (by omega)]; exact h1
  · obtain ⟨a, a1, a2, a3⟩ := ha
    refine ⟨a, a1, ?_, a3⟩
    simp (disch := omega) only [z_w_n]; rw [w9 2 (by omega) (by omega)]; exact a2
  · rcases (show f = 3 ∨ f = 4 ∨ f = 5 ∨ f = 6 ∨ f = 7 ∨ f = 8 ∨ f = 9 ∨ f = 10 ∨ f = 11 by omega) with e | e | e | e | e | e | e | e | e <;> subst e <;> simp (disch := omega) only [z_w_n, z_w_s] <;> rfl
  · simp (disch := omega) only [z_w_n]; exact wl k hk
  · simp (disch := omega) only [z_w_n]; exact wk k hk
  · by_cases k3 : k = 3
    · subst k3; rw [z_w_s]; rfl
    · simp (disch := omega) only [z_w_n]; rw [wt k hk]
      unfold y_fm
      rw [if_neg (by omega), if_neg (by omega), if_neg (by omega), if_neg (by omega), if_neg (by omega), if_neg (by omega), if_neg (by omega)]
  · simp (disch := omega) only [z_w_c]; exact wo q hq
  · simp (disch := omega) only [z_w_n]; rw [wo 0 (by omega)]
  · simp (disch := omega) only [z_w_n, z_w_s]; rw [v8, nI_add]
  · simp (disch := omega) only [z_w_n]; exact vN
