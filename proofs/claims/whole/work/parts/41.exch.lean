/-! ===== a tick's exchange, in both ===== -/
theorem z_sim2 {S β : Type} (E : Nat → zM → S → β) (f : Nat → S → S) (I : Nat → zM → S → Prop) (N : Nat) (hs : ∀ k V s, k < N → I k V s → ∃ V', E k V s = E (k + 1) V' (f k s) ∧ I (k + 1) V' (f k s)) : ∀ (r k : Nat) (V : zM) (s : S), k + r = N → I k V s → ∃ V', E k V s = E N V' (z_fd f r k s) ∧ I N V' (z_fd f r k s)
  | 0, k, V, s, e, h => ⟨V, by rw [show k = N by omega]; rfl, by rw [show k = N by omega] at h; exact h⟩
  | r + 1, k, V, s, e, h => by
    obtain ⟨V1, e1, h1⟩ := hs k V s (by omega) h
    obtain ⟨V2, e2, h2⟩ := z_sim2 E f I N hs r (k + 1) V1 (f k s) (by omega) h1
    exact ⟨V2, e1.trans e2, h2⟩
section
variable {G : zG} {b : Nat} {fl : Bool} {n J B Bf : Nat} {V : zM} {s : Nat → Int32}
theorem R_clk (h : z_R fl (0, 0) n B V s) (hn : n ≤ 8) (v : Int32) : z_R fl (0, 0) n B (z_w V 0 2 v) (z_u s 6 v) := by
  obtain ⟨h0, h1, h2, h3, h4, h5⟩ := h
  obtain ⟨q1, q2, q3, q4, q5, q6, q7⟩ := h0
  refine ⟨⟨?_, ?_, ?_, fun j hj => ?_, ?_, fun j hj => ?_, fun j hj => ?_⟩, z_R1_eq h1 hn (z_w_c _ _ _ _ _ (by omega)) (fun a _ _ => z_u_n _ _ _ _ (by omega)), z_R2_eq h2 hn (fun i _ => z_w_c _ _ _ _ _ (by omega)) (fun a _ _ => z_u_n _ _ _ _ (by omega)), fun e => z_R3_eq (h3 e) hn (fun c _ _ => z_w_c _ _ _ _ _ (by omega)) (fun a _ _ => z_u_n _ _ _ _ (by omega)), ?_, z_R5_eq h5 (z_w_n _ _ _ _ _ _ (by omega)) (z_w_c _ _ _ _ _ (by omega)) (fun a _ => z_u_n _ _ _ _ (by omega)) (fun j _ => by rw [z_w_c _ _ _ _ _ (by omega)])⟩
  · rw [z_w_n _ _ _ _ _ _ (by omega), z_u_n _ _ _ _ (by omega)]; exact q1
  · rw [z_w_n _ _ _ _ _ _ (by omega), z_u_n _ _ _ _ (by omega)]; exact q2
  · rw [z_w_s, z_u_s]
  · rw [z_w_n _ _ _ _ _ _ (by omega), z_u_n _ _ _ _ (by omega)]; exact q4 j hj
  · rw [z_w_n _ _ _ _ _ _ (by omega), z_u_n _ _ _ _ (by omega)]; exact q5
  · rw [z_w_n _ _ _ _ _ _ (by omega), z_u_n _ _ _ _ (by omega)]; exact q6 j hj
  · rw [z_w_n _ _ _ _ _ _ (by omega), z_u_n _ _ _ _ (by omega)]; exact q7 j hj
  · obtain ⟨gk, sz, g1, g2, g3, g4, g5, g6, g7, g8, g9⟩ := h4
    have z0 : ∀ U : zM, z_cn U 0 = 0 := fun U => rfl
    dsimp only at g3 g4 g5 g6 g7 g9
    rw [z0] at g5 g6 g7
    refine ⟨rfl, sz, g1, ?_, Nat.zero_le _, Nat.zero_le _, ?_, ?_, ?_, fun j hj => absurd hj (Nat.not_lt_zero j), fun j j1 j2 => ?_⟩
    · rw [z_w_n _ _ _ _ _ _ (by omega)]; exact g2
    · dsimp only; rw [z_w_n _ _ _ _ _ _ (by omega), z0]; exact g5
    · dsimp only; rw [z_u_n _ _ _ _ (by omega), z0]; exact g6
    · dsimp only; rw [z0]; exact g7
    · have := g9 j j1 j2
      rw [z0] at this
      exact z_LR_eq this (fun q hq => by rw [z_w_c _ _ _ _ _ (by omega)]) (fun q hq => by dsimp only; rw [z0]; exact z_u_n _ _ _ _ (by omega))
theorem z_cn_s (V : zM) (k : Nat) : z_cn V (k + 1) = z_cn V k + (!decide (V 5 (k * 12 + 3) = V 0 2)).toNat := z_ct_s _ _
theorem R_adv1 {k kk : Nat} (h : z_R fl (k, kk) n B V s) (hk : k < 300) (hsz : ∃ sz, sz ≤ 600 ∧ V 4 1 = nI sz ∧ k < sz) (hd : V 5 (k * 12 + 3) ≠ V 0 2) : z_R fl (k + 1, kk + 1) n B V s := by
  obtain ⟨h0, h1, h2, h3, h4, h5⟩ := h
  obtain ⟨gk, sz, g1, g2, g3, g4, g5, g6, g7, g8, g9⟩ := h4
  dsimp only at gk g3 g4 g5 g6 g7 g8 g9
  obtain ⟨sz', s1, s2, s3⟩ := hsz
  have esz : sz' = sz := (nI_eq (by omega) (by omega)).mp (s2.symm.trans g2)
  subst esz
  have hcs : z_cn V (k + 1) = kk + 1 := by rw [z_cn_s, gk, decide_eq_false hd]; rfl
  refine ⟨h0, h1, h2, h3, ⟨hcs, sz', g1, g2, by dsimp only; omega, by dsimp only; omega, ?_, ?_, ?_, ?_, ?_⟩, h5⟩
  · dsimp only; rw [hcs, g5, gk]; congr 1; omega
  · dsimp only; rw [hcs, g6, gk]; congr 1; omega
  · dsimp only; rw [hcs]; rw [gk] at g7; omega
  · intro j hj hdj
    dsimp only at hj
    by_cases e : j = k
    · subst e
      exact z_LR_eq (g9 j (Nat.le_refl _) s3) (fun _ _ => rfl) (fun q hq => by rw [Nat.sub_self, Nat.add_zero])
    · exact g8 j (by omega) hdj
  · intro j j1 j2
    dsimp only at j1 ⊢
    exact z_LR_eq (g9 j (by omega) j2) (fun _ _ => rfl) (fun q hq => by rw [hcs, gk, show kk + 1 + (j - (k + 1)) = kk + (j - k) by omega])
theorem R_adv2 {k kk m : Nat} (h : z_R fl (k, kk) n B V s) (hn : n ≤ 8) (hk : k < 300) (h8 : s 8 = nI m) (hm : m ≤ 300) (hkm : kk < m) (hd : V 5 (k * 12 + 3) = V 0 2) : z_R fl (k + 1, kk) n B (z_w V 4 2 (V 4 2 + nI 1)) (f_to kk s) := by
  obtain ⟨h0, h1, h2, h3, h4, h5⟩ := h
  obtain ⟨gk, sz, g1, g2, g3, g4, g5, g6, g7, g8, g9⟩ := h4
  dsimp only at gk g3 g4 g5 g6 g7 g8 g9
  rw [gk] at g5 g6 g7
  have em : kk + (sz - k) = m := (nI_eq (by omega) (by omega)).mp (g6.symm.trans h8)
  have hlo := f_to_lo (k := kk) h8 hm
  obtain ⟨q1, q2, q3, q4, q5, q6, q7⟩ := h0
  have hcU : ∀ j, z_cn (z_w V 4 2 (V 4 2 + nI 1)) j = z_cn V j := fun j => z_cn_eq (z_w_n _ _ _ _ _ _ (by omega)) j (fun a _ => by rw [z_w_c _ _ _ _ _ (by omega)])
  have hcs : z_cn V (k + 1) = kk := by rw [z_cn_s, gk, decide_eq_true hd]; rfl
  have hckk : kk ≤ k := by rw [← gk]; exact z_ct_le _ _
  refine ⟨⟨?_, ?_, ?_, fun j hj => ?_, ?_, fun j hj => ?_, fun j hj => ?_⟩, z_R1_eq h1 hn (z_w_c _ _ _ _ _ (by omega)) (fun a _ _ => hlo a (by omega) (by omega)), z_R2_eq h2 hn (fun i _ => z_w_c _ _ _ _ _ (by omega)) (fun a _ _ => hlo a (by omega) (by omega)), fun e => z_R3_eq (h3 e) hn (fun c _ _ => z_w_c _ _ _ _ _ (by omega)) (fun a _ _ => hlo a (by omega) (by omega)), ?_, z_R5_eq h5 (z_w_n _ _ _ _ _ _ (by omega)) (z_w_c _ _ _ _ _ (by omega)) (fun a _ => f_to_up h8 hm hkm a (by omega)) (fun j _ => by rw [z_w_c _ _ _ _ _ (by omega)])⟩
  · rw [z_w_n _ _ _ _ _ _ (by omega), hlo _ (by omega) (by omega)]; exact q1
  · rw [z_w_n _ _ _ _ _ _ (by omega), hlo _ (by omega) (by omega)]; exact q2
  · rw [z_w_n _ _ _ _ _ _ (by omega), hlo _ (by omega) (by omega)]; exact q3
  · rw [z_w_n _ _ _ _ _ _ (by omega), hlo _ (by omega) (by omega)]; exact q4 j hj
  · rw [z_w_n _ _ _ _ _ _ (by omega), hlo _ (by omega) (by omega)]; exact q5
  · rw [z_w_n _ _ _ _ _ _ (by omega), hlo _ (by omega) (by omega)]; exact q6 j hj
  · rw [z_w_n _ _ _ _ _ _ (by omega), hlo _ (by omega) (by omega)]; exact q7 j hj
  · refine ⟨by rw [hcU]; exact hcs, sz, g1, ?_, ?_, ?_, ?_, ?_, ?_, ?_, ?_⟩
    · rw [z_w_n _ _ _ _ _ _ (by omega)]; exact g2
    · dsimp only; omega
    · dsimp only; omega
    · dsimp only; rw [z_w_s, hcU, hcs, g5, nI_add]; congr 1; omega
    · dsimp only; rw [hcU, hcs, f_to_8 h8 hkm]; congr 1; omega
    · dsimp only; rw [hcU, hcs]; omega
    · intro j hj hdj
      dsimp only at hj
      rw [z_w_c _ _ _ _ _ (by omega), z_w_n _ _ _ _ _ _ (by omega)] at hdj
      have hjk : j ≠ k := fun e => hdj (by rw [e]; exact hd)
      have hlt : z_cn V j + 1 ≤ kk := by rw [← gk]; exact z_ct_lt _ (by omega) (by simp [hdj])
      exact z_LR_eq (g8 j (by omega) hdj) (fun q hq => by rw [z_w_c _ _ _ _ _ (by omega)]) (fun q hq => by rw [hcU]; exact hlo _ (by omega) (by omega))
    · intro j j1 j2
      dsimp only at j1 ⊢
      exact z_LR_eq (g9 j (by omega) j2) (fun q hq => by rw [z_w_c _ _ _ _ _ (by omega)]) (fun q hq => by
        rw [hcU, hcs, gk, f_to_hi h8 hm _ (by omega) (by omega), show 265 + 13 * (kk + (j - (k + 1))) + q + 13 = 265 + 13 * (kk + (j - k)) + q by omega])
theorem R_lost {kp : Nat × Nat} (h : z_R fl kp n B V s) (hn : n ≤ 8) : z_R fl kp n B (z_w V 4 3 (V 4 3 + nI 1)) (z_u s 7 (s 7 + nI 1)) := by
  obtain ⟨h0, h1, h2, h3, h4, h5⟩ := h
  obtain ⟨q1, q2, q3, q4, q5, q6, q7⟩ := h0
  refine ⟨⟨?_, ?_, ?_, fun j hj => ?_, ?_, fun j hj => ?_, fun j hj => ?_⟩, z_R1_eq h1 hn (z_w_c _ _ _ _ _ (by omega)) (fun a _ _ => z_u_n _ _ _ _ (by omega)), z_R2_eq h2 hn (fun i _ => z_w_c _ _ _ _ _ (by omega)) (fun a _ _ => z_u_n _ _ _ _ (by omega)), fun e => z_R3_eq (h3 e) hn (fun c _ _ => z_w_c _ _ _ _ _ (by omega)) (fun a _ _ => z_u_n _ _ _ _ (by omega)), z_R4_eq h4 (z_w_n _ _ _ _ _ _ (by omega)) (fun f _ => z_w_n _ _ _ _ _ _ (by omega)) (z_w_c _ _ _ _ _ (by omega)) (z_u_n _ _ _ _ (by omega)) (fun a _ _ => z_u_n _ _ _ _ (by omega)), z_R5_eq h5 (z_w_n _ _ _ _ _ _ (by omega)) (z_w_c _ _ _ _ _ (by omega)) (fun a _ => z_u_n _ _ _ _ (by omega)) (fun j _ => by rw [z_w_c _ _ _ _ _ (by omega)])⟩
  · rw [z_w_n _ _ _ _ _ _ (by omega), z_u_n _ _ _ _ (by omega)]; exact q1
  · rw [z_w_n _ _ _ _ _ _ (by omega), z_u_n _ _ _ _ (by omega)]; exact q2
  · rw [z_w_n _ _ _ _ _ _ (by omega), z_u_n _ _ _ _ (by omega)]; exact q3
  · rw [z_w_n _ _ _ _ _ _ (by omega), z_u_n _ _ _ _ (by omega)]; exact q4 j hj
  · rw [z_w_s, z_u_s, q5]
  · rw [z_w_n _ _ _ _ _ _ (by omega), z_u_n _ _ _ _ (by omega)]; exact q6 j hj
  · rw [z_w_n _ _ _ _ _ _ (by omega), z_u_n _ _ _ _ (by omega)]; exact q7 j hj
theorem z_ct_surj (P : Nat → Bool) : ∀ (N p : Nat), p < z_ct P N → ∃ j, j < N ∧ P j = true ∧ z_ct P j = p
  | 0, p, h => absurd h (Nat.not_lt_zero p)
  | N + 1, p, h => by
    rw [z_ct_s] at h
    by_cases h1 : p < z_ct P N
    · obtain ⟨j, j1, j2, j3⟩ := z_ct_surj P N p h1
      exact ⟨j, by omega, j2, j3⟩
    · cases hp : P N
      · rw [hp] at h; exact absurd h (by simp only [Bool.toNat_false]; omega)
      · rw [hp] at h
        simp only [Bool.toNat_true] at h
        exact ⟨N, by omega, hp, by omega⟩
theorem xw_80_5 (hW : z_HW G b) (M V : zM) (m c pc : Nat) (ops : List zO) (ls : List Value) (sp dp : Nat) (h1 : sp + 12 ≤ 7200) (h2 : dp + 12 ≤ 7200) : z_ex m ((80, 0, 0, c, pc) :: ops) ls [.int (nI 12), .int (nI dp), .ref (b + 5), .int (nI sp), .ref (b + 5)] G (wr M b V) = z_ex m ops ls [] G (wr M b (z_sA V 5 (va_cpy (V 5) (V 5) sp dp 12))) := by
  obtain ⟨hb, w0, ⟨w3, w4, w5, w6, w7⟩, ⟨x1, x2⟩, ⟨x3, x4⟩, ⟨x5, x6⟩, a0, ⟨a1, a2, a3⟩, ⟨x7, x8⟩, _⟩ := hW
  rw [xo_80 _ _ _ _ _ _ _ _ _ _ _ _ _ _ x7 (Nat.le_trans hb (Nat.le_add_right b _)) x7 (Nat.le_trans hb (Nat.le_add_right b _)) (by rw [x8]; exact h1) (by rw [x8]; exact h2) (by omega) (by omega) (by omega), wr_k _ _ _ 5 (by omega), wr_uk _ _ _ 5 _ (by omega)]
theorem s_A_dropDue (hW : z_HW G b) (M : zM) {k kk : Nat} (h : z_R fl (k, kk) n B V s) (hn : n ≤ 8) (hd : ∀ sz j, V 4 1 = nI sz → sz ≤ 600 → k ≤ j → j < sz → V 5 (j * 12 + 3) ≠ V 0 2) : ∃ V', z_call 47 [.ref (b + 4), .int (V 0 2)] G (wr M b V) = some (.inl none, G, wr M b V') ∧ z_R fl (0, 0) n B V' s := by
  obtain ⟨h0, h1, h2, h3, h4, h5⟩ := h
  obtain ⟨gk, sz, g1, g2, g3, g4, g5, g6, g7, g8, g9⟩ := h4
  dsimp only at gk g3 g4 g5 g6 g7 g8 g9
  have hdj := fun j => hd sz j g2 g1
  have hckk : kk ≤ k := by rw [← gk]; exact z_ct_le _ _
  have hP : ∀ j, (fun j => !decide (V 5 (j * 12 + 3) = V 0 2)) j = !decide (V 5 (j * 12 + 3) = V 0 2) := fun _ => rfl
  have hcj : ∀ j, k ≤ j → j ≤ sz → z_cn V j = kk + (j - k) := by
    intro j j1
    induction j1 with
    | refl => intro _; rw [gk]; omega
    | step hs ih =>
      rename_i q
      intro hq
      rw [z_cn_s, ih (by omega), decide_eq_false (hdj q hs (by omega))]
      simp only [Bool.not_false, Bool.toNat_true]
      have : k ≤ q := hs
      omega
  -- letter (z_cn V j) is row j, of each that isn't due
  have hall : ∀ j, j < sz → V 5 (j * 12 + 3) ≠ V 0 2 → z_LR fl (fun t => V 5 (j * 12 + t)) (fun t => s (265 + 13 * z_cn V j + t)) := by
    intro j j1 j2
    by_cases e : j < k
    · exact g8 j e j2
    · rw [hcj j (by omega) (by omega), ← gk]; exact g9 j (by omega) j1
  have hcsz := hcj sz g3 (Nat.le_refl _)
  rw [gk] at g5 g6 g7
  by_cases hcm : V 4 2 = 0
  · have hkk : k = kk := by
      rw [g5] at hcm
      by_cases e : k - kk = 0
      · omega
      · exact absurd hcm (nI_ne0 (by omega) (by omega))
    refine ⟨V, ?_, h0, h1, h2, h3, ⟨rfl, sz, g1, g2, Nat.zero_le _, Nat.zero_le _, ?_, ?_, ?_, fun j hj => absurd hj (Nat.not_lt_zero j), fun j _ j2 => ?_⟩, h5⟩
    · simp (disch := first | assumption | omega | exact Nat.le_of_ble_eq_true rfl | decide) only [ze_A_dropDue, zk_A_dropDue_0, xo_2_0, xw_16a hW, xo_49, zk_A_dropDue_7, xo_69, xo_5, xo_10_2i, xo_10_2r, xo_10_2n, xo_10_3i, xo_10_3r, xo_10_3n, xo_55, xo_0_3, xo_45, xw_64a_3 hW, xk_v, xk_n, xo_0_1, xo_42, xo_0_2, xw_17a_0 hW, xo_6, xo_22, xo_80, xo_15_2i, xo_15_2r, xo_15_2n, xo_15_3i, xo_15_3r, xo_15_3n, xo_54, xw_18a hW, hcm, if_true, if_false, eq_self, Bool.true_eq_false, Bool.false_eq_true, and_true, true_and, and_false, false_and, or_true, true_or, or_false, false_or, ne_eq, not_true_eq_false, not_false_eq_true, decide_true, decide_false, z_sA_id]
    · rw [hcm]; exact nI_0.symm
    · rw [g6]; show nI _ = nI (0 + (sz - 0)); congr 1; omega
    · show 0 + (sz - 0) ≤ 300; omega
    · have hcle : ∀ q, q ≤ k → z_cn V q = q := by
        intro q hq
        have a1 : z_cn V q ≤ q := z_ct_le _ _
        have a2 : z_cn V k ≤ z_cn V q + (k - q) := by
          have : ∀ d, z_cn V (q + d) ≤ z_cn V q + d := by
            intro d
            induction d with
            | zero => exact Nat.le_refl _
            | succ d ih =>
              have hb : (!decide (V 5 ((q + d) * 12 + 3) = V 0 2)).toNat ≤ 1 := Bool.toNat_le _
              rw [← Nat.add_assoc, z_cn_s]; omega
          have := this (k - q)
          rw [show q + (k - q) = k by omega] at this
          exact this
        rw [gk] at a2
        omega
      have hcj0 : z_cn V j = j := by
        by_cases e : j ≤ k
        · exact hcle j e
        · rw [hcj j (by omega) (by omega)]; omega
      have hnd : V 5 (j * 12 + 3) ≠ V 0 2 := by
        by_cases e : j < k
        · intro hdue
          have a1 := hcle j (by omega)
          have a2 := hcle (j + 1) (by omega)
          rw [z_cn_s, decide_eq_true hdue, a1] at a2
          simp only [Bool.not_true, Bool.toNat_false] at a2
          omega
        · exact hdj j (by omega) j2
      exact z_LR_eq (hall j j2 hnd) (fun _ _ => rfl) (fun q hq => by rw [hcj0]; show s _ = s _; congr 2; show 265 + 13 * (0 + (j - 0)) = _; omega)
  · have hclk : ∀ (U : zM), U 0 = V 0 → U 0 2 = V 0 2 := fun U e => by rw [e]
    obtain ⟨V', e1, hI⟩ := z_sim (fun j U => z_ex 47 (z_blk 47 12) [.ref (b + 4), .int (V 0 2), .int (nI (z_cn V j)), .int (nI j)] [] G (wr M b U)) (fun _ (a : Unit) => a) (fun j U _ => (∀ c, c ≠ 5 → U c = V c) ∧ (∀ a, j * 12 ≤ a → U 5 a = V 5 a) ∧ (∀ q, q < j → V 5 (q * 12 + 3) ≠ V 0 2 → ∀ t, t < 12 → U 5 (z_cn V q * 12 + t) = V 5 (q * 12 + t))) sz (by
      intro j U _ hj hI
      obtain ⟨i1, i2, i3⟩ := hI
      have hlt : nI j < nI sz := nI_lt hj (by omega)
      have h41 : U 4 1 = nI sz := by rw [i1 4 (by omega)]; exact g2
      have hf := c_A_field hW M U (k := j) (f := 3) (by omega) (by omega)
      rw [i2 _ (by omega)] at hf
      have hcle : z_cn V j ≤ j := z_ct_le _ _
      by_cases hdue : V 5 (j * 12 + 3) = V 0 2
      · have hc1 : z_cn V (j + 1) = z_cn V j := by rw [z_cn_s, decide_eq_true hdue]; rfl
        refine ⟨U, ?_, i1, fun a ha => i2 a (by omega), fun q hq hqd t ht => ?_⟩
        · rw [hc1]
          conv => lhs; rw [zk_A_dropDue_12]
          simp (disch := first | assumption | omega | exact Nat.le_of_ble_eq_true rfl | decide) only [xo_2_0, xw_16a hW, xo_49, xo_69, xo_5, xo_10_2i, xo_10_2r, xo_10_2n, xo_10_3i, xo_10_3r, xo_10_3n, xo_55, xo_0_3, xo_45, zk_A_dropDue_20, xw_64a_3 hW, xk_v, xk_n, xo_0_1, xo_42, xo_0_2, xw_17a_0 hW, xo_6, xo_22, xo_80, xo_15_2i, xo_15_2r, xo_15_2n, zk_A_dropDue_59, xo_15_3i, xo_15_3r, xo_15_3n, xo_54, xw_18a hW, nI_add, pk_mul, Nat.add_zero, h41, hlt, hf, hdue, if_true, if_false, eq_self, Bool.true_eq_false, Bool.false_eq_true, and_true, true_and, and_false, false_and, or_true, true_or, or_false, false_or, ne_eq, not_true_eq_false, not_false_eq_true, decide_true, decide_false, z_sA_id]
        · exact i3 q (by have : q ≠ j := fun e => hqd (by rw [e]; exact hdue)
                         omega) hqd t ht
      · have hc1 : z_cn V (j + 1) = z_cn V j + 1 := by rw [z_cn_s, decide_eq_false hdue]; rfl
        by_cases hlk : z_cn V j < j
        · have hlt2 : nI (z_cn V j) < nI j := nI_lt hlk (by omega)
          refine ⟨z_sA U 5 (va_cpy (U 5) (U 5) (j * 12) (z_cn V j * 12) 12), ?_, fun c hc => by rw [z_sA_n _ _ _ _ hc]; exact i1 c hc, fun a ha => ?_, fun q hq hqd t ht => ?_⟩
          · rw [hc1]
            conv => lhs; rw [zk_A_dropDue_12]
            simp (disch := first | assumption | omega | exact Nat.le_of_ble_eq_true rfl | decide) only [xo_2_0, xw_16a hW, xo_49, xo_69, xo_5, xo_10_2i, xo_10_2r, xo_10_2n, xo_10_3i, xo_10_3r, xo_10_3n, xo_55, xo_0_3, xo_45, zk_A_dropDue_20, xw_64a_3 hW, xk_v, xk_n, xo_0_1, xo_42, zk_A_dropDue_30, xo_0_2, zk_A_dropDue_35, xw_17a_0 hW, xo_6, xo_22, xo_80, zk_A_dropDue_56, xo_15_2i, xo_15_2r, xo_15_2n, zk_A_dropDue_59, xo_15_3i, xo_15_3r, xo_15_3n, xo_54, xw_18a hW, xw_80_5 hW, nI_add, pk_mul, Nat.add_zero, h41, hlt, hlt2, hf, hdue, if_true, if_false, eq_self, Bool.true_eq_false, Bool.false_eq_true, and_true, true_and, and_false, false_and, or_true, true_or, or_false, false_or, ne_eq, not_true_eq_false, not_false_eq_true, decide_true, decide_false, z_sA_id]
          · rw [z_sA_s, pk_cpy_out (by omega)]; exact i2 a (by omega)
          · rw [z_sA_s]
            by_cases e : q = j
            · subst e
              rw [pk_cpy_in (by omega) (by omega), show q * 12 + (z_cn V q * 12 + t - z_cn V q * 12) = q * 12 + t by omega]
              exact i2 _ (by omega)
            · have : z_cn V q + 1 ≤ z_cn V j := z_ct_lt _ (show q < j by omega) (by simp [hqd])
              rw [pk_cpy_out (by omega)]; exact i3 q (by omega) hqd t ht
        · have hcj2 : z_cn V j = j := by omega
          have hlt2 : ¬ nI (z_cn V j) < nI j := nI_nlt (by omega) (by omega)
          refine ⟨U, ?_, i1, fun a ha => i2 a (by omega), fun q hq hqd t ht => ?_⟩
          · rw [hc1]
            conv => lhs; rw [zk_A_dropDue_12]
            simp (disch := first | assumption | omega | exact Nat.le_of_ble_eq_true rfl | decide) only [xo_2_0, xw_16a hW, xo_49, xo_69, xo_5, xo_10_2i, xo_10_2r, xo_10_2n, xo_10_3i, xo_10_3r, xo_10_3n, xo_55, xo_0_3, xo_45, zk_A_dropDue_20, xw_64a_3 hW, xk_v, xk_n, xo_0_1, xo_42, zk_A_dropDue_30, xo_0_2, xw_17a_0 hW, xo_6, xo_22, xo_80, zk_A_dropDue_56, xo_15_2i, xo_15_2r, xo_15_2n, zk_A_dropDue_59, xo_15_3i, xo_15_3r, xo_15_3n, xo_54, xw_18a hW, nI_add, pk_mul, Nat.add_zero, h41, hlt, hlt2, hf, hdue, if_true, if_false, eq_self, Bool.true_eq_false, Bool.false_eq_true, and_true, true_and, and_false, false_and, or_true, true_or, or_false, false_or, ne_eq, not_true_eq_false, not_false_eq_true, decide_true, decide_false, z_sA_id]
          · by_cases e : q = j
            · subst e
              rw [hcj2]; exact i2 _ (by omega)
            · exact i3 q (by omega) hqd t ht) sz 0 V () (by omega) ⟨fun _ _ => rfl, fun _ _ => rfl, fun q hq => absurd hq (Nat.not_lt_zero q)⟩
    obtain ⟨i1, i2, i3⟩ := hI
    rw [hcsz] at e1
    have hlt : ¬ nI sz < nI sz := nI_nlt (Nat.le_refl _) (by omega)
    have h41 : V' 4 1 = nI sz := by rw [i1 4 (by omega)]; exact g2
    refine ⟨z_w (z_w V' 4 1 (nI (kk + (sz - k)))) 4 2 (nI 0), ?_, ?_⟩
    · have e0 : z_call 47 [.ref (b + 4), .int (V 0 2)] G (wr M b V) = z_ex 47 (z_blk 47 12) [.ref (b + 4), .int (V 0 2), .int (nI (z_cn V 0)), .int (nI 0)] [] G (wr M b V) := by
        show _ = z_ex 47 (z_blk 47 12) [.ref (b + 4), .int (V 0 2), .int (nI 0), .int (nI 0)] [] G (wr M b V)
        simp (disch := first | assumption | omega | exact Nat.le_of_ble_eq_true rfl | decide) only [ze_A_dropDue, zk_A_dropDue_0, xo_2_0, xw_16a hW, xo_49, xo_69, zk_A_dropDue_8, xo_5, xo_10_2i, xo_10_2r, xo_10_2n, xo_10_3i, xo_10_3r, xo_10_3n, xo_55, xo_0_3, xo_45, xw_64a_3 hW, xk_v, xk_n, xo_0_1, xo_42, xo_0_2, xw_17a_0 hW, xo_6, xo_22, xo_80, xo_15_2i, xo_15_2r, xo_15_2n, xo_15_3i, xo_15_3r, xo_15_3n, xo_54, xw_18a hW, hcm, if_true, if_false, eq_self, Bool.true_eq_false, Bool.false_eq_true, and_true, true_and, and_false, false_and, or_true, true_or, or_false, false_or, ne_eq, not_true_eq_false, not_false_eq_true, decide_true, decide_false, z_sA_id]
      rw [e0, e1]
      conv => lhs; rw [zk_A_dropDue_12]
      simp (disch := first | assumption | omega | exact Nat.le_of_ble_eq_true rfl | decide) only [xo_2_0, xw_16a hW, xo_49, xo_69, xo_5, xo_10_2i, xo_10_2r, xo_10_2n, xo_10_3i, xo_10_3r, xo_10_3n, xo_55, xo_0_3, xo_45, xw_64a_3 hW, xk_v, xk_n, xo_0_1, xo_42, xo_0_2, xw_17a_0 hW, xo_6, xo_22, xo_80, xo_15_2i, xo_15_2r, xo_15_2n, xo_15_3i, xo_15_3r, xo_15_3n, xo_54, zk_A_dropDue_65, xw_18a hW, nI_add, pk_mul, Nat.add_zero, h41, hlt, if_true, if_false, eq_self, Bool.true_eq_false, Bool.false_eq_true, and_true, true_and, and_false, false_and, or_true, true_or, or_false, false_or, ne_eq, not_true_eq_false, not_false_eq_true, decide_true, decide_false, z_sA_id]
    · have hUc : ∀ c, c ≠ 4 → c ≠ 5 → z_w (z_w V' 4 1 (nI (kk + (sz - k)))) 4 2 (nI 0) c = V c := fun c e1 e2 => by
        rw [z_w_c _ _ _ _ _ e1, z_w_c _ _ _ _ _ e1]; exact i1 c e2
      have hU5 : z_w (z_w V' 4 1 (nI (kk + (sz - k)))) 4 2 (nI 0) 5 = V' 5 := by rw [z_w_c _ _ _ _ _ (by omega), z_w_c _ _ _ _ _ (by omega)]
      have hU41 : z_w (z_w V' 4 1 (nI (kk + (sz - k)))) 4 2 (nI 0) 4 1 = nI (kk + (sz - k)) := by rw [z_w_n _ _ _ _ _ _ (by omega), z_w_s]
      have hU42 : z_w (z_w V' 4 1 (nI (kk + (sz - k)))) 4 2 (nI 0) 4 2 = nI 0 := z_w_s _ _ _ _
      have hU43 : z_w (z_w V' 4 1 (nI (kk + (sz - k)))) 4 2 (nI 0) 4 3 = V 4 3 := by rw [z_w_n _ _ _ _ _ _ (by omega), z_w_n _ _ _ _ _ _ (by omega), i1 4 (by omega)]
      generalize z_w (z_w V' 4 1 (nI (kk + (sz - k)))) 4 2 (nI 0) = U at hUc hU5 hU41 hU42 hU43 ⊢
      obtain ⟨q1, q2, q3, q4, q5, q6, q7⟩ := h0
      refine ⟨⟨by rw [hUc 0 (by omega) (by omega)]; exact q1, by rw [hUc 0 (by omega) (by omega)]; exact q2, by rw [hUc 0 (by omega) (by omega)]; exact q3, fun j hj => by rw [hUc 1 (by omega) (by omega)]; exact q4 j hj, by rw [hU43]; exact q5, fun j hj => by rw [hUc 6 (by omega) (by omega)]; exact q6 j hj, fun j hj => by rw [hUc 7 (by omega) (by omega)]; exact q7 j hj⟩, z_R1_eq h1 hn (hUc 2 (by omega) (by omega)) (fun _ _ _ => rfl), z_R2_eq h2 hn (fun i _ => hUc _ (by omega) (by omega)) (fun _ _ _ => rfl), fun e => z_R3_eq (h3 e) hn (fun c _ _ => hUc c (by omega) (by omega)) (fun _ _ _ => rfl), ⟨rfl, kk + (sz - k), by omega, hU41, Nat.zero_le _, Nat.zero_le _, ?_, ?_, ?_, fun j hj => absurd hj (Nat.not_lt_zero j), fun p _ p2 => ?_⟩, z_R5_eq h5 (by rw [hUc 0 (by omega) (by omega)]) (hUc 8 (by omega) (by omega)) (fun _ _ => rfl) (fun j _ => by rw [hUc _ (by omega) (by omega)])⟩
      · rw [hU42]; rfl
      · rw [g6]; show nI _ = nI (0 + (kk + (sz - k) - 0)); congr 1; omega
      · show 0 + (kk + (sz - k) - 0) ≤ 300; omega
      · obtain ⟨j, j1, j2, j3⟩ := z_ct_surj (fun j => !decide (V 5 (j * 12 + 3) = V 0 2)) sz p (by
          have : z_cn V sz = z_ct (fun j => !decide (V 5 (j * 12 + 3) = V 0 2)) sz := rfl
          rw [← this, hcsz]; exact p2)
        have j3' : z_cn V j = p := j3
        have hnd : V 5 (j * 12 + 3) ≠ V 0 2 := by simpa using j2
        exact z_LR_eq (hall j j1 hnd) (fun t ht => by rw [hU5, ← j3']; exact i3 j j1 hnd t ht) (fun t ht => by rw [j3']; show s _ = s _; congr 2; show 265 + 13 * (0 + (p - 0)) = _; omega)
end
