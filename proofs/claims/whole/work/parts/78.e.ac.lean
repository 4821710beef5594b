/-! ===== the class's reader: the head, the whole ===== -/
def y_S0 (n : Nat) : Nat → Int32 := fun k => if k = 0 then nI n else if k = 1 then nI 3 else if k = 2 then nI 8 else if k = 3 then nI 4 else if k = 4 then nI 3 else if k = 5 then nI 1 else if 33 ≤ k ∧ k < 33 + n then nI (n - (k - 33)) else nI 0
def z_SUp (p n : Nat) (M : zM) (S : Nat → Int32) : Prop := (M p 0 = nI n ∧ S 0 = nI n) ∧ M p 1 = S 1 ∧ (∀ k, k < 4 → M (p + 1) k = S (2 + k)) ∧ ∀ i, i < n → M (p + 2) i = S (33 + i)
def z_HP (G : zG) (p : Nat) : Prop := 32 ≤ p ∧ z_kd G p = (0, 3) ∧ (z_rf G p 2 = p + 1 ∧ z_rf G p 3 = p + 2) ∧ ((z_kd G (p + 1)).1 = 1 ∧ (z_kd G (p + 1)).2 = 4) ∧ ((z_kd G (p + 2)).1 = 1 ∧ (z_kd G (p + 2)).2 = 8)
theorem nI_sub {n i : Nat} (h : i ≤ n) : nI n - nI i = nI (n - i) := by
  have : nI (n - i + i) - nI i = nI (n - i) := by rw [← nI_add, Int32.add_sub_cancel]
  rwa [Nat.sub_add_cancel h] at this
theorem c_P_plain {G : zG} {p : Nat} (hP : z_HP G p) (M : zM) {n : Nat} (hn : n ≤ 8) : ∃ M', z_call 7 [.ref p, .int (nI n)] G M = some (.inl none, G, M') ∧ z_SUp p n M' (y_S0 n) ∧ ∀ q, q ≠ p → q ≠ p + 1 → q ≠ p + 2 → M' q = M q := by
  obtain ⟨h32, k0, ⟨r2, r3⟩, ⟨p1, p2⟩, p3, p4⟩ := hP
  have g0 : (0 : Nat) < (z_kd G (p + 1)).2 := by omega
  have g1 : (1 : Nat) < (z_kd G (p + 1)).2 := by omega
  have g2 : (2 : Nat) < (z_kd G (p + 1)).2 := by omega
  have g3 : (3 : Nat) < (z_kd G (p + 1)).2 := by omega
  have z2 : z_rf G p 2 ≠ 0 := by omega
  have z3 : z_rf G p 3 ≠ 0 := by omega
  have ne1 : ∀ (x : Nat → Int32), z_sA M p x (p + 1) = M (p + 1) := fun x => z_sA_n _ _ _ _ (by omega)
  obtain ⟨M1, hM1⟩ : ∃ M1, M1 = z_sA (z_sA M p (z_u (z_u (M p) 0 (nI n)) 1 (nI 3))) (p + 1) (z_u (z_u (z_u (z_u (M (p + 1)) 0 (nI 8)) 1 (nI 4)) 2 (nI 3)) 3 (nI 1)) := ⟨_, rfl⟩
  have m0 : M1 p = z_u (z_u (M p) 0 (nI n)) 1 (nI 3) := by rw [hM1, z_sA_n _ _ _ _ (by omega), z_sA_s]
  have m1 : M1 (p + 1) = z_u (z_u (z_u (z_u (M (p + 1)) 0 (nI 8)) 1 (nI 4)) 2 (nI 3)) 3 (nI 1) := by rw [hM1, z_sA_s]
  have mo : ∀ q, q ≠ p → q ≠ p + 1 → M1 q = M q := fun q a b => by rw [hM1, z_sA_n _ _ _ _ b, z_sA_n _ _ _ _ a]
  have e0 : z_call 7 [.ref p, .int (nI n)] G M = z_ex 7 (z_blk 7 41) [.ref p, .int (nI n), .int (nI 0)] [] G (z_sA M1 (p + 2) (z_bw (M1 (p + 2)) 0 0 (fun j => nI n - nI j))) := by
    rw [z_bw_0, z_sA_id, hM1]
    simp (disch := first | assumption | omega | exact Nat.le_of_ble_eq_true rfl | decide) only [ze_P_plain, zk_P_plain_0, xo_2_0, xo_0_1, xo_18, xo_5, xo_17, xo_6, xo_33, xo_10_2i, xo_10_2r, xo_10_2n, xo_55, xo_0_2, xo_45, xo_21, xo_15_2i, xo_15_2r, xo_15_2n, xo_54, xo_69, r2, z_sA_s, z_sA_sA, ne1, if_true, if_false, eq_self, Bool.true_eq_false, Bool.false_eq_true]
  have e := z_chain (fun i => z_ex 7 (z_blk 7 41) [.ref p, .int (nI n), .int (nI i)] [] G (z_sA M1 (p + 2) (z_bw (M1 (p + 2)) 0 i (fun j => nI n - nI j)))) 8 (by
    intro i hi
    have hlt : nI i < nI 8 := nI_lt hi (by omega)
    have hk : i < (z_kd G (p + 2)).2 := by omega
    have h3 : 32 ≤ p + 2 := by omega
    have a5 : z_u (z_bw (M1 (p + 2)) 0 i (fun j => nI n - nI j)) i (nI n - nI i) = z_bw (M1 (p + 2)) 0 (i + 1) (fun j => nI n - nI j) := by
      have := z_bw_u (M1 (p + 2)) 0 i (fun j => nI n - nI j)
      rwa [Nat.zero_add] at this
    conv => lhs; rw [zk_P_plain_41]
    simp (disch := first | assumption | omega | exact Nat.le_of_ble_eq_true rfl | decide) only [xo_2_0, xo_0_1, xo_18, xo_5, xo_17, xo_6, xo_33, xo_10_2i, xo_10_2r, xo_10_2n, xo_55, xo_0_2, xo_45, zk_P_plain_47, xo_21, xo_15_2i, xo_15_2r, xo_15_2n, xo_54, xo_69, hlt, r3, z_sA_s, z_sA_sA, a5, nI_add, if_true, if_false, eq_self, Bool.true_eq_false, Bool.false_eq_true]) 8 0 (by omega)
  have hlt : ¬ nI 8 < nI 8 := nI_nlt (Nat.le_refl _) (by omega)
  refine ⟨z_sA M1 (p + 2) (z_bw (M1 (p + 2)) 0 8 (fun j => nI n - nI j)), ?_, ⟨⟨?_, rfl⟩, ?_, fun k hk => ?_, fun i hi => ?_⟩, fun q a b c => ?_⟩
  · rw [e0, e]
    conv => lhs; rw [zk_P_plain_41]
    simp (disch := first | assumption | omega | exact Nat.le_of_ble_eq_true rfl | decide) only [xo_2_0, xo_0_1, xo_18, xo_5, xo_17, xo_6, xo_33, xo_10_2i, xo_10_2r, xo_10_2n, xo_55, xo_0_2, xo_45, xo_21, xo_15_2i, xo_15_2r, xo_15_2n, xo_54, zk_P_plain_62, xo_69, hlt, if_true, if_false, eq_self, Bool.true_eq_false, Bool.false_eq_true]
  · rw [z_sA_n _ _ _ _ (by omega), m0, z_u_n _ _ _ _ (by omega), z_u_s]
  · rw [z_sA_n _ _ _ _ (by omega), m0, z_u_s]; rfl
  · rw [z_sA_n _ _ _ _ (by omega), m1]
    match k, hk with
    | 0, _ => rfl
    | 1, _ => rfl
    | 2, _ => rfl
    | 3, _ => rfl
    | k + 4, h => exact absurd h (by omega)
  · rw [z_sA_s, show z_bw (M1 (p + 2)) 0 8 (fun j => nI n - nI j) i = nI n - nI i by rw [z_bw_at _ _ _ _ _ (by omega) (by omega), Nat.sub_zero], nI_sub (by omega)]
    unfold y_S0
    rw [if_neg (by omega), if_neg (by omega), if_neg (by omega), if_neg (by omega), if_neg (by omega), if_neg (by omega), if_pos (by omega), show 33 + i - 33 = i by omega]
  · rw [z_sA_n _ _ _ _ c]; exact mo q a b
/-- the end of a line -/
def y_en (T : Nat → Int32) (sz b : Nat) : (Nat × Nat) ⊕ Nat := if y_at T sz (y_sk T (sz - b) b) = nI 59 then .inr (y_sk T (sz - b) b + 1) else .inl (1, y_sk T (sz - b) b)
def y_h2 (T : Nat → Int32) (sz : Nat) : (Nat × Nat) ⊕ (Nat × Nat × Nat) → (Nat × Nat) ⊕ (Nat × Nat)
  | .inl f => .inl f
  | .inr (b, v, _) => match y_en T sz b with
    | .inl f => .inl f
    | .inr c => .inr (v, c)
def y_hd (T : Nat → Int32) (sz : Nat) : (Nat × Nat) ⊕ (Nat × Nat) := if y_is T (y_sk T sz 0) (y_we T (sz - y_sk T sz 0) (y_sk T sz 0)) (z_tx 6) = true then y_h2 T sz (y_num T sz 2 8 (y_we T (sz - y_sk T sz 0) (y_sk T sz 0))) else .inl (1, y_sk T sz 0)
theorem en_b {T : Nat → Int32} {sz b c : Nat} (hb : b ≤ sz) (h : y_en T sz b = .inr c) : b < c ∧ c ≤ sz := by
  have s := sk_b T (sz - b) b
  unfold y_en at h
  split at h
  · rename_i h2
    cases h
    unfold y_at at h2
    split at h2
    · omega
    · exact absurd h2 (by decide)
  · cases h
section
variable {G : zG} {sz a n L : Nat}
theorem c_T_end (hT : z_HT G) (M : zM) (h4 : M 35 4 = nI sz) (hsz : sz ≤ 200) (h5 : M 35 5 = nI a) (ha : a ≤ sz) : ∃ M', z_call 69 [.ref 35] G M = some (.inl (some (.int (z_b (y_en (M 33) sz a).isRight))), G, M') ∧ z_T M M' ∧ (∀ k p, y_en (M 33) sz a = .inl (k, p) → M' 35 1 = nI k ∧ M' 35 2 = nI p) ∧ ∀ c, y_en (M 33) sz a = .inr c → M' 35 5 = nI c := by
  obtain ⟨M', c1, t1, f1, g1⟩ := c_T_takeEnd hT M h4 hsz h5 ha
  refine ⟨M', ?_, t1, ?_, ?_⟩
  · rw [c1]
    unfold y_en
    split
    · rename_i h; rw [decide_eq_true h]; rfl
    · rename_i h; rw [decide_eq_false h]; rfl
  · intro k p h
    unfold y_en at h
    split at h
    · cases h
    · rename_i h2; cases h; exact g1 h2
  · intro c h
    unfold y_en at h
    split at h
    · rename_i h2; cases h; exact f1 h2
    · cases h
theorem HT_P (hT : z_HT G) : z_HP G 36 := by
  obtain ⟨k35, ⟨r0, r3⟩, k36, ⟨s2, s3⟩, p12, p34, p56⟩ := hT
  exact ⟨by omega, k36, ⟨s2, s3⟩, p12, p34⟩
theorem c_T_takeHead (hT : z_HT G) (M : zM) (h4 : M 35 4 = nI sz) (hsz : sz ≤ 200) (h5 : M 35 5 = nI 0) (hY : ∀ k, k < sz → ∃ u, u < 256 ∧ M 33 k = nI u) : ∃ M', z_call 62 [.ref 35] G M = some (.inl (some (.int (z_b (y_hd (M 33) sz).isRight))), G, M') ∧ z_TS M M' ∧ M' 35 8 = M 35 8 ∧ (∀ k p, y_hd (M 33) sz = .inl (k, p) → M' 35 1 = nI k ∧ M' 35 2 = nI p) ∧ ∀ n b, y_hd (M 33) sz = .inr (n, b) → M' 35 5 = nI b ∧ b ≤ sz ∧ z_SU n M' (y_S0 n) ∧ 2 ≤ n ∧ n ≤ 8 := by
  have c1 := c_T_skip hT M h4 hsz h5 (by omega)
  rw [Nat.sub_zero] at c1
  have sb := sk_b (M 33) sz 0
  unfold y_hd
  generalize y_sk (M 33) sz 0 = e at c1 sb
  have b4 := (ta_4 M e (f := 4) (by omega)).trans h4
  have b5 := ta_5 M e
  have b3 : ta M e 33 = M 33 := ta_o M e (by omega)
  have b8 := ta_4 M e (f := 8) (by omega)
  have tt := T_ta M e
  generalize ta M e = M1 at c1 b4 b5 b3 b8 tt
  have c2 := c_T_wordEnd hT M1 b4 hsz b5 (by omega)
  rw [b3] at c2
  have wb := we_b (M 33) (sz - e) e
  generalize y_we (M 33) (sz - e) e = w at c2 wb
  have c3 := c_T_isWord hT M1 b5 (e := w) (by omega) (by omega) (p := 6) (by omega) (by omega) (by decide)
  rw [b3] at c3
  generalize y_is (M 33) e w (z_tx 6) = q at c3
  have hT0 := hT
  obtain ⟨k35, ⟨r0, r3⟩, k36, ⟨s2, s3⟩, ⟨p1, p2⟩, ⟨p3, p4⟩, p5, p6⟩ := id hT; have kt : ∀ a, z_rc a = 4 → z_kd G 35 = (0, z_rc a) := fun a h => (by rw [h]; exact k35)
  have h0 : z_rf G 35 0 ≠ 0 := by omega
  cases q with
  | false =>
    rw [if_neg (by decide)]
    have hf := c_T_fails hT0 M1 (nI 1) (nI e)
    refine ⟨tf M1 (nI 1) (nI e), ?_, TS_T (T_trans tt (T_tf _ _ _)), (T_trans tt (T_tf _ _ _)).2 8 (Or.inr rfl), fun k p h => (by cases h; exact tf_12 _ _ _), fun n b h => (by cases h)⟩
    simp (disch := first | assumption | exact kt _ rfl | omega | exact Nat.le_of_ble_eq_true rfl | decide) only [ze_T_takeHead, zk_T_takeHead_0, xo_2_0, xo_64_1, xk_v, xk_n, xo_10_1i, xo_10_1r, xo_10_1n, xo_79, xo_0_1, xo_64_3, xo_49, zk_T_takeHead_19, xo_5, xo_16, xo_72a, xo_72b, xo_18, xo_6, xo_17, xo_64_2, c1, c2, c3, z_b0, b5, hf, if_true, if_false, eq_self, Bool.true_eq_false, Bool.false_eq_true]
    rfl
  | true =>
    rw [if_pos rfl]
    have tw := T_ta M1 w
    have w4 := (ta_4 M1 w (f := 4) (by omega)).trans b4
    have w5 := ta_5 M1 w
    have w3 : ta M1 w 33 = M 33 := (ta_o M1 w (by omega)).trans b3
    have e0 : z_call 62 [.ref 35] G M = z_k 64 62 [(49, 46, 44, 0, 41)] [.ref 35, .int (nI w)] [] (z_call 67 [.ref 35, .int (nI 2), .int (nI 8)] G (ta M1 w)) := by
      have et : z_sA M1 35 (z_u (M1 35) 5 (nI w)) = ta M1 w := rfl
      simp (disch := first | assumption | exact kt _ rfl | omega | exact Nat.le_of_ble_eq_true rfl | decide) only [ze_T_takeHead, zk_T_takeHead_0, xo_2_0, xo_64_1, xk_v, xk_n, xo_10_1i, xo_10_1r, xo_10_1n, xo_79, xo_0_1, xo_64_3, xo_49, xo_5, xo_16, xo_72a, xo_72b, zk_T_takeHead_29, xo_18, xo_6, xo_17, xo_64_2, c1, c2, c3, z_b0, et, if_true, if_false, eq_self, Bool.true_eq_false, Bool.false_eq_true]
    obtain ⟨M2, d1, t2, d3, d4⟩ := c_T_takeNumber hT0 (ta M1 w) w4 hsz w5 (by omega) (by rw [w3]; exact hY) (lo := 2) (hi := 8) (by omega) (by omega)
    rw [w3] at d1 d3 d4
    have t02 := T_trans tt (T_trans tw t2)
    rw [e0, d1]
    generalize hq : y_num (M 33) sz 2 8 w = q at d3 d4
    rcases q with ⟨k, p⟩ | ⟨b, v, p⟩
    · refine ⟨M2, ?_, TS_T t02, t02.2 8 (Or.inr rfl), fun k' p' h => (by cases h; exact d3 _ _ rfl), fun n b h => (by cases h)⟩
      have zz : z_b (Sum.inl (k, p) : (Nat × Nat) ⊕ (Nat × Nat × Nat)).isRight = nI 0 := rfl
      rw [zz]
      simp (disch := first | assumption | exact kt _ rfl | omega | exact Nat.le_of_ble_eq_true rfl | decide) only [xo_2_0, xo_64_1, xk_v, xk_n, xo_10_1i, xo_10_1r, xo_10_1n, xo_79, xo_0_1, xo_64_3, xo_49, xo_5, xo_16, xo_72a, xo_72b, xo_18, xo_6, zk_T_takeHead_44, xo_17, xo_64_2, zer0, if_true, if_false, eq_self, Bool.true_eq_false, Bool.false_eq_true]
      rfl
    · obtain ⟨n1, n2, n3, n4⟩ := num_b (by omega) hq
      obtain ⟨g5, g6, g7⟩ := d4 b v p rfl
      have zz : z_b (Sum.inr (b, v, p) : (Nat × Nat) ⊕ (Nat × Nat × Nat)).isRight = nI 1 := rfl
      obtain ⟨M3, x1, x2, x3⟩ := c_P_plain (HT_P hT0) M2 (n := v) (by omega)
      have y35 : M3 35 = M2 35 := x3 35 (by omega) (by omega) (by omega)
      have y33 : M3 33 = M 33 := (x3 33 (by omega) (by omega) (by omega)).trans (t02.1 33 (by omega))
      obtain ⟨M4, v1, v2, v3, v4⟩ := c_T_end hT0 M3 (a := b) (sz := sz) (by rw [y35]; exact (t02.2 4 (Or.inl rfl)).trans h4) hsz (by rw [y35]; exact g5) n1
      rw [y33] at v1 v3 v4
      have ts : z_TS M M4 := TS_trans (TS_T t02) (TS_trans ⟨fun q hq => x3 q (by omega) (by omega) (by omega), by rw [y35]⟩ (TS_T v2))
      refine ⟨M4, ?_, ts, by rw [v2.2 8 (Or.inr rfl), y35]; exact t02.2 8 (Or.inr rfl), fun k' p' h => ?_, fun n c h => ?_⟩
      · rw [zz]
        have k36' : ∀ a, z_rc a = 3 → z_kd G 36 = (0, z_rc a) := fun a h => (by rw [h]; exact k36)
        have ri : (y_h2 (M 33) sz (Sum.inr (b, v, p))).isRight = (y_en (M 33) sz b).isRight := by
          dsimp only [y_h2]
          cases y_en (M 33) sz b <;> rfl
        rw [ri]
        simp (disch := first | assumption | exact kt _ rfl | exact k36' _ rfl | omega | exact Nat.le_of_ble_eq_true rfl | decide) only [xo_2_0, xo_64_1, xk_v, xk_n, xo_10_1i, xo_10_1r, xo_10_1n, xo_79, xo_0_1, xo_64_3, xo_49, xo_5, xo_16, xo_72a, xo_72b, xo_18, xo_6, zk_T_takeHead_46, xo_17, xo_64_2, one0, r0, g6, x1, v1, xo_72z, if_true, if_false, eq_self, Bool.true_eq_false, Bool.false_eq_true]
      · dsimp only [y_h2] at h
        generalize hu : y_en (M 33) sz b = u at h v3
        rcases u with f | c
        · cases h; exact v3 _ _ rfl
        · cases h
      · dsimp only [y_h2] at h
        generalize hu : y_en (M 33) sz b = u at h v4
        rcases u with f | c'
        · cases h
        · cases h
          exact ⟨v4 _ rfl, (en_b n1 hu).2, SU_T x2 v2, n4, n3⟩
end
