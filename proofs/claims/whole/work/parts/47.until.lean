/-! ===== until all is ONE: in both ===== -/
def z_on : Option Nat → Int32
  | none => nI 4294967295
  | some k => nI k
def f_un (n : Nat) : Nat → (Nat → Int32) → Option Nat
  | 0, s => if f_one n s = true then some 0 else none
  | r + 1, s => if f_one n s = true then some 0 else (f_un n r (f_tk n s)).map (fun k => k + 1)
theorem mm_mm (M : zM) (s nw t nw2 : Nat → Int32) (h h2 : Nat) : mm (mm M s nw h) t nw2 h2 = mm M t nw2 (h + h2) := by
  have e455 := mm_m M s nw h
  have h18 : z_u (M 455) 18 (M 455 18 + nI h) 18 = M 455 18 + nI h := z_u_s _ _ _
  have hadd : M 455 18 + nI h + nI h2 = M 455 18 + nI (h + h2) := by rw [Int32.add_assoc, nI_add]
  unfold mm at e455 ⊢
  rw [e455, z_u_u, h18, hadd]
  rw [z_sA_comm _ 458 455 _ _ (by omega), z_sA_comm _ 471 455 _ _ (by omega), z_sA_sA, z_sA_comm _ 458 471 _ _ (by omega), z_sA_sA, z_sA_sA]
theorem c_M_untilNow {G : zG} (hM : z_HM G) (M : zM) {n J B : Nat} (hF : z_F n J B (M 458)) (hB : B ≤ 70000000) : ∃ s nw h, z_call 235 [.ref 455] G M = some (.inl (some (.int (z_on (f_un n 300 (M 458))))), G, mm M s nw h) := by
  obtain ⟨k0, ⟨r1, r8, r9, r10, r11, r12, r13, r17⟩, ⟨q1, q2⟩, ⟨q3, q4⟩, ⟨q5, q6⟩, ⟨q7, q8⟩, ⟨q9, q10⟩, ⟨q11, q12⟩, ⟨q13, q14⟩, ⟨q15, q16⟩, hp⟩ := id hM; have kr : ∀ a, z_rc a = 7 → z_kd G 455 = (0, z_rc a) := fun a h => (by rw [h]; exact k0)
  have hn : n ≤ 8 := hF.1.1.2
  have e0 : z_call 235 [.ref 455] G M = z_ex 235 (z_blk 235 2) [.ref 455, .int (nI 0)] [] G M := by
    simp only [ze_M_untilNow, zk_M_untilNow_0, xo_5, xo_10_1i, xo_10_1r, xo_10_1n, xo_55, xo_0_1, xo_7, xo_46, xo_2_0, xo_64_1, xk_v, xk_n, xo_48, xo_70, xo_45, xo_15_1i, xo_15_1r, xo_15_1n, xo_54]
  have e : ∀ r k B' s nw h, k + r = 300 → z_F n J B' s → B' ≤ 70000000 + 308 * k → ∃ s' nw' h', z_ex 235 (z_blk 235 2) [.ref 455, .int (nI k)] [] G (mm M s nw h) = some (.inl (some (.int (z_on ((f_un n r s).map (fun q => q + k))))), G, mm M s' nw' h') := by
    intro r
    induction r with
    | zero =>
      intro k B' s nw h hk hF hB
      have hk3 : k = 300 := by omega
      subst hk3
      have h0 : mm M s nw h 458 0 = nI n := by rw [mm_s]; exact hF.1.1.1
      have ho := c_M_isOne hM (mm M s nw h) h0 hn
      rw [mm_s] at ho
      have hle : ¬ nI 300 < nI 300 := nI_nlt (Nat.le_refl _) (by omega)
      have hgt : nI 300 < nI 301 := nI_lt (by omega) (by omega)
      refine ⟨s, nw, h, ?_⟩
      unfold f_un
      cases h1 : f_one n s
      · rw [h1] at ho
        rw [if_neg (by decide)]
        conv => lhs; rw [zk_M_untilNow_2]
        simp (disch := first | assumption | exact kr _ rfl | omega | exact Nat.le_of_ble_eq_true rfl) only [xo_5, xo_10_1i, xo_10_1r, xo_10_1n, xo_55, xo_0_1, xo_7, xo_46, zk_M_untilNow_9, xo_2_0, xo_64_1, xk_v, xk_n, xo_48, xo_70, zk_M_untilNow_18, xo_45, zk_M_untilNow_29, xo_15_1i, xo_15_1r, xo_15_1n, xo_54, nI_add, pk_mul, Nat.add_zero, z_sA_s, z_sA_sA, z_u_s, hle, zr_M_isOne, ho, z_b0, if_true, if_false, eq_self, Bool.true_eq_false, Bool.false_eq_true, and_true, true_and, and_false, false_and, or_true, true_or, or_false, false_or, ne_eq, not_true_eq_false, not_false_eq_true, decide_true, decide_false, z_sA_id]
        conv => lhs; rw [zk_M_untilNow_2]
        simp (disch := first | assumption | exact kr _ rfl | omega | exact Nat.le_of_ble_eq_true rfl) only [xo_5, xo_10_1i, xo_10_1r, xo_10_1n, xo_55, xo_0_1, xo_7, xo_46, xo_2_0, xo_64_1, xk_v, xk_n, xo_48, xo_70, xo_45, xo_15_1i, xo_15_1r, xo_15_1n, xo_54, zk_M_untilNow_35, hgt, if_true, if_false, eq_self, Bool.true_eq_false, Bool.false_eq_true, and_true, true_and, and_false, false_and, or_true, true_or, or_false, false_or, ne_eq, not_true_eq_false, not_false_eq_true, decide_true, decide_false, z_sA_id]
        rfl
      · rw [h1] at ho
        rw [if_pos rfl]
        conv => lhs; rw [zk_M_untilNow_2]
        simp (disch := first | assumption | exact kr _ rfl | omega | exact Nat.le_of_ble_eq_true rfl) only [xo_5, xo_10_1i, xo_10_1r, xo_10_1n, xo_55, xo_0_1, xo_7, xo_46, zk_M_untilNow_9, xo_2_0, xo_64_1, xk_v, xk_n, xo_48, zk_M_untilNow_16, xo_70, xo_45, xo_15_1i, xo_15_1r, xo_15_1n, xo_54, nI_add, pk_mul, Nat.add_zero, z_sA_s, z_sA_sA, z_u_s, hle, zr_M_isOne, ho, z_b0, if_true, if_false, eq_self, Bool.true_eq_false, Bool.false_eq_true, and_true, true_and, and_false, false_and, or_true, true_or, or_false, false_or, ne_eq, not_true_eq_false, not_false_eq_true, decide_true, decide_false, z_sA_id]
        rfl
    | succ r ih =>
      intro k B' s nw h hk hF hB
      have h0 : mm M s nw h 458 0 = nI n := by rw [mm_s]; exact hF.1.1.1
      have ho := c_M_isOne hM (mm M s nw h) h0 hn
      rw [mm_s] at ho
      have hle : ¬ nI 300 < nI k := nI_nlt (by omega) (by omega)
      have hlt : nI k < nI 300 := nI_lt (by omega) (by omega)
      unfold f_un
      cases h1 : f_one n s
      · rw [h1] at ho
        rw [if_neg (by decide)]
        obtain ⟨nw2, et, Ft⟩ := c_M_tick hM (mm M s nw h) (n := n) (J := J) (B := B') (by rw [mm_s]; exact hF) (by omega)
        rw [mm_s, mm_mm] at et
        rw [mm_s] at Ft
        obtain ⟨s', nw', h', e'⟩ := ih (k + 1) (B' + 308) (f_tk n s) nw2 (h + f_hn n s) (by omega) Ft (by omega)
        refine ⟨s', nw', h', ?_⟩
        have hmap : ((f_un n r (f_tk n s)).map (fun q => q + 1)).map (fun q => q + k) = (f_un n r (f_tk n s)).map (fun q => q + (k + 1)) := by
          rw [Option.map_map]; congr 1; funext q; show q + 1 + k = q + (k + 1); omega
        rw [hmap, ← e']
        conv => lhs; rw [zk_M_untilNow_2]
        simp (disch := first | assumption | exact kr _ rfl | omega | exact Nat.le_of_ble_eq_true rfl) only [xo_5, xo_10_1i, xo_10_1r, xo_10_1n, xo_55, xo_0_1, xo_7, xo_46, zk_M_untilNow_9, xo_2_0, xo_64_1, xk_v, xk_n, xo_48, xo_70, zk_M_untilNow_18, xo_45, zk_M_untilNow_25, zk_M_untilNow_29, xo_15_1i, xo_15_1r, xo_15_1n, xo_54, nI_add, pk_mul, Nat.add_zero, z_sA_s, z_sA_sA, z_u_s, hle, hlt, zr_M_isOne, ho, zr_M_tick, et, z_b0, if_true, if_false, eq_self, Bool.true_eq_false, Bool.false_eq_true, and_true, true_and, and_false, false_and, or_true, true_or, or_false, false_or, ne_eq, not_true_eq_false, not_false_eq_true, decide_true, decide_false, z_sA_id]
      · rw [h1] at ho
        rw [if_pos rfl]
        refine ⟨s, nw, h, ?_⟩
        conv => lhs; rw [zk_M_untilNow_2]
        simp (disch := first | assumption | exact kr _ rfl | omega | exact Nat.le_of_ble_eq_true rfl) only [xo_5, xo_10_1i, xo_10_1r, xo_10_1n, xo_55, xo_0_1, xo_7, xo_46, zk_M_untilNow_9, xo_2_0, xo_64_1, xk_v, xk_n, xo_48, zk_M_untilNow_16, xo_70, xo_45, xo_15_1i, xo_15_1r, xo_15_1n, xo_54, nI_add, pk_mul, Nat.add_zero, z_sA_s, z_sA_sA, z_u_s, hle, zr_M_isOne, ho, z_b0, if_true, if_false, eq_self, Bool.true_eq_false, Bool.false_eq_true, and_true, true_and, and_false, false_and, or_true, true_or, or_false, false_or, ne_eq, not_true_eq_false, not_false_eq_true, decide_true, decide_false, z_sA_id]
        show _ = some (Sum.inl (some (Value.int (nI (0 + k)))), G, mm M s nw h)
        rw [Nat.zero_add]
  have hM0 : mm M (M 458) (M 471) 0 = M := by
    unfold mm
    have h0 : nI 0 = 0 := nI_0
    rw [h0, Int32.add_zero]
    have h1 : z_u (M 455) 18 (M 455 18) = M 455 := by funext q; unfold z_u; split <;> simp_all
    rw [h1, z_sA_id, z_sA_id, z_sA_id]
  obtain ⟨s', nw', h', e'⟩ := e 300 0 B (M 458) (M 471) 0 (by omega) hF (by omega)
  rw [hM0] at e'
  refine ⟨s', nw', h', ?_⟩
  rw [e0, e']
  have : (f_un n 300 (M 458)).map (fun q => q + 0) = f_un n 300 (M 458) := by cases f_un n 300 (M 458) <;> rfl
  rw [this]
theorem R_wks {kp : Nat × Nat} {n J B Bf : Nat} {V : zM} {s : Nat → Int32} (h : z_R false kp n B V s) (hF : z_F n J Bf s) : z_R false kp n B V (f_tas n (f_wks n s)) := by
  have hn : n ≤ 8 := hF.1.1.2
  have h1 := z_fd_inv (f := f_wk n) (fun _ t => z_R false kp n B V t ∧ z_F n J Bf t) n 0 s ⟨h, hF⟩ (by
    intro i t _ hi hI
    obtain ⟨hR, hT⟩ := hI
    refine ⟨?_, (FX_wk hT (by omega)).1⟩
    obtain ⟨hJ, hJ1, hJ6⟩ := hT.2.2.1
    have hz : z_n (t 1) = J := by rw [hJ]; exact z_nN (by omega)
    have hb := f_be_lt t i (f_po n t i) J hJ6
    unfold f_wk
    rw [hz]
    generalize f_be t i (f_po n t i) J = c at hb ⊢
    split
    · exact hR
    · exact R_ms (R_ms hR hn (by omega) (Or.inl (by omega)) _) hn (by omega) (Or.inl (by omega)) _)
  have h2 := z_fd_inv (f := f_ta) (fun _ t => z_R false kp n B V t ∧ z_F n J Bf t) n 0 (f_wks n s) h1 (by
    intro i t _ hi hI
    obtain ⟨hR, hT⟩ := hI
    refine ⟨?_, (FX_ta hT (by omega)).1⟩
    obtain ⟨a, a1, a2⟩ := F_0 hT (show i < n by omega)
    unfold f_ta
    rw [a2, z_nN (show a < 2 ^ 31 by omega)]
    exact R_ms hR hn (by omega) (Or.inr (by omega)) _)
  exact h2.1
theorem s_C_untilOne {G : zG} {b : Nat} {n J B Bf : Nat} {V : zM} {s : Nat → Int32} (hW : z_HW G b) (M : zM) (h : z_R false (0, 0) n B V s) (hF : z_F n J Bf s) (hB : B ≤ 100000000) (hBf : Bf ≤ 70000000) : ∃ V', z_call 33 [.ref b] G (wr M b V) = some (.inl (some (.int (z_on (f_un n 300 s)))), G, wr M b V') := by
  have hn : n ≤ 8 := hF.1.1.2
  have hpos : ∀ k, 1 ≤ k → k ≤ 400 → (0 : Int32) < nI k := fun k h1 h2 => by
    have := nI_lt (a := 0) (b := k) (by omega) (by omega)
    rw [nI_0] at this; exact this
  have e : ∀ r k B' Bf' V s, 1 ≤ k → k + r = 300 → z_R false (0, 0) n B' V s → z_F n J Bf' s → B' ≤ 100000000 + 308 * k → Bf' ≤ 70000000 + 308 * k → ∃ V', z_ex 33 (z_blk 33 2) [.ref b, .int (nI k)] [] G (wr M b V) = some (.inl (some (.int (z_on ((f_un n r (f_tk n s)).map (fun q => q + k))))), G, wr M b V') := by
    intro r
    induction r with
    | zero =>
      intro k B' Bf' V s hk1 hk h hF hB hBf
      have hk3 : k = 300 := by omega
      subst hk3
      have hle : ¬ nI 300 < nI 300 := nI_nlt (Nat.le_refl _) (by omega)
      have hgt : nI 300 < nI 301 := nI_lt (by omega) (by omega)
      have hp := hpos 300 (by omega) (by omega)
      obtain ⟨V1, e1, R1, F1⟩ := s_W_exchange hW M h hF (by omega) (by omega)
      have R2 := R_wks R1 F1
      have F2 := F_tk hF (by omega)
      have ho := s_S_isOne hW M (s := f_tk n s) R2 F2
      refine ⟨V1, ?_⟩
      unfold f_un
      cases h1 : f_one n (f_tk n s)
      · rw [h1] at ho
        rw [if_neg (by decide)]
        conv => lhs; rw [zk_C_untilOne_2]
        simp (disch := first | assumption | omega | exact Nat.le_of_ble_eq_true rfl | decide) only [xo_5, xo_10_1i, xo_10_1r, xo_10_1n, xo_55, xo_0_1, xo_7, xo_46, zk_C_untilOne_9, xo_53, zk_C_untilOne_13, xo_2_0, xw_64w_1 hW, xk_v, xk_n, xo_41, zk_C_untilOne_18, xo_63_1, xo_48, xo_70, zk_C_untilOne_27, xo_15_1i, xo_15_1r, xo_15_1n, xo_54, nI_add, pk_mul, Nat.add_zero, hle, hp, e1, ho, z_b0, if_true, if_false, eq_self, Bool.true_eq_false, Bool.false_eq_true]
        conv => lhs; rw [zk_C_untilOne_2]
        simp (disch := first | assumption | omega | exact Nat.le_of_ble_eq_true rfl | decide) only [xo_5, xo_10_1i, xo_10_1r, xo_10_1n, xo_55, xo_0_1, xo_7, xo_46, xo_53, xo_2_0, xw_64w_1 hW, xk_v, xk_n, xo_41, xo_63_1, xo_48, xo_70, xo_15_1i, xo_15_1r, xo_15_1n, xo_54, zk_C_untilOne_33, hgt, if_true, if_false, eq_self, Bool.true_eq_false, Bool.false_eq_true]
        rfl
      · rw [h1] at ho
        rw [if_pos rfl]
        conv => lhs; rw [zk_C_untilOne_2]
        simp (disch := first | assumption | omega | exact Nat.le_of_ble_eq_true rfl | decide) only [xo_5, xo_10_1i, xo_10_1r, xo_10_1n, xo_55, xo_0_1, xo_7, xo_46, zk_C_untilOne_9, xo_53, zk_C_untilOne_13, xo_2_0, xw_64w_1 hW, xk_v, xk_n, xo_41, zk_C_untilOne_18, xo_63_1, xo_48, zk_C_untilOne_25, xo_70, xo_15_1i, xo_15_1r, xo_15_1n, xo_54, nI_add, pk_mul, Nat.add_zero, hle, hp, e1, ho, z_b0, if_true, if_false, eq_self, Bool.true_eq_false, Bool.false_eq_true]
        rfl
    | succ r ih =>
      intro k B' Bf' V s hk1 hk h hF hB hBf
      have hle : ¬ nI 300 < nI k := nI_nlt (by omega) (by omega)
      have hp := hpos k hk1 (by omega)
      obtain ⟨V1, e1, R1, F1⟩ := s_W_exchange hW M h hF (by omega) (by omega)
      have R2 := R_wks R1 F1
      have F2 := F_tk hF (by omega)
      have ho := s_S_isOne hW M (s := f_tk n s) R2 F2
      unfold f_un
      cases h1 : f_one n (f_tk n s)
      · rw [h1] at ho
        rw [if_neg (by decide)]
        obtain ⟨V2, e2⟩ := ih (k + 1) (B' + 308) (Bf' + 308) V1 (f_tk n s) (by omega) (by omega) R2 F2 (by omega) (by omega)
        refine ⟨V2, ?_⟩
        have hmap : ((f_un n r (f_tk n (f_tk n s))).map (fun q => q + 1)).map (fun q => q + k) = (f_un n r (f_tk n (f_tk n s))).map (fun q => q + (k + 1)) := by
          rw [Option.map_map]; congr 1; funext q; show q + 1 + k = q + (k + 1); omega
        rw [hmap, ← e2]
        conv => lhs; rw [zk_C_untilOne_2]
        simp (disch := first | assumption | omega | exact Nat.le_of_ble_eq_true rfl | decide) only [xo_5, xo_10_1i, xo_10_1r, xo_10_1n, xo_55, xo_0_1, xo_7, xo_46, zk_C_untilOne_9, xo_53, zk_C_untilOne_13, xo_2_0, xw_64w_1 hW, xk_v, xk_n, xo_41, zk_C_untilOne_18, xo_63_1, xo_48, xo_70, zk_C_untilOne_27, xo_15_1i, xo_15_1r, xo_15_1n, xo_54, nI_add, pk_mul, Nat.add_zero, hle, hp, e1, ho, z_b0, if_true, if_false, eq_self, Bool.true_eq_false, Bool.false_eq_true]
      · rw [h1] at ho
        rw [if_pos rfl]
        refine ⟨V1, ?_⟩
        conv => lhs; rw [zk_C_untilOne_2]
        simp (disch := first | assumption | omega | exact Nat.le_of_ble_eq_true rfl | decide) only [xo_5, xo_10_1i, xo_10_1r, xo_10_1n, xo_55, xo_0_1, xo_7, xo_46, zk_C_untilOne_9, xo_53, zk_C_untilOne_13, xo_2_0, xw_64w_1 hW, xk_v, xk_n, xo_41, zk_C_untilOne_18, xo_63_1, xo_48, zk_C_untilOne_25, xo_70, xo_15_1i, xo_15_1r, xo_15_1n, xo_54, nI_add, pk_mul, Nat.add_zero, hle, hp, e1, ho, z_b0, if_true, if_false, eq_self, Bool.true_eq_false, Bool.false_eq_true]
        show _ = some (Sum.inl (some (Value.int (nI (0 + k)))), G, wr M b V1)
        rw [Nat.zero_add]
  have e0 : z_call 33 [.ref b] G (wr M b V) = z_ex 33 (z_blk 33 2) [.ref b, .int (nI 0)] [] G (wr M b V) := by
    simp only [ze_C_untilOne, zk_C_untilOne_0, xo_5, xo_10_1i, xo_10_1r, xo_10_1n, xo_55, xo_0_1, xo_7, xo_46, xo_53, xo_2_0, xo_64_1, xk_v, xk_n, xo_41, xo_63_1, xo_48, xo_70, xo_15_1i, xo_15_1r, xo_15_1n, xo_54]
  rw [e0]
  have hle : ¬ nI 300 < nI 0 := nI_nlt (by omega) (by omega)
  have hp0 : ¬ (0 : Int32) < nI 0 := by decide
  have ho := s_S_isOne hW M h hF
  show ∃ V', _ = some (Sum.inl (some (Value.int (z_on (if f_one n s = true then some 0 else (f_un n 299 (f_tk n s)).map (fun k => k + 1))))), G, wr M b V')
  cases h1 : f_one n s
  · rw [h1] at ho
    rw [if_neg (by decide)]
    obtain ⟨V2, e2⟩ := e 299 1 B Bf V s (by omega) (by omega) h hF (by omega) (by omega)
    refine ⟨V2, ?_⟩
    rw [← e2]
    conv => lhs; rw [zk_C_untilOne_2]
    simp (disch := first | assumption | omega | exact Nat.le_of_ble_eq_true rfl | decide) only [xo_5, xo_10_1i, xo_10_1r, xo_10_1n, xo_55, xo_0_1, xo_7, xo_46, zk_C_untilOne_9, xo_53, xo_2_0, xw_64w_1 hW, xk_v, xk_n, xo_41, zk_C_untilOne_18, xo_63_1, xo_48, xo_70, zk_C_untilOne_27, xo_15_1i, xo_15_1r, xo_15_1n, xo_54, nI_add, pk_mul, Nat.add_zero, hle, hp0, ho, z_b0, if_true, if_false, eq_self, Bool.true_eq_false, Bool.false_eq_true]
  · rw [h1] at ho
    rw [if_pos rfl]
    refine ⟨V, ?_⟩
    conv => lhs; rw [zk_C_untilOne_2]
    simp (disch := first | assumption | omega | exact Nat.le_of_ble_eq_true rfl | decide) only [xo_5, xo_10_1i, xo_10_1r, xo_10_1n, xo_55, xo_0_1, xo_7, xo_46, zk_C_untilOne_9, xo_53, xo_2_0, xw_64w_1 hW, xk_v, xk_n, xo_41, zk_C_untilOne_18, xo_63_1, xo_48, zk_C_untilOne_25, xo_70, xo_15_1i, xo_15_1r, xo_15_1n, xo_54, nI_add, pk_mul, Nat.add_zero, hle, hp0, ho, z_b0, if_true, if_false, eq_self, Bool.true_eq_false, Bool.false_eq_true]
    rfl
