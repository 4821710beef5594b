/-! ===== the reference reads: a line ===== -/
theorem wl_7 : ∀ p, 6 ≤ p → p < 13 → ∀ k, k < (z_tx p).length → 97 ≤ (z_tx p).getD k 0 ∧ (z_tx p).getD k 0 < 123 := by
  have : ∀ p, p < 13 → 6 ≤ p → ∀ k, k < (z_tx p).length → 97 ≤ (z_tx p).getD k 0 ∧ (z_tx p).getD k 0 < 123 := by decide
  exact fun p a b => this p b a
section
variable {G : zG} {sz a n L : Nat}
def z_Tl (M M' : zM) : Prop := (∀ q, q ≠ 455 → q ≠ 459 → M' q = M q) ∧ ∀ f, f ≠ 4 → f ≠ 6 → f ≠ 7 → f ≠ 15 → f ≠ 16 → M' 455 f = M 455 f
theorem Tl_d {M M' : zM} (h : z_Td M M') : z_Tl M M' := ⟨h.1, fun f a b c d _ => h.2 f a b c d⟩
theorem Tl_trans {M M1 M2 : zM} (h : z_Tl M M1) (g : z_Tl M1 M2) : z_Tl M M2 := ⟨fun q hq h2 => (g.1 q hq h2).trans (h.1 q hq h2), fun f a b c d e => (g.2 f a b c d e).trans (h.2 f a b c d e)⟩
/-- which word stands there -/
theorem l_M_word (hM : z_HM G) (M : zM) (h3 : M 455 3 = nI sz) (hsz : sz ≤ 200) (h4 : M 455 4 = nI a) (ha : a ≤ sz) (h6 : M 455 6 = 0) (hsk : y_sk (M 457) (sz - a) a = a) : z_call 172 [.ref 455] G M = z_ex 172 (z_blk 172 89) [.ref 455, .int (nI a), .null] [.int (y_lv (y_ln (M 457) a (y_we (M 457) (sz - a) a)))] G (if y_ln (M 457) a (y_we (M 457) (sz - a) a) = 6 then M else ma M (y_we (M 457) (sz - a) a)) := by
  have c1 := c_M_here hM M h3 hsz h4 ha
  rw [hsk, ma_id M h4] at c1
  have tk : ∀ p, 6 ≤ p → p < 20 → (z_tx p).length ≤ 10 → z_call 164 [.ref 455, .ref p] G M = some (.inl (some (.int (z_b (y_tk (M 457) sz a (z_tx p))))), G, if y_tk (M 457) sz a (z_tx p) = true then ma M (a + (z_tx p).length) else M) := fun p x y z => c_M_takes hM M h3 hsz h4 ha h6 hsk x y z
  have w14 := tk 14 (by omega) (by omega) (by decide)
  have w15 := tk 15 (by omega) (by omega) (by decide)
  have w16 := tk 16 (by omega) (by omega) (by decide)
  have w17 := tk 17 (by omega) (by omega) (by decide)
  have w18 := tk 18 (by omega) (by omega) (by decide)
  have w19 := tk 19 (by omega) (by omega) (by decide)
  have i7 := is_tk (T := M 457) (sz := sz) (a := a) (wl_7 7 (by omega) (by omega)) ha
  have i8 := is_tk (T := M 457) (sz := sz) (a := a) (wl_7 8 (by omega) (by omega)) ha
  have i9 := is_tk (T := M 457) (sz := sz) (a := a) (wl_7 9 (by omega) (by omega)) ha
  have i10 := is_tk (T := M 457) (sz := sz) (a := a) (wl_7 10 (by omega) (by omega)) ha
  have i11 := is_tk (T := M 457) (sz := sz) (a := a) (wl_7 11 (by omega) (by omega)) ha
  have i12 := is_tk (T := M 457) (sz := sz) (a := a) (wl_7 12 (by omega) (by omega)) ha
  rw [show z_tx 14 = z_tx 7 from rfl] at w14
  rw [show z_tx 15 = z_tx 8 from rfl] at w15
  rw [show z_tx 16 = z_tx 9 from rfl] at w16
  rw [show z_tx 17 = z_tx 10 from rfl] at w17
  rw [show z_tx 18 = z_tx 11 from rfl] at w18
  rw [show z_tx 19 = z_tx 12 from rfl] at w19
  unfold y_ln
  rw [i7.1, i8.1, i9.1, i10.1, i11.1, i12.1]
  generalize y_we (M 457) (sz - a) a = e at i7 i8 i9 i10 i11 i12
  have j7 := i7.2
  have j8 := i8.2
  have j9 := i9.2
  have j10 := i10.2
  have j11 := i11.2
  have j12 := i12.2
  clear i7 i8 i9 i10 i11 i12 tk
  generalize y_tk (M 457) sz a (z_tx 7) = uu7 at w14 j7
  generalize y_tk (M 457) sz a (z_tx 8) = uu8 at w15 j8
  generalize y_tk (M 457) sz a (z_tx 9) = uu9 at w16 j9
  generalize y_tk (M 457) sz a (z_tx 10) = uu10 at w17 j10
  generalize y_tk (M 457) sz a (z_tx 11) = uu11 at w18 j11
  generalize y_tk (M 457) sz a (z_tx 12) = uu12 at w19 j12
  have v0 : y_lv 0 = nI 0 := rfl
  have v1 : y_lv 1 = nI 1 := rfl
  have v2 : y_lv 2 = nI 2 := rfl
  have v3 : y_lv 3 = nI 3 := rfl
  have v4 : y_lv 4 = nI 4 := rfl
  have v5 : y_lv 5 = nI 5 := rfl
  have v6 : y_lv 6 = nI 4294967295 := rfl
  have x0 : ¬ (0 : Nat) = 6 := by omega
  have x1 : ¬ (1 : Nat) = 6 := by omega
  have x2 : ¬ (2 : Nat) = 6 := by omega
  have x3 : ¬ (3 : Nat) = 6 := by omega
  have x4 : ¬ (4 : Nat) = 6 := by omega
  have x5 : ¬ (5 : Nat) = 6 := by omega
  obtain ⟨k0, ⟨r1, r8, r9, r10, r11, r12, r13, r17⟩, ⟨q1, q2⟩, ⟨q3, q4⟩, ⟨q5, q6⟩, ⟨q7, q8⟩, ⟨q9, q10⟩, ⟨q11, q12⟩, ⟨q13, q14⟩, ⟨q15, q16⟩, hp⟩ := id hM; have kr : ∀ a, z_rc a = 7 → z_kd G 455 = (0, z_rc a) := fun a h => (by rw [h]; exact k0)
  cases uu7 with
  | true =>
    rw [← j7 rfl] at w14
    simp (disch := first | assumption | exact kr _ rfl | omega | exact Nat.le_of_ble_eq_true rfl) only [ze_M_readsLine, zk_M_readsLine_0, xo_2_0, xo_64_1, xk_v, xk_n, xo_41, xo_16, xo_10_1i, xo_10_1r, xo_10_1n, xo_79, xo_64_2, xo_48, zk_M_readsLine_19, xo_5, xo_54, xo_55, xo_10_2i, xo_10_2r, xo_10_2n, xo_0_2, xo_43, xo_0_1, xo_64_3, xo_63_2, xo_49, xo_69, xo_39i, xo_39r, xo_26, xo_24, xo_18, xo_17, xo_6, xo_33, xo_20, xo_21, xo_78, xo_32, c1, h4, w14, z_b0, v0, x0, if_true, if_false, eq_self, Bool.true_eq_false, Bool.false_eq_true, and_true, true_and, and_false, false_and, or_true, true_or, or_false, false_or, ne_eq, not_true_eq_false, not_false_eq_true, decide_true, decide_false, z_sA_id]
  | false =>
    cases uu8 with
    | true =>
      rw [← j8 rfl] at w15
      simp (disch := first | assumption | exact kr _ rfl | omega | exact Nat.le_of_ble_eq_true rfl) only [ze_M_readsLine, zk_M_readsLine_0, xo_2_0, xo_64_1, xk_v, xk_n, xo_41, xo_16, xo_10_1i, xo_10_1r, xo_10_1n, xo_79, xo_64_2, xo_48, xo_5, xo_54, zk_M_readsLine_23, zk_M_readsLine_32, xo_55, xo_10_2i, xo_10_2r, xo_10_2n, xo_0_2, xo_43, xo_0_1, xo_64_3, xo_63_2, xo_49, xo_69, xo_39i, xo_39r, xo_26, xo_24, xo_18, xo_17, xo_6, xo_33, xo_20, xo_21, xo_78, xo_32, c1, h4, w14, w15, z_b0, v1, x1, if_true, if_false, eq_self, Bool.true_eq_false, Bool.false_eq_true, and_true, true_and, and_false, false_and, or_true, true_or, or_false, false_or, ne_eq, not_true_eq_false, not_false_eq_true, decide_true, decide_false, z_sA_id]
    | false =>
      cases uu9 with
      | true =>
        rw [← j9 rfl] at w16
        simp (disch := first | assumption | exact kr _ rfl | omega | exact Nat.le_of_ble_eq_true rfl) only [ze_M_readsLine, zk_M_readsLine_0, xo_2_0, xo_64_1, xk_v, xk_n, xo_41, xo_16, xo_10_1i, xo_10_1r, xo_10_1n, xo_79, xo_64_2, xo_48, xo_5, xo_54, zk_M_readsLine_23, zk_M_readsLine_36, zk_M_readsLine_45, xo_55, xo_10_2i, xo_10_2r, xo_10_2n, xo_0_2, xo_43, xo_0_1, xo_64_3, xo_63_2, xo_49, xo_69, xo_39i, xo_39r, xo_26, xo_24, xo_18, xo_17, xo_6, xo_33, xo_20, xo_21, xo_78, xo_32, c1, h4, w14, w15, w16, z_b0, v2, x2, if_true, if_false, eq_self, Bool.true_eq_false, Bool.false_eq_true, and_true, true_and, and_false, false_and, or_true, true_or, or_false, false_or, ne_eq, not_true_eq_false, not_false_eq_true, decide_true, decide_false, z_sA_id]
      | false =>
        cases uu10 with
        | true =>
          rw [← j10 rfl] at w17
          simp (disch := first | assumption | exact kr _ rfl | omega | exact Nat.le_of_ble_eq_true rfl) only [ze_M_readsLine, zk_M_readsLine_0, xo_2_0, xo_64_1, xk_v, xk_n, xo_41, xo_16, xo_10_1i, xo_10_1r, xo_10_1n, xo_79, xo_64_2, xo_48, xo_5, xo_54, zk_M_readsLine_23, zk_M_readsLine_36, zk_M_readsLine_49, zk_M_readsLine_58, xo_55, xo_10_2i, xo_10_2r, xo_10_2n, xo_0_2, xo_43, xo_0_1, xo_64_3, xo_63_2, xo_49, xo_69, xo_39i, xo_39r, xo_26, xo_24, xo_18, xo_17, xo_6, xo_33, xo_20, xo_21, xo_78, xo_32, c1, h4, w14, w15, w16, w17, z_b0, v3, x3, if_true, if_false, eq_self, Bool.true_eq_false, Bool.false_eq_true, and_true, true_and, and_false, false_and, or_true, true_or, or_false, false_or, ne_eq, not_true_eq_false, not_false_eq_true, decide_true, decide_false, z_sA_id]
        | false =>
          cases uu11 with
          | true =>
            rw [← j11 rfl] at w18
            simp (disch := first | assumption | exact kr _ rfl | omega | exact Nat.le_of_ble_eq_true rfl) only [ze_M_readsLine, zk_M_readsLine_0, xo_2_0, xo_64_1, xk_v, xk_n, xo_41, xo_16, xo_10_1i, xo_10_1r, xo_10_1n, xo_79, xo_64_2, xo_48, xo_5, xo_54, zk_M_readsLine_23, zk_M_readsLine_36, zk_M_readsLine_49, zk_M_readsLine_62, zk_M_readsLine_71, xo_55, xo_10_2i, xo_10_2r, xo_10_2n, xo_0_2, xo_43, xo_0_1, xo_64_3, xo_63_2, xo_49, xo_69, xo_39i, xo_39r, xo_26, xo_24, xo_18, xo_17, xo_6, xo_33, xo_20, xo_21, xo_78, xo_32, c1, h4, w14, w15, w16, w17, w18, z_b0, v4, x4, if_true, if_false, eq_self, Bool.true_eq_false, Bool.false_eq_true, and_true, true_and, and_false, false_and, or_true, true_or, or_false, false_or, ne_eq, not_true_eq_false, not_false_eq_true, decide_true, decide_false, z_sA_id]
          | false =>
            cases uu12 with
            | true =>
              rw [← j12 rfl] at w19
              simp (disch := first | assumption | exact kr _ rfl | omega | exact Nat.le_of_ble_eq_true rfl) only [ze_M_readsLine, zk_M_readsLine_0, xo_2_0, xo_64_1, xk_v, xk_n, xo_41, xo_16, xo_10_1i, xo_10_1r, xo_10_1n, xo_79, xo_64_2, xo_48, xo_5, xo_54, zk_M_readsLine_23, zk_M_readsLine_36, zk_M_readsLine_49, zk_M_readsLine_62, zk_M_readsLine_75, zk_M_readsLine_84, xo_55, xo_10_2i, xo_10_2r, xo_10_2n, xo_0_2, xo_43, xo_0_1, xo_64_3, xo_63_2, xo_49, xo_69, xo_39i, xo_39r, xo_26, xo_24, xo_18, xo_17, xo_6, xo_33, xo_20, xo_21, xo_78, xo_32, c1, h4, w14, w15, w16, w17, w18, w19, z_b0, v5, x5, if_true, if_false, eq_self, Bool.true_eq_false, Bool.false_eq_true, and_true, true_and, and_false, false_and, or_true, true_or, or_false, false_or, ne_eq, not_true_eq_false, not_false_eq_true, decide_true, decide_false, z_sA_id]
            | false =>
              simp (disch := first | assumption | exact kr _ rfl | omega | exact Nat.le_of_ble_eq_true rfl) only [ze_M_readsLine, zk_M_readsLine_0, xo_2_0, xo_64_1, xk_v, xk_n, xo_41, xo_16, xo_10_1i, xo_10_1r, xo_10_1n, xo_79, xo_64_2, xo_48, xo_5, xo_54, zk_M_readsLine_23, zk_M_readsLine_36, zk_M_readsLine_49, zk_M_readsLine_62, zk_M_readsLine_75, zk_M_readsLine_88, xo_55, xo_10_2i, xo_10_2r, xo_10_2n, xo_0_2, xo_43, xo_0_1, xo_64_3, xo_63_2, xo_49, xo_69, xo_39i, xo_39r, xo_26, xo_24, xo_18, xo_17, xo_6, xo_33, xo_20, xo_21, xo_78, xo_32, c1, h4, w14, w15, w16, w17, w18, w19, z_b0, v6, if_true, if_false, eq_self, Bool.true_eq_false, Bool.false_eq_true, and_true, true_and, and_false, false_and, or_true, true_or, or_false, false_or, ne_eq, not_true_eq_false, not_false_eq_true, decide_true, decide_false, z_sA_id]
/-- a line and its end -/
def y_l3 (T : Nat → Int32) (sz : Nat) : (Nat × Nat) ⊕ ((Nat → Int32) × Nat) → (Nat × Nat) ⊕ ((Nat → Int32) × Nat)
  | .inl f => .inl f
  | .inr (S, b) => match y_en T sz b with
    | .inl f => .inl f
    | .inr c => .inr (S, c)
theorem lt_h : ∀ L, L < 64 → ∀ k, k < 6 → zf_has (nI L) (nI k) = L.testBit k := by decide +kernel
/-- the line's content is through: its end follows -/
theorem l_M_lend (hM : z_HM G) (M : zM) {T : Nat → Int32} (h3 : M 455 3 = nI sz) (hsz : sz ≤ 200) (hT : M 457 = T) (M0 : zM) (o : (Nat × Nat) ⊕ ((Nat → Int32) × Nat)) (hb : ∀ S b, o = .inr (S, b) → b ≤ sz) (hy : z_Ym M0 M o) (w1 w2 : Value) : ∃ M', z_ex 172 (z_blk 172 205) [.ref 455, w1, w2] [] G M = some (.inl none, G, M') ∧ z_Tm M M' ∧ z_Ym M0 M' (y_l3 T sz o) := by
  rcases o with ⟨k, p⟩ | ⟨S, b⟩
  · obtain ⟨⟨g6, g7⟩, hk⟩ := hy.1 k p rfl
    have n6 : ¬ M 455 6 = 0 := by rw [g6]; exact nI_ne0 (by omega) (by omega)
    have ce := c_M_ends1 hM M n6
    refine ⟨M, ?_, ⟨fun _ _ => rfl, fun _ _ _ _ _ => rfl⟩, fun k' p' q => (by cases q; exact ⟨⟨g6, g7⟩, hk⟩), fun S b q => (by cases q)⟩
    obtain ⟨k0, ⟨r1, r8, r9, r10, r11, r12, r13, r17⟩, ⟨q1, q2⟩, ⟨q3, q4⟩, ⟨q5, q6⟩, ⟨q7, q8⟩, ⟨q9, q10⟩, ⟨q11, q12⟩, ⟨q13, q14⟩, ⟨q15, q16⟩, hp⟩ := id hM; have kr : ∀ a, z_rc a = 7 → z_kd G 455 = (0, z_rc a) := fun a h => (by rw [h]; exact k0)
    simp (disch := first | assumption | exact kr _ rfl | omega | exact Nat.le_of_ble_eq_true rfl) only [xo_2_0, xo_64_1, xk_v, xk_n, xo_41, xo_16, xo_10_1i, xo_10_1r, xo_10_1n, xo_79, xo_64_2, xo_48, xo_5, xo_54, xo_55, xo_10_2i, xo_10_2r, xo_10_2n, xo_0_2, xo_43, xo_0_1, xo_64_3, xo_63_2, xo_49, xo_69, xo_39i, xo_39r, xo_26, xo_24, xo_18, xo_17, xo_6, xo_33, xo_20, xo_21, xo_78, xo_32, zk_M_readsLine_205, ce, if_true, if_false, eq_self, Bool.true_eq_false, Bool.false_eq_true, and_true, true_and, and_false, false_and, or_true, true_or, or_false, false_or, ne_eq, not_true_eq_false, not_false_eq_true, decide_true, decide_false, z_sA_id]
  · obtain ⟨⟨g6, g7, g4⟩, gS⟩ := hy.2 S b rfl
    obtain ⟨M', ce, t1, _, f1, e1⟩ := c_M_ends hM M h3 hsz g4 (hb S b rfl) g6
    rw [hT] at f1 e1
    refine ⟨M', ?_, t1, fun k p q => ?_, fun S' c q => ?_⟩
    · obtain ⟨k0, ⟨r1, r8, r9, r10, r11, r12, r13, r17⟩, ⟨q1, q2⟩, ⟨q3, q4⟩, ⟨q5, q6⟩, ⟨q7, q8⟩, ⟨q9, q10⟩, ⟨q11, q12⟩, ⟨q13, q14⟩, ⟨q15, q16⟩, hp⟩ := id hM; have kr : ∀ a, z_rc a = 7 → z_kd G 455 = (0, z_rc a) := fun a h => (by rw [h]; exact k0)
      simp (disch := first | assumption | exact kr _ rfl | omega | exact Nat.le_of_ble_eq_true rfl) only [xo_2_0, xo_64_1, xk_v, xk_n, xo_41, xo_16, xo_10_1i, xo_10_1r, xo_10_1n, xo_79, xo_64_2, xo_48, xo_5, xo_54, xo_55, xo_10_2i, xo_10_2r, xo_10_2n, xo_0_2, xo_43, xo_0_1, xo_64_3, xo_63_2, xo_49, xo_69, xo_39i, xo_39r, xo_26, xo_24, xo_18, xo_17, xo_6, xo_33, xo_20, xo_21, xo_78, xo_32, zk_M_readsLine_205, ce, if_true, if_false, eq_self, Bool.true_eq_false, Bool.false_eq_true, and_true, true_and, and_false, false_and, or_true, true_or, or_false, false_or, ne_eq, not_true_eq_false, not_false_eq_true, decide_true, decide_false, z_sA_id]
    · dsimp only [y_l3] at q
      generalize y_en T sz b = u at q f1
      rcases u with ⟨k2, p2⟩ | c
      · cases q
        obtain ⟨x, y⟩ := f1 _ _ rfl
        exact ⟨x, by omega⟩
      · cases q
    · dsimp only [y_l3] at q
      generalize y_en T sz b = u at q e1
      rcases u with ⟨k2, p2⟩ | c'
      · cases q
      · cases q
        obtain ⟨x1, x2, x3⟩ := e1 _ rfl
        exact ⟨⟨x1, x2.trans g7, x3⟩, fun k hk => by rw [t1.1 459 (by omega)]; exact gS k hk⟩
end
