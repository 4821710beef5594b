/-! ===== the class's reader: a whole text ===== -/
def y_ml (T : Nat → Int32) (sz n : Nat) : Nat → (Nat → Int32) → Nat → Nat → (Nat × Nat) ⊕ (Nat → Int32)
  | 0, S, _, _ => .inr S
  | f + 1, S, L, a => if a < sz then (match y_tl T sz n S L a with
    | .inl g => .inl g
    | .inr (S', b) => match y_en T sz b with
      | .inl g => .inl g
      | .inr c => y_ml T sz n f S' (L ||| 2 ^ y_ln T a (y_we T (sz - a) a)) (y_sk T (sz - c) c)) else .inr S
def y_x1 (n : Nat) : (Nat × Nat) ⊕ (Nat → Int32) → (Nat × Nat) ⊕ (Nat × (Nat → Int32))
  | .inl f => .inl f
  | .inr S => .inr (n, S)
def y_x2 (T : Nat → Int32) (sz : Nat) : (Nat × Nat) ⊕ (Nat × Nat) → (Nat × Nat) ⊕ (Nat × (Nat → Int32))
  | .inl f => .inl f
  | .inr (n, b) => y_x1 n (y_ml T sz n 201 (y_S0 n) 0 (y_sk T (sz - b) b))
def y_text (T : Nat → Int32) (sz : Nat) : (Nat × Nat) ⊕ (Nat × (Nat → Int32)) := y_x2 T sz (y_hd T sz)
section
variable {G : zG} {sz a n L : Nat}
theorem St_TS {M M' : zM} (h : z_St G M) (g : z_TS M M') : z_St G M' := fun p hp => by rw [g.1 p (by omega)]; exact h p hp
theorem l_T_accepts (hT : z_HT G) (hsz : sz ≤ 200) (T : Nat → Int32) (hY : ∀ k, k < sz → ∃ u, u < 256 ∧ T k = nI u) (hn : n ≤ 8) (w1 : Value) (w2 : Int32) : ∀ f S L a j M, sz - a < f → a ≤ sz → j ≤ a → z_SU n M S → M 35 4 = nI sz → M 35 5 = nI a → M 35 8 = nI L → L < 64 → M 33 = T → z_St G M → ∃ M', z_ex 61 (z_blk 61 40) [.ref 35, w1, .int w2, .int (nI j)] [] G M = some (.inl (some (.int (z_b (y_ml T sz n f S L a).isRight))), G, M') ∧ z_TS M M' ∧ (∀ k p, y_ml T sz n f S L a = .inl (k, p) → M' 35 1 = nI k ∧ M' 35 2 = nI p) ∧ ∀ S', y_ml T sz n f S L a = .inr S' → z_SU n M' S' := by
  intro f
  induction f with
  | zero => intro S L a j M hf; omega
  | succ f ih =>
    intro S L a j M hf ha hj hS h4 h5 h8 hL h33 hSt
    have hT0 := hT
    unfold y_ml
    by_cases hlt : a < sz
    · rw [if_pos hlt]
      have hl : nI a < nI sz := nI_lt hlt (by omega)
      have hjl : nI j < nI sz := nI_lt (by omega) (by omega)
      obtain ⟨M1, c1, t1, l1, y1⟩ := c_T_takeLine hT0 M h4 hsz h5 ha (by rw [h33]; exact hY) hS hn hSt h8 hL
      rw [h33] at c1 l1 y1
      obtain ⟨k35, ⟨r0, r3⟩, k36, ⟨s2, s3⟩, ⟨p1, p2⟩, ⟨p3, p4⟩, p5, p6⟩ := id hT; have kt : ∀ a, z_rc a = 4 → z_kd G 35 = (0, z_rc a) := fun a h => (by rw [h]; exact k35)
      generalize hq : y_tl T sz n S L a = q at c1 l1 y1
      rcases q with ⟨k, p⟩ | ⟨S1, b⟩
      · have c1' : z_call 70 [.ref 35] G M = some (.inl (some (.int (nI 0))), G, M1) := c1
        refine ⟨M1, ?_, t1, fun k' p' h => (by cases h; exact y1.1 _ _ rfl), fun S' h => (by cases h)⟩
        conv => lhs; rw [zk_T_accepts_40]
        simp (disch := first | assumption | exact kt _ rfl | omega | exact Nat.le_of_ble_eq_true rfl | decide) only [xo_2_0, xo_2_1, xo_19, xo_0_2, xo_36, xo_87, xo_18, xo_5, xo_64_1, xk_v, xk_n, xo_49, xo_72a, xo_72b, xo_10_3i, xo_10_3r, xo_10_3n, xo_55, xo_0_3, xo_16, xo_45, zk_T_accepts_48, zk_T_accepts_59, xo_48, zk_T_accepts_73, xo_15_3i, xo_15_3r, xo_15_3n, xo_54, h4, hjl, h5, hl, c1', zer0, if_true, if_false, eq_self, Bool.true_eq_false, Bool.false_eq_true]
        rfl
      · have c1' : z_call 70 [.ref 35] G M = some (.inl (some (.int (nI 1))), G, M1) := c1
        obtain ⟨g5, gb, gS⟩ := y1.2 S1 b rfl
        have g8 := l1 S1 b rfl
        obtain ⟨tb, tk⟩ := tl_b ha hq
        have m33 : M1 33 = T := (t1.1 33 (by omega)).trans h33
        obtain ⟨M2, c2, t2, f2, e2⟩ := c_T_end hT0 M1 (a := b) (by rw [t1.2]; exact h4) hsz g5 gb
        rw [m33] at c2 f2 e2
        have ts2 := TS_trans t1 (TS_T t2)
        dsimp only
        generalize hq2 : y_en T sz b = q at c2 f2 e2
        rcases q with ⟨k, p⟩ | c
        · have c2' : z_call 69 [.ref 35] G M1 = some (.inl (some (.int (nI 0))), G, M2) := c2
          refine ⟨M2, ?_, ts2, fun k' p' h => (by cases h; exact f2 _ _ rfl), fun S' h => (by cases h)⟩
          conv => lhs; rw [zk_T_accepts_40]
          simp (disch := first | assumption | exact kt _ rfl | omega | exact Nat.le_of_ble_eq_true rfl | decide) only [xo_2_0, xo_2_1, xo_19, xo_0_2, xo_36, xo_87, xo_18, xo_5, xo_64_1, xk_v, xk_n, xo_49, xo_72a, xo_72b, xo_10_3i, xo_10_3r, xo_10_3n, xo_55, xo_0_3, xo_16, xo_45, zk_T_accepts_48, zk_T_accepts_59, xo_48, zk_T_accepts_66, zk_T_accepts_73, xo_15_3i, xo_15_3r, xo_15_3n, xo_54, h4, hjl, h5, hl, c1', c2', one0, zer0, if_true, if_false, eq_self, Bool.true_eq_false, Bool.false_eq_true]
          rfl
        · have c2' : z_call 69 [.ref 35] G M1 = some (.inl (some (.int (nI 1))), G, M2) := c2
          obtain ⟨x1, x2⟩ := en_b gb hq2
          have k4 : M2 35 4 = nI sz := ts2.2.trans h4
          have m33' : M2 33 = T := (ts2.1 33 (by omega)).trans h33
          have c3 := c_T_skip hT0 M2 k4 hsz (e2 c rfl) x2
          rw [m33'] at c3
          have sb := sk_b T (sz - c) c
          dsimp only
          generalize y_sk T (sz - c) c = d at c3 sb
          obtain ⟨o1, o2⟩ := lt_o L hL _ tk
          have t3 := T_ta M2 d
          have g8' : M2 35 8 = nI (L ||| 2 ^ y_ln T a (y_we T (sz - a) a)) := (t2.2 8 (Or.inr rfl)).trans g8
          have ts3 := TS_trans ts2 (TS_T t3)
          obtain ⟨M', c4, t4, f4, s4⟩ := ih S1 (L ||| 2 ^ y_ln T a (y_we T (sz - a) a)) d (j + 1) (ta M2 d) (by omega) (by omega) (by omega) (SU_T (SU_T gS t2) t3) ((t3.2 4 (Or.inl rfl)).trans k4) (ta_5 M2 d) ((t3.2 8 (Or.inr rfl)).trans g8') o2 ((t3.1 33 (by omega)).trans m33') (St_TS hSt ts3)
          refine ⟨M', ?_, TS_trans ts3 t4, f4, s4⟩
          rw [← c4]
          conv => lhs; rw [zk_T_accepts_40]
          simp (disch := first | assumption | exact kt _ rfl | omega | exact Nat.le_of_ble_eq_true rfl | decide) only [xo_2_0, xo_2_1, xo_19, xo_0_2, xo_36, xo_87, xo_18, xo_5, xo_64_1, xk_v, xk_n, xo_49, xo_72a, xo_72b, xo_10_3i, xo_10_3r, xo_10_3n, xo_55, xo_0_3, xo_16, xo_45, zk_T_accepts_48, zk_T_accepts_59, xo_48, zk_T_accepts_66, zk_T_accepts_75, xo_15_3i, xo_15_3r, xo_15_3n, xo_54, nI_add, h4, hjl, h5, hl, c1', c2', c3, one0, if_true, if_false, eq_self, Bool.true_eq_false, Bool.false_eq_true]
    · rw [if_neg hlt]
      have hl : ¬ nI a < nI sz := nI_nlt (by omega) (by omega)
      obtain ⟨k35, ⟨r0, r3⟩, k36, ⟨s2, s3⟩, ⟨p1, p2⟩, ⟨p3, p4⟩, p5, p6⟩ := id hT; have kt : ∀ a, z_rc a = 4 → z_kd G 35 = (0, z_rc a) := fun a h => (by rw [h]; exact k35)
      refine ⟨M, ?_, ⟨fun _ _ => rfl, rfl⟩, fun k p h => (by cases h), fun S' h => (by cases h; exact hS)⟩
      by_cases hjs : j < sz
      · have hjl : nI j < nI sz := nI_lt hjs (by omega)
        conv => lhs; rw [zk_T_accepts_40]
        simp (disch := first | assumption | exact kt _ rfl | omega | exact Nat.le_of_ble_eq_true rfl | decide) only [xo_2_0, xo_2_1, xo_19, xo_0_2, xo_36, xo_87, xo_18, xo_5, xo_64_1, xk_v, xk_n, xo_49, xo_72a, xo_72b, xo_10_3i, xo_10_3r, xo_10_3n, xo_55, xo_0_3, xo_16, xo_45, zk_T_accepts_48, xo_48, xo_15_3i, xo_15_3r, xo_15_3n, xo_54, zk_T_accepts_85, h4, h5, hjl, hl, if_true, if_false, eq_self, Bool.true_eq_false, Bool.false_eq_true]
        rfl
      · have hjl : ¬ nI j < nI sz := nI_nlt (by omega) (by omega)
        conv => lhs; rw [zk_T_accepts_40]
        simp (disch := first | assumption | exact kt _ rfl | omega | exact Nat.le_of_ble_eq_true rfl | decide) only [xo_2_0, xo_2_1, xo_19, xo_0_2, xo_36, xo_87, xo_18, xo_5, xo_64_1, xk_v, xk_n, xo_49, xo_72a, xo_72b, xo_10_3i, xo_10_3r, xo_10_3n, xo_55, xo_0_3, xo_16, xo_45, xo_48, xo_15_3i, xo_15_3r, xo_15_3n, xo_54, zk_T_accepts_85, h4, hjl, if_true, if_false, eq_self, Bool.true_eq_false, Bool.false_eq_true]
        rfl
theorem c_T_accepts (hk : z_kd G 35 = (0, 4)) (hT : z_HT (z_setR G 35 3 33)) (M : zM) (hsz : sz ≤ 200) (hY : ∀ k, k < sz → ∃ u, u < 256 ∧ M 33 k = nI u) (hSt : z_St G M) : ∃ M', z_call 61 [.ref 35, .ref 33, .int (nI sz)] G M = some (.inl (some (.int (z_b (y_text (M 33) sz).isRight))), z_setR G 35 3 33, M') ∧ (∀ q, q < 35 ∨ 38 < q → M' q = M q) ∧ (∀ k p, y_text (M 33) sz = .inl (k, p) → M' 35 1 = nI k ∧ M' 35 2 = nI p) ∧ ∀ n S, y_text (M 33) sz = .inr (n, S) → z_SU n M' S ∧ 2 ≤ n ∧ n ≤ 8 := by
  obtain ⟨M0, hM0⟩ : ∃ M0, M0 = z_sA M 35 (z_u (z_u (z_u (M 35) 4 (nI sz)) 5 (nI 0)) 8 (nI 0)) := ⟨_, rfl⟩
  have b4 : M0 35 4 = nI sz := by rw [hM0, z_sA_s, z_u_n _ _ _ _ (by omega), z_u_n _ _ _ _ (by omega), z_u_s]
  have b5 : M0 35 5 = nI 0 := by rw [hM0, z_sA_s, z_u_n _ _ _ _ (by omega), z_u_s]
  have b8 : M0 35 8 = nI 0 := by rw [hM0, z_sA_s, z_u_s]
  have bo : ∀ q, q ≠ 35 → M0 q = M q := fun q hq => by rw [hM0, z_sA_n _ _ _ _ hq]
  have hSt' : z_St (z_setR G 35 3 33) M0 := fun p hp => by rw [bo p (by omega)]; exact hSt p hp
  obtain ⟨M1, c1, t1, l1, f1, g1⟩ := c_T_takeHead hT M0 b4 hsz b5 (by rw [bo 33 (by omega)]; exact hY)
  rw [bo 33 (by omega)] at c1 f1 g1
  have hk1 : z_kd (z_setR G 35 3 33) 35 = (0, 4) := hk
  have kt : ∀ a, z_rc a = 4 → z_kd (z_setR G 35 3 33) 35 = (0, z_rc a) := fun a h => (by rw [h]; exact hk)
  have k33 : (z_kd (z_setR G 35 3 33) 33).1 = 1 := hT.2.2.2.2.2.2.1
  have k33' : (z_kd (z_setR G 35 3 33) 33).2 = 200 := hT.2.2.2.2.2.2.2
  have hmin : (if nI 200 < nI sz then nI 200 else nI sz) = nI sz := if_neg (nI_nlt hsz (by omega))
  have e0 : z_call 61 [.ref 35, .ref 33, .int (nI sz)] G M = z_k 64 61 [(49, 34, 32, 0, 29)] [.ref 35, .ref 33, .int (nI sz), .null] [] (z_call 62 [.ref 35] (z_setR G 35 3 33) M0) := by
    rw [hM0]
    simp (disch := first | assumption | exact kt _ rfl | omega | exact Nat.le_of_ble_eq_true rfl | decide) only [ze_T_accepts, zk_T_accepts_0, xo_2_0, xo_2_1, xo_19, xo_0_2, xo_36, xo_87, xo_18, xo_5, xo_64_1, xk_v, xk_n, xo_49, xo_72a, xo_72b, xo_10_3i, xo_10_3r, xo_10_3n, xo_55, xo_0_3, xo_16, xo_45, xo_48, xo_15_3i, xo_15_3r, xo_15_3n, xo_54, k33', hmin, z_sA_s, z_sA_sA, if_true, if_false, eq_self, Bool.true_eq_false, Bool.false_eq_true]
  unfold y_text
  rw [e0, c1]
  generalize y_hd (M 33) sz = q at f1 g1
  rcases q with ⟨k, p⟩ | ⟨n, b⟩
  · have zz : z_b (Sum.inl (k, p) : (Nat × Nat) ⊕ (Nat × Nat)).isRight = nI 0 := rfl
    rw [zz]
    refine ⟨M1, ?_, fun q hq => (t1.1 q hq).trans (bo q (by omega)), fun k' p' h => (by cases h; exact f1 _ _ rfl), fun n S h => (by cases h)⟩
    simp (disch := first | assumption | exact kt _ rfl | omega | exact Nat.le_of_ble_eq_true rfl | decide) only [xo_2_0, xo_2_1, xo_19, xo_0_2, xo_36, xo_87, xo_18, xo_5, xo_64_1, xk_v, xk_n, xo_49, zk_T_accepts_32, xo_72a, xo_72b, xo_10_3i, xo_10_3r, xo_10_3n, xo_55, xo_0_3, xo_16, xo_45, xo_48, xo_15_3i, xo_15_3r, xo_15_3n, xo_54, zer0, if_true, if_false, eq_self, Bool.true_eq_false, Bool.false_eq_true]
    rfl
  · have zz : z_b (Sum.inr (n, b) : (Nat × Nat) ⊕ (Nat × Nat)).isRight = nI 1 := rfl
    rw [zz]
    obtain ⟨g5, gb, gS, n2, n8⟩ := g1 n b rfl
    have m33 : M1 33 = M 33 := (t1.1 33 (by omega)).trans (bo 33 (by omega))
    have c3 := c_T_skip hT M1 (t1.2.trans b4) hsz g5 gb
    rw [m33] at c3
    have sb := sk_b (M 33) (sz - b) b
    dsimp only [y_x2]
    generalize y_sk (M 33) (sz - b) b = d at c3 sb
    have t3 := T_ta M1 d
    have ts3 := TS_trans t1 (TS_T t3)
    obtain ⟨M', c4, t4, f4, s4⟩ := l_T_accepts hT hsz (M 33) hY n8 (.ref 33) (nI sz) 201 (y_S0 n) 0 d 0 (ta M1 d) (by omega) (by omega) (Nat.zero_le _) (SU_T gS t3) (ts3.2.trans b4) (ta_5 M1 d) ((t3.2 8 (Or.inr rfl)).trans (l1.trans b8)) (by omega) ((t3.1 33 (by omega)).trans m33) (St_TS hSt' ts3)
    have ri : ∀ x, (y_x1 n x).isRight = x.isRight := fun x => by cases x <;> rfl
    refine ⟨M', ?_, fun q hq => ((TS_trans ts3 t4).1 q hq).trans (bo q (by omega)), fun k' p' h => ?_, fun n' S h => ?_⟩
    · rw [ri, ← c4]
      simp (disch := first | assumption | exact kt _ rfl | omega | exact Nat.le_of_ble_eq_true rfl | decide) only [xo_2_0, xo_2_1, xo_19, xo_0_2, xo_36, xo_87, xo_18, xo_5, xo_64_1, xk_v, xk_n, xo_49, xo_72a, xo_72b, zk_T_accepts_34, xo_10_3i, xo_10_3r, xo_10_3n, xo_55, xo_0_3, xo_16, xo_45, xo_48, xo_15_3i, xo_15_3r, xo_15_3n, xo_54, one0, c3, if_true, if_false, eq_self, Bool.true_eq_false, Bool.false_eq_true]
    · generalize y_ml (M 33) sz n 201 (y_S0 n) 0 d = x at h f4
      rcases x with f | S
      · cases h; exact f4 _ _ rfl
      · cases h
    · generalize y_ml (M 33) sz n 201 (y_S0 n) 0 d = x at h s4
      rcases x with f | S
      · cases h
      · cases h; exact ⟨s4 _ rfl, n2, n8⟩
end
