/-! ===== constructors: the class ===== -/
theorem HW_x {G G' : zG} {b : Nat} (hW : z_HW G b) (hk : ∀ j, j < 41 → z_kd G' (b + j) = z_kd G (b + j)) (hr : ∀ j k, j < 41 → z_rf G' (b + j) k = z_rf G (b + j) k) : z_HW G' b := by
  have k0 : z_kd G' b = z_kd G b := hk 0 (by omega)
  have e0 : ∀ k, z_rf G' b k = z_rf G b k := fun k => hr 0 k (by omega)
  have l9 : ∀ i, i < 8 → 9 + 4 * i < 41 ∧ 10 + 4 * i < 41 ∧ 11 + 4 * i < 41 ∧ 12 + 4 * i < 41 := fun i hi => by omega
  obtain ⟨hb, w0, ⟨w3, w4, w5, w6, w7⟩, x12, x34, x56, a0, ⟨a1, a2, a3⟩, x78, x910, x1112, x1314, hmem⟩ := hW
  refine ⟨hb, k0.trans w0, ⟨(e0 _).trans w3, (e0 _).trans w4, (e0 _).trans w5, (e0 _).trans w6, (e0 _).trans w7⟩, by rw [hk 1 (by decide)]; exact x12, by rw [hk 2 (by decide)]; exact x34, by rw [hk 3 (by decide)]; exact x56, (hk 4 (by decide)).trans a0, ⟨(hr 4 _ (by decide)).trans a1, (hr 4 _ (by decide)).trans a2, (hr 4 _ (by decide)).trans a3⟩, by rw [hk 5 (by decide)]; exact x78, by rw [hk 6 (by decide)]; exact x910, by rw [hk 7 (by decide)]; exact x1112, by rw [hk 8 (by decide)]; exact x1314, fun i hi => ?_⟩
  obtain ⟨l, l2, l3, l4⟩ := l9 i hi
  obtain ⟨m0, m1, ⟨m2, m3, m4⟩, y12, y34, y56⟩ := hmem i hi
  exact ⟨(hr 3 _ (by decide)).trans m0, (hk _ l).trans m1, ⟨(hr _ _ l).trans m2, (hr _ _ l).trans m3, (hr _ _ l).trans m4⟩, by rw [hk _ l2]; exact y12, by rw [hk _ l3]; exact y34, by rw [hk _ l4]; exact y56⟩
theorem HW_Xt {G G' : zG} {M M' : zM} {b p d s : Nat} (hW : z_HW G b) (x : z_Xt p d s G G' M M') (hn : b + 41 ≤ z_np G) (hp : p < b ∨ b + 41 ≤ p) : z_HW G' b :=
  HW_x hW (fun j hj => x.2.1 _ (by omega)) (fun j k hj => x.2.2.1 _ k (by omega) (by omega))
theorem HP_Xt {G G' : zG} {M M' : zM} {b p d s : Nat} (hP : z_HP G b) (x : z_Xt p d s G G' M M') (hn : b + 3 ≤ z_np G) (hp : p < b ∨ b + 3 ≤ p) : z_HP G' b := by
  obtain ⟨h3, h4, ⟨h5, h6⟩, h7, h8⟩ := hP
  exact ⟨h3, (x.2.1 _ (by omega)).trans h4, ⟨(x.2.2.1 _ _ (by omega) (by omega)).trans h5, (x.2.2.1 _ _ (by omega) (by omega)).trans h6⟩, by rw [x.2.1 _ (by omega)]; exact h7, by rw [x.2.1 _ (by omega)]; exact h8⟩
section
variable {G : zG} {M : zM}
theorem x_nx5 (hA : z_Al G 32 6) {N : Nat} (hN : z_np G = N) (m o q f c1 p1 p2 cl c3 p3 p4 mi c5 p5 : Nat) (ops : List zO) (w : Value) (hq : q ≠ 0) : z_k o m ((19, 6, f, c1, p1) :: (2, 0, 0, 0, p2) :: (73, cl, 0, c3, p3) :: (39, 0, 0, 0, p4) :: (65, mi, 1, c5, p5) :: ops) [.ref 32, w] [.ref q, .ref 32] (some (.inl none, G, M)) = z_k 65 m ops [.ref 32, w] [.ref N, .ref 32] (z_call mi [.ref N] (z_new (z_setR G 32 f q) (0, cl) (z_nf cl)) (z_sA M N (fun _ => 0))) := by
  obtain ⟨h1, h2, h3, h4⟩ := hA
  have h5 : z_np (z_setR G 32 f q) = z_nc (z_setR G 32 f q) + 32 := h4
  have h6 : z_np (z_setR G 32 f q) = N := hN
  simp (disch := first | assumption | omega | exact Nat.le_of_ble_eq_true rfl | decide) only [xk_n, xo_19, xo_2_0, xo_73, xo_39r, xo_65_1, h6]
theorem C_init_e (hA : z_Al G 32 6) (hb : z_np G = 33) : z_call 0 [.ref 32] G M = z_k 66 0 [(19, 6, 4, 23, 33), (2, 0, 0, 0, 36), (73, 5, 0, 27, 37), (39, 0, 0, 0, 40), (65, 3, 1, 29, 41), (19, 6, 5, 30, 44), (2, 0, 0, 0, 47), (73, 5, 0, 27, 48), (39, 0, 0, 0, 51), (65, 3, 1, 29, 52), (19, 6, 6, 34, 55), (2, 0, 0, 0, 58), (6, 8, 0, 0, 59), (76, 4, 0, 27, 61), (19, 6, 7, 37, 64), (2, 0, 0, 0, 67), (73, 0, 0, 41, 68), (39, 0, 0, 0, 71), (66, 6, 1, 43, 72), (19, 6, 10, 44, 75), (5, 0, 0, 0, 78), (10, 1, 0, 0, 79), (55, 80, 0, 0, 80)] [.ref 32, .null] [.ref 35, .ref 32] (z_call 1 [.ref 35] (z_new (z_mk (z_mk G 32 0 (1, 200) 200) 32 3 (1, 3) 3) (0, 4) 9) (z_sA (z_sA (z_sA (z_sA M 33 (fun _ => 0)) 32 (z_u (M 32) 2 (nI 4294967295))) 34 (fun _ => 0)) 35 (fun _ => 0))) := by
  have A1 : z_Al (z_mk G 32 0 (1, 200) 200) 32 6 := mk_Al hA
  have A2 : z_Al (z_mk (z_mk G 32 0 (1, 200) 200) 32 3 (1, 3) 3) 32 6 := mk_Al A1
  have n1 : z_np (z_mk G 32 0 (1, 200) 200) = 34 := by rw [mk_np]; omega
  have n2 : z_np (z_mk (z_mk G 32 0 (1, 200) 200) 32 3 (1, 3) 3) = 35 := by rw [mk_np]; omega
  have a4 := A2.2.2.2
  rw [ze_C_init, zk_C_init_0, xo_2_0, xo_68 _ _ _ _ _ _ _ _ _ _ _ (by exact Nat.le_of_ble_eq_true rfl), xo_2_0, xo_7, x_mk74 hA _ _ _ _ _ _ _ _ _ _ _ _ (by omega), xo_2_0, xo_5, xo_18 _ _ _ _ _ _ _ _ _ _ _ _ A1.1 (by omega), xo_2_0, xo_5, x_mk74 A1 _ _ _ _ _ _ _ _ _ _ _ _ (by omega), xo_2_0, xo_73 _ _ _ _ _ _ _ _ _ _ a4, n1, n2, hb, z_sA_n _ _ _ _ (show (32 : Nat) ≠ 33 by omega), xo_39r, xo_66_1 _ _ _ _ _ _ _ _ _ _ (by exact Nat.le_of_ble_eq_true rfl) (by exact Nat.le_of_ble_eq_true rfl)]
  rfl
theorem C_init_e3 (hA : z_Al G 32 6) (hb : z_np G = 122) (o : Nat) : z_k o 0 [(19, 6, 6, 34, 55), (2, 0, 0, 0, 58), (6, 8, 0, 0, 59), (76, 4, 0, 27, 61), (19, 6, 7, 37, 64), (2, 0, 0, 0, 67), (73, 0, 0, 41, 68), (39, 0, 0, 0, 71), (66, 6, 1, 43, 72), (19, 6, 10, 44, 75), (5, 0, 0, 0, 78), (10, 1, 0, 0, 79), (55, 80, 0, 0, 80)] [.ref 32, .null] [.ref 81, .ref 32] (some (.inl none, G, M)) = z_ex 0 (z_blk 0 80) [.ref 32, .int (nI 0)] [] (z_setR (z_new (z_mk (z_setR G 32 6 81) 32 7 (4, 8) 8) (0, 0) 1) 32 10 123) (z_sA (z_sA M 122 (fun _ => 0)) 123 (fun _ => 0)) := by
  have A1 : z_Al (z_setR G 32 6 81) 32 6 := hA
  have A2 : z_Al (z_mk (z_setR G 32 6 81) 32 7 (4, 8) 8) 32 6 := mk_Al A1
  have n1 : z_np (z_setR G 32 6 81) = 122 := hb
  have n2 : z_np (z_mk (z_setR G 32 6 81) 32 7 (4, 8) 8) = 123 := by rw [mk_np]; omega
  have a4 := A2.2.2.2
  have A3 : z_Al (z_new (z_mk (z_setR G 32 6 81) 32 7 (4, 8) 8) (0, 0) 1) 32 6 := new_Al2 A2
  have A4 : z_Al (z_new (z_mk (z_setR G 32 6 81) 32 7 (4, 8) 8) (0, 0) 1) 123 0 := by have := new_Al (c := 0) (s := 1) a4; rwa [n2] at this
  have cd := c_D_init (p := 123) (by omega) A4.1 (z_sA (z_sA M 122 (fun _ => 0)) 123 (fun _ => 0))
  have h1 := hA.1
  have h3 := A3.1
  have q0 : z_nf 0 = 1 := rfl
  rw [xk_n, xo_19 _ _ _ _ _ _ _ _ _ _ _ _ h1 (by omega) (by omega), xo_2_0, xo_6, x_mk76 A1 _ _ _ _ _ _ _ _ _ _ _ _ (by omega), xo_2_0, xo_73 _ _ _ _ _ _ _ _ _ _ a4, n1, n2, xo_39r, q0, xo_66_1 _ _ _ _ _ _ _ _ _ _ (by exact Nat.le_of_ble_eq_true rfl) (by exact Nat.le_of_ble_eq_true rfl), cd, xk_n, xo_19 _ _ _ _ _ _ _ _ _ _ _ _ h3 (by omega) (by omega)]
  simp (disch := first | assumption | omega | exact Nat.le_of_ble_eq_true rfl | decide) only [xo_5, xo_10_1i, xo_10_1r, xo_10_1n, xo_55]
theorem l_C_init : ∀ r i G M, i + r = 8 → z_Al G 32 6 → z_np G = 124 + 41 * i → z_rf G 32 7 = 122 → z_kd G 122 = (4, 8) → ∃ G' M', z_ex 0 (z_blk 0 80) [.ref 32, .int (nI i)] [] G M = z_ex 0 (z_blk 0 105) [.ref 32, .int (nI 8)] [] G' M' ∧ z_Xt 122 (41 * r) (7683 * r) G G' M M' ∧ (∀ j, j < i → z_rf G' 122 j = z_rf G 122 j) ∧ ∀ j, i ≤ j → j < 8 → z_rf G' 122 j = 124 + 41 * j ∧ z_HW G' (124 + 41 * j) ∧ ∀ k, k < 8 → M' (124 + 41 * j + (9 + 4 * k)) 0 = nI k := by
  intro r
  induction r with
  | zero =>
    intro i G M hi hA hnp h5 h3
    have e8 : i = 8 := by omega
    subst e8
    refine ⟨G, M, ?_, Xt_refl _ _ _, fun _ _ => rfl, fun j h1 h2 => absurd h2 (by omega)⟩
    have hlt : ¬ nI 8 < nI 8 := by decide
    conv => lhs; rw [zk_C_init_80]
    simp (disch := first | assumption | omega | exact Nat.le_of_ble_eq_true rfl | decide) only [xo_0_1, xo_6, xo_45, hlt, if_false]
  | succ r ih =>
    intro i G M hi hA hnp h5 h3
    obtain ⟨N, hN⟩ : ∃ N, N = 124 + 41 * i := ⟨_, rfl⟩
    rw [← hN] at hnp
    have hlt : nI i < nI 8 := nI_lt (by omega) (by omega)
    have a1 : z_Al (z_new G (0, 5) 9) N 5 := by have := new_Al (c := 5) (s := 9) hA.2.2.2; rwa [hnp] at this
    have x0 : z_Xt 122 1 9 G (z_new G (0, 5) 9) M (z_sA M N (fun _ => 0)) := by rw [← hnp]; exact Xt_new _ M _
    have np1 : z_np (z_new G (0, 5) 9) = N + 1 := by show z_np G + 1 = _; omega
    obtain ⟨G1, M1, c1, x1, w1, m1, _⟩ := c_W_init a1 np1 (z_sA M N (fun _ => 0))
    have np2 : z_np G1 = N + 41 := by rw [x1.1.1, np1]
    have x01 := Xt_trans x0 x1 (Or.inr (by omega))
    have k122 : z_kd G1 122 = (4, 8) := (x01.2.1 _ (by omega)).trans h3
    have kN : z_kd G1 N = (0, 5) := (x1.2.1 N (by omega)).trans a1.1
    have r122 : ∀ k, z_rf G1 122 k = z_rf G 122 k := fun k => (x1.2.2.1 122 k (by omega) (by omega)).trans (new_rf _ _ _ _ _ (by omega))
    obtain ⟨G2, hG2⟩ : ∃ G2, G2 = z_setR G1 122 i N := ⟨_, rfl⟩
    have x2 : z_Xt 122 41 7683 G G2 M M1 := by rw [hG2]; exact Xt_trans x01 (Xt_set G1 122 i N M1) (Or.inl rfl)
    have s2 : ∀ a k, (a ≠ 122 ∨ k ≠ i) → z_rf G2 a k = z_rf G1 a k := fun a k h => by rw [hG2, set_rf, if_neg (by omega)]
    have s3 : z_rf G2 122 i = N := by rw [hG2, set_rf, if_pos ⟨rfl, rfl⟩]
    have kd2 : ∀ a, z_kd G2 a = z_kd G1 a := fun a => by rw [hG2]; rfl
    have w2 : z_HW G2 N := HW_x w1 (fun j _ => kd2 _) (fun j k _ => s2 _ _ (by omega))
    have np3 : z_np G2 = N + 41 := by rw [x2.1.1]; omega
    obtain ⟨G', M', f1, f2, f3, f4⟩ := ih (i + 1) G2 M1 (by omega) (Xt_Al x2 hA) (by omega) (by rw [x2.2.2.1 32 7 (by omega) (by omega)]; exact h5) (by rw [kd2]; exact k122)
    refine ⟨G', M', ?_, ?_, fun j hj => ?_, fun j h1 h2 => ?_⟩
    · rw [← f1, hG2]
      have hk0 := hA.1
      have hq := hA.2.2.2
      have r70 : z_rf G 32 7 ≠ 0 := by omega
      have k1 : (z_kd G1 122).1 = 4 := by rw [k122]
      have k2 : (z_kd G1 122).2 = 8 := by rw [k122]
      clear f1 f2 f3 f4 ih x0 x1 x01 x2 s2 s3 kd2 w1 w2 m1 hA hG2 r122 np1 np2 np3 a1
      have e0 : z_ex 0 (z_blk 0 86) [.ref 32, .int (nI i)] [] G M = z_k 65 0 [(35, 0, 0, 0, 98), (15, 1, 1, 0, 99), (54, 80, 0, 0, 102)] [.ref 32, .int (nI i)] [.ref N, .int (nI i), .ref 122] (z_call 3 [.ref N] (z_new G (0, 5) 9) (z_sA M N (fun _ => 0))) := by
        simp (disch := first | assumption | omega | exact Nat.le_of_ble_eq_true rfl | decide) only [zk_C_init_86, xo_2_0, xo_17, h5, xo_0_1, xo_73, xo_39r, xo_65_1, hnp]
        rfl
      conv => lhs; rw [zk_C_init_80]
      simp (disch := first | assumption | omega | exact Nat.le_of_ble_eq_true rfl | decide) only [xo_0_1, xo_6, xo_45, hlt, if_true]
      rw [e0, c1]
      simp (disch := first | assumption | omega | exact Nat.le_of_ble_eq_true rfl | decide) only [xk_n, xo_35w, xo_15_1i, xo_15_1r, xo_15_1n, xo_54, nI_add]
    · have := Xt_trans x2 f2 (Or.inl rfl)
      rw [show 41 * (r + 1) = 41 + 41 * r by omega, show 7683 * (r + 1) = 7683 + 7683 * r by omega]
      exact this
    · rw [f3 j (by omega), s2 _ _ (by omega), r122]
    · by_cases e : j = i
      · subst e
        rw [← hN]
        exact ⟨by rw [f3 j (by omega), s3], HW_Xt w2 f2 (by omega) (by omega), fun k hk => by rw [f2.2.2.2 _ (by omega) (by omega)]; exact m1 k hk⟩
      · exact f4 j (by omega) h2
theorem C_init_e5 (hA : z_Al G 32 6) (hb : z_np G = 452) : z_ex 0 (z_blk 0 105) [.ref 32, .int (nI 8)] [] G M = z_k 66 0 [(12, 1, 0, 0, 112), (2, 1, 0, 0, 113), (5, 2, 0, 0, 114), (64, 7, 2, 51, 115), (2, 0, 0, 0, 118), (17, 6, 5, 30, 119), (2, 1, 0, 0, 122), (64, 8, 2, 55, 123), (69, 0, 0, 0, 126)] [.ref 32, .int (nI 8)] [.ref 452] (z_call 2 [.ref 452] (z_new G (0, 3) 4) (z_sA M 452 (fun _ => 0))) := by
  have h := hA.2.2.2
  simp (disch := first | assumption | omega | exact Nat.le_of_ble_eq_true rfl | decide) only [zk_C_init_105, xo_73, xo_39r, xo_66_1, hb]
  rfl
theorem C_init_e6 {G1 : zG} {M1 M2 M3 : zM} (k0 : z_kd G1 32 = (0, 6)) (r5 : z_rf G1 32 5 = 40) (k4 : z_kd G1 40 = (0, 5)) (k3 : z_kd G1 452 = (0, 3)) (e1 : z_call 7 [.ref 452, .int (nI 2)] G1 M1 = some (.inl none, G1, M2)) (e2 : z_call 8 [.ref 40, .ref 452] G1 M2 = some (.inl none, G1, M3)) (o : Nat) : z_k o 0 [(12, 1, 0, 0, 112), (2, 1, 0, 0, 113), (5, 2, 0, 0, 114), (64, 7, 2, 51, 115), (2, 0, 0, 0, 118), (17, 6, 5, 30, 119), (2, 1, 0, 0, 122), (64, 8, 2, 55, 123), (69, 0, 0, 0, 126)] [.ref 32, .int (nI 8)] [.ref 452] (some (.inl none, G1, M1)) = some (.inl none, G1, M3) := by
  have q1 : z_kd G1 452 = (0, z_rc 7) := k3
  have q2 : z_kd G1 40 = (0, z_rc 8) := k4
  have q3 : z_rf G1 32 5 ≠ 0 := by omega
  simp (disch := first | assumption | omega | exact Nat.le_of_ble_eq_true rfl | decide) only [xk_n, xo_12_1i, xo_12_1r, xo_12_1n, xo_2_1, xo_2_0, xo_5, xo_64_2, e1, xo_17, r5, e2, xo_69]
end
