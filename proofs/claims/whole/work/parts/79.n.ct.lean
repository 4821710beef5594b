/-! ===== constructors: the reader, a world ===== -/
theorem new_Al {G : zG} {c s : Nat} (h : z_np G = z_nc G + 32) : z_Al (z_new G (0, c) s) (z_np G) c := ⟨new_kds _ _ _, by omega, by show z_np G < z_np G + 1; omega, by show z_np G + 1 = z_nc G + 1 + 32; omega⟩
theorem new_Al2 {G : zG} {kind : Nat × Nat} {s p c : Nat} (h : z_Al G p c) : z_Al (z_new G kind s) p c := ⟨(new_kd _ _ _ _ (by have := h.2.2.1; omega)).trans h.1, h.2.1, by show p < z_np G + 1; have := h.2.2.1; omega, by show z_np G + 1 = z_nc G + 1 + 32; have := h.2.2.2; omega⟩
theorem Xt_Al {G G' : zG} {M M' : zM} {p d s q c : Nat} (h : z_Xt p d s G G' M M') (hA : z_Al G q c) : z_Al G' q c := by
  obtain ⟨⟨a1, a2, a3⟩, b, _, _⟩ := h
  obtain ⟨g1, g2, g3, g4⟩ := hA
  exact ⟨(b q g3).trans g1, g2, by omega, by omega⟩
theorem set_Al {G : zG} {p f r q d : Nat} (h : z_Al G q d) : z_Al (z_setR G p f r) q d := h
section
variable {G : zG} {p b : Nat}
theorem c_T_init (hA : z_Al G p 4) (M : zM) : ∃ G' M', z_call 1 [.ref p] G M = some (.inl none, G', M') ∧ z_Xt p 4 16 G G' M M' ∧ z_rf G' p 0 = z_np G ∧ z_HP G' (z_np G) := by
  have hp := hA.2.2.1
  have hq := hA.2.2.2
  have h32 := hA.2.1
  obtain ⟨N, hN⟩ : ∃ N, z_np G = N := ⟨_, rfl⟩
  have n0 : N ≠ 0 := by omega
  have a1 : z_Al (z_new G (0, 3) 4) N 3 := by have := new_Al (c := 3) (s := 4) hq; rwa [hN] at this
  have x0 : z_Xt p 1 4 G (z_new G (0, 3) 4) M (z_sA M N (fun _ => 0)) := by rw [← hN]; exact Xt_new p M _
  have np1 : z_np (z_new G (0, 3) 4) = N + 1 := by show z_np G + 1 = _; omega
  obtain ⟨G1, M1, c1, x1, ⟨r2, r3⟩, k1, k2, m1⟩ := c_P_init a1 (z_sA M N (fun _ => 0))
  rw [np1] at r2 r3 k1 k2
  have np2 : z_np G1 = N + 3 := by rw [x1.1.1, np1]
  have x01 := Xt_trans x0 x1 (Or.inr (by omega))
  have A1 : z_Al G1 p 4 := Xt_Al x01 hA
  have kp := A1.1
  have e0 : z_call 1 [.ref p] G M = z_k 66 1 [(19, 4, 0, 12, 12), (2, 0, 0, 0, 15), (5, 0, 0, 0, 16), (74, 0, 0, 0, 17), (19, 4, 3, 18, 19), (69, 0, 0, 0, 22)] [.ref p] [.ref N, .ref p] (z_call 2 [.ref N] (z_new G (0, 3) 4) (z_sA M N (fun _ => 0))) := by
    simp (disch := first | assumption | omega | exact Nat.le_of_ble_eq_true rfl | decide) only [ze_T_init, zk_T_init_0, xo_2_0, xo_68, xo_73, xo_39r, xo_66_1, hN]
    rfl
  have A2 : z_Al (z_setR G1 p 0 N) p 4 := A1
  refine ⟨z_mk (z_setR G1 p 0 N) p 3 (1, 0) 0, z_sA M1 (z_np (z_setR G1 p 0 N)) (fun _ => 0), ?_, ?_, ?_, ?_⟩
  · rw [e0, c1]
    simp (disch := first | assumption | omega | exact Nat.le_of_ble_eq_true rfl | decide) only [xk_n, xo_19, xo_2_0, xo_5, x_mk74, xo_69]
  · have := Xt_trans (Xt_trans x01 (Xt_set G1 p 0 N M1) (Or.inl rfl)) (Xt_mk (p := p) (f := 3) (kind := (1, 0)) (sl := 0) M1 (fun _ => 0)) (Or.inl rfl)
    exact this
  · rw [mk_rf (by show p < z_np G1; omega) (by omega), set_rf, if_pos ⟨rfl, rfl⟩]; exact hN.symm
  · rw [hN]
    have kk : ∀ a, a < N + 3 → z_kd (z_mk (z_setR G1 p 0 N) p 3 (1, 0) 0) a = z_kd G1 a := fun a ha => mk_kd (by show a < z_np G1; omega)
    have rr : ∀ a k, a < N + 3 → a ≠ p → z_rf (z_mk (z_setR G1 p 0 N) p 3 (1, 0) 0) a k = z_rf G1 a k := fun a k ha hne => by
      rw [mk_rf (by show a < z_np G1; omega) (Or.inl hne), set_rf, if_neg (fun x => hne x.1)]
    exact ⟨by omega, by rw [kk _ (by omega), x1.2.1 N (by omega)]; exact a1.1, ⟨by rw [rr _ _ (by omega) (by omega)]; exact r2, by rw [rr _ _ (by omega) (by omega)]; exact r3⟩, by rw [kk _ (by omega), k1]; exact ⟨rfl, rfl⟩, by rw [kk _ (by omega), show N + 2 = N + 1 + 1 by omega, k2]; exact ⟨rfl, rfl⟩⟩
/-- member i of the world at b lies in its place -/
def z_Wm (G : zG) (M : zM) (b i : Nat) : Prop := (z_rf G (b + 3) i = b + (9 + 4 * i) ∧ z_kd G (b + (9 + 4 * i)) = (0, 2) ∧ (z_rf G (b + (9 + 4 * i)) 12 = b + (10 + 4 * i) ∧ z_rf G (b + (9 + 4 * i)) 13 = b + (11 + 4 * i) ∧ z_rf G (b + (9 + 4 * i)) 14 = b + (12 + 4 * i)) ∧ z_kd G (b + (10 + 4 * i)) = (1, 6) ∧ z_kd G (b + (11 + 4 * i)) = (1, 6) ∧ z_kd G (b + (12 + 4 * i)) = (1, 7)) ∧ M (b + (9 + 4 * i)) 0 = nI i
theorem l_W_init : ∀ r i G M, i + r = 8 → z_Al G b 5 → z_np G = b + (9 + 4 * i) → z_rf G b 5 = b + 3 → z_kd G (b + 3) = (3, 8) → ∃ G' M', z_ex 3 (z_blk 3 50) [.ref b, .int (nI i)] [] G M = some (.inl none, G', M') ∧ z_Xt (b + 3) (4 * r) (34 * r) G G' M M' ∧ (∀ j, j < i → z_rf G' (b + 3) j = z_rf G (b + 3) j) ∧ ∀ j, i ≤ j → j < 8 → z_Wm G' M' b j := by
  intro r
  induction r with
  | zero =>
    intro i G M hi hA hnp h5 h3
    have e8 : i = 8 := by omega
    subst e8
    refine ⟨G, M, ?_, Xt_refl _ _ _, fun _ _ => rfl, fun j h1 h2 => absurd h2 (by omega)⟩
    have hlt : ¬ nI 8 < nI 8 := by decide
    conv => lhs; rw [zk_W_init_50]
    simp (disch := first | assumption | omega | exact Nat.le_of_ble_eq_true rfl | decide) only [xo_0_1, xo_6, xo_45, zk_W_init_76, xo_69, hlt, if_false]
  | succ r ih =>
    intro i G M hi hA hnp h5 h3
    have h32 := hA.2.1
    have hb := hA.2.2.1
    have hq := hA.2.2.2
    have hk0 := hA.1
    obtain ⟨N, hN⟩ : ∃ N, N = b + (9 + 4 * i) := ⟨_, rfl⟩
    rw [← hN] at hnp
    have hlt : nI i < nI 8 := nI_lt (by omega) (by omega)
    have a1 : z_Al (z_new G (0, 2) 15) N 2 := by have := new_Al (c := 2) (s := 15) hq; rwa [hnp] at this
    have x0 : z_Xt (b + 3) 1 15 G (z_new G (0, 2) 15) M (z_sA M N (fun _ => 0)) := by rw [← hnp]; exact Xt_new _ M _
    have np1 : z_np (z_new G (0, 2) 15) = N + 1 := by show z_np G + 1 = _; omega
    obtain ⟨G1, M1, c1, x1, ⟨r2, r3, r4⟩, k1, k2, k3, m1⟩ := c_B_init a1 (z_sA M N (fun _ => 0)) (nI i)
    rw [np1] at r2 r3 r4 k1 k2 k3
    have np2 : z_np G1 = N + 4 := by rw [x1.1.1, np1]
    have x01 := Xt_trans x0 x1 (Or.inr (by omega))
    have A1 : z_Al G1 b 5 := Xt_Al x01 hA
    have kN : z_kd G1 N = (0, 2) := (x1.2.1 N (by omega)).trans a1.1
    have k33 : z_kd G1 (b + 3) = (3, 8) := (x01.2.1 _ (by omega)).trans h3
    have k31 : (z_kd G1 (b + 3)).1 = 3 := by rw [k33]
    have k32 : (z_kd G1 (b + 3)).2 = 8 := by rw [k33]
    have r50 : z_rf G b 5 ≠ 0 := by omega
    obtain ⟨G2, hG2⟩ : ∃ G2, G2 = z_setR G1 (b + 3) i N := ⟨_, rfl⟩
    have x2 : z_Xt (b + 3) 4 34 G G2 M M1 := by rw [hG2]; exact Xt_trans x01 (Xt_set G1 (b + 3) i N M1) (Or.inl rfl)
    have s2 : ∀ a k, (a ≠ b + 3 ∨ k ≠ i) → z_rf G2 a k = z_rf G1 a k := fun a k h => by rw [hG2, set_rf, if_neg (by omega)]
    have s3 : z_rf G2 (b + 3) i = N := by rw [hG2, set_rf, if_pos ⟨rfl, rfl⟩]
    have kd2 : ∀ a, z_kd G2 a = z_kd G1 a := fun a => by rw [hG2]; rfl
    have A2 := Xt_Al x2 hA
    have h3r : ∀ k, z_rf G1 (b + 3) k = z_rf G (b + 3) k := fun k => (x1.2.2.1 (b + 3) k (by omega) (by omega)).trans (new_rf _ _ _ _ _ (by omega))
    obtain ⟨G', M', f1, f2, f3, f4⟩ := ih (i + 1) G2 M1 (by omega) A2 (by rw [x2.1.1]; omega) (by rw [x2.2.2.1 b 5 (by omega) (by omega)]; exact h5) (by rw [kd2]; exact k33)
    have np3 : z_np G2 = N + 4 := by rw [x2.1.1]; omega
    refine ⟨G', M', ?_, ?_, fun j hj => ?_, fun j h1 h2 => ?_⟩
    · rw [← f1, hG2]
      conv => lhs; rw [zk_W_init_50]
      have e0 : z_ex 3 (z_blk 3 56) [.ref b, .int (nI i)] [] G M = z_k 65 3 [(35, 0, 0, 0, 69), (15, 1, 1, 0, 70), (54, 50, 0, 0, 73)] [.ref b, .int (nI i)] [.ref N, .int (nI i), .ref (b + 3)] (z_call 5 [.ref N, .int (nI i)] (z_new G (0, 2) 15) (z_sA M N (fun _ => 0))) := by
        simp (disch := first | assumption | omega | exact Nat.le_of_ble_eq_true rfl | decide) only [zk_W_init_56, xo_2_0, xo_17, h5, xo_0_1, xo_73, xo_39r, xo_65_2, hnp]
        rfl
      simp (disch := first | assumption | omega | exact Nat.le_of_ble_eq_true rfl | decide) only [xo_0_1, xo_6, xo_45, hlt, if_true]
      rw [e0, c1]
      simp (disch := first | assumption | omega | exact Nat.le_of_ble_eq_true rfl | decide) only [xk_n, xo_35m, xo_15_1i, xo_15_1r, xo_15_1n, xo_54, nI_add]
    · have := Xt_trans x2 f2 (Or.inl rfl)
      rw [show 4 * (r + 1) = 4 + 4 * r by omega, show 34 * (r + 1) = 34 + 34 * r by omega]
      exact this
    · rw [f3 j (by omega), s2 _ _ (by omega), h3r]
    · by_cases e : j = i
      · subst e
        have kk : ∀ a, a < N + 4 → z_kd G' a = z_kd G1 a := fun a ha => (f2.2.1 a (by omega)).trans (kd2 a)
        have rr : ∀ k, z_rf G' N k = z_rf G1 N k := fun k => (f2.2.2.1 N k (by omega) (by omega)).trans (s2 _ _ (by omega))
        refine ⟨⟨by rw [f3 j (by omega), s3]; exact hN, ?_, ⟨?_, ?_, ?_⟩, ?_, ?_, ?_⟩, ?_⟩
        · rw [← hN, kk _ (by omega)]; exact kN
        · rw [← hN, rr, r2]; omega
        · rw [← hN, rr, r3]; omega
        · rw [← hN, rr, r4]; omega
        · rw [show b + (10 + 4 * j) = N + 1 by omega, kk _ (by omega)]; exact k1
        · rw [show b + (11 + 4 * j) = N + 1 + 1 by omega, kk _ (by omega)]; exact k2
        · rw [show b + (12 + 4 * j) = N + 1 + 2 by omega, kk _ (by omega)]; exact k3
        · rw [← hN, f2.2.2.2 N (by omega) (by omega)]; exact m1
      · exact f4 j (by omega) h2
theorem W_init_e (hA : z_Al G b 5) (hb : z_np G = b + 1) (M : zM) : z_call 3 [.ref b] G M = z_ex 3 [(73, 1, 0, 24, 29), (39, 0, 0, 0, 32), (66, 4, 1, 26, 33), (19, 5, 6, 27, 36), (2, 0, 0, 0, 39), (7, 160, 0, 0, 40), (74, 0, 0, 0, 43), (19, 5, 7, 31, 45), (5, 0, 0, 0, 48), (10, 1, 0, 0, 49), (55, 50, 0, 0, 50)] [.ref b, .null] [.ref b] (z_mk (z_mk (z_mk G b 3 (1, 4) 4) b 4 (1, 8) 8) b 5 (3, 8) 8) (z_sA (z_sA (z_sA M (b + 1) (fun _ => 0)) (b + 2) (fun _ => 0)) (b + 3) (fun _ => 0)) := by
  have A1 : z_Al (z_mk G b 3 (1, 4) 4) b 5 := mk_Al hA
  have A2 : z_Al (z_mk (z_mk G b 3 (1, 4) 4) b 4 (1, 8) 8) b 5 := mk_Al A1
  have n1 : z_np (z_mk G b 3 (1, 4) 4) = b + 2 := by rw [mk_np]; omega
  have n2 : z_np (z_mk (z_mk G b 3 (1, 4) 4) b 4 (1, 8) 8) = b + 3 := by rw [mk_np]; omega
  rw [ze_W_init, zk_W_init_0, xo_2_0, xo_68 _ _ _ _ _ _ _ _ _ _ _ (by exact Nat.le_of_ble_eq_true rfl), xo_2_0, xo_5, x_mk74 hA _ _ _ _ _ _ _ _ _ _ _ _ (by omega), xo_2_0, xo_6, x_mk74 A1 _ _ _ _ _ _ _ _ _ _ _ _ (by omega), xo_2_0, xo_6, x_mk76 A2 _ _ _ _ _ _ _ _ _ _ _ _ (by omega), xo_2_0, n1, n2, hb]
theorem W_init_e2 {G1 : zG} {M1 : zM} (hh : z_np G1 = z_nc G1 + 32) (np1 : z_np G1 = b + 4) : z_ex 3 [(73, 1, 0, 24, 29), (39, 0, 0, 0, 32), (66, 4, 1, 26, 33), (19, 5, 6, 27, 36), (2, 0, 0, 0, 39), (7, 160, 0, 0, 40), (74, 0, 0, 0, 43), (19, 5, 7, 31, 45), (5, 0, 0, 0, 48), (10, 1, 0, 0, 49), (55, 50, 0, 0, 50)] [.ref b, .null] [.ref b] G1 M1 = z_k 66 3 [(19, 5, 6, 27, 36), (2, 0, 0, 0, 39), (7, 160, 0, 0, 40), (74, 0, 0, 0, 43), (19, 5, 7, 31, 45), (5, 0, 0, 0, 48), (10, 1, 0, 0, 49), (55, 50, 0, 0, 50)] [.ref b, .null] [.ref (b + 4), .ref b] (z_call 4 [.ref (b + 4)] (z_new G1 (0, 1) 6) (z_sA M1 (b + 4) (fun _ => 0))) := by
  simp (disch := first | assumption | omega | exact Nat.le_of_ble_eq_true rfl | decide) only [xo_73, xo_39r, xo_66_1, np1]
  rfl
theorem W_init_e3 {G2 : zG} {M2 : zM} (A2 : z_Al G2 b 5) (np3 : z_np G2 = b + 8) : z_k 66 3 [(19, 5, 6, 27, 36), (2, 0, 0, 0, 39), (7, 160, 0, 0, 40), (74, 0, 0, 0, 43), (19, 5, 7, 31, 45), (5, 0, 0, 0, 48), (10, 1, 0, 0, 49), (55, 50, 0, 0, 50)] [.ref b, .null] [.ref (b + 4), .ref b] (some (.inl none, G2, M2)) = z_ex 3 (z_blk 3 50) [.ref b, .int (nI 0)] [] (z_mk (z_setR G2 b 6 (b + 4)) b 7 (1, 160) 160) (z_sA M2 (b + 8) (fun _ => 0)) := by
  have h1 := A2.1
  have h2 := A2.2.1
  have A3 : z_Al (z_setR G2 b 6 (b + 4)) b 5 := A2
  have e : z_np (z_setR G2 b 6 (b + 4)) = b + 8 := np3
  simp (disch := first | assumption | omega | exact Nat.le_of_ble_eq_true rfl | decide) only [xk_n, xo_19, xo_2_0, xo_7, x_mk74, xo_5, xo_10_1i, xo_10_1r, xo_10_1n, xo_55, e]
theorem c_W_init (hA : z_Al G b 5) (hb : z_np G = b + 1) (M : zM) : ∃ G' M', z_call 3 [.ref b] G M = some (.inl none, G', M') ∧ z_Xt b 40 7674 G G' M M' ∧ z_HW G' b ∧ (∀ i, i < 8 → M' (b + (9 + 4 * i)) 0 = nI i) ∧ M' b = M b := by
  have h32 := hA.2.1
  have hq := hA.2.2.2
  obtain ⟨G1, hG1⟩ : ∃ G1, G1 = z_mk (z_mk (z_mk G b 3 (1, 4) 4) b 4 (1, 8) 8) b 5 (3, 8) 8 := ⟨_, rfl⟩
  obtain ⟨M1, hM1⟩ : ∃ M1, M1 = z_sA (z_sA (z_sA M (b + 1) (fun _ => 0)) (b + 2) (fun _ => 0)) (b + 3) (fun _ => 0) := ⟨_, rfl⟩
  have A1 : z_Al G1 b 5 := by rw [hG1]; exact mk_Al (mk_Al (mk_Al hA))
  have np1 : z_np G1 = b + 4 := by rw [hG1]; simp only [mk_np]; omega
  have x1 : z_Xt b 3 20 G G1 M M1 := by
    have := Xt_trans (Xt_trans (Xt_mk (G := G) (p := b) (f := 3) (kind := (1, 4)) (sl := 4) M (fun _ => 0)) (Xt_mk (f := 4) (kind := (1, 8)) (sl := 8) _ (fun _ => 0)) (Or.inl rfl)) (Xt_mk (f := 5) (kind := (3, 8)) (sl := 8) _ (fun _ => 0)) (Or.inl rfl)
    simp only [mk_np, hb] at this
    rw [hG1, hM1]; exact this
  have q3 : z_rf G1 b 3 = b + 1 := by rw [hG1, mk_rf (by simp only [mk_np]; omega) (by omega), mk_rf (by simp only [mk_np]; omega) (by omega), mk_rfs, hb]
  have q4 : z_rf G1 b 4 = b + 2 := by rw [hG1, mk_rf (by simp only [mk_np]; omega) (by omega), mk_rfs, mk_np, hb]
  have q5 : z_rf G1 b 5 = b + 3 := by rw [hG1, mk_rfs]; simp only [mk_np]; omega
  have j1 : z_kd G1 (b + 1) = (1, 4) := by rw [hG1, mk_kd (by simp only [mk_np]; omega), mk_kd (by simp only [mk_np]; omega), ← hb, mk_kds]
  have j2 : z_kd G1 (b + 2) = (1, 8) := by
    rw [hG1, mk_kd (by simp only [mk_np]; omega)]
    have := mk_kds (G := z_mk G b 3 (1, 4) 4) (p := b) (f := 4) (kind := (1, 8)) (sl := 8)
    rw [mk_np, hb] at this; exact this
  have j3 : z_kd G1 (b + 3) = (3, 8) := by
    rw [hG1]
    have := mk_kds (G := z_mk (z_mk G b 3 (1, 4) 4) b 4 (1, 8) 8) (p := b) (f := 5) (kind := (3, 8)) (sl := 8)
    simp only [mk_np, hb] at this; exact this
  have mb1 : M1 b = M b := by rw [hM1, z_sA_n _ _ _ _ (by omega), z_sA_n _ _ _ _ (by omega), z_sA_n _ _ _ _ (by omega)]
  have a4 : z_Al (z_new G1 (0, 1) 6) (b + 4) 1 := by have := new_Al (c := 1) (s := 6) A1.2.2.2; rwa [np1] at this
  obtain ⟨M1', hM1'⟩ : ∃ M1', M1' = z_sA M1 (b + 4) (fun _ => 0) := ⟨_, rfl⟩
  have x2 : z_Xt b 1 6 G1 (z_new G1 (0, 1) 6) M1 M1' := by rw [hM1', ← np1]; exact Xt_new _ M1 _
  have np2 : z_np (z_new G1 (0, 1) 6) = b + 5 := by show z_np G1 + 1 = _; omega
  have mb2 : M1' b = M b := by rw [hM1', z_sA_n _ _ _ _ (by omega)]; exact mb1
  obtain ⟨G2, M2, c2, y2, ⟨r0, r4, r5⟩, k5, k6, k7, _⟩ := c_A_init a4 M1'
  rw [np2] at r0 r4 r5 k5 k6 k7
  have x12 := Xt_trans (Xt_trans x1 x2 (Or.inl rfl)) y2 (Or.inr (by omega))
  have np3 : z_np G2 = b + 8 := by rw [y2.1.1, np2]
  have A2 : z_Al G2 b 5 := Xt_Al x12 hA
  have A3 : z_Al (z_setR G2 b 6 (b + 4)) b 5 := A2
  have kb2 := A2.1
  have b40 : b + 4 ≠ 0 := by omega
  obtain ⟨G3, hG3⟩ : ∃ G3, G3 = z_mk (z_setR G2 b 6 (b + 4)) b 7 (1, 160) 160 := ⟨_, rfl⟩
  obtain ⟨M3, hM3⟩ : ∃ M3, M3 = z_sA M2 (b + 8) (fun _ => 0) := ⟨_, rfl⟩
  have np4 : z_np G3 = b + 9 := by rw [hG3, mk_np]; show z_np G2 + 1 = _; omega
  have x13 : z_Xt b 8 7402 G G3 M M3 := by
    have := Xt_trans (Xt_trans x12 (Xt_set G2 b 6 (b + 4) M2) (Or.inl rfl)) (Xt_mk (f := 7) (kind := (1, 160)) (sl := 160) M2 (fun _ => 0)) (Or.inl rfl)
    rw [hG3, hM3]
    have e : z_np (z_setR G2 b 6 (b + 4)) = b + 8 := np3
    rw [e] at this
    exact this
  have A4 : z_Al G3 b 5 := Xt_Al x13 hA
  have kd3 : ∀ a, a < b + 8 → z_kd G3 a = z_kd G2 a := fun a ha => by rw [hG3, mk_kd (by show a < z_np G2; omega)]; rfl
  have rf3 : ∀ a k, a < b + 8 → (a ≠ b ∨ (k ≠ 6 ∧ k ≠ 7)) → z_rf G3 a k = z_rf G2 a k := fun a k ha h => by rw [hG3, mk_rf (by show a < z_np G2; omega) (by omega), set_rf, if_neg (by omega)]
  have kd2 : ∀ a, a < b + 4 → z_kd G2 a = z_kd G1 a := fun a ha => by rw [y2.2.1 a (by omega), x2.2.1 a (by omega)]
  have rf2 : ∀ k, z_rf G2 b k = z_rf G1 b k := fun k => by rw [y2.2.2.1 b k (by omega) (by omega), new_rf _ _ _ _ _ (by omega)]
  have k8 : z_kd G3 (b + 8) = (1, 160) := by
    rw [hG3]
    have := mk_kds (G := z_setR G2 b 6 (b + 4)) (p := b) (f := 7) (kind := (1, 160)) (sl := 160)
    have e : z_np (z_setR G2 b 6 (b + 4)) = b + 8 := np3
    rw [e] at this; exact this
  have e7 : z_rf G3 b 7 = b + 8 := by rw [hG3, mk_rfs]; exact np3
  have e6 : z_rf G3 b 6 = b + 4 := by rw [hG3, mk_rf (by show b < z_np G2; omega) (by omega), set_rf, if_pos ⟨rfl, rfl⟩]
  have e5 : z_rf G3 b 5 = b + 3 := by rw [rf3 _ _ (by omega) (by omega), rf2]; exact q5
  obtain ⟨G', M', f1, f2, _, f4⟩ := l_W_init (b := b) 8 0 G3 M3 (by omega) A4 (by rw [np4]) e5 (by rw [kd3 _ (by omega), kd2 _ (by omega)]; exact j3)
  have x14 := Xt_trans x13 f2 (Or.inr (by omega))
  have e0 : z_call 3 [.ref b] G M = z_k 66 3 [(19, 5, 6, 27, 36), (2, 0, 0, 0, 39), (7, 160, 0, 0, 40), (74, 0, 0, 0, 43), (19, 5, 7, 31, 45), (5, 0, 0, 0, 48), (10, 1, 0, 0, 49), (55, 50, 0, 0, 50)] [.ref b, .null] [.ref (b + 4), .ref b] (z_call 4 [.ref (b + 4)] (z_new G1 (0, 1) 6) M1') := by
    rw [W_init_e hA hb M, ← hG1, ← hM1, W_init_e2 A1.2.2.2 np1, ← hM1']
  have kk : ∀ a, a < b + 9 → a ≠ b → z_kd G' a = z_kd G3 a := fun a ha _ => f2.2.1 a (by omega)
  have rr : ∀ a k, a < b + 9 → a ≠ b + 3 → z_rf G' a k = z_rf G3 a k := fun a k ha h => f2.2.2.1 a k (by omega) h
  refine ⟨G', M', ?_, x14, ⟨h32, ?_, ⟨?_, ?_, ?_, ?_, ?_⟩, ?_, ?_, ?_, ?_, ⟨?_, ?_, ?_⟩, ?_, ?_, ?_, ?_, fun i hi => ?_⟩, fun i hi => (f4 i (by omega) hi).2, ?_⟩
  · rw [e0, c2, ← f1, hG3, hM3, W_init_e3 A2 np3]
  · rw [f2.2.1 b (by omega)]; exact A4.1
  · rw [rr _ _ (by omega) (by omega), rf3 _ _ (by omega) (by omega), rf2]; exact q3
  · rw [rr _ _ (by omega) (by omega), rf3 _ _ (by omega) (by omega), rf2]; exact q4
  · rw [rr _ _ (by omega) (by omega)]; exact e5
  · rw [rr _ _ (by omega) (by omega)]; exact e6
  · rw [rr _ _ (by omega) (by omega)]; exact e7
  · rw [kk _ (by omega) (by omega), kd3 _ (by omega), kd2 _ (by omega), j1]; exact ⟨rfl, rfl⟩
  · rw [kk _ (by omega) (by omega), kd3 _ (by omega), kd2 _ (by omega), j2]; exact ⟨rfl, rfl⟩
  · rw [kk _ (by omega) (by omega), kd3 _ (by omega), kd2 _ (by omega), j3]; exact ⟨rfl, rfl⟩
  · rw [kk _ (by omega) (by omega), kd3 _ (by omega), y2.2.1 _ (by omega)]; exact a4.1
  · rw [rr _ _ (by omega) (by omega), rf3 _ _ (by omega) (by omega), r0]
  · rw [rr _ _ (by omega) (by omega), rf3 _ _ (by omega) (by omega), r4]
  · rw [rr _ _ (by omega) (by omega), rf3 _ _ (by omega) (by omega), r5]
  · rw [kk _ (by omega) (by omega), kd3 _ (by omega), k5]; exact ⟨rfl, rfl⟩
  · rw [kk _ (by omega) (by omega), kd3 _ (by omega), show b + 6 = b + 5 + 1 by omega, k6]; exact ⟨rfl, rfl⟩
  · rw [kk _ (by omega) (by omega), kd3 _ (by omega), show b + 7 = b + 5 + 2 by omega, k7]; exact ⟨rfl, rfl⟩
  · rw [kk _ (by omega) (by omega), k8]; exact ⟨rfl, rfl⟩
  · obtain ⟨⟨g1, g2, g3, g4, g5, g6⟩, _⟩ := f4 i (by omega) hi
    exact ⟨g1, g2, g3, by rw [g4]; exact ⟨rfl, rfl⟩, by rw [g5]; exact ⟨rfl, rfl⟩, by rw [g6]; exact ⟨rfl, rfl⟩⟩
  · rw [f2.2.2.2 b (by omega) (by omega), hM3, z_sA_n _ _ _ _ (by omega), y2.2.2.2 b (by omega) (by omega)]; exact mb2
end
