/-! ===== the class is made ===== -/
theorem c_C_init {G : zG} (hA : z_Al G 32 6) (hb : z_np G = 33) (M : zM) (hM0 : M 32 = fun _ => 0) : ∃ G' M', z_call 0 [.ref 32] G M = some (.inl none, G', M') ∧ z_Xt 32 422 77083 G G' M M' ∧ z_HC G' 40 (fun k => 124 + 41 * k) ∧ z_HQ G' ∧ (M' 32 1 = nI 0 ∧ M' 32 2 = nI 4294967295 ∧ M' 32 8 = nI 0 ∧ M' 32 9 = nI 0) ∧ (∀ k, M' 33 k = 0 ∧ M' 34 k = 0) ∧ z_Bc 2 (y_S0 2) (fun k => M' (40 + k)) ∧ (∀ i, i < 8 → M' (81 + (9 + 4 * i)) 0 = nI i) ∧ ∀ j, j < 8 → ∀ i, i < 8 → M' (124 + 41 * j + (9 + 4 * i)) 0 = nI i := by
  have e0 := C_init_e (M := M) hA hb
  obtain ⟨Ga, hGa⟩ : ∃ Ga, Ga = z_mk (z_mk G 32 0 (1, 200) 200) 32 3 (1, 3) 3 := ⟨_, rfl⟩
  obtain ⟨Ma, hMa⟩ : ∃ Ma, Ma = z_sA (z_sA (z_sA M 33 (fun _ => 0)) 32 (z_u (M 32) 2 (nI 4294967295))) 34 (fun _ => 0) := ⟨_, rfl⟩
  rw [← hGa, ← hMa] at e0
  have xa : z_Xt 32 2 203 G Ga M Ma := by
    have := Xt_trans (Xt_trans (Xt_mk (G := G) (p := 32) (f := 0) (kind := (1, 200)) (sl := 200) M (fun _ => 0)) (Xt_u _ _ _ (z_u (M 32) 2 (nI 4294967295))) (Or.inl rfl)) (Xt_mk (f := 3) (kind := (1, 3)) (sl := 3) _ (fun _ => 0)) (Or.inl rfl)
    rw [hGa, hMa]
    simp only [mk_np, hb] at this
    exact this
  have npa : z_np Ga = 35 := by rw [xa.1.1, hb]
  have Aa := Xt_Al xa hA
  have ra0 : z_rf Ga 32 0 = 33 := by rw [hGa, mk_rf (by rw [mk_np]; omega) (by omega), mk_rfs, hb]
  have ra3 : z_rf Ga 32 3 = 34 := by rw [hGa, mk_rfs, mk_np, hb]
  have ka3 : z_kd Ga 33 = (1, 200) := by rw [hGa, mk_kd (by rw [mk_np]; omega), ← hb, mk_kds]
  have ka4 : z_kd Ga 34 = (1, 3) := by
    rw [hGa]
    have := mk_kds (G := z_mk G 32 0 (1, 200) 200) (p := 32) (f := 3) (kind := (1, 3)) (sl := 3)
    rw [mk_np, hb] at this; exact this
  have ma : ∀ f, Ma 32 f = if f = 2 then nI 4294967295 else 0 := fun f => by
    rw [hMa, z_sA_n _ _ _ _ (by omega), z_sA_s, hM0]; rfl
  have m34 : Ma 34 = fun _ => 0 := by rw [hMa, z_sA_s]
  have m33 : Ma 33 = fun _ => 0 := by rw [hMa, z_sA_n _ _ _ _ (by omega), z_sA_n _ _ _ _ (by omega), z_sA_s]
  clear hGa hMa
  -- the reader
  have a1 : z_Al (z_new Ga (0, 4) 9) 35 4 := by have := new_Al (c := 4) (s := 9) Aa.2.2.2; rwa [npa] at this
  have x1 : z_Xt 32 1 9 Ga (z_new Ga (0, 4) 9) Ma (z_sA Ma 35 (fun _ => 0)) := by rw [← npa]; exact Xt_new _ Ma _
  have np1 : z_np (z_new Ga (0, 4) 9) = 36 := by show z_np Ga + 1 = _; omega
  obtain ⟨G1, M1, c1, y1, t0, tP⟩ := c_T_init a1 (z_sA Ma 35 (fun _ => 0))
  rw [np1] at t0 tP
  have x01 := Xt_trans (Xt_trans xa x1 (Or.inl rfl)) y1 (Or.inr (by omega))
  have np2 : z_np G1 = 40 := by rw [y1.1.1, np1]
  have A1 := Xt_Al x01 hA
  have k35 : z_kd G1 35 = (0, 4) := (y1.2.1 35 (by omega)).trans a1.1
  have m1 : ∀ a, a < 35 → M1 a = Ma a := fun a ha => (y1.2.2.2 a (by omega) (by omega)).trans (z_sA_n _ _ _ _ (by omega))
  have r1 : ∀ k, z_rf G1 32 k = z_rf Ga 32 k := fun k => (y1.2.2.1 32 k (by omega) (by omega)).trans (new_rf _ _ _ _ _ (by omega))
  -- the world
  have s2 := x_nx5 (M := M1) A1 np2 0 66 35 4 23 33 36 5 27 37 40 3 29 41 [(19, 6, 5, 30, 44), (2, 0, 0, 0, 47), (73, 5, 0, 27, 48), (39, 0, 0, 0, 51), (65, 3, 1, 29, 52), (19, 6, 6, 34, 55), (2, 0, 0, 0, 58), (6, 8, 0, 0, 59), (76, 4, 0, 27, 61), (19, 6, 7, 37, 64), (2, 0, 0, 0, 67), (73, 0, 0, 41, 68), (39, 0, 0, 0, 71), (66, 6, 1, 43, 72), (19, 6, 10, 44, 75), (5, 0, 0, 0, 78), (10, 1, 0, 0, 79), (55, 80, 0, 0, 80)] .null (by omega)
  have a2 : z_Al (z_new (z_setR G1 32 4 35) (0, 5) 9) 40 5 := by have := new_Al (G := z_setR G1 32 4 35) (c := 5) (s := 9) A1.2.2.2; rwa [show z_np (z_setR G1 32 4 35) = 40 from np2] at this
  have x2 : z_Xt 32 1 9 G1 (z_new (z_setR G1 32 4 35) (0, 5) 9) M1 (z_sA M1 40 (fun _ => 0)) := by
    have := Xt_trans (Xt_set G1 32 4 35 M1) (Xt_new (G := z_setR G1 32 4 35) 32 (kind := (0, 5)) (sl := 9) M1 (fun _ => 0)) (Or.inl rfl)
    rw [show z_np (z_setR G1 32 4 35) = 40 from np2] at this; exact this
  have np3 : z_np (z_new (z_setR G1 32 4 35) (0, 5) 9) = 40 + 1 := by show z_np G1 + 1 = _; omega
  obtain ⟨G2, M2, c2, y2, w2, n2, b2⟩ := c_W_init a2 np3 (z_sA M1 40 (fun _ => 0))
  have x02 := Xt_trans (Xt_trans x01 x2 (Or.inl rfl)) y2 (Or.inr (by omega))
  have np4 : z_np G2 = 81 := by rw [y2.1.1, np3]
  have A2 := Xt_Al x02 hA
  have r2 : ∀ k, k ≠ 4 → z_rf G2 32 k = z_rf Ga 32 k := fun k hk => by rw [y2.2.2.1 32 k (by omega) (by omega), new_rf _ _ _ _ _ (by show 32 ≠ z_np G1; omega), set_rf, if_neg (by omega)]; exact r1 k
  have r24 : z_rf G2 32 4 = 35 := by rw [y2.2.2.1 32 4 (by omega) (by omega), new_rf _ _ _ _ _ (by show 32 ≠ z_np G1; omega), set_rf, if_pos ⟨rfl, rfl⟩]
  have x12 := Xt_trans x2 y2 (Or.inr (by omega))
  have m2 : ∀ a, a < 40 → a ≠ 32 → M2 a = M1 a := fun a ha hn => (y2.2.2.2 a (by omega) (by omega)).trans (z_sA_n _ _ _ _ (by omega))
  have m232 : M2 32 = M1 32 := (y2.2.2.2 32 (by omega) (by omega)).trans (z_sA_n _ _ _ _ (by omega))
  have m240 : M2 40 = fun _ => 0 := by rw [b2, z_sA_s]
  -- the paper
  have s3 := x_nx5 (M := M2) A2 np4 0 65 40 5 30 44 47 5 27 48 51 3 29 52 [(19, 6, 6, 34, 55), (2, 0, 0, 0, 58), (6, 8, 0, 0, 59), (76, 4, 0, 27, 61), (19, 6, 7, 37, 64), (2, 0, 0, 0, 67), (73, 0, 0, 41, 68), (39, 0, 0, 0, 71), (66, 6, 1, 43, 72), (19, 6, 10, 44, 75), (5, 0, 0, 0, 78), (10, 1, 0, 0, 79), (55, 80, 0, 0, 80)] .null (by omega)
  have a3 : z_Al (z_new (z_setR G2 32 5 40) (0, 5) 9) 81 5 := by have := new_Al (G := z_setR G2 32 5 40) (c := 5) (s := 9) A2.2.2.2; rwa [show z_np (z_setR G2 32 5 40) = 81 from np4] at this
  have x3 : z_Xt 32 1 9 G2 (z_new (z_setR G2 32 5 40) (0, 5) 9) M2 (z_sA M2 81 (fun _ => 0)) := by
    have := Xt_trans (Xt_set G2 32 5 40 M2) (Xt_new (G := z_setR G2 32 5 40) 32 (kind := (0, 5)) (sl := 9) M2 (fun _ => 0)) (Or.inl rfl)
    rw [show z_np (z_setR G2 32 5 40) = 81 from np4] at this; exact this
  have np5 : z_np (z_new (z_setR G2 32 5 40) (0, 5) 9) = 81 + 1 := by show z_np G2 + 1 = _; omega
  obtain ⟨G3, M3, c3, y3, w3, n3, _⟩ := c_W_init a3 np5 (z_sA M2 81 (fun _ => 0))
  have x03 := Xt_trans (Xt_trans x02 x3 (Or.inl rfl)) y3 (Or.inr (by omega))
  have np6 : z_np G3 = 122 := by rw [y3.1.1, np5]
  have A3 := Xt_Al x03 hA
  have r3 : ∀ k, k ≠ 5 → z_rf G3 32 k = z_rf G2 32 k := fun k hk => by rw [y3.2.2.1 32 k (by omega) (by omega), new_rf _ _ _ _ _ (by show 32 ≠ z_np G2; omega), set_rf, if_neg (by omega)]
  have r35 : z_rf G3 32 5 = 40 := by rw [y3.2.2.1 32 5 (by omega) (by omega), new_rf _ _ _ _ _ (by show 32 ≠ z_np G2; omega), set_rf, if_pos ⟨rfl, rfl⟩]
  have x23 := Xt_trans x3 y3 (Or.inr (by omega))
  have m3 : ∀ a, a < 81 → M3 a = M2 a := fun a ha => (y3.2.2.2 a (by omega) (by omega)).trans (z_sA_n _ _ _ _ (by omega))
  have w2' : z_HW G3 40 := HW_Xt w2 x23 (by omega) (by omega)
  -- the past's array, the draws
  have s4 := C_init_e3 (M := M3) A3 np6 65
  obtain ⟨G4, hG4⟩ : ∃ G4, G4 = z_setR (z_new (z_mk (z_setR G3 32 6 81) 32 7 (4, 8) 8) (0, 0) 1) 32 10 123 := ⟨_, rfl⟩
  obtain ⟨M4, hM4⟩ : ∃ M4, M4 = z_sA (z_sA M3 122 (fun _ => 0)) 123 (fun _ => 0) := ⟨_, rfl⟩
  rw [← hG4, ← hM4] at s4
  have nq : z_np (z_setR G3 32 6 81) = 122 := np6
  have nr : z_np (z_mk (z_setR G3 32 6 81) 32 7 (4, 8) 8) = 123 := by rw [mk_np, nq]
  have x34 : z_Xt 32 2 9 G3 G4 M3 M4 := by
    have := Xt_trans (Xt_trans (Xt_trans (Xt_set G3 32 6 81 M3) (Xt_mk (f := 7) (kind := (4, 8)) (sl := 8) M3 (fun _ => 0)) (Or.inl rfl)) (Xt_new 32 (kind := (0, 0)) (sl := 1) _ (fun _ => 0)) (Or.inl rfl)) (Xt_set _ 32 10 123 _) (Or.inl rfl)
    rw [nq, nr] at this
    rw [hG4, hM4]; exact this
  have r4 : ∀ k, k ≠ 6 → k ≠ 7 → k ≠ 10 → z_rf G4 32 k = z_rf G3 32 k := fun k h6 h7 h10 => by
    rw [hG4, set_rf, if_neg (by omega), new_rf _ _ _ _ _ (by omega), mk_rf (by omega) (by omega), set_rf, if_neg (by omega)]
  have r46 : z_rf G4 32 6 = 81 := by rw [hG4, set_rf, if_neg (by omega), new_rf _ _ _ _ _ (by omega), mk_rf (by omega) (by omega), set_rf, if_pos ⟨rfl, rfl⟩]
  have r47 : z_rf G4 32 7 = 122 := by rw [hG4, set_rf, if_neg (by omega), new_rf _ _ _ _ _ (by omega), mk_rfs, nq]
  have r410 : z_rf G4 32 10 = 123 := by rw [hG4, set_rf, if_pos ⟨rfl, rfl⟩]
  have k122 : z_kd G4 122 = (4, 8) := by
    rw [hG4]
    show z_kd (z_new (z_mk (z_setR G3 32 6 81) 32 7 (4, 8) 8) (0, 0) 1) 122 = _
    rw [new_kd _ _ _ _ (by omega)]
    have := mk_kds (G := z_setR G3 32 6 81) (p := 32) (f := 7) (kind := (4, 8)) (sl := 8)
    rw [nq] at this; exact this
  have k123 : z_kd G4 123 = (0, 0) := by
    rw [hG4]
    show z_kd (z_new (z_mk (z_setR G3 32 6 81) 32 7 (4, 8) 8) (0, 0) 1) 123 = _
    have := new_kds (z_mk (z_setR G3 32 6 81) 32 7 (4, 8) 8) (0, 0) 1
    rw [nr] at this; exact this
  have m4 : ∀ a, a < 122 → M4 a = M3 a := fun a ha => by rw [hM4, z_sA_n _ _ _ _ (by omega), z_sA_n _ _ _ _ (by omega)]
  clear hG4 hM4 nq nr
  have x04 := Xt_trans x03 x34 (Or.inl rfl)
  have np7 : z_np G4 = 124 := by rw [x34.1.1, np6]
  have A4 := Xt_Al x04 hA
  -- the past
  obtain ⟨G5, M5, s5, x45, _, f5⟩ := l_C_init 8 0 G4 M4 (by omega) A4 np7 r47 k122
  have x05 := Xt_trans x04 x45 (Or.inr (by omega))
  have np8 : z_np G5 = 452 := by rw [x45.1.1, np7]
  have A5 := Xt_Al x05 hA
  have s6 := C_init_e5 (M := M5) A5 np8
  -- the plain setup
  have a6 : z_Al (z_new G5 (0, 3) 4) 452 3 := by have := new_Al (c := 3) (s := 4) A5.2.2.2; rwa [np8] at this
  have x6 : z_Xt 32 1 4 G5 (z_new G5 (0, 3) 4) M5 (z_sA M5 452 (fun _ => 0)) := by rw [← np8]; exact Xt_new _ M5 _
  have np9 : z_np (z_new G5 (0, 3) 4) = 453 := by show z_np G5 + 1 = _; omega
  obtain ⟨G6, M6, c6, y6, ⟨q2, q3⟩, k61, k62, _⟩ := c_P_init a6 (z_sA M5 452 (fun _ => 0))
  rw [np9] at q2 q3 k61 k62
  have x56 := Xt_trans x6 y6 (Or.inr (by omega))
  have x06 := Xt_trans x05 x56 (Or.inl rfl)
  have np10 : z_np G6 = 455 := by rw [y6.1.1, np9]
  have A6 := Xt_Al x06 hA
  have k6 : z_kd G6 452 = (0, 3) := (y6.2.1 452 (by omega)).trans a6.1
  have hP6 : z_HP G6 452 := ⟨by omega, k6, ⟨q2, q3⟩, by rw [k61]; exact ⟨rfl, rfl⟩, by rw [show 452 + 2 = 453 + 1 by omega, k62]; exact ⟨rfl, rfl⟩⟩
  have m6 : ∀ a, a < 452 → M6 a = M5 a := fun a ha => (y6.2.2.2 a (by omega) (by omega)).trans (z_sA_n _ _ _ _ (by omega))
  have r6 : ∀ a k, a < 452 → z_rf G6 a k = z_rf G5 a k := fun a k ha => (y6.2.2.1 a k (by omega) (by omega)).trans (new_rf _ _ _ _ _ (by omega))
  have kd6 : ∀ a, a < 452 → z_kd G6 a = z_kd G5 a := fun a ha => x56.2.1 a (by omega)
  have w5 : z_HW G5 40 := HW_Xt (HW_Xt w2' x34 (by omega) (by omega)) x45 (by omega) (by omega)
  have w6 : z_HW G6 40 := HW_Xt w5 x56 (by omega) (by omega)
  have p6 : z_HW G6 81 := HW_Xt (HW_Xt (HW_Xt w3 x34 (by omega) (by omega)) x45 (by omega) (by omega)) x56 (by omega) (by omega)
  have m5 : ∀ a, a < 122 → M5 a = M4 a := fun a ha => x45.2.2.2 a (by omega) (by omega)
  have m60 : ∀ a, a < 81 → M6 a = M2 a := fun a ha => by rw [m6 a (by omega), m5 a (by omega), m4 a (by omega), m3 a ha]
  obtain ⟨M7, c7, su7, o7⟩ := c_P_plain hP6 M6 (n := 2) (by omega)
  have m7 : ∀ a, a < 81 → M7 a = M2 a := fun a ha => by rw [o7 a (by omega) (by omega) (by omega)]; exact m60 a ha
  obtain ⟨V', c8, b8⟩ := c_W_begin (n := 2) w6 hP6 (by omega) M7 (fun k => M7 (40 + k)) (S := y_S0 2) (c := 0) (by omega) su7 (by show M7 40 8 = _; rw [m7 40 (by omega), m240]; rfl) (by omega) (fun i hi => by show M7 (40 + _) 0 = _; rw [m7 _ (by omega)]; exact n2 i hi)
  rw [wr_id] at c8
  have r532 : ∀ k, z_rf G6 32 k = z_rf G4 32 k := fun k => (r6 32 k (by omega)).trans (x45.2.2.1 32 k (by omega) (by omega))
  have r50 : z_rf G6 32 5 = 40 := by rw [r532, r4 5 (by omega) (by omega) (by omega)]; exact r35
  have k40 : z_kd G6 40 = (0, 5) := w6.2.1
  have fin := C_init_e6 A6.1 r50 k40 k6 c7 c8 66
  have kx : ∀ a, a < 40 → z_kd G6 a = z_kd G1 a := fun a ha => by rw [kd6 a (by omega), x45.2.1 a (by omega), x34.2.1 a (by omega), x23.2.1 a (by omega), x12.2.1 a (by omega)]
  have rx : ∀ a k, a < 40 → a ≠ 32 → z_rf G6 a k = z_rf G1 a k := fun a k ha hn => by rw [r6 a k (by omega), x45.2.2.1 a k (by omega) (by omega), x34.2.2.1 a k (by omega) (by omega), x23.2.2.1 a k (by omega) (by omega), x12.2.2.1 a k (by omega) (by omega)]
  have k33 : z_kd G6 33 = (1, 200) := by rw [kx 33 (by omega), y1.2.1 33 (by omega), x1.2.1 33 (by omega)]; exact ka3
  have k34 : z_kd G6 34 = (1, 3) := by rw [kx 34 (by omega), y1.2.1 34 (by omega), x1.2.1 34 (by omega)]; exact ka4
  have m832 : ∀ f, wr M7 40 V' 32 f = if f = 2 then nI 4294967295 else 0 := fun f => by
    rw [wr_o _ _ _ _ (by omega), m7 32 (by omega), m232, m1 32 (by omega)]; exact ma f
  refine ⟨G6, wr M7 40 V', ?_, ?_, ⟨A6.1, ⟨?_, ?_, ?_, r50, ?_, ?_, ?_⟩, by rw [k33]; exact ⟨rfl, rfl⟩, by rw [k34]; exact ⟨rfl, rfl⟩, ?_, ?_, w6, p6, fun j hj => ⟨?_, ?_⟩, Or.inl rfl, fun j hj => ⟨Or.inr ⟨j, hj, rfl⟩, ?_⟩, fun i j hi hj hne => ?_⟩, ⟨?_, ?_, ?_⟩, ⟨?_, ?_, ?_, ?_⟩, fun k => ?_, Bc_V (by omega) b8 (fun k hk => wr_k _ _ _ _ hk), fun i hi => ?_, fun j hj i hi => ?_⟩
  · rw [e0, c1, s2]
    show z_k 65 _ _ _ _ (z_call 3 [.ref 40] (z_new (z_setR G1 32 4 35) (0, 5) 9) _) = _
    rw [c2, s3]
    show z_k 65 _ _ _ _ (z_call 3 [.ref 81] (z_new (z_setR G2 32 5 40) (0, 5) 9) _) = _
    rw [c3, s4, s5, s6, c6, fin]
  · refine ⟨x06.1, x06.2.1, x06.2.2.1, fun a ha hne => ?_⟩
    rw [wr_o _ _ _ _ (by omega), o7 a (by omega) (by omega) (by omega)]
    exact x06.2.2.2 a ha hne
  · rw [r532, r4 0 (by omega) (by omega) (by omega), r3 0 (by omega), r2 0 (by omega)]; exact ra0
  · rw [r532, r4 3 (by omega) (by omega) (by omega), r3 3 (by omega), r2 3 (by omega)]; exact ra3
  · rw [r532, r4 4 (by omega) (by omega) (by omega), r3 4 (by omega)]; exact r24
  · rw [r532]; exact r46
  · rw [r532]; exact r47
  · rw [r532]; exact r410
  · rw [kd6 _ (by omega), x45.2.1 _ (by omega)]; exact k123
  · rw [kd6 _ (by omega), x45.2.1 _ (by omega), k122]; exact ⟨rfl, rfl⟩
  · rw [r6 122 j (by omega)]; exact (f5 j (by omega) hj).1
  · show z_HW G6 (124 + 41 * j); exact HW_Xt (f5 j (by omega) hj).2.1 x56 (by omega) (by omega)
  · show 124 + 41 * j ≠ 40; omega
  · show 124 + 41 * i ≠ 124 + 41 * j; omega
  · rw [kx _ (by omega)]; exact k35
  · rw [rx _ _ (by omega) (by omega)]; exact t0
  · exact HP_Xt (HP_Xt (HP_Xt (HP_Xt (HP_Xt tP x12 (by omega) (by omega)) x23 (by omega) (by omega)) x34 (by omega) (by omega)) x45 (by omega) (by omega)) x56 (by omega) (by omega)
  · rw [m832]; rfl
  · rw [m832]; rfl
  · rw [m832]; rfl
  · rw [m832]; rfl
  · exact ⟨by rw [wr_o _ _ _ _ (by omega), m7 33 (by omega), m2 33 (by omega) (by omega), m1 33 (by omega), m33], by rw [wr_o _ _ _ _ (by omega), m7 34 (by omega), m2 34 (by omega) (by omega), m1 34 (by omega), m34]⟩
  · rw [wr_o _ _ _ _ (by omega), o7 _ (by omega) (by omega) (by omega), m6 _ (by omega), m5 _ (by omega), m4 _ (by omega)]; exact n3 i hi
  · rw [wr_o _ _ _ _ (by omega), o7 _ (by omega) (by omega) (by omega), m6 _ (by omega)]; exact (f5 j (by omega) hj).2.2 i hi
