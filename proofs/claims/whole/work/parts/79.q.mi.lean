/-! ===== the reference is made ===== -/
theorem n2_np (G : zG) (n k : Nat) : z_np (z_new2 G n k) = z_np G + (1 + n) := rfl
theorem n2_kd (G : zG) (n k a : Nat) (h : a < z_np G) : z_kd (z_new2 G n k) a = z_kd G a := by
  show (if a = z_np G then (5, n) else if z_np G < a ∧ a ≤ z_np G + n then (1, k) else G.2.1 a) = G.2.1 a
  rw [if_neg (by omega), if_neg (by omega)]
theorem n2_kds (G : zG) (n k : Nat) : z_kd (z_new2 G n k) (z_np G) = (5, n) := by
  show (if z_np G = z_np G then (5, n) else _) = _
  rw [if_pos rfl]
theorem n2_kdi (G : zG) (n k j : Nat) (h : j < n) : z_kd (z_new2 G n k) (z_np G + 1 + j) = (1, k) := by
  show (if z_np G + 1 + j = z_np G then (5, n) else if z_np G < z_np G + 1 + j ∧ z_np G + 1 + j ≤ z_np G + n then (1, k) else G.2.1 _) = (1, k)
  rw [if_neg (by omega), if_pos (by omega)]
theorem n2_rf (G : zG) (n k a j : Nat) (h : a < z_np G) : z_rf (z_new2 G n k) a j = z_rf G a j := by
  show (if a = z_np G then (fun j => if j < n then z_np G + 1 + j else 0) else if z_np G < a ∧ a ≤ z_np G + n then (fun _ => 0) else G.2.2.1 a) j = G.2.2.1 a j
  rw [if_neg (by omega), if_neg (by omega)]
theorem n2_rfs (G : zG) (n k j : Nat) (h : j < n) : z_rf (z_new2 G n k) (z_np G) j = z_np G + 1 + j := by
  show (if z_np G = z_np G then (fun j => if j < n then z_np G + 1 + j else 0) else _) j = _
  rw [if_pos rfl]
  show (if j < n then z_np G + 1 + j else 0) = _
  rw [if_pos h]
theorem n2_M (G : zG) (n : Nat) (M : zM) (a : Nat) (h : a < z_np G) : z_new2M G n M a = M a := by
  show (if z_np G ≤ a ∧ a ≤ z_np G + n then (fun _ => 0) else M a) = M a
  rw [if_neg (by omega)]
theorem Xt_n2 (G : zG) (p n k : Nat) (M : zM) : z_Xt p (1 + n) (n + n * k) G (z_new2 G n k) M (z_new2M G n M) := ⟨⟨rfl, rfl, rfl⟩, fun a ha => n2_kd _ _ _ _ ha, fun a j ha _ => n2_rf _ _ _ _ _ ha, fun a ha _ => n2_M _ _ _ _ ha⟩
section
variable {G : zG} {M : zM}
def mi_G (G : zG) : zG := z_mk (z_mk (z_mk (z_mk (z_mk (z_mk G 455 1 (1, 3) 3) 455 8 (1, 200) 200) 455 9 (1, 4326) 4326) 455 10 (1, 4326) 4326) 455 11 (1, 4326) 4326) 455 12 (1, 4326) 4326
def mi_M (M : zM) : zM := z_sA (z_sA (z_sA (z_sA (z_sA (z_sA (z_sA M 456 (fun _ => 0)) 455 (z_u (M 455) 5 (nI 4294967295))) 457 (fun _ => 0)) 458 (fun _ => 0)) 459 (fun _ => 0)) 460 (fun _ => 0)) 461 (fun _ => 0)
theorem M_init_e (hA : z_Al G 455 7) (hb : z_np G = 456) : z_call 147 [.ref 455] G M = z_ex 147 [(6, 8, 0, 0, 62), (7, 4326, 0, 0, 64), (77, 0, 0, 32, 67), (19, 7, 13, 34, 71), (2, 0, 0, 0, 74), (6, 13, 0, 0, 75), (74, 0, 0, 0, 77), (19, 7, 17, 37, 79), (2, 0, 0, 0, 82), (5, 2, 0, 0, 83), (64, 148, 2, 40, 84), (2, 0, 0, 0, 87), (2, 0, 0, 0, 88), (17, 7, 10, 23, 89), (64, 149, 2, 44, 92), (69, 0, 0, 0, 95)] [.ref 455] [.ref 455] (mi_G G) (mi_M M) := by
  have A1 : z_Al (z_mk G 455 1 (1, 3) 3) 455 7 := mk_Al hA
  have A2 : z_Al (z_mk (z_mk G 455 1 (1, 3) 3) 455 8 (1, 200) 200) 455 7 := mk_Al A1
  have A3 : z_Al (z_mk (z_mk (z_mk G 455 1 (1, 3) 3) 455 8 (1, 200) 200) 455 9 (1, 4326) 4326) 455 7 := mk_Al A2
  have A4 : z_Al (z_mk (z_mk (z_mk (z_mk G 455 1 (1, 3) 3) 455 8 (1, 200) 200) 455 9 (1, 4326) 4326) 455 10 (1, 4326) 4326) 455 7 := mk_Al A3
  have A5 : z_Al (z_mk (z_mk (z_mk (z_mk (z_mk G 455 1 (1, 3) 3) 455 8 (1, 200) 200) 455 9 (1, 4326) 4326) 455 10 (1, 4326) 4326) 455 11 (1, 4326) 4326) 455 7 := mk_Al A4
  unfold mi_G mi_M
  rw [ze_M_init, zk_M_init_0, xo_2_0, xo_68 _ _ _ _ _ _ _ _ _ _ _ (by exact Nat.le_of_ble_eq_true rfl), xo_2_0, xo_5, x_mk74 hA _ _ _ _ _ _ _ _ _ _ _ _ (by omega), xo_2_0, xo_5, xo_18 _ _ _ _ _ _ _ _ _ _ _ _ A1.1 (by omega), xo_2_0, xo_7, x_mk74 A1 _ _ _ _ _ _ _ _ _ _ _ _ (by omega), xo_2_0, xo_7, x_mk74 A2 _ _ _ _ _ _ _ _ _ _ _ _ (by omega), xo_2_0, xo_7, x_mk74 A3 _ _ _ _ _ _ _ _ _ _ _ _ (by omega), xo_2_0, xo_7, x_mk74 A4 _ _ _ _ _ _ _ _ _ _ _ _ (by omega), xo_2_0, xo_7, x_mk74 A5 _ _ _ _ _ _ _ _ _ _ _ _ (by omega), xo_2_0]
  simp only [mk_np, hb]
  rw [z_sA_n _ _ _ _ (show (455 : Nat) ≠ 456 by omega)]
theorem M_init_e2 (hA : z_Al G 455 7) (hb : z_np G = 462) : z_ex 147 [(6, 8, 0, 0, 62), (7, 4326, 0, 0, 64), (77, 0, 0, 32, 67), (19, 7, 13, 34, 71), (2, 0, 0, 0, 74), (6, 13, 0, 0, 75), (74, 0, 0, 0, 77), (19, 7, 17, 37, 79), (2, 0, 0, 0, 82), (5, 2, 0, 0, 83), (64, 148, 2, 40, 84), (2, 0, 0, 0, 87), (2, 0, 0, 0, 88), (17, 7, 10, 23, 89), (64, 149, 2, 44, 92), (69, 0, 0, 0, 95)] [.ref 455] [.ref 455] G M = z_ex 147 [(2, 0, 0, 0, 82), (5, 2, 0, 0, 83), (64, 148, 2, 40, 84), (2, 0, 0, 0, 87), (2, 0, 0, 0, 88), (17, 7, 10, 23, 89), (64, 149, 2, 44, 92), (69, 0, 0, 0, 95)] [.ref 455] [] (z_mk (z_setR (z_new2 G 8 4326) 455 13 462) 455 17 (1, 13) 13) (z_sA (z_new2M G 8 M) 471 (fun _ => 0)) := by
  have h4 := hA.2.2.2
  have A1 : z_Al (z_setR (z_new2 G 8 4326) 455 13 462) 455 7 := ⟨(n2_kd G 8 4326 455 (by omega)).trans hA.1, by omega, by show 455 < z_np G + (1 + 8); omega, by show z_np G + (1 + 8) = z_nc G + (1 + 8) + 32; omega⟩
  have k1 : z_kd (z_new2 G 8 4326) 455 = (0, 7) := (n2_kd G 8 4326 455 (by omega)).trans hA.1
  have n1 : z_np (z_setR (z_new2 G 8 4326) 455 13 462) = 471 := by show z_np G + (1 + 8) = _; omega
  rw [xo_6, xo_7, xo_77 _ _ _ _ _ _ _ _ _ _ _ _ h4 (by omega) (by omega), hb, xo_19 _ _ _ _ _ _ _ _ _ _ _ _ k1 (by omega) (by omega), xo_2_0, xo_6, x_mk74 A1 _ _ _ _ _ _ _ _ _ _ _ _ (by omega), n1]
theorem M_init_e3 (hM : z_HM G) {M1 M2 : zM} (e1 : z_call 148 [.ref 455, .int (nI 2)] G M = some (.inl none, G, M1)) (e2 : z_call 149 [.ref 455, .ref 459] G M1 = some (.inl none, G, M2)) : z_ex 147 [(2, 0, 0, 0, 82), (5, 2, 0, 0, 83), (64, 148, 2, 40, 84), (2, 0, 0, 0, 87), (2, 0, 0, 0, 88), (17, 7, 10, 23, 89), (64, 149, 2, 44, 92), (69, 0, 0, 0, 95)] [.ref 455] [] G M = some (.inl none, G, M2) := by
  obtain ⟨k0, ⟨r1, r8, r9, r10, r11, r12, r13, r17⟩, ⟨q1, q2⟩, ⟨q3, q4⟩, ⟨q5, q6⟩, ⟨q7, q8⟩, ⟨q9, q10⟩, ⟨q11, q12⟩, ⟨q13, q14⟩, ⟨q15, q16⟩, hp⟩ := id hM; have kr : ∀ a, z_rc a = 7 → z_kd G 455 = (0, z_rc a) := fun a h => (by rw [h]; exact k0)
  simp (disch := first | assumption | exact kr _ rfl | omega | exact Nat.le_of_ble_eq_true rfl) only [xo_2_0, xo_5, xo_64_2, xk_n, xo_17, r10, e1, e2, xo_69]
theorem c_M_init (hA : z_Al G 455 7) (hb : z_np G = 456) (hM0 : M 455 = fun _ => 0) : ∃ G' M', z_call 147 [.ref 455] G M = some (.inl none, G', M') ∧ z_Xt 455 16 52136 G G' M M' ∧ z_HM G' ∧ (M' 455 0 = nI 0 ∧ M' 455 2 = nI 0 ∧ M' 455 5 = nI 4294967295 ∧ M' 455 14 = nI 0) ∧ (∀ k, M' 456 k = 0 ∧ M' 457 k = 0) ∧ z_Bg 2 (y_S0 2) (M' 458) := by
  have e0 := M_init_e (M := M) hA hb
  obtain ⟨Ga, hGa⟩ : ∃ Ga, Ga = mi_G G := ⟨_, rfl⟩
  obtain ⟨Ma, hMa⟩ : ∃ Ma, Ma = mi_M M := ⟨_, rfl⟩
  have xa : z_Xt 455 6 17507 G Ga M Ma := by
    have := Xt_trans (Xt_trans (Xt_trans (Xt_trans (Xt_trans (Xt_trans (Xt_mk (G := G) (p := 455) (f := 1) (kind := (1, 3)) (sl := 3) M (fun _ => 0)) (Xt_u _ _ _ (z_u (M 455) 5 (nI 4294967295))) (Or.inl rfl)) (Xt_mk (f := 8) (kind := (1, 200)) (sl := 200) _ (fun _ => 0)) (Or.inl rfl)) (Xt_mk (f := 9) (kind := (1, 4326)) (sl := 4326) _ (fun _ => 0)) (Or.inl rfl)) (Xt_mk (f := 10) (kind := (1, 4326)) (sl := 4326) _ (fun _ => 0)) (Or.inl rfl)) (Xt_mk (f := 11) (kind := (1, 4326)) (sl := 4326) _ (fun _ => 0)) (Or.inl rfl)) (Xt_mk (f := 12) (kind := (1, 4326)) (sl := 4326) _ (fun _ => 0)) (Or.inl rfl)
    simp only [mk_np, hb] at this
    rw [hGa, hMa]; exact this
  have ra : (z_rf Ga 455 1 = 456 ∧ z_rf Ga 455 8 = 457 ∧ z_rf Ga 455 9 = 458) ∧ (z_rf Ga 455 10 = 459 ∧ z_rf Ga 455 11 = 460 ∧ z_rf Ga 455 12 = 461) := by
    rw [hGa]; unfold mi_G
    refine ⟨⟨?_, ?_, ?_⟩, ?_, ?_, ?_⟩
    · rw [mk_rf (by simp only [mk_np]; omega) (by omega), mk_rf (by simp only [mk_np]; omega) (by omega), mk_rf (by simp only [mk_np]; omega) (by omega), mk_rf (by simp only [mk_np]; omega) (by omega), mk_rf (by simp only [mk_np]; omega) (by omega), mk_rfs, hb]
    · rw [mk_rf (by simp only [mk_np]; omega) (by omega), mk_rf (by simp only [mk_np]; omega) (by omega), mk_rf (by simp only [mk_np]; omega) (by omega), mk_rf (by simp only [mk_np]; omega) (by omega), mk_rfs]; simp only [mk_np, hb]
    · rw [mk_rf (by simp only [mk_np]; omega) (by omega), mk_rf (by simp only [mk_np]; omega) (by omega), mk_rf (by simp only [mk_np]; omega) (by omega), mk_rfs]; simp only [mk_np, hb]
    · rw [mk_rf (by simp only [mk_np]; omega) (by omega), mk_rf (by simp only [mk_np]; omega) (by omega), mk_rfs]; simp only [mk_np, hb]
    · rw [mk_rf (by simp only [mk_np]; omega) (by omega), mk_rfs]; simp only [mk_np, hb]
    · rw [mk_rfs]; simp only [mk_np, hb]
  have ka : (z_kd Ga 456 = (1, 3) ∧ z_kd Ga 457 = (1, 200) ∧ z_kd Ga 458 = (1, 4326)) ∧ z_kd Ga 459 = (1, 4326) ∧ z_kd Ga 460 = (1, 4326) ∧ z_kd Ga 461 = (1, 4326) := by
    rw [hGa]; unfold mi_G
    have t : ∀ (H : zG) (p f : Nat) (kind : Nat × Nat) (sl a : Nat), a = z_np H → z_kd (z_mk H p f kind sl) a = kind := fun H p f kind sl a h => by rw [h]; exact mk_kds
    refine ⟨⟨?_, ?_, ?_⟩, ?_, ?_, ?_⟩
    · rw [mk_kd (by simp only [mk_np]; omega), mk_kd (by simp only [mk_np]; omega), mk_kd (by simp only [mk_np]; omega), mk_kd (by simp only [mk_np]; omega), mk_kd (by simp only [mk_np]; omega)]; exact t _ _ _ _ _ _ (by omega)
    · rw [mk_kd (by simp only [mk_np]; omega), mk_kd (by simp only [mk_np]; omega), mk_kd (by simp only [mk_np]; omega), mk_kd (by simp only [mk_np]; omega)]; exact t _ _ _ _ _ _ (by simp only [mk_np]; omega)
    · rw [mk_kd (by simp only [mk_np]; omega), mk_kd (by simp only [mk_np]; omega), mk_kd (by simp only [mk_np]; omega)]; exact t _ _ _ _ _ _ (by simp only [mk_np]; omega)
    · rw [mk_kd (by simp only [mk_np]; omega), mk_kd (by simp only [mk_np]; omega)]; exact t _ _ _ _ _ _ (by simp only [mk_np]; omega)
    · rw [mk_kd (by simp only [mk_np]; omega)]; exact t _ _ _ _ _ _ (by simp only [mk_np]; omega)
    · exact t _ _ _ _ _ _ (by simp only [mk_np]; omega)
  have ma : ∀ f, Ma 455 f = if f = 5 then nI 4294967295 else 0 := fun f => by
    rw [hMa]; unfold mi_M
    rw [z_sA_n _ _ _ _ (by omega), z_sA_n _ _ _ _ (by omega), z_sA_n _ _ _ _ (by omega), z_sA_n _ _ _ _ (by omega), z_sA_n _ _ _ _ (by omega), z_sA_s, hM0]; rfl
  have m6 : Ma 456 = fun _ => 0 := by
    rw [hMa]; unfold mi_M
    rw [z_sA_n _ _ _ _ (by omega), z_sA_n _ _ _ _ (by omega), z_sA_n _ _ _ _ (by omega), z_sA_n _ _ _ _ (by omega), z_sA_n _ _ _ _ (by omega), z_sA_n _ _ _ _ (by omega), z_sA_s]
  have m7 : Ma 457 = fun _ => 0 := by
    rw [hMa]; unfold mi_M
    rw [z_sA_n _ _ _ _ (by omega), z_sA_n _ _ _ _ (by omega), z_sA_n _ _ _ _ (by omega), z_sA_n _ _ _ _ (by omega), z_sA_s]
  rw [← hGa, ← hMa] at e0
  clear hGa hMa
  have npa : z_np Ga = 462 := by rw [xa.1.1, hb]
  have Aa := Xt_Al xa hA
  have e1 := M_init_e2 (M := Ma) Aa npa
  obtain ⟨Gb, hGb⟩ : ∃ Gb, Gb = z_mk (z_setR (z_new2 Ga 8 4326) 455 13 462) 455 17 (1, 13) 13 := ⟨_, rfl⟩
  obtain ⟨Mb, hMb⟩ : ∃ Mb, Mb = z_sA (z_new2M Ga 8 Ma) 471 (fun _ => 0) := ⟨_, rfl⟩
  rw [← hGb, ← hMb] at e1
  have n1 : z_np (z_setR (z_new2 Ga 8 4326) 455 13 462) = 471 := by show z_np Ga + (1 + 8) = _; omega
  have xb : z_Xt 455 10 34629 Ga Gb Ma Mb := by
    have := Xt_trans (Xt_trans (Xt_n2 Ga 455 8 4326 Ma) (Xt_set _ 455 13 462 _) (Or.inl rfl)) (Xt_mk (f := 17) (kind := (1, 13)) (sl := 13) _ (fun _ => 0)) (Or.inl rfl)
    rw [n1] at this
    rw [hGb, hMb]; exact this
  have rb : ∀ k, k ≠ 13 → k ≠ 17 → z_rf Gb 455 k = z_rf Ga 455 k := fun k h1 h2 => by rw [hGb, mk_rf (by omega) (by omega), set_rf, if_neg (by omega), n2_rf _ _ _ _ _ (by omega)]
  have rb13 : z_rf Gb 455 13 = 462 := by rw [hGb, mk_rf (by omega) (by omega), set_rf, if_pos ⟨rfl, rfl⟩]
  have rb17 : z_rf Gb 455 17 = 471 := by rw [hGb, mk_rfs, n1]
  have kb : ∀ a, a < 471 → z_kd Gb a = z_kd (z_new2 Ga 8 4326) a := fun a ha => by rw [hGb, mk_kd (by omega)]; rfl
  have kb471 : z_kd Gb 471 = (1, 13) := by
    rw [hGb]
    have := mk_kds (G := z_setR (z_new2 Ga 8 4326) 455 13 462) (p := 455) (f := 17) (kind := (1, 13)) (sl := 13)
    rw [n1] at this; exact this
  have kb462 : z_kd Gb 462 = (5, 8) := by rw [kb _ (by omega)]; have := n2_kds Ga 8 4326; rw [npa] at this; exact this
  have kbi : ∀ j, j < 8 → z_kd Gb (463 + j) = (1, 4326) := fun j hj => by rw [kb _ (by omega)]; have := n2_kdi Ga 8 4326 j hj; rw [npa] at this; exact this
  have rbi : ∀ j, j < 8 → z_rf Gb 462 j = 463 + j := fun j hj => by
    rw [hGb, mk_rf (by omega) (by omega), set_rf, if_neg (by omega)]
    have := n2_rfs Ga 8 4326 j hj; rw [npa] at this; exact this
  have mb : ∀ a, a < 462 → Mb a = Ma a := fun a ha => by rw [hMb, z_sA_n _ _ _ _ (by omega), n2_M _ _ _ _ (by omega)]
  clear hGb hMb
  have x0 := Xt_trans xa xb (Or.inl rfl)
  have A2 := Xt_Al x0 hA
  have kc : ∀ a, a < 462 → z_kd Gb a = z_kd Ga a := fun a ha => xb.2.1 a (by omega)
  obtain ⟨⟨s1, s8, s9⟩, s10, s11, s12⟩ := ra
  obtain ⟨⟨t1, t2, t3⟩, t4, t5, t6⟩ := ka
  have hM : z_HM Gb := ⟨A2.1, ⟨(rb 1 (by omega) (by omega)).trans s1, (rb 8 (by omega) (by omega)).trans s8, (rb 9 (by omega) (by omega)).trans s9, (rb 10 (by omega) (by omega)).trans s10, (rb 11 (by omega) (by omega)).trans s11, (rb 12 (by omega) (by omega)).trans s12, rb13, rb17⟩, by rw [kc _ (by omega), t1]; exact ⟨rfl, rfl⟩, by rw [kc _ (by omega), t2]; exact ⟨rfl, rfl⟩, by rw [kc _ (by omega), t3]; exact ⟨rfl, rfl⟩, by rw [kc _ (by omega), t4]; exact ⟨rfl, rfl⟩, by rw [kc _ (by omega), t5]; exact ⟨rfl, rfl⟩, by rw [kc _ (by omega), t6]; exact ⟨rfl, rfl⟩, by rw [kb471]; exact ⟨rfl, rfl⟩, by rw [kb462]; exact ⟨rfl, rfl⟩, fun j hj => ⟨rbi j hj, by rw [kbi j hj], by rw [kbi j hj]⟩⟩
  obtain ⟨M1, c1, o1, d1⟩ := c_M_freshDraft hM Mb (n := 2) (by omega)
  obtain ⟨t, c2, b2⟩ := c_M_begins hM M1 (n := 2) (S := y_S0 2) (SF_0 2 (by omega)) (by omega) d1
  have m5 : ∀ f, z_sA M1 458 t 455 f = if f = 5 then nI 4294967295 else 0 := fun f => by rw [z_sA_n _ _ _ _ (by omega), o1 455 (by omega), mb 455 (by omega)]; exact ma f
  refine ⟨Gb, z_sA M1 458 t, by rw [e0, e1]; exact M_init_e3 hM c1 c2, ⟨x0.1, x0.2.1, x0.2.2.1, fun a ha hne => ?_⟩, hM, ⟨by rw [m5]; rfl, by rw [m5]; rfl, by rw [m5]; rfl, by rw [m5]; rfl⟩, fun k => ?_, by rw [z_sA_s]; exact b2⟩
  · rw [z_sA_n _ _ _ _ (by omega), o1 a (by omega)]; exact x0.2.2.2 a ha hne
  · exact ⟨by rw [z_sA_n _ _ _ _ (by omega), o1 456 (by omega), mb 456 (by omega), m6], by rw [z_sA_n _ _ _ _ (by omega), o1 457 (by omega), mb 457 (by omega), m7]⟩
end
