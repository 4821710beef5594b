/-! ===== a row is copied; a draw; in both ===== -/
def z_cp (n : Nat) (x y : Nat → Int32) : Nat → Int32 := fun a => if a < n then x a else y a
theorem z_cp_0 (x y : Nat → Int32) : z_cp 0 x y = y := by funext a; unfold z_cp; rw [if_neg (by omega)]
theorem z_cp_s (k : Nat) (x y : Nat → Int32) : z_u (z_cp k x y) k (x k) = z_cp (k + 1) x y := by
  funext a
  by_cases h : a = k
  · subst h; rw [z_u_s]; unfold z_cp; rw [if_pos (by omega)]
  · rw [z_u_n _ _ _ _ h]; unfold z_cp
    by_cases h2 : a < k
    · rw [if_pos h2, if_pos (by omega)]
    · rw [if_neg h2, if_neg (by omega)]
theorem z_cp_lt {n a : Nat} (h : a < n) (x y : Nat → Int32) : z_cp n x y a = x a := if_pos h
theorem c_M_copies {G : zG} (M : zM) {p q : Nat} (hpq : p ≠ q) (hq : 32 ≤ q) (p1 : (z_kd G p).1 = 1) (p2 : (z_kd G p).2 = 4326) (q1 : (z_kd G q).1 = 1) (q2 : (z_kd G q).2 = 4326) : z_call 150 [.ref p, .ref q] G M = some (.inl none, G, z_sA M q (z_cp 4326 (M p) (M q))) := by
  have e0 : z_call 150 [.ref p, .ref q] G M = z_ex 150 (z_blk 150 2) [.ref p, .ref q, .int (nI 0)] [] G (z_sA M q (z_cp 0 (M p) (M q))) := by
    rw [z_cp_0, z_sA_id]
    simp only [ze_M_copies, zk_M_copies_0, xo_5, xo_10_2i, xo_10_2r, xo_10_2n, xo_55, xo_0_2, xo_7, xo_45, xo_2_1, xo_2_0, xo_32, xo_33, xo_15_2i, xo_15_2r, xo_15_2n, xo_54, xo_69]
  have e := z_chain (fun k => z_ex 150 (z_blk 150 2) [.ref p, .ref q, .int (nI k)] [] G (z_sA M q (z_cp k (M p) (M q)))) 4326 (by
    intro k hk
    have hlt : nI k < nI 4326 := nI_lt hk (by omega)
    have hp : k < (z_kd G p).2 := by omega
    have hq2 : k < (z_kd G q).2 := by omega
    have hr : z_sA M q (z_cp k (M p) (M q)) p = M p := z_sA_n _ _ _ _ hpq
    conv => lhs; rw [zk_M_copies_2]
    simp (disch := first | assumption | omega) only [xo_5, xo_10_2i, xo_10_2r, xo_10_2n, xo_55, xo_0_2, xo_7, xo_45, zk_M_copies_9, xo_2_1, xo_2_0, xo_32, xo_33, xo_15_2i, xo_15_2r, xo_15_2n, xo_54, xo_69, hlt, hr, nI_add, pk_mul, Nat.add_zero, z_sA_s, z_sA_sA, z_u_s, z_cp_s, if_true]) 4326 0 (by omega)
  have hltn : ¬ nI 4326 < nI 4326 := nI_nlt (Nat.le_refl _) (by omega)
  rw [e0, e]
  conv => lhs; rw [zk_M_copies_2]
  simp (disch := first | assumption | omega) only [xo_5, xo_10_2i, xo_10_2r, xo_10_2n, xo_55, xo_0_2, xo_7, xo_45, xo_2_1, xo_2_0, xo_32, xo_33, xo_15_2i, xo_15_2r, xo_15_2n, xo_54, zk_M_copies_21, xo_69, hltn, if_false]
def f_dr (x : Int32) : Int32 := nI 1103515245 * x + nI 12345
def f_dv (x k : Int32) : Int32 := z_ushr x (nI 16) - z_ushr x (nI 16) / k * k
theorem c_M_draw {G : zG} (hM : z_HM G) (M : zM) {k : Int32} (hk : k ≠ 0) : z_call 245 [.ref 455, .int k] G M = some (.inl (some (.int (f_dv (f_dr (M 455 19)) k))), G, z_sA M 455 (z_u (M 455) 19 (f_dr (M 455 19)))) := by
  obtain ⟨k0, ⟨r1, r8, r9, r10, r11, r12, r13, r17⟩, ⟨q1, q2⟩, ⟨q3, q4⟩, ⟨q5, q6⟩, ⟨q7, q8⟩, ⟨q9, q10⟩, ⟨q11, q12⟩, ⟨q13, q14⟩, ⟨q15, q16⟩, hp⟩ := id hM; have kr : ∀ a, z_rc a = 7 → z_kd G 455 = (0, z_rc a) := fun a h => (by rw [h]; exact k0)
  simp (disch := first | assumption | exact kr _ rfl | omega | exact Nat.le_of_ble_eq_true rfl) only [ze_M_draw, zk_M_draw_0, xo_2_0, xo_9, xo_16, xo_22, xo_7, xo_20, xo_18, xo_6, xo_28, xo_0_1, xo_30, xo_70, nI_add, pk_mul, Nat.add_zero, z_sA_s, z_sA_sA, z_u_s, f_dr, f_dv]
theorem c_D_next {G : zG} {d : Nat} (hd : 32 ≤ d) (hD : z_kd G d = (0, 0)) (M : zM) {k : Int32} (hk : 0 < k) : z_call 146 [.ref d, .int k] G M = some (.inl (some (.int (f_dv (f_dr (M d 0)) k))), G, z_sA M d (z_u (M d) 0 (f_dr (M d 0)))) := by
  have hk0 : k ≠ 0 := fun e => by rw [e] at hk; exact absurd hk (by decide)
  simp (disch := first | assumption | omega) only [ze_D_next, zk_D_next_0, xo_2_0, xo_8, xo_16, xo_22, xo_7, xo_20, xo_18, xo_0_1, xo_53, zk_D_next_19, xo_6, xo_28, xo_30, xo_54, xo_5, xo_55, zk_D_next_32, xo_70, hk, nI_add, pk_mul, Nat.add_zero, z_sA_s, z_sA_sA, z_u_s, if_true, f_dr, f_dv]
