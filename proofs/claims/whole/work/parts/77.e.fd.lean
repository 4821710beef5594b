/-! ===== feed, in both ===== -/
theorem shr_1 (x : BitVec 32) (k : Nat) (hk : k ≤ 24) : (x >>> k) &&& 255#32 = (x.sshiftRight k) &&& 255#32 := by
  apply BitVec.eq_of_getLsbD_eq
  intro i hi
  rw [BitVec.getLsbD_and, BitVec.getLsbD_and, BitVec.getLsbD_ushiftRight, BitVec.getLsbD_sshiftRight]
  by_cases h8 : i < 8
  · have h1 : ¬ 32 ≤ i := by omega
    have h2 : k + i < 32 := by omega
    simp [h1, h2]
  · have : (255#32).getLsbD i = false := by
      have : ∀ i, i < 32 → ¬ i < 8 → (255#32).getLsbD i = false := by decide
      exact this i hi h8
    rw [this, Bool.and_false, Bool.and_false]
theorem shr_2 (v : Int32) : ∀ k, k < 4 → z_ushr v (nI (24 - 8 * k)) &&& nI 255 = (v >>> (nI (24 - 8 * k) &&& 31)) &&& nI 255 := by
  intro k hk
  apply Int32.toBitVec_inj.mp
  match k, hk with
  | 0, _ => exact shr_1 v.toBitVec 24 (by omega)
  | 1, _ => exact shr_1 v.toBitVec 16 (by omega)
  | 2, _ => exact shr_1 v.toBitVec 8 (by omega)
  | 3, _ => exact shr_1 v.toBitVec 0 (by omega)
  | k + 4, h => exact absurd h (by omega)
/-- a number's k-th byte -/
def f_by (v : Int32) (k : Nat) : Int32 := (v >>> (nI (24 - 8 * k) &&& 31)) &&& nI 255
def f_fv (a b c d e : Int32) (k : Nat) : Int32 := if k < 4 then a else if k < 8 then b else if k < 12 then c else if k < 16 then d else e
def f_fd (a b c d e : Int32) (k : Nat) : Int32 := f_by (f_fv a b c d e k) (k % 4)
theorem by_256 (v : Int32) (k : Nat) : ∃ u, u < 256 ∧ f_by v k = nI u := by
  have h : ∀ x : BitVec 32, ∃ u, u < 256 ∧ x &&& 255#32 = BitVec.ofNat 32 u := fun x => ⟨x.toNat % 256, Nat.mod_lt _ (by omega), by
    apply BitVec.eq_of_toNat_eq
    rw [BitVec.toNat_and, BitVec.toNat_ofNat, BitVec.toNat_ofNat]
    have e1 : x.toNat &&& 255 = x.toNat % 256 := Nat.and_two_pow_sub_one_eq_mod x.toNat 8
    rw [show 255 % 2 ^ 32 = 255 from rfl, e1, Nat.mod_eq_of_lt (a := x.toNat % 256) (by omega)]⟩
  obtain ⟨u, hu, e⟩ := h (v >>> (nI (24 - 8 * k) &&& 31)).toBitVec
  refine ⟨u, hu, Int32.toBitVec_inj.mp ?_⟩
  exact e
def f_sh (j : Nat) : Int32 := if j = 4 then nI 4294967288 else nI (24 - 8 * j)
theorem sh_s : ∀ j, j < 4 → f_sh j + nI 4294967288 = f_sh (j + 1) := by decide +kernel
theorem sh_p : ∀ j, j < 4 → ¬ f_sh j < 0 := by decide +kernel
theorem fd_m : ∀ k, k < 20 → nI 24 - nI 8 * (nI k - nI k / nI 4 * nI 4) = nI (24 - 8 * (k % 4)) := by decide +kernel
section
variable {G : zG} {nb : Nat} {pb : Nat → Nat}
def z_fn (M : zM) (t : Nat) (v : Int32) (j : Nat) : zM := z_sA (z_sA M 33 (z_bw (M 33) t j (f_by v))) 32 (z_u (M 32) 1 (nI (t + j)))
theorem c_C_feedNumber (hC : z_HC G nb pb) (M : zM) {t : Nat} (ht : t + 4 ≤ 200) (h1 : M 32 1 = nI t) (v : Int32) : z_call 21 [.ref 32, .int v] G M = some (.inl none, G, z_fn M t v 4) := by
  have hW := HC_P hC
  obtain ⟨k1, k2⟩ := hC.2.2.1
  have e0 : z_fn M t v 0 = M := by
    unfold z_fn
    rw [z_bw_0, Nat.add_zero, z_sA_id, ← h1]
    have : z_u (M 32) 1 (M 32 1) = M 32 := by funext a; by_cases ha : a = 1; (· subst ha; rw [z_u_s]); (· rw [z_u_n _ _ _ _ ha])
    rw [this, z_sA_id]
  have e1 : z_call 21 [.ref 32, .int v] G M = z_ex 21 (z_blk 21 3) [.ref 32, .int v, .int (f_sh 0)] [] G (z_fn M t v 0) := by
    rw [e0, show f_sh 0 = nI 24 from rfl]
    simp (disch := first | assumption | omega | exact Nat.le_of_ble_eq_true rfl | decide) only [ze_C_feedNumber, zk_C_feedNumber_0, xo_6, xo_10_2i, xo_10_2r, xo_10_2n, xo_55, xo_0_2, xo_50, xo_2_0, xc_16 hC, xo_7, xo_45, xc_17_0 hC, xo_0_1, xo_28, xo_23, xo_33, xo_39i, xo_39r, xo_5, xo_20, xc_18 hC, xo_15_2i, xo_15_2r, xo_15_2n, xo_54, xo_69, if_true, if_false, eq_self, Bool.true_eq_false, Bool.false_eq_true]
  have e := z_chain (fun j => z_ex 21 (z_blk 21 3) [.ref 32, .int v, .int (f_sh j)] [] G (z_fn M t v j)) 4 (by
    intro j hj
    have hp := sh_p j hj
    have hs := sh_s j hj
    have hsh : f_sh j = nI (24 - 8 * j) := if_neg (by omega)
    have hlt : nI (t + j) < nI 200 := nI_lt (by omega) (by omega)
    have a1 : z_fn M t v j 32 1 = nI (t + j) := by unfold z_fn; rw [z_sA_s, z_u_s]
    have a2 : z_fn M t v j 33 = z_bw (M 33) t j (f_by v) := by unfold z_fn; rw [z_sA_n _ _ _ _ (by omega), z_sA_s]
    have hk : t + j < (z_kd G 33).2 := by omega
    have a3 : ∀ X : Nat → Int32, z_sA (z_fn M t v j) 33 X 32 = z_u (M 32) 1 (nI (t + j)) := fun X => by rw [z_sA_n _ _ _ _ (by omega)]; unfold z_fn; rw [z_sA_s]
    have a4 : z_sA (z_sA (z_fn M t v j) 33 (z_bw (M 33) t (j + 1) (f_by v))) 32 (z_u (M 32) 1 (nI (t + j + 1))) = z_fn M t v (j + 1) := by
      unfold z_fn
      rw [z_sA_comm _ 32 33 _ _ (by omega), z_sA_sA, z_sA_sA]
      rfl
    have a5 := z_bw_u (M 33) t j (f_by v)
    have a6 : z_ushr v (f_sh j) &&& nI 255 = f_by v j := by rw [hsh]; exact shr_2 v j hj
    conv => lhs; rw [zk_C_feedNumber_3]
    simp (disch := first | assumption | omega | exact Nat.le_of_ble_eq_true rfl | decide) only [xo_6, xo_10_2i, xo_10_2r, xo_10_2n, xo_55, xo_0_2, xo_50, zk_C_feedNumber_7, xo_2_0, xc_16 hC, xo_7, xo_45, zk_C_feedNumber_17, xc_17_0 hC, xo_0_1, xo_28, xo_23, xo_33, xo_39i, xo_39r, xo_5, xo_20, xc_18 hC, xo_15_2i, xo_15_2r, xo_15_2n, xo_54, xo_69, hp, hlt, a1, a2, a6, a5, a3, z_u_s, z_u_u, nI_add, a4, hs, if_true, if_false, eq_self, Bool.true_eq_false, Bool.false_eq_true]) 4 0 (by omega)
  have hn : f_sh 4 < 0 := by decide
  rw [e1, e]
  conv => lhs; rw [zk_C_feedNumber_3]
  simp (disch := first | assumption | omega | exact Nat.le_of_ble_eq_true rfl | decide) only [xo_6, xo_10_2i, xo_10_2r, xo_10_2n, xo_55, xo_0_2, xo_50, xo_2_0, xc_16 hC, xo_7, xo_45, xc_17_0 hC, xo_0_1, xo_28, xo_23, xo_33, xo_39i, xo_39r, xo_5, xo_20, xc_18 hC, xo_15_2i, xo_15_2r, xo_15_2n, xo_54, zk_C_feedNumber_49, xo_69, hn, if_true, if_false, eq_self, Bool.true_eq_false, Bool.false_eq_true]
theorem fn_32 (M : zM) (t : Nat) (v : Int32) (j : Nat) : z_fn M t v j 32 = z_u (M 32) 1 (nI (t + j)) := by unfold z_fn; rw [z_sA_s]
theorem fn_33 (M : zM) (t : Nat) (v : Int32) (j : Nat) : z_fn M t v j 33 = z_bw (M 33) t j (f_by v) := by unfold z_fn; rw [z_sA_n _ _ _ _ (by omega), z_sA_s]
theorem fn_o (M : zM) (t : Nat) (v : Int32) (j : Nat) {q : Nat} (h1 : q ≠ 32) (h2 : q ≠ 33) : z_fn M t v j q = M q := by unfold z_fn; rw [z_sA_n _ _ _ _ h1, z_sA_n _ _ _ _ h2]
theorem k_feed0 (hC : z_HC G nb pb) (M : zM) {t : Nat} (h1 : M 32 1 = nI t) (ht : t ≤ 200) (h : 200 < t + 20) (a b c d e : Int32) : z_call 20 [.ref 32, .int a, .int b, .int c, .int d, .int e] G M = some (.inl (some (.int (nI 4294967295))), G, M) := by
  have hW := HC_P hC
  have hlt : nI 200 < nI (t + 20) := nI_lt h (by omega)
  simp (disch := first | assumption | omega | exact Nat.le_of_ble_eq_true rfl | decide) only [ze_C_feed, zk_C_feed_0, xo_2_0, xc_16 hC, xo_6, xo_20, xo_7, xo_47, zk_C_feed_13, xo_5, xo_70, xo_0_1, xc_64_2 hC, xk_v, xk_n, xo_0_2, xo_0_3, xo_1_4, xo_1_5, h1, nI_add, hlt, if_true, if_false, eq_self, Bool.true_eq_false, Bool.false_eq_true]
theorem k_feed1 (hC : z_HC G nb pb) (M : zM) {t : Nat} (h1 : M 32 1 = nI t) (h : t + 20 ≤ 200) (a b c d e : Int32) : ∃ M', z_call 20 [.ref 32, .int a, .int b, .int c, .int d, .int e] G M = some (.inl (some (.int (nI (t + 20)))), G, M') ∧ (∀ q, q ≠ 32 → q ≠ 33 → M' q = M q) ∧ M' 32 = z_u (M 32) 1 (nI (t + 20)) ∧ M' 33 = z_bw (M 33) t 20 (f_fd a b c d e) := by
  have hW := HC_P hC
  have hlt : ¬ nI 200 < nI (t + 20) := nI_nlt (by omega) (by omega)
  have c1 := c_C_feedNumber hC M (t := t) (by omega) h1 a
  have q1 := fn_32 M t a 4
  have r1 := fn_33 M t a 4
  have o1 : ∀ q, q ≠ 32 → q ≠ 33 → z_fn M t a 4 q = M q := fun q x y => fn_o M t a 4 x y
  generalize z_fn M t a 4 = M1 at c1 q1 r1 o1
  have c2 := c_C_feedNumber hC M1 (t := t + 4) (by omega) (by rw [q1, z_u_s]) b
  have q2 := fn_32 M1 (t + 4) b 4
  have r2 := fn_33 M1 (t + 4) b 4
  have o2 : ∀ q, q ≠ 32 → q ≠ 33 → z_fn M1 (t + 4) b 4 q = M q := fun q x y => (fn_o M1 _ b 4 x y).trans (o1 q x y)
  generalize z_fn M1 (t + 4) b 4 = M2 at c2 q2 r2 o2
  have c3 := c_C_feedNumber hC M2 (t := t + 4 + 4) (by omega) (by rw [q2, z_u_s]) c
  have q3 := fn_32 M2 (t + 4 + 4) c 4
  have r3 := fn_33 M2 (t + 4 + 4) c 4
  have o3 : ∀ q, q ≠ 32 → q ≠ 33 → z_fn M2 (t + 4 + 4) c 4 q = M q := fun q x y => (fn_o M2 _ c 4 x y).trans (o2 q x y)
  generalize z_fn M2 (t + 4 + 4) c 4 = M3 at c3 q3 r3 o3
  have c4 := c_C_feedNumber hC M3 (t := t + 4 + 4 + 4) (by omega) (by rw [q3, z_u_s]) d
  have q4 := fn_32 M3 (t + 4 + 4 + 4) d 4
  have r4 := fn_33 M3 (t + 4 + 4 + 4) d 4
  have o4 : ∀ q, q ≠ 32 → q ≠ 33 → z_fn M3 (t + 4 + 4 + 4) d 4 q = M q := fun q x y => (fn_o M3 _ d 4 x y).trans (o3 q x y)
  generalize z_fn M3 (t + 4 + 4 + 4) d 4 = M4 at c4 q4 r4 o4
  have c5 := c_C_feedNumber hC M4 (t := t + 4 + 4 + 4 + 4) (by omega) (by rw [q4, z_u_s]) e
  have q5 := fn_32 M4 (t + 4 + 4 + 4 + 4) e 4
  have r5 := fn_33 M4 (t + 4 + 4 + 4 + 4) e 4
  have o5 : ∀ q, q ≠ 32 → q ≠ 33 → z_fn M4 (t + 4 + 4 + 4 + 4) e 4 q = M q := fun q x y => (fn_o M4 _ e 4 x y).trans (o4 q x y)
  generalize z_fn M4 (t + 4 + 4 + 4 + 4) e 4 = M5 at c5 q5 r5 o5
  have w5 : M5 32 1 = nI (t + 20) := by rw [q5, z_u_s]
  refine ⟨M5, ?_, o5, ?_, ?_⟩
  · simp (disch := first | assumption | omega | exact Nat.le_of_ble_eq_true rfl | decide) only [ze_C_feed, zk_C_feed_0, xo_2_0, xc_16 hC, xo_6, xo_20, xo_7, xo_47, xo_5, xo_70, zk_C_feed_15, xo_0_1, xc_64_2 hC, xk_v, xk_n, xo_0_2, xo_0_3, xo_1_4, xo_1_5, h1, nI_add, hlt, c1, c2, c3, c4, c5, w5, if_true, if_false, eq_self, Bool.true_eq_false, Bool.false_eq_true]
  · rw [q5, q4, q3, q2, q1, z_u_u, z_u_u, z_u_u, z_u_u]
  · rw [r5, r4, r3, r2, r1]
    funext q
    unfold f_fd f_fv z_bw
    by_cases hq : t ≤ q ∧ q < t + 20
    · rw [if_pos hq]
      obtain ⟨j, hj⟩ : ∃ j, q = t + j := ⟨q - t, by omega⟩
      subst hj
      have hj20 : j < 20 := by omega
      rw [show t + j - t = j by omega, show t + j - (t + 4) = j - 4 by omega, show t + j - (t + 4 + 4) = j - 8 by omega, show t + j - (t + 4 + 4 + 4) = j - 12 by omega, show t + j - (t + 4 + 4 + 4 + 4) = j - 16 by omega]
      dsimp only
      by_cases b1 : j < 4
      · rw [if_neg (by omega), if_neg (by omega), if_neg (by omega), if_neg (by omega), if_pos (by omega), if_pos b1, Nat.mod_eq_of_lt b1]
      · by_cases b2 : j < 8
        · rw [if_neg (by omega), if_neg (by omega), if_neg (by omega), if_pos (by omega), if_neg b1, if_pos b2, show j % 4 = j - 4 by omega]
        · by_cases b3 : j < 12
          · rw [if_neg (by omega), if_neg (by omega), if_pos (by omega), if_neg b1, if_neg b2, if_pos b3, show j % 4 = j - 8 by omega]
          · by_cases b4 : j < 16
            · rw [if_neg (by omega), if_pos (by omega), if_neg b1, if_neg b2, if_neg b3, if_pos b4, show j % 4 = j - 12 by omega]
            · rw [if_pos (by omega), if_neg b1, if_neg b2, if_neg b3, if_neg b4, show j % 4 = j - 16 by omega]
    · rw [if_neg (by omega), if_neg (by omega), if_neg (by omega), if_neg (by omega), if_neg (by omega), if_neg hq]
def z_fm (M : zM) (t : Nat) (L : Nat → Int32) (j : Nat) : zM := z_sA (z_sA M 457 (z_bw (M 457) t j L)) 455 (z_u (M 455) 2 (nI (t + j)))
theorem m_feed0 (hM : z_HM G) (M : zM) {t : Nat} (h1 : M 455 2 = nI t) (ht : t ≤ 200) (h : 200 < t + 20) (a b c d e : Int32) : z_call 158 [.ref 455, .int a, .int b, .int c, .int d, .int e] G M = some (.inl (some (.int (nI 4294967295))), G, th0 M) := by
  have hlt : nI 200 < nI (t + 20) := nI_lt h (by omega)
  have e2 : th0 M 455 2 = nI t := (th0_fn M (by omega)).trans h1
  obtain ⟨k0, ⟨r1, r8, r9, r10, r11, r12, r13, r17⟩, ⟨q1, q2⟩, ⟨q3, q4⟩, ⟨q5, q6⟩, ⟨q7, q8⟩, ⟨q9, q10⟩, ⟨q11, q12⟩, ⟨q13, q14⟩, ⟨q15, q16⟩, hp⟩ := id hM; have kr : ∀ a, z_rc a = 7 → z_kd G 455 = (0, z_rc a) := fun a h => (by rw [h]; exact k0)
  simp (disch := first | assumption | exact kr _ rfl | omega | exact Nat.le_of_ble_eq_true rfl) only [ze_M_feed, zk_M_feed_0, xo_2_0, xo_5, xo_18, xo_16, xo_6, xo_20, xo_7, xo_47, zk_M_feed_18, xo_70, xo_11_6i, xo_11_6r, xo_11_6n, xo_55, xo_1_6, xo_45, xo_0_1, xo_54, xo_0_2, xo_0_3, xo_1_4, xo_1_5, xo_11_7i, xo_11_7r, xo_11_7n, xo_17, xo_1_7, xo_30, xo_22, xo_21, xo_27, xo_23, xo_33, xo_39i, xo_39r, xo_15_6i, xo_15_6r, xo_15_6n, th0_f, e2, nI_add, hlt, if_true, if_false, eq_self, Bool.true_eq_false, Bool.false_eq_true, and_true, true_and, and_false, false_and, or_true, true_or, or_false, false_or, ne_eq, not_true_eq_false, not_false_eq_true, decide_true, decide_false, z_sA_id]
theorem m_feed1 (hM : z_HM G) (M : zM) {t : Nat} (h1 : M 455 2 = nI t) (h : t + 20 ≤ 200) (a b c d e : Int32) : z_call 158 [.ref 455, .int a, .int b, .int c, .int d, .int e] G M = some (.inl (some (.int (nI (t + 20)))), G, z_fm (th0 M) t (f_fd a b c d e) 20) := by
  have hlt : ¬ nI 200 < nI (t + 20) := nI_nlt (by omega) (by omega)
  have e2 : th0 M 455 2 = nI t := (th0_fn M (by omega)).trans h1
  have e0 : z_fm (th0 M) t (f_fd a b c d e) 0 = th0 M := by
    unfold z_fm
    rw [z_bw_0, Nat.add_zero, z_sA_id, ← e2]
    have : z_u (th0 M 455) 2 (th0 M 455 2) = th0 M 455 := by funext a; by_cases ha : a = 2; (· subst ha; rw [z_u_s]); (· rw [z_u_n _ _ _ _ ha])
    rw [this, z_sA_id]
  have e1 : z_call 158 [.ref 455, .int a, .int b, .int c, .int d, .int e] G M = z_ex 158 (z_blk 158 23) [.ref 455, .int a, .int b, .int c, .int d, .int e, .int (nI 0), .null] [] G (z_fm (th0 M) t (f_fd a b c d e) 0) := by
    rw [e0]
    obtain ⟨k0, ⟨r1, r8, r9, r10, r11, r12, r13, r17⟩, ⟨q1, q2⟩, ⟨q3, q4⟩, ⟨q5, q6⟩, ⟨q7, q8⟩, ⟨q9, q10⟩, ⟨q11, q12⟩, ⟨q13, q14⟩, ⟨q15, q16⟩, hp⟩ := id hM; have kr : ∀ a, z_rc a = 7 → z_kd G 455 = (0, z_rc a) := fun a h => (by rw [h]; exact k0)
    simp (disch := first | assumption | exact kr _ rfl | omega | exact Nat.le_of_ble_eq_true rfl) only [ze_M_feed, zk_M_feed_0, xo_2_0, xo_5, xo_18, xo_16, xo_6, xo_20, xo_7, xo_47, xo_70, zk_M_feed_20, xo_11_6i, xo_11_6r, xo_11_6n, xo_55, xo_1_6, xo_45, xo_0_1, xo_54, xo_0_2, xo_0_3, xo_1_4, xo_1_5, xo_11_7i, xo_11_7r, xo_11_7n, xo_17, xo_1_7, xo_30, xo_22, xo_21, xo_27, xo_23, xo_33, xo_39i, xo_39r, xo_15_6i, xo_15_6r, xo_15_6n, th0_f, e2, nI_add, hlt, if_true, if_false, eq_self, Bool.true_eq_false, Bool.false_eq_true, and_true, true_and, and_false, false_and, or_true, true_or, or_false, false_or, ne_eq, not_true_eq_false, not_false_eq_true, decide_true, decide_false, z_sA_id]
  generalize hL : f_fd a b c d e = L at *
  have el : ∀ r k w, k + r = 20 → ∃ w', z_ex 158 (z_blk 158 23) [.ref 455, .int a, .int b, .int c, .int d, .int e, .int (nI k), w] [] G (z_fm (th0 M) t L k) = z_ex 158 (z_blk 158 23) [.ref 455, .int a, .int b, .int c, .int d, .int e, .int (nI 20), w'] [] G (z_fm (th0 M) t L 20) := by
    intro r
    induction r with
    | zero => intro k w hk; have : k = 20 := by omega
              subst this; exact ⟨w, rfl⟩
    | succ r ih =>
      intro k w hk
      obtain ⟨w', e3⟩ := ih (k + 1) (.int (f_fv a b c d e k)) (by omega)
      refine ⟨w', ?_⟩
      rw [← e3]
      have hl : nI k < nI 20 := nI_lt (by omega) (by omega)
      have a1 : z_fm (th0 M) t L k 455 2 = nI (t + k) := by unfold z_fm; rw [z_sA_s, z_u_s]
      have a2 : z_fm (th0 M) t L k 457 = z_bw (th0 M 457) t k L := by unfold z_fm; rw [z_sA_n _ _ _ _ (by omega), z_sA_s]
      have a3 : ∀ X : Nat → Int32, z_sA (z_fm (th0 M) t L k) 457 X 455 = z_u (th0 M 455) 2 (nI (t + k)) := fun X => by rw [z_sA_n _ _ _ _ (by omega)]; unfold z_fm; rw [z_sA_s]
      have a4 : z_sA (z_sA (z_fm (th0 M) t L k) 457 (z_bw (th0 M 457) t (k + 1) L)) 455 (z_u (th0 M 455) 2 (nI (t + k + 1))) = z_fm (th0 M) t L (k + 1) := by
        unfold z_fm
        rw [z_sA_comm _ 455 457 _ _ (by omega), z_sA_sA, z_sA_sA]
        rfl
      have a5 := z_bw_u (th0 M 457) t k L
      have a6 : (f_fv a b c d e k >>> (nI (24 - 8 * (k % 4)) &&& 31)) &&& nI 255 = L k := by rw [← hL]; rfl
      have a7 := fd_m k (by omega)
      have n4 : ¬ nI 4 = 0 := by decide
      obtain ⟨k0, ⟨r1, r8, r9, r10, r11, r12, r13, r17⟩, ⟨q1, q2⟩, ⟨q3, q4⟩, ⟨q5, q6⟩, ⟨q7, q8⟩, ⟨q9, q10⟩, ⟨q11, q12⟩, ⟨q13, q14⟩, ⟨q15, q16⟩, hp⟩ := id hM; have kr : ∀ a, z_rc a = 7 → z_kd G 455 = (0, z_rc a) := fun a h => (by rw [h]; exact k0)
      have hk2 : t + k < (z_kd G 457).2 := by omega
      have blk : z_ex 158 (z_blk 158 76) [.ref 455, .int a, .int b, .int c, .int d, .int e, .int (nI k), w] [.int (f_fv a b c d e k)] G (z_fm (th0 M) t L k) = z_ex 158 (z_blk 158 23) [.ref 455, .int a, .int b, .int c, .int d, .int e, .int (nI (k + 1)), .int (f_fv a b c d e k)] [] G (z_fm (th0 M) t L (k + 1)) := by
        simp (disch := first | assumption | exact kr _ rfl | omega | exact Nat.le_of_ble_eq_true rfl) only [xo_2_0, xo_5, xo_18, xo_16, xo_6, xo_20, xo_7, xo_47, xo_70, xo_11_6i, xo_11_6r, xo_11_6n, xo_55, xo_1_6, xo_45, xo_0_1, xo_54, xo_0_2, xo_0_3, xo_1_4, xo_1_5, zk_M_feed_76, xo_11_7i, xo_11_7r, xo_11_7n, xo_17, xo_1_7, xo_30, xo_22, xo_21, xo_27, xo_23, xo_33, xo_39i, xo_39r, xo_15_6i, xo_15_6r, xo_15_6n, r8, a1, a2, a3, a7, a6, a5, z_u_s, z_u_u, nI_add, a4, if_true, if_false, eq_self, Bool.true_eq_false, Bool.false_eq_true, and_true, true_and, and_false, false_and, or_true, true_or, or_false, false_or, ne_eq, not_true_eq_false, not_false_eq_true, decide_true, decide_false, z_sA_id]
      rw [← blk]
      conv => lhs; rw [zk_M_feed_23]
      unfold f_fv
      by_cases b1 : k < 4
      · have c1 : nI k < nI 4 := nI_lt b1 (by omega)
        simp (disch := first | assumption | exact kr _ rfl | omega | exact Nat.le_of_ble_eq_true rfl) only [xo_2_0, xo_5, xo_18, xo_16, xo_6, xo_20, xo_7, xo_47, xo_70, xo_11_6i, xo_11_6r, xo_11_6n, xo_55, xo_1_6, xo_45, zk_M_feed_30, zk_M_feed_36, xo_0_1, xo_54, xo_0_2, xo_0_3, xo_1_4, xo_1_5, xo_11_7i, xo_11_7r, xo_11_7n, xo_17, xo_1_7, xo_30, xo_22, xo_21, xo_27, xo_23, xo_33, xo_39i, xo_39r, xo_15_6i, xo_15_6r, xo_15_6n, hl, c1, b1, if_true, if_false, eq_self, Bool.true_eq_false, Bool.false_eq_true, and_true, true_and, and_false, false_and, or_true, true_or, or_false, false_or, ne_eq, not_true_eq_false, not_false_eq_true, decide_true, decide_false, z_sA_id]
      · have c1 : ¬ nI k < nI 4 := nI_nlt (by omega) (by omega)
        by_cases b2 : k < 8
        · have c2 : nI k < nI 8 := nI_lt b2 (by omega)
          simp (disch := first | assumption | exact kr _ rfl | omega | exact Nat.le_of_ble_eq_true rfl) only [xo_2_0, xo_5, xo_18, xo_16, xo_6, xo_20, xo_7, xo_47, xo_70, xo_11_6i, xo_11_6r, xo_11_6n, xo_55, xo_1_6, xo_45, zk_M_feed_30, xo_0_1, xo_54, zk_M_feed_40, zk_M_feed_47, xo_0_2, xo_0_3, xo_1_4, xo_1_5, xo_11_7i, xo_11_7r, xo_11_7n, xo_17, xo_1_7, xo_30, xo_22, xo_21, xo_27, xo_23, xo_33, xo_39i, xo_39r, xo_15_6i, xo_15_6r, xo_15_6n, hl, c1, b1, c2, b2, if_true, if_false, eq_self, Bool.true_eq_false, Bool.false_eq_true, and_true, true_and, and_false, false_and, or_true, true_or, or_false, false_or, ne_eq, not_true_eq_false, not_false_eq_true, decide_true, decide_false, z_sA_id]
        · have c2 : ¬ nI k < nI 8 := nI_nlt (by omega) (by omega)
          by_cases b3 : k < 12
          · have c3 : nI k < nI 12 := nI_lt b3 (by omega)
            simp (disch := first | assumption | exact kr _ rfl | omega | exact Nat.le_of_ble_eq_true rfl) only [xo_2_0, xo_5, xo_18, xo_16, xo_6, xo_20, xo_7, xo_47, xo_70, xo_11_6i, xo_11_6r, xo_11_6n, xo_55, xo_1_6, xo_45, zk_M_feed_30, xo_0_1, xo_54, zk_M_feed_40, xo_0_2, zk_M_feed_51, zk_M_feed_58, xo_0_3, xo_1_4, xo_1_5, xo_11_7i, xo_11_7r, xo_11_7n, xo_17, xo_1_7, xo_30, xo_22, xo_21, xo_27, xo_23, xo_33, xo_39i, xo_39r, xo_15_6i, xo_15_6r, xo_15_6n, hl, c1, b1, c2, b2, c3, b3, if_true, if_false, eq_self, Bool.true_eq_false, Bool.false_eq_true, and_true, true_and, and_false, false_and, or_true, true_or, or_false, false_or, ne_eq, not_true_eq_false, not_false_eq_true, decide_true, decide_false, z_sA_id]
          · have c3 : ¬ nI k < nI 12 := nI_nlt (by omega) (by omega)
            by_cases b4 : k < 16
            · have c4 : nI k < nI 16 := nI_lt b4 (by omega)
              simp (disch := first | assumption | exact kr _ rfl | omega | exact Nat.le_of_ble_eq_true rfl) only [xo_2_0, xo_5, xo_18, xo_16, xo_6, xo_20, xo_7, xo_47, xo_70, xo_11_6i, xo_11_6r, xo_11_6n, xo_55, xo_1_6, xo_45, zk_M_feed_30, xo_0_1, xo_54, zk_M_feed_40, xo_0_2, zk_M_feed_51, xo_0_3, zk_M_feed_62, zk_M_feed_69, xo_1_4, xo_1_5, xo_11_7i, xo_11_7r, xo_11_7n, xo_17, xo_1_7, xo_30, xo_22, xo_21, xo_27, xo_23, xo_33, xo_39i, xo_39r, xo_15_6i, xo_15_6r, xo_15_6n, hl, c1, b1, c2, b2, c3, b3, c4, b4, if_true, if_false, eq_self, Bool.true_eq_false, Bool.false_eq_true, and_true, true_and, and_false, false_and, or_true, true_or, or_false, false_or, ne_eq, not_true_eq_false, not_false_eq_true, decide_true, decide_false, z_sA_id]
            · have c4 : ¬ nI k < nI 16 := nI_nlt (by omega) (by omega)
              simp (disch := first | assumption | exact kr _ rfl | omega | exact Nat.le_of_ble_eq_true rfl) only [xo_2_0, xo_5, xo_18, xo_16, xo_6, xo_20, xo_7, xo_47, xo_70, xo_11_6i, xo_11_6r, xo_11_6n, xo_55, xo_1_6, xo_45, zk_M_feed_30, xo_0_1, xo_54, zk_M_feed_40, xo_0_2, zk_M_feed_51, xo_0_3, zk_M_feed_62, xo_1_4, zk_M_feed_74, xo_1_5, xo_11_7i, xo_11_7r, xo_11_7n, xo_17, xo_1_7, xo_30, xo_22, xo_21, xo_27, xo_23, xo_33, xo_39i, xo_39r, xo_15_6i, xo_15_6r, xo_15_6n, hl, c1, b1, c2, b2, c3, b3, c4, b4, if_true, if_false, eq_self, Bool.true_eq_false, Bool.false_eq_true, and_true, true_and, and_false, false_and, or_true, true_or, or_false, false_or, ne_eq, not_true_eq_false, not_false_eq_true, decide_true, decide_false, z_sA_id]
  obtain ⟨w', e3⟩ := el 20 0 .null (by omega)
  have hl : ¬ nI 20 < nI 20 := nI_nlt (Nat.le_refl _) (by omega)
  have a1 : z_fm (th0 M) t L 20 455 2 = nI (t + 20) := by unfold z_fm; rw [z_sA_s, z_u_s]
  rw [e1, e3]
  obtain ⟨k0, ⟨r1, r8, r9, r10, r11, r12, r13, r17⟩, ⟨q1, q2⟩, ⟨q3, q4⟩, ⟨q5, q6⟩, ⟨q7, q8⟩, ⟨q9, q10⟩, ⟨q11, q12⟩, ⟨q13, q14⟩, ⟨q15, q16⟩, hp⟩ := id hM; have kr : ∀ a, z_rc a = 7 → z_kd G 455 = (0, z_rc a) := fun a h => (by rw [h]; exact k0)
  conv => lhs; rw [zk_M_feed_23]
  simp (disch := first | assumption | exact kr _ rfl | omega | exact Nat.le_of_ble_eq_true rfl) only [xo_2_0, xo_5, xo_18, xo_16, xo_6, xo_20, xo_7, xo_47, xo_70, xo_11_6i, xo_11_6r, xo_11_6n, xo_55, xo_1_6, xo_45, xo_0_1, xo_54, xo_0_2, xo_0_3, xo_1_4, xo_1_5, xo_11_7i, xo_11_7r, xo_11_7n, xo_17, xo_1_7, xo_30, xo_22, xo_21, xo_27, xo_23, xo_33, xo_39i, xo_39r, xo_15_6i, xo_15_6r, xo_15_6n, zk_M_feed_120, hl, a1, if_true, if_false, eq_self, Bool.true_eq_false, Bool.false_eq_true, and_true, true_and, and_false, false_and, or_true, true_or, or_false, false_or, ne_eq, not_true_eq_false, not_false_eq_true, decide_true, decide_false, z_sA_id]
end
