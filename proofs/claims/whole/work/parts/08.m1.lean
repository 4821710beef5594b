/-! ===== the reference's small methods ===== -/
def z_b (b : Bool) : Int32 := if b = true then nI 1 else nI 0
theorem z_bt : z_b true = nI 1 := rfl
theorem z_bf : z_b false = nI 0 := rfl
theorem z_b0 (b : Bool) : (z_b b = 0) = (b = false) := by cases b <;> simp [z_b] <;> decide
theorem z_b01 (b : Bool) : z_b b = 0 ∨ z_b b = 1 := by cases b <;> simp [z_b] <;> decide
theorem xo_72z (m a b c pc : Nat) (ops : List zO) (ls : List Value) (G : zG) (M : zM) (q : Bool) : z_ex m ((72, a, b, c, pc) :: ops) ls [.int (z_b q)] G M = some (.inl (some (.int (z_b q))), G, M) := xo_72 m a b c pc ops ls G M _ (z_b01 q)
theorem z_bi (p : Prop) [Decidable p] {α : Type} (f : Int32 → α) : (if p then f (nI 1) else f (nI 0)) = f (z_b (decide p)) := by by_cases h : p <;> simp [h, z_b]
/-- where the reference lies, and its rows -/
def z_HM (G : zG) : Prop := z_kd G 455 = (0, 7) ∧ (z_rf G 455 1 = 456 ∧ z_rf G 455 8 = 457 ∧ z_rf G 455 9 = 458 ∧ z_rf G 455 10 = 459 ∧ z_rf G 455 11 = 460 ∧ z_rf G 455 12 = 461 ∧ z_rf G 455 13 = 462 ∧ z_rf G 455 17 = 471) ∧
  ((z_kd G 456).1 = 1 ∧ (z_kd G 456).2 = 3) ∧ ((z_kd G 457).1 = 1 ∧ (z_kd G 457).2 = 200) ∧ ((z_kd G 458).1 = 1 ∧ (z_kd G 458).2 = 4326) ∧ ((z_kd G 459).1 = 1 ∧ (z_kd G 459).2 = 4326) ∧ ((z_kd G 460).1 = 1 ∧ (z_kd G 460).2 = 4326) ∧ ((z_kd G 461).1 = 1 ∧ (z_kd G 461).2 = 4326) ∧ ((z_kd G 471).1 = 1 ∧ (z_kd G 471).2 = 13) ∧
  ((z_kd G 462).1 = 5 ∧ (z_kd G 462).2 = 8) ∧ ∀ k, k < 8 → z_rf G 462 k = 463 + k ∧ (z_kd G (463 + k)).1 = 1 ∧ (z_kd G (463 + k)).2 = 4326
def zf_has (set k : Int32) : Bool := decide ((set >>> (k &&& 31)) &&& nI 1 = nI 1)
theorem c_M_has (set k : Int32) (G : zG) (M : zM) : z_call 173 [.int set, .int k] G M = some (.inl (some (.int (z_b (zf_has set k)))), G, M) := by
  simp only [ze_M_has, zk_M_has_0, xo_0_0, xo_0_1, xo_27, xo_5, xo_23, xo_43, zk_M_has_9, xo_54, zk_M_has_13, xo_55, zk_M_has_14, xo_72a, xo_72b]
  unfold zf_has
  split <;> rename_i h <;> simp [h, z_b]
def zf_in (v lo hi : Int32) : Bool := decide (¬ v < lo ∧ ¬ hi < v)
theorem c_M_in (v lo hi : Int32) (G : zG) (M : zM) : z_call 160 [.int v, .int lo, .int hi] G M = some (.inl (some (.int (z_b (zf_in v lo hi)))), G, M) := by
  simp only [ze_M_in, zk_M_in_0, xo_0_0, xo_0_1, xo_44, zk_M_in_5, xo_0_2, xo_46, zk_M_in_10, xo_5, xo_54, zk_M_in_14, xo_55, zk_M_in_15, xo_72a, xo_72b]
  unfold zf_in
  by_cases h1 : v < lo <;> by_cases h2 : hi < v <;> simp [h1, h2, z_b]
theorem c_M_m (i k : Nat) (G : zG) (M : zM) : z_call 153 [.int (nI i), .int (nI k)] G M = some (.inl (some (.int (nI (41 + 28 * i + k)))), G, M) := by
  simp only [ze_M_m, zk_M_m_0, xo_6, xo_0_0, xo_22, xo_20, xo_0_1, xo_70, nI_add, pk_mul, Nat.add_zero, z_sA_s, z_sA_sA, z_u_s]
theorem c_M_less (x y : Int32) (G : zG) (M : zM) : z_call 170 [.int x, .int y] G M = some (.inl (some (.int (if x < y then x else y))), G, M) := by
  simp only [ze_M_less, zk_M_less_0, xo_0_0, xo_0_1, xo_45, zk_M_less_5, xo_54, zk_M_less_9, xo_55, zk_M_less_10, xo_70]
  split <;> rfl
theorem c_M_more (x y : Int32) (G : zG) (M : zM) : z_call 192 [.int x, .int y] G M = some (.inl (some (.int (if y < x then x else y))), G, M) := by
  simp only [ze_M_more, zk_M_more_0, xo_0_0, xo_0_1, xo_47, zk_M_more_5, xo_54, zk_M_more_9, xo_55, zk_M_more_10, xo_70]
  split <;> rfl
theorem c_M_isDown {G : zG} (hM : z_HM G) (M : zM) {i : Nat} (hi : i < 8) : z_call 184 [.ref 455, .int (nI i)] G M = some (.inl (some (.int (z_b (decide (M 458 (41 + 28 * i) = nI 2))))), G, M) := by
  obtain ⟨k0, ⟨r1, r8, r9, r10, r11, r12, r13, r17⟩, ⟨q1, q2⟩, ⟨q3, q4⟩, ⟨q5, q6⟩, ⟨q7, q8⟩, ⟨q9, q10⟩, ⟨q11, q12⟩, ⟨q13, q14⟩, ⟨q15, q16⟩, hp⟩ := hM
  simp (disch := first | assumption | omega | exact Nat.le_of_ble_eq_true rfl) only [ze_M_isDown, zk_M_isDown_0, xo_2_0, xo_17, xo_0_1, xo_5, xo_63_2, xk_v, xk_n, xo_32, xo_43, zk_M_isDown_14, xo_54, zk_M_isDown_18, xo_55, zk_M_isDown_19, xo_72a, xo_72b, nI_add, pk_mul, Nat.add_zero, z_sA_s, z_sA_sA, z_u_s, r9, c_M_m]
  split <;> rename_i h <;> simp [h, z_b]
theorem c_M_phase {G : zG} (hM : z_HM G) (M : zM) {i : Nat} (hi : i < 8) (ph be : Int32) : z_call 156 [.ref 455, .int (nI i), .int ph, .int be] G M = some (.inl none, G, z_sA M 458 (z_u (z_u (M 458) (41 + 28 * i + 6) ph) (41 + 28 * i + 7) (M 458 6 + be))) := by
  obtain ⟨k0, ⟨r1, r8, r9, r10, r11, r12, r13, r17⟩, ⟨q1, q2⟩, ⟨q3, q4⟩, ⟨q5, q6⟩, ⟨q7, q8⟩, ⟨q9, q10⟩, ⟨q11, q12⟩, ⟨q13, q14⟩, ⟨q15, q16⟩, hp⟩ := hM
  simp (disch := first | assumption | omega | exact Nat.le_of_ble_eq_true rfl) only [ze_M_phase, zk_M_phase_0, xo_2_0, xo_17, xo_0_1, xo_6, xo_63_2, xk_v, xk_n, xo_0_2, xo_33, xo_32, xo_0_3, xo_20, xo_69, nI_add, pk_mul, Nat.add_zero, z_sA_s, z_sA_sA, z_u_s, r9, c_M_m, z_u_n]
