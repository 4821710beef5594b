/-! ===== the class: a world's cells, its small methods ===== -/
def z_HW (G : zG) (b : Nat) : Prop := 32 ≤ b ∧ z_kd G b = (0, 5) ∧ (z_rf G b 3 = b + 1 ∧ z_rf G b 4 = b + 2 ∧ z_rf G b 5 = b + 3 ∧ z_rf G b 6 = b + 4 ∧ z_rf G b 7 = b + 8) ∧
  ((z_kd G (b + 1)).1 = 1 ∧ (z_kd G (b + 1)).2 = 4) ∧ ((z_kd G (b + 2)).1 = 1 ∧ (z_kd G (b + 2)).2 = 8) ∧ ((z_kd G (b + 3)).1 = 3 ∧ (z_kd G (b + 3)).2 = 8) ∧
  z_kd G (b + 4) = (0, 1) ∧ (z_rf G (b + 4) 0 = b + 5 ∧ z_rf G (b + 4) 4 = b + 6 ∧ z_rf G (b + 4) 5 = b + 7) ∧
  ((z_kd G (b + 5)).1 = 1 ∧ (z_kd G (b + 5)).2 = 7200) ∧ ((z_kd G (b + 6)).1 = 1 ∧ (z_kd G (b + 6)).2 = 8) ∧ ((z_kd G (b + 7)).1 = 1 ∧ (z_kd G (b + 7)).2 = 8) ∧ ((z_kd G (b + 8)).1 = 1 ∧ (z_kd G (b + 8)).2 = 160) ∧
  ∀ i, i < 8 → z_rf G (b + 3) i = b + (9 + 4 * i) ∧ z_kd G (b + (9 + 4 * i)) = (0, 2) ∧ (z_rf G (b + (9 + 4 * i)) 12 = b + (10 + 4 * i) ∧ z_rf G (b + (9 + 4 * i)) 13 = b + (11 + 4 * i) ∧ z_rf G (b + (9 + 4 * i)) 14 = b + (12 + 4 * i)) ∧
    ((z_kd G (b + (10 + 4 * i))).1 = 1 ∧ (z_kd G (b + (10 + 4 * i))).2 = 6) ∧ ((z_kd G (b + (11 + 4 * i))).1 = 1 ∧ (z_kd G (b + (11 + 4 * i))).2 = 6) ∧ ((z_kd G (b + (12 + 4 * i))).1 = 1 ∧ (z_kd G (b + (12 + 4 * i))).2 = 7)
/-- the memory in which the world at b is V -/
def wr (M : zM) (b : Nat) (V : zM) : zM := fun q => if b ≤ q ∧ q < b + 41 then V (q - b) else M q
theorem wr_k (M : zM) (b : Nat) (V : zM) (k : Nat) (h : k < 41) : wr M b V (b + k) = V k := by
  unfold wr; rw [if_pos ⟨by omega, by omega⟩, show b + k - b = k by omega]
theorem wr_0 (M : zM) (b : Nat) (V : zM) : wr M b V b = V 0 := wr_k M b V 0 (by omega)
theorem wr_o (M : zM) (b : Nat) (V : zM) (q : Nat) (h : q < b ∨ b + 41 ≤ q) : wr M b V q = M q := by
  unfold wr; rw [if_neg (by omega)]
theorem wr_uk (M : zM) (b : Nat) (V : zM) (k : Nat) (f : Nat → Int32) (h : k < 41) : z_sA (wr M b V) (b + k) f = wr M b (z_sA V k f) := by
  funext q; unfold z_sA wr
  by_cases h1 : q = b + k
  · rw [if_pos h1, if_pos ⟨by omega, by omega⟩]
    dsimp only
    rw [if_pos (by omega)]
  · rw [if_neg h1]
    split
    · dsimp only
      rw [if_neg (by omega)]
    · rfl
theorem wr_u0 (M : zM) (b : Nat) (V : zM) (f : Nat → Int32) : z_sA (wr M b V) b f = wr M b (z_sA V 0 f) := wr_uk M b V 0 f (by omega)
theorem wr_id (M : zM) (b : Nat) : wr M b (fun k => M (b + k)) = M := by
  funext q; unfold wr
  split
  · dsimp only; rw [show b + (q - b) = q by omega]
  · rfl
theorem wr_wr (M : zM) (b : Nat) (V U : zM) : wr (wr M b V) b U = wr M b U := by
  funext q; unfold wr
  split <;> rfl
/-- slot j of cell k is x -/
def z_w (V : zM) (k j : Nat) (x : Int32) : zM := z_sA V k (z_u (V k) j x)
theorem z_w_f (V : zM) (k j : Nat) (x : Int32) : z_sA V k (z_u (V k) j x) = z_w V k j x := rfl
theorem z_w_s (V : zM) (k j : Nat) (x : Int32) : z_w V k j x k j = x := by unfold z_w; rw [z_sA_s, z_u_s]
theorem z_w_n (V : zM) (k j k' j' : Nat) (x : Int32) (h : k' ≠ k ∨ j' ≠ j) : z_w V k j x k' j' = V k' j' := by
  unfold z_w
  by_cases hk : k' = k
  · subst hk; rw [z_sA_s, z_u_n _ _ _ _ (h.elim (fun q => absurd rfl q) (fun q => q))]
  · rw [z_sA_n _ _ _ _ hk]
theorem z_w_c (V : zM) (k j k' : Nat) (x : Int32) (h : k' ≠ k) : z_w V k j x k' = V k' := by unfold z_w; rw [z_sA_n _ _ _ _ h]
