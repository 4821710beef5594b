/-! ===== healing, cutting and turning keep the row's form ===== -/
theorem z_fd_invP {α : Type} (f : Nat → α → α) (P : α → Prop) (N : Nat) (hs : ∀ k a, k < N → P a → P (f k a)) : ∀ r k a, k + r ≤ N → P a → P (z_fd f r k a)
  | 0, k, a, _, h => by rw [z_fd_0]; exact h
  | r + 1, k, a, e, h => by rw [z_fd_s]; exact z_fd_invP f P N hs r (k + 1) (f k a) (by omega) (hs k a (by omega) h)
theorem z_F_l {n J B : Nat} {s t : Nat → Int32} (h : z_F n J B s) (e : ∀ q, (q < 25 ∨ 33 ≤ q) → t q = s q) : z_F n J B t := by
  refine z_F_eq h ?_ (fun a ha => e a (by omega)) (e 8 (by omega)) (fun a ha _ => e a (by omega))
  obtain ⟨⟨h0, hn⟩, h8, h4⟩ := h.1
  exact ⟨⟨(e 0 (by omega)).trans h0, hn⟩, by rw [e 8 (by omega)]; exact h8, by rw [e 4165 (by omega)]; exact h4⟩
theorem F_he {n J B : Nat} {s : Nat → Int32} (h : z_F n J B s) : z_F n J B (f_he n s) := by
  have hn : n ≤ 8 := h.1.1.2
  exact z_F_l h (fun q hq => f_he_o n s q (by omega))
theorem f_cu_o (set : Int32) (n : Nat) (s : Nat → Int32) (hn : n ≤ 8) : ∀ q, (q < 25 ∨ 33 ≤ q) → (f_cu set n s).1 q = s q := by
  unfold f_cu
  refine z_fd_invP (f_c1 set n) (fun p => ∀ q, (q < 25 ∨ 33 ≤ q) → p.1 q = s q) n (fun a p ha hp => ?_) n 0 (s, 0) (by omega) (fun _ _ => rfl)
  unfold f_c1
  refine z_fd_invP (f_c2 set a) (fun p => ∀ q, (q < 25 ∨ 33 ≤ q) → p.1 q = s q) n (fun b p hb hp q hq => ?_) (n - (a + 1)) (a + 1) p (by omega) hp
  unfold f_c2
  split
  · exact hp q hq
  · dsimp only
    rw [z_u_n _ _ _ _ (by omega), z_u_n _ _ _ _ (by omega)]; exact hp q hq
theorem F_cu {n J B : Nat} {s : Nat → Int32} (h : z_F n J B s) (set : Int32) : z_F n J B (f_cu set n s).1 := z_F_l h (f_cu_o set n s h.1.1.2)
theorem F_tu {n J B i : Nat} {s : Nat → Int32} (h : z_F n J B s) (hi : i < n) (hB : B ≤ 100000000) : z_F n J (B + 1) (f_tu i s) := by
  unfold f_tu
  split
  · exact (FX_al h hi hB).1
  · exact z_F_mono (by omega) (FX_fa h hi).1
theorem R1_c {fl : Bool} {kp : Nat × Nat} {n B : Nat} {V : zM} {s : Nat → Int32} (h : z_R fl kp n B V s) : ∀ a, a < n → ∃ c, c < 256 ∧ s (25 + a) = nI c := fun a ha => by
  obtain ⟨_, c, c1, c2, _⟩ := h.2.1 a ha
  exact ⟨c, c1, c2⟩
