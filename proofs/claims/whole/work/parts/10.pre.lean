/-! ===== folds, loops, block writes ===== -/
def z_n (x : Int32) : Nat := x.toNatClampNeg
theorem z_nN {k : Nat} (h : k < 2 ^ 31) : z_n (nI k) = k := nI_clamp h
def z_fd {α : Type} (f : Nat → α → α) : Nat → Nat → α → α
  | 0, _, a => a
  | n + 1, k, a => z_fd f n (k + 1) (f k a)
theorem z_fd_0 {α : Type} (f : Nat → α → α) (k : Nat) (a : α) : z_fd f 0 k a = a := rfl
theorem z_fd_s {α : Type} (f : Nat → α → α) (n k : Nat) (a : α) : z_fd f (n + 1) k a = z_fd f n (k + 1) (f k a) := rfl
theorem z_fd_r {α : Type} (f : Nat → α → α) : ∀ (n k : Nat) (a : α), z_fd f (n + 1) k a = f (k + n) (z_fd f n k a)
  | 0, _, _ => rfl
  | n + 1, k, a => by
    rw [z_fd_s, z_fd_r f n (k + 1) (f k a), z_fd_s, show k + 1 + n = k + (n + 1) by omega]
theorem z_fd_congr {α : Type} {f g : Nat → α → α} : ∀ (n k : Nat) (a : α), (∀ j a, k ≤ j → j < k + n → f j a = g j a) → z_fd f n k a = z_fd g n k a
  | 0, _, _, _ => rfl
  | n + 1, k, a, h => by
    rw [z_fd_s, z_fd_s, h k a (Nat.le_refl k) (by omega)]
    exact z_fd_congr n (k + 1) _ (fun j b h1 h2 => h j b (by omega) (by omega))
theorem z_fd_inv {α : Type} {f : Nat → α → α} (I : Nat → α → Prop) : ∀ (n k : Nat) (a : α), I k a → (∀ j a, k ≤ j → j < k + n → I j a → I (j + 1) (f j a)) → I (k + n) (z_fd f n k a)
  | 0, _, _, h, _ => h
  | n + 1, k, a, h, hs => by
    rw [z_fd_s, show k + (n + 1) = k + 1 + n by omega]
    exact z_fd_inv I n (k + 1) _ (hs k a (Nat.le_refl k) (by omega) h) (fun j b h1 h2 h3 => hs j b (by omega) (by omega) h3)
theorem z_loop {α β : Type} (E : Nat → α → β) (f : Nat → α → α) (N : Nat) (I : Nat → α → Prop) (hs : ∀ k a, k < N → I k a → E k a = E (k + 1) (f k a) ∧ I (k + 1) (f k a)) : ∀ n k a, k + n = N → I k a → E k a = E N (z_fd f n k a)
  | 0, k, a, h, _ => by
    rw [show k = N by omega]; rfl
  | n + 1, k, a, h, hi => by
    obtain ⟨h1, h2⟩ := hs k a (by omega) hi
    rw [h1, z_fd_s]
    exact z_loop E f N I hs n (k + 1) (f k a) (by omega) h2
theorem z_loop0 {α β : Type} (E : Nat → α → β) (f : Nat → α → α) (N : Nat) (hs : ∀ k a, k < N → E k a = E (k + 1) (f k a)) (n k : Nat) (a : α) (h : k + n = N) : E k a = E N (z_fd f n k a) :=
  z_loop E f N (fun _ _ => True) (fun k a hk _ => ⟨hs k a hk, trivial⟩) n k a h trivial
/-- a row of w numbers from p on is L -/
def z_bw (s : Nat → Int32) (p w : Nat) (L : Nat → Int32) : Nat → Int32 := fun q => if p ≤ q ∧ q < p + w then L (q - p) else s q
theorem z_bw_in (s : Nat → Int32) (p w : Nat) (L : Nat → Int32) (k : Nat) (h : k < w) : z_bw s p w L (p + k) = L k := by
  unfold z_bw
  rw [if_pos ⟨by omega, by omega⟩, show p + k - p = k by omega]
theorem z_bw_out (s : Nat → Int32) (p w : Nat) (L : Nat → Int32) (q : Nat) (h : q < p ∨ p + w ≤ q) : z_bw s p w L q = s q := by
  unfold z_bw
  rw [if_neg (by omega)]
theorem z_bw_at (s : Nat → Int32) (p w : Nat) (L : Nat → Int32) (q : Nat) (h : p ≤ q) (h2 : q < p + w) : z_bw s p w L q = L (q - p) := by
  unfold z_bw
  rw [if_pos ⟨h, h2⟩]
theorem z_bw_0 (s : Nat → Int32) (p : Nat) (L : Nat → Int32) : z_bw s p 0 L = s := by
  funext q; unfold z_bw; rw [if_neg (by omega)]
theorem z_bw_u (s : Nat → Int32) (p w : Nat) (L : Nat → Int32) : z_u (z_bw s p w L) (p + w) (L w) = z_bw s p (w + 1) L := by
  funext q; unfold z_bw z_u
  by_cases h : q = p + w
  · subst h; rw [if_pos rfl, if_pos ⟨by omega, by omega⟩, show p + w - p = w by omega]
  · rw [if_neg h]
    dsimp only
    by_cases h2 : p ≤ q ∧ q < p + w
    · rw [if_pos h2, if_pos ⟨h2.1, by omega⟩]
    · rw [if_neg h2, if_neg (by omega)]
theorem z_fd_bw (L : Nat → Int32) (p : Nat) (s : Nat → Int32) : ∀ n, z_fd (fun k a => z_u a (p + k) (L k)) n 0 s = z_bw s p n L
  | 0 => (z_bw_0 s p L).symm
  | n + 1 => by rw [z_fd_r, z_fd_bw L p s n, Nat.zero_add, z_bw_u]
theorem z_u_comm (f : Nat → Int32) (a b : Nat) (v w : Int32) (h : a ≠ b) : z_u (z_u f a v) b w = z_u (z_u f b w) a v := by
  funext q; unfold z_u
  by_cases h1 : q = b
  · have h2 : ¬ q = a := fun e => h (e.symm.trans h1)
    simp only [h1, if_true]
    rw [if_neg (fun e => h e.symm)]
  · simp only [h1, if_false]
/-- numbers behind others come d places ahead: n of them, from p on -/
def z_shf (s : Nat → Int32) (p n d : Nat) : Nat → Int32 := fun q => if p ≤ q ∧ q < p + n then s (q + d) else s q
theorem z_fd_shf (d : Nat) (hd : 0 < d) : ∀ (n p : Nat) (s : Nat → Int32), z_fd (fun k a => z_u a k (a (k + d))) n p s = z_shf s p n d
  | 0, p, s => by funext q; unfold z_shf; rw [if_neg (by omega)]; rfl
  | n + 1, p, s => by
    rw [z_fd_s, z_fd_shf d hd n (p + 1)]
    funext q; unfold z_shf z_u
    by_cases h : q = p
    · subst h; rw [if_neg (by omega), if_pos rfl, if_pos (by omega)]
    · by_cases h2 : p + 1 ≤ q ∧ q < p + 1 + n
      · rw [if_pos h2, if_neg (show ¬ q + d = p by omega), if_pos (show p ≤ q ∧ q < p + (n + 1) from ⟨by omega, by omega⟩)]
      · rw [if_neg h2, if_neg h, if_neg (by omega)]
