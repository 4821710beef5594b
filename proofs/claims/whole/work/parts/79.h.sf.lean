/-! ===== what a text that was read tells ===== -/
def z_SF (n : Nat) (S : Nat → Int32) : Prop := S 0 = nI n ∧ (∃ J, 1 ≤ J ∧ J ≤ 6 ∧ S 1 = nI J) ∧ (∃ d, 1 ≤ d ∧ d ≤ 3 ∧ S 5 = nI d) ∧ (∀ k, 6 ≤ k → k < 33 → S k = 0) ∧ ∀ k, 41 ≤ k → S k = 0
theorem SF_0 (n : Nat) (hn : n ≤ 8) : z_SF n (y_S0 n) := by
  refine ⟨rfl, ⟨3, by omega, by omega, rfl⟩, ⟨1, by omega, by omega, rfl⟩, fun k h1 h2 => ?_, fun k h1 => ?_⟩
  · unfold y_S0
    rw [if_neg (by omega), if_neg (by omega), if_neg (by omega), if_neg (by omega), if_neg (by omega), if_neg (by omega), if_neg (by omega)]; rfl
  · unfold y_S0
    rw [if_neg (by omega), if_neg (by omega), if_neg (by omega), if_neg (by omega), if_neg (by omega), if_neg (by omega), if_neg (by omega)]; rfl
theorem SF_u {n k : Nat} {S : Nat → Int32} {v : Int32} (h : z_SF n S) (hk : k = 2 ∨ k = 3 ∨ k = 4 ∨ (33 ≤ k ∧ k < 41)) : z_SF n (z_u S k v) := by
  obtain ⟨h0, h1, h2, h3, h4⟩ := h
  refine ⟨by rw [z_u_n _ _ _ _ (by omega)]; exact h0, by rw [z_u_n _ _ _ _ (by omega)]; exact h1, by rw [z_u_n _ _ _ _ (by omega)]; exact h2, fun j a b => by rw [z_u_n _ _ _ _ (by omega)]; exact h3 j a b, fun j a => by rw [z_u_n _ _ _ _ (by omega)]; exact h4 j a⟩
theorem SF_u1 {n j : Nat} {S : Nat → Int32} (h : z_SF n S) (h1 : 1 ≤ j) (h6 : j ≤ 6) : z_SF n (z_u S 1 (nI j)) := by
  obtain ⟨h0, _, h2, h3, h4⟩ := h
  refine ⟨by rw [z_u_n _ _ _ _ (by omega)]; exact h0, ⟨j, h1, h6, z_u_s _ _ _⟩, by rw [z_u_n _ _ _ _ (by omega)]; exact h2, fun j a b => by rw [z_u_n _ _ _ _ (by omega)]; exact h3 j a b, fun j a => by rw [z_u_n _ _ _ _ (by omega)]; exact h4 j a⟩
theorem SF_u5 {n j : Nat} {S : Nat → Int32} (h : z_SF n S) (h1 : 1 ≤ j) (h6 : j ≤ 3) : z_SF n (z_u S 5 (nI j)) := by
  obtain ⟨h0, h2, _, h3, h4⟩ := h
  refine ⟨by rw [z_u_n _ _ _ _ (by omega)]; exact h0, by rw [z_u_n _ _ _ _ (by omega)]; exact h2, ⟨j, h1, h6, z_u_s _ _ _⟩, fun j a b => by rw [z_u_n _ _ _ _ (by omega)]; exact h3 j a b, fun j a => by rw [z_u_n _ _ _ _ (by omega)]; exact h4 j a⟩
theorem SF_rks {T : Nat → Int32} {sz n : Nat} : ∀ r i S a S' b, i + r ≤ 8 → z_SF n S → y_rks T sz r i S a = .inr (S', b) → z_SF n S' := by
  intro r
  induction r with
  | zero => intro i S a S' b _ hS h; cases h; exact hS
  | succ r ih =>
    intro i S a S' b hi hS h
    unfold y_rks at h
    generalize hq : y_num T sz 0 99 a = q at h
    rcases q with g | ⟨c, v, p⟩
    · cases h
    · dsimp only at h
      split at h
      · cases h
      · exact ih _ _ _ _ _ (by omega) (SF_u hS (by omega)) h
theorem SF_t1 {T : Nat → Int32} {sz n lo hi a k b : Nat} {S S' : Nat → Int32} (ha : a ≤ sz) (hS : z_SF n S) (hk : k = 1 ∧ lo = 1 ∧ hi = 6 ∨ k = 2 ∨ k = 3 ∨ k = 4 ∨ k = 5 ∧ lo = 1 ∧ hi = 3) (h : y_t1 S k (y_num T sz lo hi a) = .inr (S', b)) : z_SF n S' := by
  generalize hq : y_num T sz lo hi a = q at h
  rcases q with g | ⟨c, v, p⟩
  · cases h
  · cases h
    obtain ⟨_, _, n3, n4⟩ := num_b ha hq
    rcases hk with ⟨rfl, rfl, rfl⟩ | rfl | rfl | rfl | ⟨rfl, rfl, rfl⟩
    · exact SF_u1 hS n4 n3
    · exact SF_u hS (by omega)
    · exact SF_u hS (by omega)
    · exact SF_u hS (by omega)
    · exact SF_u5 hS n4 n3
theorem SF_tl {T : Nat → Int32} {sz n L a b : Nat} {S S' : Nat → Int32} (ha : a ≤ sz) (hn : n ≤ 8) (hS : z_SF n S) (h : y_tl T sz n S L a = .inr (S', b)) : z_SF n S' ∧ b ≤ sz := by
  have wb := we_b T (sz - a) a
  have l6 := y_ln6 T a (y_we T (sz - a) a)
  unfold y_tl at h
  generalize y_ln T a (y_we T (sz - a) a) = k at h l6
  split at h
  · cases h
  · split at h
    · cases h
    · split at h
      · exact ⟨SF_rks _ _ _ _ _ _ (by omega) hS h, rks_z _ _ _ _ _ _ (by omega) h⟩
      · split at h
        · exact ⟨SF_t1 (by omega) hS (Or.inl ⟨rfl, rfl, rfl⟩) h, t1_z (by omega) h⟩
        · refine ⟨SF_t1 (by omega) hS ?_ h, t1_z (by omega) h⟩
          rcases (show k = 2 ∨ k = 3 ∨ k = 4 ∨ k = 5 by omega) with e | e | e | e
          · exact Or.inr (Or.inl e)
          · exact Or.inr (Or.inr (Or.inl e))
          · exact Or.inr (Or.inr (Or.inr (Or.inl e)))
          · subst e; exact Or.inr (Or.inr (Or.inr (Or.inr ⟨rfl, rfl, rfl⟩)))
theorem SF_ml {T : Nat → Int32} {sz n : Nat} (hn : n ≤ 8) : ∀ f S L a S', z_SF n S → a ≤ sz → y_ml T sz n f S L a = .inr S' → z_SF n S' := by
  intro f
  induction f with
  | zero => intro S L a S' hS _ h; cases h; exact hS
  | succ f ih =>
    intro S L a S' hS ha h
    unfold y_ml at h
    split at h
    · generalize hq : y_tl T sz n S L a = q at h
      rcases q with g | ⟨S1, b⟩
      · cases h
      · obtain ⟨s1, s2⟩ := SF_tl ha hn hS hq
        dsimp only at h
        generalize hq2 : y_en T sz b = q at h
        rcases q with g | c
        · cases h
        · obtain ⟨_, c2⟩ := en_b s2 hq2
          have sb := sk_b T (sz - c) c
          exact ih _ _ _ _ s1 (by omega) h
    · cases h; exact hS
theorem SF_text {T : Nat → Int32} {sz n : Nat} {S : Nat → Int32} (h : y_text T sz = .inr (n, S)) : z_SF n S ∧ 2 ≤ n ∧ n ≤ 8 := by
  unfold y_text at h
  generalize hq : y_hd T sz = q at h
  rcases q with g | ⟨n', b⟩
  · cases h
  · have hd : 2 ≤ n' ∧ n' ≤ 8 ∧ b ≤ sz := by
      have s0 := sk_b T sz 0
      have wb := we_b T (sz - y_sk T sz 0) (y_sk T sz 0)
      unfold y_hd at hq
      split at hq
      · generalize hq2 : y_num T sz 2 8 (y_we T (sz - y_sk T sz 0) (y_sk T sz 0)) = q2 at hq
        rcases q2 with g | ⟨c, v, p⟩
        · cases hq
        · obtain ⟨n1, n2, n3, n4⟩ := num_b (by omega) hq2
          dsimp only [y_h2] at hq
          generalize hq3 : y_en T sz c = q3 at hq
          rcases q3 with g | d
          · cases hq
          · have := en_b n1 hq3
            cases hq
            exact ⟨n4, n3, this.2⟩
      · cases hq
    dsimp only [y_x2] at h
    generalize hq2 : y_ml T sz n' 201 (y_S0 n') 0 (y_sk T (sz - b) b) = q2 at h
    rcases q2 with g | S1
    · cases h
    · cases h
      have sb := sk_b T (sz - b) b
      exact ⟨SF_ml hd.2.1 _ _ _ _ _ (SF_0 _ hd.2.1) (by omega) hq2, hd.1, hd.2.1⟩
