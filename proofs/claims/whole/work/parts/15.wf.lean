/-! ===== what holds of the reference's row at all times ===== -/
def z_C (n J B i f : Nat) (v : Int32) : Prop :=
  if f = 0 then ∃ a, a ≤ 2 ∧ v = nI a else if f = 1 then ∃ c, c < n ∧ v = nI c else if f = 2 then ∃ c, c ≤ B ∧ v = nI c else if f = 3 then v ≠ 0
  else if f = 4 then ∃ u, u < 256 ∧ u.testBit i = true ∧ v = nI u else if f = 5 then ∃ u, u < 256 ∧ v = nI u else if f = 6 then ∃ p, p ≤ 6 ∧ v = nI p
  else if 8 ≤ f ∧ f < 14 then (J ≤ f - 8 → v = 0) else True
def z_Cl (n J : Nat) (L : Nat → Int32) : Prop := ∃ a b k, a < n ∧ b < n ∧ k < 8 ∧ L 0 = nI a ∧ L 1 = nI b ∧ L 2 = nI k ∧ (k = 5 → ∃ c, c < n ∧ L 5 = nI c ∧ L 4 ≠ 0) ∧ (k = 7 → ∃ u, u < 256 ∧ u.testBit b = true ∧ L 6 = nI u) ∧ ((k ≠ 5 → L 5 = nI 4294967295) ∧ a ≠ b) ∧ (k ≠ 7 → L 6 = nI 4294967295) ∧ (∀ t, J ≤ t → t < 6 → L (7 + t) = 0)
def z_F (n J B : Nat) (s : Nat → Int32) : Prop := z_W0 n s ∧ 2 ≤ n ∧ (s 1 = nI J ∧ 1 ≤ J ∧ J ≤ 6) ∧ (∃ d, 1 ≤ d ∧ d ≤ 3 ∧ s 5 = nI d) ∧ (∀ i f, i < n → f < 28 → z_C n J B i f (s (41 + 28 * i + f))) ∧ (∀ k, k < z_n (s 8) → z_Cl n J (fun t => s (265 + 13 * k + t)))
/-- letters come behind the others, in time; what stands stays -/
def z_X (s t : Nat → Int32) : Prop := (∀ a, a < 7 → t a = s a) ∧ (∀ a, 25 ≤ a → a < 41 → t a = s a) ∧ z_n (s 8) ≤ z_n (t 8) ∧ (∀ a, 265 ≤ a → a < 265 + 13 * z_n (s 8) → t a = s a) ∧ (∀ k, z_n (s 8) ≤ k → k < z_n (t 8) → t (265 + 13 * k + 3) = s 6 + s 5)
def z_FX (n J B : Nat) (s t : Nat → Int32) : Prop := z_F n J B t ∧ z_X s t
theorem z_X_refl (s : Nat → Int32) : z_X s s := ⟨fun _ _ => rfl, fun _ _ _ => rfl, Nat.le_refl _, fun _ _ _ => rfl, fun k h1 h2 => absurd h2 (by omega)⟩
theorem z_X_trans {s t r : Nat → Int32} (h : z_X s t) (g : z_X t r) : z_X s r := by
  obtain ⟨h1, h2, h3, h4, h5⟩ := h
  obtain ⟨g1, g2, g3, g4, g5⟩ := g
  refine ⟨fun a ha => (g1 a ha).trans (h1 a ha), fun a ha hb => (g2 a ha hb).trans (h2 a ha hb), Nat.le_trans h3 g3, fun a ha hb => (g4 a ha (by omega)).trans (h4 a ha hb), fun k hk1 hk2 => ?_⟩
  by_cases hk : k < z_n (t 8)
  · rw [g4 _ (by omega) (by omega), h5 k hk1 hk]
  · rw [g5 k (by omega) hk2, h1 6 (by omega), h1 5 (by omega)]
theorem z_X_u (s : Nat → Int32) (a : Nat) (v : Int32) (h : (7 ≤ a ∧ a < 25 ∧ a ≠ 8) ∨ (41 ≤ a ∧ a < 265) ∨ 4165 ≤ a) (hs : z_n (s 8) ≤ 300) : z_X s (z_u s a v) := by
  have h8 : z_u s a v 8 = s 8 := z_u_n _ _ _ _ (by omega)
  refine ⟨fun q hq => z_u_n _ _ _ _ (by omega), fun q h1 h2 => z_u_n _ _ _ _ (by omega), by rw [h8]; exact Nat.le_refl _, fun q h1 h2 => z_u_n _ _ _ _ (by omega), fun k h1 h2 => ?_⟩
  rw [h8] at h2; omega
theorem FX_trans {n J B B' : Nat} {s t r : Nat → Int32} (h : z_FX n J B s t) (g : z_FX n J B' t r) : z_FX n J B' s r := ⟨g.1, z_X_trans h.2 g.2⟩
theorem FX_self {n J B : Nat} {s : Nat → Int32} (h : z_F n J B s) : z_FX n J B s s := ⟨h, z_X_refl s⟩
theorem z_C_mono {n J B B' i f : Nat} {v : Int32} (hB : B ≤ B') (h : z_C n J B i f v) : z_C n J B' i f v := by
  unfold z_C at h ⊢
  by_cases h2 : f = 2
  · subst h2
    rw [if_neg (by omega), if_neg (by omega), if_pos rfl] at h ⊢
    obtain ⟨c, hc, e⟩ := h
    exact ⟨c, by omega, e⟩
  · simp only [h2, if_false] at h ⊢
    exact h
theorem z_F_mono {n J B B' : Nat} {s : Nat → Int32} (hB : B ≤ B') (h : z_F n J B s) : z_F n J B' s := by
  obtain ⟨h1, h2, h3, h4, h5, h6⟩ := h
  exact ⟨h1, h2, h3, h4, fun i f hi hf => z_C_mono hB (h5 i f hi hf), h6⟩
theorem FX_mono {n J B B' : Nat} {s t : Nat → Int32} (hB : B ≤ B') (h : z_FX n J B s t) : z_FX n J B' s t := ⟨z_F_mono hB h.1, h.2⟩
theorem z_F_m {n J B : Nat} {s : Nat → Int32} (h : z_F n J B s) : ∃ m, m ≤ 300 ∧ s 8 = nI m ∧ z_n (s 8) = m := by
  obtain ⟨m, hm, e⟩ := h.1.2.1
  exact ⟨m, hm, e, by rw [e]; exact z_nN (by omega)⟩
theorem FX_um {n J B i f : Nat} {s : Nat → Int32} {v : Int32} (h : z_F n J B s) (hi : i < n) (hf : f < 28) (hc : z_C n J B i f v) : z_FX n J B s (z_u s (41 + 28 * i + f) v) := by
  obtain ⟨m, hm, e8, z8⟩ := z_F_m h
  have hn : n ≤ 8 := h.1.1.2
  refine ⟨?_, z_X_u s _ v (Or.inr (Or.inl ⟨by omega, by omega⟩)) (by omega)⟩
  obtain ⟨h1, h2, h3, h4, h5, h6⟩ := h
  have e8' : z_u s (41 + 28 * i + f) v 8 = s 8 := z_u_n _ _ _ _ (by omega)
  refine ⟨z_W0_u h1 _ _ (by omega) (by omega) (by omega), h2, ?_, ?_, ?_, ?_⟩
  · rw [z_u_n _ _ _ _ (by omega)]; exact h3
  · rw [z_u_n _ _ _ _ (by omega)]; exact h4
  · intro i' f' hi' hf'
    by_cases he : i' = i ∧ f' = f
    · obtain ⟨rfl, rfl⟩ := he
      rw [z_u_s]; exact hc
    · rw [z_u_n _ _ _ _ (by omega)]; exact h5 i' f' hi' hf'
  · intro k hk
    rw [e8'] at hk
    have : (fun t => z_u s (41 + 28 * i + f) v (265 + 13 * k + t)) = fun t => s (265 + 13 * k + t) := by
      funext t; exact z_u_n _ _ _ _ (by omega)
    rw [this]; exact h6 k hk
theorem FX_ug {n J B a : Nat} {s : Nat → Int32} {v : Int32} (h : z_F n J B s) (ha : (7 ≤ a ∧ a < 25 ∧ a ≠ 8) ∨ 4166 ≤ a) : z_FX n J B s (z_u s a v) := by
  obtain ⟨m, hm, e8, z8⟩ := z_F_m h
  have hn : n ≤ 8 := h.1.1.2
  refine ⟨?_, z_X_u s _ v (ha.elim Or.inl (fun q => Or.inr (Or.inr (by omega)))) (by omega)⟩
  obtain ⟨h1, h2, h3, h4, h5, h6⟩ := h
  have e8' : z_u s a v 8 = s 8 := z_u_n _ _ _ _ (by omega)
  refine ⟨z_W0_u h1 _ _ (by omega) (by omega) (by omega), h2, ?_, ?_, ?_, ?_⟩
  · rw [z_u_n _ _ _ _ (by omega)]; exact h3
  · rw [z_u_n _ _ _ _ (by omega)]; exact h4
  · intro i' f' hi' hf'
    rw [z_u_n _ _ _ _ (by omega)]; exact h5 i' f' hi' hf'
  · intro k hk
    rw [e8', z8] at hk
    have : ∀ t, t < 13 → z_u s a v (265 + 13 * k + t) = s (265 + 13 * k + t) := fun t ht => z_u_n _ _ _ _ (by omega)
    have h7 := h6 k (by omega)
    unfold z_Cl at h7 ⊢
    simp only [this 0 (by omega), this 1 (by omega), this 2 (by omega), this 4 (by omega), this 5 (by omega), this 6 (by omega)]
    obtain ⟨x, y, z, p1, p2, p3, p4, p5, p6, p7, p8, p9, p10, p11⟩ := h7
    exact ⟨x, y, z, p1, p2, p3, p4, p5, p6, p7, p8, p9, p10, fun t h1 h2 => by rw [this _ (by omega)]; exact p11 t h1 h2⟩
theorem z_F_eq {n J B : Nat} {s t : Nat → Int32} (h : z_F n J B s) (hw : z_W0 n t) (h0 : ∀ a, a < 7 → t a = s a) (h8 : t 8 = s 8) (h1 : ∀ a, 41 ≤ a → a < 4165 → t a = s a) : z_F n J B t := by
  obtain ⟨m, hm, e8, z8⟩ := z_F_m h
  obtain ⟨g1, g2, g3, g4, g5, g6⟩ := h
  have hn : n ≤ 8 := g1.1.2
  refine ⟨hw, g2, by rw [h0 1 (by omega)]; exact g3, by rw [h0 5 (by omega)]; exact g4, fun i f hi hf => by rw [h1 _ (by omega) (by omega)]; exact g5 i f hi hf, fun k hk => ?_⟩
  rw [h8, z8] at hk
  have : ∀ x, x < 13 → t (265 + 13 * k + x) = s (265 + 13 * k + x) := fun x hx => h1 _ (by omega) (by omega)
  have h7 := g6 k (by omega)
  unfold z_Cl at h7 ⊢
  simp only [this 0 (by omega), this 1 (by omega), this 2 (by omega), this 4 (by omega), this 5 (by omega), this 6 (by omega)]
  obtain ⟨x, y, z, p1, p2, p3, p4, p5, p6, p7, p8, p9, p10, p11⟩ := h7
  exact ⟨x, y, z, p1, p2, p3, p4, p5, p6, p7, p8, p9, p10, fun t h1 h2 => by rw [this _ (by omega)]; exact p11 t h1 h2⟩
theorem zC_0 {n J B i a : Nat} (h : a ≤ 2) : z_C n J B i 0 (nI a) := by unfold z_C; rw [if_pos rfl]; exact ⟨a, h, rfl⟩
theorem zC_1 {n J B i a : Nat} (h : a < n) : z_C n J B i 1 (nI a) := by unfold z_C; rw [if_neg (by omega), if_pos rfl]; exact ⟨a, h, rfl⟩
theorem zC_2 {n J B i a : Nat} (h : a ≤ B) : z_C n J B i 2 (nI a) := by unfold z_C; rw [if_neg (by omega), if_neg (by omega), if_pos rfl]; exact ⟨a, h, rfl⟩
theorem zC_3 {n J B i : Nat} {v : Int32} (h : v ≠ 0) : z_C n J B i 3 v := by unfold z_C; rw [if_neg (by omega), if_neg (by omega), if_neg (by omega), if_pos rfl]; exact h
theorem zC_4 {n J B i u : Nat} (h : u < 256) (h2 : u.testBit i = true) : z_C n J B i 4 (nI u) := by unfold z_C; rw [if_neg (by omega), if_neg (by omega), if_neg (by omega), if_neg (by omega), if_pos rfl]; exact ⟨u, h, h2, rfl⟩
theorem zC_5 {n J B i u : Nat} (h : u < 256) : z_C n J B i 5 (nI u) := by unfold z_C; rw [if_neg (by omega), if_neg (by omega), if_neg (by omega), if_neg (by omega), if_neg (by omega), if_pos rfl]; exact ⟨u, h, rfl⟩
theorem zC_6 {n J B i u : Nat} (h : u ≤ 6) : z_C n J B i 6 (nI u) := by unfold z_C; rw [if_neg (by omega), if_neg (by omega), if_neg (by omega), if_neg (by omega), if_neg (by omega), if_neg (by omega), if_pos rfl]; exact ⟨u, h, rfl⟩
theorem zC_k {n J B i f : Nat} {v : Int32} (h : 6 < f) (h2 : 8 ≤ f ∧ f < 14 → J ≤ f - 8 → v = 0) : z_C n J B i f v := by
  unfold z_C; rw [if_neg (by omega), if_neg (by omega), if_neg (by omega), if_neg (by omega), if_neg (by omega), if_neg (by omega), if_neg (by omega)]
  split
  · rename_i q; exact h2 q
  · trivial
theorem F_0 {n J B i : Nat} {s : Nat → Int32} (h : z_F n J B s) (hi : i < n) : ∃ a, a ≤ 2 ∧ s (41 + 28 * i) = nI a := by have := h.2.2.2.2.1 i 0 hi (by omega); unfold z_C at this; rw [if_pos rfl] at this; exact this
theorem F_1 {n J B i : Nat} {s : Nat → Int32} (h : z_F n J B s) (hi : i < n) : ∃ a, a < n ∧ s (41 + 28 * i + 1) = nI a := by have := h.2.2.2.2.1 i 1 hi (by omega); unfold z_C at this; rw [if_neg (by omega), if_pos rfl] at this; exact this
theorem F_2 {n J B i : Nat} {s : Nat → Int32} (h : z_F n J B s) (hi : i < n) : ∃ a, a ≤ B ∧ s (41 + 28 * i + 2) = nI a := by have := h.2.2.2.2.1 i 2 hi (by omega); unfold z_C at this; rw [if_neg (by omega), if_neg (by omega), if_pos rfl] at this; exact this
theorem F_3 {n J B i : Nat} {s : Nat → Int32} (h : z_F n J B s) (hi : i < n) : s (41 + 28 * i + 3) ≠ 0 := by have := h.2.2.2.2.1 i 3 hi (by omega); unfold z_C at this; rw [if_neg (by omega), if_neg (by omega), if_neg (by omega), if_pos rfl] at this; exact this
theorem F_4 {n J B i : Nat} {s : Nat → Int32} (h : z_F n J B s) (hi : i < n) : ∃ u, u < 256 ∧ u.testBit i = true ∧ s (41 + 28 * i + 4) = nI u := by have := h.2.2.2.2.1 i 4 hi (by omega); unfold z_C at this; rw [if_neg (by omega), if_neg (by omega), if_neg (by omega), if_neg (by omega), if_pos rfl] at this; exact this
theorem F_5 {n J B i : Nat} {s : Nat → Int32} (h : z_F n J B s) (hi : i < n) : ∃ u, u < 256 ∧ s (41 + 28 * i + 5) = nI u := by have := h.2.2.2.2.1 i 5 hi (by omega); unfold z_C at this; rw [if_neg (by omega), if_neg (by omega), if_neg (by omega), if_neg (by omega), if_neg (by omega), if_pos rfl] at this; exact this
theorem F_6 {n J B i : Nat} {s : Nat → Int32} (h : z_F n J B s) (hi : i < n) : ∃ u, u ≤ 6 ∧ s (41 + 28 * i + 6) = nI u := by have := h.2.2.2.2.1 i 6 hi (by omega); unfold z_C at this; rw [if_neg (by omega), if_neg (by omega), if_neg (by omega), if_neg (by omega), if_neg (by omega), if_neg (by omega), if_pos rfl] at this; exact this
theorem F_8 {n J B i k : Nat} {s : Nat → Int32} (h : z_F n J B s) (hi : i < n) (hk : k < 6) (hJ : J ≤ k) : s (41 + 28 * i + (8 + k)) = 0 := by
  have := h.2.2.2.2.1 i (8 + k) hi (by omega)
  unfold z_C at this
  rw [if_neg (by omega), if_neg (by omega), if_neg (by omega), if_neg (by omega), if_neg (by omega), if_neg (by omega), if_neg (by omega), if_pos (by omega)] at this
  exact this (by omega)
/-! sets of members as numbers -/
theorem z_bitN : ∀ j, j < 8 → nI 1 <<< (nI j &&& 31) = nI (2 ^ j) := by decide +kernel
theorem z_orN : ∀ u, u < 256 → ∀ j, j < 8 → nI u ||| nI (2 ^ j) = nI (u ||| 2 ^ j) := by decide +kernel
theorem z_hasN : ∀ u, u < 256 → ∀ j, j < 8 → zf_has (nI u) (nI j) = u.testBit j := by decide +kernel
theorem z_pow8 : ∀ j, j < 8 → 2 ^ j < 256 := by decide
theorem z_or8 {u j : Nat} (hu : u < 256) (hj : j < 8) : u ||| 2 ^ j < 256 := Nat.or_lt_two_pow (n := 8) hu (z_pow8 j hj)
