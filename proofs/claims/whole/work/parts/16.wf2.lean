/-! ===== what holds stays so ===== -/
theorem FX_hi {n J B : Nat} {s t : Nat → Int32} (h : z_F n J B s) (hw : z_W0 n t) (h1 : ∀ a, a < 4165 → t a = s a) : z_FX n J B s t := by
  obtain ⟨m, hm, e8, z8⟩ := z_F_m h
  refine ⟨z_F_eq h hw (fun a ha => h1 a (by omega)) (h1 8 (by omega)) (fun a _ ha => h1 a ha), fun a ha => h1 a (by omega), fun a _ ha => h1 a (by omega), by rw [h1 8 (by omega)]; exact Nat.le_refl _, fun a _ ha => h1 a (by omega), fun k h2 h3 => ?_⟩
  rw [h1 8 (by omega)] at h3; omega
theorem FX_nf {n J B i : Nat} {s : Nat → Int32} (h : z_F n J B s) (hi : i < n) : z_FX n J B s (f_nf i s) := by
  have h1 := FX_um (f := 5) (v := nI 0) h hi (by omega) (zC_5 (by omega))
  exact FX_trans h1 (FX_um (f := 20) (v := nI 0) h1.1 hi (by omega) (zC_k (by omega) (by omega)))
theorem FX_ph {n J B i p : Nat} {s : Nat → Int32} (h : z_F n J B s) (hi : i < n) (hp : p ≤ 6) (be : Int32) : z_FX n J B s (f_ph i (nI p) be s) := by
  have h1 := FX_um (f := 6) (v := nI p) h hi (by omega) (zC_6 hp)
  exact FX_trans h1 (FX_um (f := 7) (v := s 6 + be) h1.1 hi (by omega) (zC_k (by omega) (by omega)))
theorem f_cg0_lo (s : Nat → Int32) (a : Nat) (h : a < 4165) : f_cg0 s a = s a := by
  unfold f_cg0; split
  · rw [z_u_n _ _ _ _ (by omega), z_shf_out _ _ _ _ _ (by omega)]
  · rfl
theorem f_cg1_lo (i : Nat) (had g : Int32) (s : Nat → Int32) (a : Nat) (h : a < 4165) : f_cg1 i had g s a = s a := by
  unfold f_cg1
  rw [z_u_n _ _ _ _ (by omega), z_u_n _ _ _ _ (by omega), z_u_n _ _ _ _ (by omega), z_u_n _ _ _ _ (by omega), z_u_n _ _ _ _ (by omega)]
theorem f_chg_lo (i : Nat) (g : Int32) (s : Nat → Int32) (a : Nat) (h : a < 4165) : f_chg i g s a = z_u s (41 + 28 * i + 3) g a := by
  unfold f_chg; split
  · rfl
  · rw [f_cg1_lo _ _ _ _ _ h, f_cg0_lo _ _ h]
theorem FX_chg {n J B i : Nat} {s : Nat → Int32} {g : Int32} (h : z_F n J B s) (hi : i < n) (hg : g ≠ 0) : z_FX n J B s (f_chg i g s) := by
  have hn : n ≤ 8 := h.1.1.2
  have h1 := FX_um (f := 3) (v := g) h hi (by omega) (zC_3 hg)
  exact FX_trans h1 (FX_hi h1.1 (w0_chg h.1 (by omega) g) (fun a ha => f_chg_lo i g s a ha))
theorem z_grN {c i : Nat} (h : c ≤ 100000000) (hi : i < 8) : nI 10 * (nI c + nI 1) + nI i ≠ 0 := by
  rw [nI_add, pk_mul, nI_add]
  exact nI_ne0 (by omega) (by omega)
theorem FX_ng {n J B i : Nat} {s : Nat → Int32} (h : z_F n J B s) (hi : i < n) (hB : B ≤ 100000000) : z_FX n J (B + 1) s (f_ng i s) := by
  have hn : n ≤ 8 := h.1.1.2
  obtain ⟨c, hc, ec⟩ := F_2 h hi
  unfold f_ng
  have hz := z_grN (c := c) (i := i) (by omega) (by omega)
  rw [← ec] at hz
  have h1 := FX_um (f := 2) (v := s (41 + 28 * i + 2) + nI 1) (z_F_mono (Nat.le_succ B) h) hi (by omega) (by rw [ec, nI_add]; exact zC_2 (by omega))
  have h2 := FX_chg (g := nI 10 * (s (41 + 28 * i + 2) + nI 1) + nI i) h1.1 hi hz
  have h3 := FX_um (f := 4) (v := nI 1 <<< (nI i &&& 31)) h2.1 hi (by omega) (by rw [z_bitN i (by omega)]; exact zC_4 (z_pow8 i (by omega)) (Nat.testBit_two_pow_self))
  exact FX_trans h1 (FX_trans h2 (FX_trans h3 (FX_nf h3.1 hi)))
theorem FX_al {n J B i : Nat} {s : Nat → Int32} (h : z_F n J B s) (hi : i < n) (hB : B ≤ 100000000) : z_FX n J (B + 1) s (f_al i s) := by
  have h1 := FX_ng h hi hB
  have h2 := FX_um (f := 24) (v := f_ng i s (41 + 28 * i + 24) + nI 1) h1.1 hi (by omega) (zC_k (by omega) (by omega))
  have h3 := FX_um (f := 1) (v := nI i) h2.1 hi (by omega) (zC_1 hi)
  have h4 := FX_um (f := 0) (v := nI 0) h3.1 hi (by omega) (zC_0 (by omega))
  exact FX_trans h1 (FX_trans h2 (FX_trans h3 (FX_trans h4 (FX_ph h4.1 hi (by omega) _))))
theorem z_Cl_lt {n J a b k : Nat} {due told who up : Int32} {src : Nat → Int32} (ha : a < n) (hb : b < n) (hab : a ≠ b) (hk : k < 8) (h5 : k = 5 → ∃ c, c < n ∧ who = nI c ∧ told ≠ 0) (h7 : k = 7 → ∃ u, u < 256 ∧ u.testBit b = true ∧ up = nI u) (h5' : k ≠ 5 → who = nI 4294967295) (h7' : k ≠ 7 → up = nI 4294967295) (hs : ∀ t, J ≤ t → t < 6 → src t = 0) : z_Cl n J (z_lt a b k due told who up src) :=
  ⟨a, b, k, ha, hb, hk, rfl, rfl, rfl, h5, h7, ⟨h5', hab⟩, h7', fun t h1 h2 => by rw [z_lt_7]; exact hs t h1 h2⟩
theorem z_Cl_eq {n J : Nat} {L K : Nat → Int32} (h : z_Cl n J L) (e : ∀ t, t < 13 → K t = L t) : z_Cl n J K := by
  unfold z_Cl at h ⊢
  simp only [e 0 (by omega), e 1 (by omega), e 2 (by omega), e 4 (by omega), e 5 (by omega), e 6 (by omega)]
  obtain ⟨x, y, z, p1, p2, p3, p4, p5, p6, p7, p8, p9, p10, p11⟩ := h
  exact ⟨x, y, z, p1, p2, p3, p4, p5, p6, p7, p8, p9, p10, fun t h1 h2 => by rw [e _ (by omega)]; exact p11 t h1 h2⟩
theorem FX_sd {n J B a b k : Nat} {s : Nat → Int32} {told who up : Int32} (h : z_F n J B s) (ha : a < n) (hb : b < n) (hab : a ≠ b) (hk : k < 8) (h5 : k = 5 → ∃ c, c < n ∧ who = nI c ∧ told ≠ 0) (h7 : k = 7 → ∃ u, u < 256 ∧ u.testBit b = true ∧ up = nI u) (h5' : k ≠ 5 → who = nI 4294967295) (h7' : k ≠ 7 → up = nI 4294967295) : z_FX n J B s (f_sd a b k told who up s) := by
  have hn : n ≤ 8 := h.1.1.2
  obtain ⟨m, hm, e8, z8⟩ := z_F_m h
  have hw := w0_sd h.1 hk a b told who up
  unfold f_sd at hw ⊢
  by_cases h3 : s 8 = nI 300
  · rw [if_pos h3]
    have h1 := FX_ug (a := 9 + k) (v := s (9 + k) + nI 1) h (Or.inl (by omega))
    exact FX_trans h1 (FX_ug h1.1 (Or.inl (by omega)))
  · rw [if_neg h3] at hw ⊢
    have hm3 : m ≠ 300 := fun e => h3 (by rw [e8, e])
    rw [z8] at hw ⊢
    generalize hL : z_lt a b k (s 6 + s 5) told who up (fun t => s (41 + 28 * a + (8 + t))) = L at hw ⊢
    have hlo : ∀ q, q < 265 + 13 * m → q ≠ 8 → q ≠ 9 + k → z_u (z_bw (z_u s (9 + k) (s (9 + k) + nI 1)) (265 + 13 * m) 13 L) 8 (s 8 + nI 1) q = s q := fun q h1 h2 h4 => by
      rw [z_u_n _ _ _ _ h2, z_bw_out _ _ _ _ _ (Or.inl h1), z_u_n _ _ _ _ h4]
    have hin : ∀ t, t < 13 → z_u (z_bw (z_u s (9 + k) (s (9 + k) + nI 1)) (265 + 13 * m) 13 L) 8 (s 8 + nI 1) (265 + 13 * m + t) = L t := fun t ht => by
      rw [z_u_n _ _ _ _ (by omega), z_bw_in _ _ _ _ _ ht]
    have hz' : z_n (z_u (z_bw (z_u s (9 + k) (s (9 + k) + nI 1)) (265 + 13 * m) 13 L) 8 (s 8 + nI 1) 8) = m + 1 := by
      rw [z_u_s, e8, nI_add]; exact z_nN (by omega)
    generalize z_u (z_bw (z_u s (9 + k) (s (9 + k) + nI 1)) (265 + 13 * m) 13 L) 8 (s 8 + nI 1) = t at hw hlo hin hz' ⊢
    have hF := h
    obtain ⟨g1, g2, g3, g4, g5, g6⟩ := h
    refine ⟨⟨hw, g2, ?_, ?_, ?_, ?_⟩, ?_, ?_, ?_, ?_, ?_⟩
    · rw [hlo 1 (by omega) (by omega) (by omega)]; exact g3
    · rw [hlo 5 (by omega) (by omega) (by omega)]; exact g4
    · intro i f hi hf
      rw [hlo _ (by omega) (by omega) (by omega)]; exact g5 i f hi hf
    · intro p hp
      rw [hz'] at hp
      by_cases hpm : p = m
      · subst hpm
        refine z_Cl_eq (L := L) ?_ hin
        rw [← hL]
        exact z_Cl_lt ha hb hab hk h5 h7 h5' h7' (fun t h1 h2 => F_8 hF ha h2 h1)
      · exact z_Cl_eq (g6 p (by omega)) (fun x hx => hlo _ (by omega) (by omega) (by omega))
    · intro q hq; exact hlo q (by omega) (by omega) (by omega)
    · intro q h1 h2; exact hlo q (by omega) (by omega) (by omega)
    · rw [z8, hz']; omega
    · intro q h1 h2; rw [z8] at h2; exact hlo q h2 (by omega) (by omega)
    · intro p h1 h2
      rw [z8] at h1; rw [hz'] at h2
      have : p = m := by omega
      subst this
      rw [hin 3 (by omega), ← hL]
      rfl
theorem FX_fd {n J B : Nat} (g : Nat → (Nat → Int32) → Nat → Int32) (N : Nat) {s : Nat → Int32} (h : z_F n J B s) (hg : ∀ o t, o < N → z_F n J B t → z_FX n J B t (g o t)) : z_FX n J B s (z_fd g N 0 s) := by
  have := z_fd_inv (f := g) (fun _ t => z_FX n J B s t) N 0 s (FX_self h) (fun j t _ hj ht => FX_trans ht (hg j t (by omega) ht.1))
  exact this
theorem FX_sa {n J B a k : Nat} {s : Nat → Int32} {set told who up : Int32} (h : z_F n J B s) (ha : a < n) (hk : k < 8) (h5 : k = 5 → ∃ c, c < n ∧ who = nI c ∧ told ≠ 0) (h7 : k = 7 → ∃ u, u < 256 ∧ (∀ o, o < n → zf_has set (nI o) = true → u.testBit o = true) ∧ up = nI u) (h5' : k ≠ 5 → who = nI 4294967295) (h7' : k ≠ 7 → up = nI 4294967295) : z_FX n J B s (f_sa n a k set told who up s) := by
  refine FX_fd _ n h (fun o t ho ht => ?_)
  by_cases hc : o ≠ a ∧ zf_has set (nI o) = true
  · rw [if_pos hc]
    exact FX_sd ht ha ho (Ne.symm hc.1) hk h5 (fun e => by
      obtain ⟨u, h1, h2, h3⟩ := h7 e
      exact ⟨u, h1, h2 o ho hc.2, h3⟩) h5' h7'
  · rw [if_neg hc]; exact FX_self ht
theorem FX_in1 {n J B i c : Nat} {s : Nat → Int32} {g : Int32} (h : z_F n J B s) (hi : i < n) (hc : c < n) (hg : g ≠ 0) : z_FX n J B s (f_in1 n i c g s) := by
  unfold f_in1; split
  · exact FX_sa h hi (by omega) (fun _ => ⟨c, hc, rfl, hg⟩) (by omega) (by omega) (fun _ => rfl)
  · exact FX_self h
theorem FX_in4 {n J B i c : Nat} {s : Nat → Int32} {g : Int32} (h : z_F n J B s) (hi : i < n) (hc : c < n) (hic : i ≠ c) (hg : g ≠ 0) : z_FX n J B s (f_in4 i c g s) := by
  have hn : n ≤ 8 := h.1.1.2
  have h1 := FX_um (f := 0) (v := nI 1) h hi (by omega) (zC_0 (by omega))
  have h2 := FX_um (f := 1) (v := nI c) h1.1 hi (by omega) (zC_1 hc)
  have h3 := FX_trans h1 (FX_trans h2 (FX_chg h2.1 hi hg))
  have h3' : z_FX n J B s (f_in2 i c g s) := h3
  unfold f_in4
  generalize f_in2 i c g s = t at h3'
  have h4 := FX_um (f := 26) (v := t (41 + 28 * i + 26) + nI 1) h3'.1 hi (by omega) (zC_k (by omega) (by omega))
  have h5 := FX_um (f := 4) (v := nI 1 <<< (nI i &&& 31)) h4.1 hi (by omega) (by rw [z_bitN i (by omega)]; exact zC_4 (z_pow8 i (by omega)) (Nat.testBit_two_pow_self))
  have h6 := FX_nf h5.1 hi
  have h7 := FX_sd (a := i) (b := c) (k := 6) (told := g) (who := nI 4294967295) (up := nI 4294967295) h6.1 hi hc hic (by omega) (by omega) (by omega) (fun _ => rfl) (fun _ => rfl)
  exact FX_trans h3' (FX_trans h4 (FX_trans h5 (FX_trans h6 (FX_trans h7 (FX_ph h7.1 hi (by omega) _)))))
theorem FX_in {n J B i c : Nat} {s : Nat → Int32} {g : Int32} (h : z_F n J B s) (hi : i < n) (hc : c < n) (hg : g ≠ 0) : z_FX n J B s (f_in n i c g s) := by
  unfold f_in; split
  · rename_i hq
    have h1 := FX_in1 h hi hc hg
    exact FX_trans h1 (FX_in4 h1.1 hi hc hq.2 hg)
  · exact FX_self h
theorem FX_mg {n J B i : Nat} {s : Nat → Int32} (h : z_F n J B s) (hi : i < n) (hB : B ≤ 100000000) : z_FX n J (B + 1) s (f_mg n i s) := by
  have hn : n ≤ 8 := h.1.1.2
  have h1 := FX_ng h hi hB
  have hg := F_3 h1.1 hi
  unfold f_mg
  generalize f_ng i s = t at h1 hg
  have h2 := FX_um (f := 25) (v := t (41 + 28 * i + 25) + nI 1) h1.1 hi (by omega) (zC_k (by omega) (by omega))
  have h3 := FX_um (f := 0) (v := nI 1) h2.1 hi (by omega) (zC_0 (by omega))
  have h4 := FX_sa (a := i) (k := 5) (set := (s (41 + 28 * i + 5) ||| s (41 + 28 * i + 4)) &&& ((nI 1 <<< (nI i &&& 31)) ^^^ nI 4294967295)) (told := t (41 + 28 * i + 3)) (who := nI i) (up := nI 4294967295) h3.1 hi (by omega) (fun _ => ⟨i, hi, rfl, hg⟩) (by omega) (by omega) (fun _ => rfl)
  exact FX_trans h1 (FX_trans h2 (FX_trans h3 (FX_trans h4 (FX_ph h4.1 hi (by omega) _))))
theorem FX_r1 {n J B i c : Nat} {s : Nat → Int32} (h : z_F n J B s) (hi : i < n) (hc : c < n) (hcs : s (41 + 28 * i + 1) = nI c) : z_FX n J B s (f_r1 n i c s) := by
  unfold f_r1; split
  · have h1 := FX_nf h hi
    have h2 := FX_sa (a := i) (k := 0) (set := (nI 1 <<< (nI n &&& 31)) - nI 1) (told := f_nf i s (41 + 28 * i + 3)) (who := nI 4294967295) (up := nI 4294967295) h1.1 hi (by omega) (by omega) (by omega) (fun _ => rfl) (fun _ => rfl)
    exact FX_trans h1 (FX_trans h2 (FX_ph h2.1 hi (by omega) _))
  · rename_i hq
    have h2 := FX_sd (a := i) (b := c) (k := 2) (told := s (41 + 28 * i + 3)) (who := nI 4294967295) (up := nI 4294967295) h hi hc (fun e => hq (by rw [hcs, e])) (by omega) (by omega) (by omega) (fun _ => rfl) (fun _ => rfl)
    exact FX_trans h2 (FX_ph h2.1 hi (by omega) _)
theorem FX_r2 {n J B i : Nat} {s : Nat → Int32} (h : z_F n J B s) (hi : i < n) (hB : B ≤ 100000000) : z_FX n J (B + 1) s (f_r2 n i s) := by
  have h0 := z_F_mono (Nat.le_succ B) h
  unfold f_r2; split
  · exact FX_ph h0 hi (by omega) _
  · split
    · exact FX_mg h hi hB
    · exact FX_ph h0 hi (by omega) _
theorem FX_r4 {n J B i : Nat} {s : Nat → Int32} (h : z_F n J B s) (hi : i < n) : z_FX n J B s (f_r4 n i s) := by
  have hn : n ≤ 8 := h.1.1.2
  obtain ⟨u, hu, hub, eu⟩ := F_4 h hi
  have h1 := FX_um (f := 0) (v := nI 0) h hi (by omega) (zC_0 (by omega))
  have h2 := FX_sa (a := i) (k := 7) (set := s (41 + 28 * i + 4)) (told := s (41 + 28 * i + 3)) (who := nI 4294967295) (up := s (41 + 28 * i + 4)) h1.1 hi (by omega) (by omega) (fun _ => ⟨u, hu, fun o ho hh => by rw [eu, z_hasN u hu o (by omega)] at hh; exact hh, eu⟩) (fun _ => rfl) (by omega)
  exact FX_trans h1 (FX_trans h2 (FX_ph h2.1 hi (by omega) _))
theorem FX_rg {n J B i c p : Nat} {s : Nat → Int32} (h : z_F n J B s) (hi : i < n) (hc : c < n) (hcs : s (41 + 28 * i + 1) = nI c) (hB : B ≤ 100000000) : z_FX n J (B + 1) s (f_rg n i c p s) := by
  have h0 := z_F_mono (Nat.le_succ B) h
  unfold f_rg
  split
  · exact FX_r1 h0 hi hc hcs
  · split
    · exact FX_r2 h hi hB
    · split
      · exact FX_mg h hi hB
      · split
        · exact FX_r4 h0 hi
        · exact FX_al h hi hB
theorem FX_le {n J B i : Nat} {s : Nat → Int32} {u : Nat → Int32} (h : z_F n J B s) (hi : i < n) (hu : ∀ t, J ≤ t → t < 6 → u t = 0) : z_FX n J B s (f_le i u s) := by
  have hn : n ≤ 8 := h.1.1.2
  unfold f_le
  rw [← z_fd_bw]
  refine FX_fd _ 6 h (fun o t ho ht => ?_)
  rw [show 41 + 28 * i + 8 + o = 41 + 28 * i + (8 + o) by omega]
  refine FX_um ht hi (by omega) (zC_k (by omega) (fun _ hJ => ?_))
  rw [F_8 h hi ho (by omega), hu o (by omega) ho, if_neg (by decide)]
theorem z_rdC {n J B i b : Nat} {u : Nat} (hu : u < 256) (hi : i < n) (hn : n ≤ 8) (hb : u.testBit i = true) (hj : b < 8) : z_C n J B i 4 (nI u ||| (nI 1 <<< (nI b &&& 31))) := by
  rw [z_bitN b hj, z_orN u hu b hj]
  exact zC_4 (z_or8 hu hj) (by rw [Nat.testBit_or, hb, Bool.true_or])
theorem FX_hd {n J B i j k c : Nat} {s nw : Nat → Int32} (h : z_F n J B s) (hL : z_Cl n J nw) (hi : nw 1 = nI i) (hi8 : i < n) (hj : nw 0 = nI j) (hj8 : j < n) (hk : nw 2 = nI k) (hk8 : k < 8) (hc : k = 5 → c < n) (hB : B ≤ 100000000) : z_FX n J (B + 1) s (f_hd n i j k c nw s) := by
  have hn : n ≤ 8 := h.1.1.2
  have h0 := z_F_mono (Nat.le_succ B) h
  obtain ⟨a', b', k', p1, p2, p3, p4, p5, p6, p7, p8, p9, p10, p11⟩ := hL
  have ek : k' = k := (nI_eq (by omega) (by omega)).mp (p6.symm.trans hk)
  have eb : b' = i := (nI_eq (by omega) (by omega)).mp (p5.symm.trans hi)
  have ea : a' = j := (nI_eq (by omega) (by omega)).mp (p4.symm.trans hj)
  subst ek eb
  have hbj : b' ≠ j := fun e => p9.2 (by rw [ea, e])
  obtain ⟨uu, u1, u2, u3⟩ := F_4 h0 hi8
  obtain ⟨ff, f1, f2⟩ := F_5 h0 hi8
  unfold f_hd
  split
  · unfold f_h0; split
    · exact FX_sd h0 hi8 hj8 hbj (by omega) (by omega) (by omega) (fun _ => rfl) (fun _ => rfl)
    · split
      · exact FX_sd h0 hi8 hj8 hbj (by omega) (by omega) (by omega) (fun _ => rfl) (fun _ => rfl)
      · exact FX_self h0
  · split
    · unfold f_h1; split
      · refine FX_um h0 hi8 (by omega) ?_
        rw [f2, z_bitN j (by omega), z_orN ff f1 j (by omega)]
        exact zC_5 (z_or8 f1 (by omega))
      · exact FX_self h0
    · split
      · unfold f_h2; split
        · exact FX_sd h0 hi8 hj8 hbj (by omega) (by omega) (by omega) (fun _ => rfl) (fun _ => rfl)
        · exact FX_sd h0 hi8 hj8 hbj (by omega) (by omega) (by omega) (fun _ => rfl) (fun _ => rfl)
      · split
        · unfold f_h3; split
          · exact FX_ph h0 hi8 (by omega) _
          · split
            · exact FX_um h0 hi8 (by omega) (zC_k (by omega) (by omega))
            · exact FX_self h0
        · split
          · unfold f_h4; split
            · exact FX_al h hi8 hB
            · exact FX_self h0
          · split
            · rename_i k5
              obtain ⟨c', c1, c2, c3⟩ := p7 k5
              exact FX_in h0 hi8 (hc k5) c3
            · split
              · unfold f_h6; split
                · have h1 := FX_um (f := 4) (v := s (41 + 28 * b' + 4) ||| (nI 1 <<< (nI j &&& 31))) h0 hi8 (by omega) (by rw [u3]; exact z_rdC u1 hi8 hn u2 (by omega))
                  exact FX_trans h1 (FX_le h1.1 hi8 p11)
                · exact FX_self h0
              · unfold f_h7; split
                · rename_i k0 k1 k2 k3 k4 k5 k6 _
                  obtain ⟨u, v1, v2, v3⟩ := p8 (by omega)
                  have h1 := FX_um (f := 27) (v := s (41 + 28 * b' + 27) + nI 1) h0 hi8 (by omega) (zC_k (by omega) (by omega))
                  have h2 := FX_um (f := 4) (v := nw 6) h1.1 hi8 (by omega) (by rw [v3]; exact zC_4 v1 v2)
                  have h3 := FX_le (u := fun t => nw (7 + t)) h2.1 hi8 p11
                  have h4 := FX_um (f := 0) (v := nI 0) h3.1 hi8 (by omega) (zC_0 (by omega))
                  exact FX_trans h1 (FX_trans h2 (FX_trans h3 (FX_trans h4 (FX_ph h4.1 hi8 (by omega) _))))
                · exact FX_self h0
