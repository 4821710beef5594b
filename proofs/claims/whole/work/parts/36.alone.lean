/-! ===== members go alone, send to all, merge: in both ===== -/
theorem f_cg0_u (s : Nat → Int32) (q : Nat) (v : Int32) (h : q < 4165) : f_cg0 (z_u s q v) = z_u (f_cg0 s) q v := by
  unfold f_cg0
  rw [z_u_n _ _ 4165 _ (by omega)]
  split
  · have : z_shf (z_u s q v) 4166 156 4 = z_u (z_shf s 4166 156 4) q v := by
      funext a; unfold z_shf z_u; dsimp only
      by_cases ha : 4166 ≤ a ∧ a < 4166 + 156
      · rw [if_pos ha, if_neg (by omega), if_neg (by omega), if_pos ha]
      · rw [if_neg ha, if_neg ha]
    rw [this, z_u_comm _ q 4165 _ _ (by omega)]
  · rfl
theorem f_cg1_u (i : Nat) (had g : Int32) (s : Nat → Int32) (q : Nat) (v : Int32) (h : 41 ≤ q) (h2 : q < 4165) : f_cg1 i had g (z_u s q v) = z_u (f_cg1 i had g s) q v := by
  unfold f_cg1
  rw [z_u_n _ _ 4165 _ (by omega), z_u_n _ _ 6 _ (by omega)]
  rw [z_u_comm s q _ _ _ (by omega), z_u_comm _ q _ _ _ (by omega), z_u_comm _ q _ _ _ (by omega), z_u_comm _ q _ _ _ (by omega), z_u_comm _ q _ _ _ (by omega)]
theorem f_chg_u (i : Nat) (g : Int32) (s : Nat → Int32) (q : Nat) (v : Int32) (h : 41 ≤ q) (h2 : q < 265) (h3 : q ≠ 41 + 28 * i + 3) : f_chg i g (z_u s q v) = z_u (f_chg i g s) q v := by
  unfold f_chg
  rw [z_u_n _ _ (41 + 28 * i + 3) _ (Ne.symm h3)]
  split
  · exact z_u_comm _ _ _ _ _ h3
  · rw [z_u_comm s q (41 + 28 * i + 3) _ _ h3, f_cg0_u _ _ _ (by omega), f_cg1_u _ _ _ _ _ _ h (by omega)]
theorem z_bw_uc (s : Nat → Int32) (p w : Nat) (L : Nat → Int32) (q : Nat) (v : Int32) (h : q < p ∨ p + w ≤ q) : z_bw (z_u s q v) p w L = z_u (z_bw s p w L) q v := by
  funext a; unfold z_bw z_u; dsimp only
  by_cases ha : p ≤ a ∧ a < p + w
  · rw [if_pos ha, if_neg (by omega), if_pos ha]
  · rw [if_neg ha]
    by_cases hq : a = q
    · rw [if_pos hq, if_pos hq]
    · rw [if_neg hq, if_neg hq, if_neg ha]
theorem f_sd_u (a b k : Nat) (told who up : Int32) (s : Nat → Int32) (q : Nat) (v : Int32) (hk : k < 8) (h : 41 ≤ q) (h2 : q < 265) (h3 : q < 41 + 28 * a + 8 ∨ 41 + 28 * a + 14 ≤ q) : f_sd a b k told who up (z_u s q v) = z_u (f_sd a b k told who up s) q v := by
  unfold f_sd
  rw [z_u_n _ _ 8 _ (by omega), z_u_n _ _ (9 + k) _ (by omega), z_u_n _ _ 7 _ (by omega), z_u_n _ _ 6 _ (by omega), z_u_n _ _ 5 _ (by omega)]
  split
  · rw [z_u_comm s q _ _ _ (by omega), z_u_comm _ q _ _ _ (by omega)]
  · have e : z_bw (z_u (z_u s q v) (9 + k) (s (9 + k) + nI 1)) (265 + 13 * z_n (s 8)) 13 (z_lt a b k (s 6 + s 5) told who up fun t => z_u s q v (41 + 28 * a + (8 + t))) = z_bw (z_u (z_u s q v) (9 + k) (s (9 + k) + nI 1)) (265 + 13 * z_n (s 8)) 13 (z_lt a b k (s 6 + s 5) told who up fun t => s (41 + 28 * a + (8 + t))) := by
      funext x; unfold z_bw
      split
      · rename_i hx
        unfold z_lt
        by_cases h7 : x - (265 + 13 * z_n (s 8)) < 7
        · rcases (show x - (265 + 13 * z_n (s 8)) = 0 ∨ x - (265 + 13 * z_n (s 8)) = 1 ∨ x - (265 + 13 * z_n (s 8)) = 2 ∨ x - (265 + 13 * z_n (s 8)) = 3 ∨ x - (265 + 13 * z_n (s 8)) = 4 ∨ x - (265 + 13 * z_n (s 8)) = 5 ∨ x - (265 + 13 * z_n (s 8)) = 6 by omega) with e | e | e | e | e | e | e <;> rw [e] <;> rfl
        · dsimp only
          rw [z_u_n _ _ (41 + 28 * a + (8 + (x - (265 + 13 * z_n (s 8)) - 7))) _ (by omega)]
      · rfl
    rw [e, z_u_comm s q _ _ _ (by omega), z_bw_uc _ _ _ _ _ _ (by omega), z_u_comm _ q _ _ _ (by omega)]
theorem f_sa_u (n a k : Nat) (set told who up : Int32) (s : Nat → Int32) (q : Nat) (v : Int32) (hk : k < 8) (h : 41 ≤ q) (h2 : q < 265) (h3 : q < 41 + 28 * a + 8 ∨ 41 + 28 * a + 14 ≤ q) : f_sa n a k set told who up (z_u s q v) = z_u (f_sa n a k set told who up s) q v := by
  have : ∀ r o (t : Nat → Int32), z_fd (fun o t => if o ≠ a ∧ zf_has set (nI o) = true then f_sd a o k told who up t else t) r o (z_u t q v) = z_u (z_fd (fun o t => if o ≠ a ∧ zf_has set (nI o) = true then f_sd a o k told who up t else t) r o t) q v := by
    intro r
    induction r with
    | zero => intro o t; rfl
    | succ r ih =>
      intro o t
      rw [z_fd_s, z_fd_s, ← ih]
      congr 1
      by_cases hc : o ≠ a ∧ zf_has set (nI o) = true
      · rw [if_pos hc, if_pos hc, f_sd_u _ _ _ _ _ _ _ _ _ hk h h2 h3]
      · rw [if_neg hc, if_neg hc]
  exact this n 0 s
theorem f_sa_set (n a k : Nat) (set set' told who up : Int32) (s : Nat → Int32) (h : ∀ o, o < n → o ≠ a → zf_has set (nI o) = zf_has set' (nI o)) : f_sa n a k set told who up s = f_sa n a k set' told who up s :=
  z_fd_congr n 0 s (fun o t _ ho => by
    by_cases hc : o ≠ a ∧ zf_has set (nI o) = true
    · have h2 := h o (by omega) hc.1
      rw [if_pos hc, if_pos ⟨hc.1, by rw [← h2]; exact hc.2⟩]
    · rw [if_neg hc, if_neg (fun q => hc ⟨q.1, by rw [h o (by omega) q.1]; exact q.2⟩)])
theorem f_sd_lo (a b k : Nat) (told who up : Int32) (s : Nat → Int32) (q : Nat) (hk : k < 8) (h : q < 265) (h7 : q ≠ 7) (h8 : q ≠ 8) (h9 : q < 9 ∨ 17 ≤ q) : f_sd a b k told who up s q = s q := by
  unfold f_sd; split
  · rw [z_u_n _ _ _ _ (by omega), z_u_n _ _ _ _ (by omega)]
  · rw [z_u_n _ _ _ _ h8, z_bw_out _ _ _ _ _ (by omega), z_u_n _ _ _ _ (by omega)]
theorem f_sa_lo (n a k : Nat) (set told who up : Int32) (s : Nat → Int32) (q : Nat) (hk : k < 8) (h : q < 265) (h7 : q ≠ 7) (h8 : q ≠ 8) (h9 : q < 9 ∨ 17 ≤ q) : f_sa n a k set told who up s q = s q := by
  have := z_fd_inv (f := fun o t => if o ≠ a ∧ zf_has set (nI o) = true then f_sd a o k told who up t else t) (fun _ t => t q = s q) n 0 s rfl (fun o t _ _ ht => by
    split
    · rw [f_sd_lo _ _ _ _ _ _ _ _ hk h h7 h8 h9]; exact ht
    · exact ht)
  exact this
section
variable {fl : Bool} {kp : Nat × Nat} {n J B Bf : Nat} {V : zM} {s : Nat → Int32}
theorem Rm3 (h : z_R fl kp n B V s) (hn : n ≤ 8) {i : Nat} (hi : i < n) (v : Int32) : z_R fl kp n B (z_w V (9 + 4 * i) 3 v) (z_u s (41 + 28 * i) v) := R_m h hn hi (f := 3) (by omega) (by omega) v
theorem Rm4 (h : z_R fl kp n B V s) (hn : n ≤ 8) {i : Nat} (hi : i < n) (v : Int32) : z_R fl kp n B (z_w V (9 + 4 * i) 4 v) (z_u s (41 + 28 * i + 1) v) := R_m h hn hi (f := 4) (by omega) (by omega) v
theorem Rm5 (h : z_R fl kp n B V s) (hn : n ≤ 8) {i : Nat} (hi : i < n) (v : Int32) : z_R fl kp n B (z_w V (9 + 4 * i) 5 v) (z_u s (41 + 28 * i + 2) v) := R_m h hn hi (f := 5) (by omega) (by omega) v
theorem Rm7 (h : z_R fl kp n B V s) (hn : n ≤ 8) {i : Nat} (hi : i < n) (v : Int32) : z_R fl kp n B (z_w V (9 + 4 * i) 7 v) (z_u s (41 + 28 * i + 4) v) := R_m h hn hi (f := 7) (by omega) (by omega) v
theorem Rm8 (h : z_R fl kp n B V s) (hn : n ≤ 8) {i : Nat} (hi : i < n) (v : Int32) : z_R fl kp n B (z_w V (9 + 4 * i) 8 v) (z_u s (41 + 28 * i + 5) v) := R_m h hn hi (f := 8) (by omega) (by omega) v
theorem Rm9 (h : z_R fl kp n B V s) (hn : n ≤ 8) {i : Nat} (hi : i < n) (v : Int32) : z_R fl kp n B (z_w V (9 + 4 * i) 9 v) (z_u s (41 + 28 * i + 20) v) := R_m h hn hi (f := 9) (by omega) (by omega) v
theorem Rm10 (h : z_R fl kp n B V s) (hn : n ≤ 8) {i : Nat} (hi : i < n) (v : Int32) : z_R fl kp n B (z_w V (9 + 4 * i) 10 v) (z_u s (41 + 28 * i + 6) v) := R_m h hn hi (f := 10) (by omega) (by omega) v
theorem Rm11 (h : z_R fl kp n B V s) (hn : n ≤ 8) {i : Nat} (hi : i < n) (v : Int32) : z_R fl kp n B (z_w V (9 + 4 * i) 11 v) (z_u s (41 + 28 * i + 7) v) := R_m h hn hi (f := 11) (by omega) (by omega) v
/-- what a member's cell has, read in the row -/
theorem rd_0 (h : z_R fl kp n B V s) {i : Nat} (hi : i < n) : V (9 + 4 * i) 0 = nI i := (h.2.2.1 i hi).1
theorem rd_3 (h : z_R fl kp n B V s) {i : Nat} (hi : i < n) : V (9 + 4 * i) 3 = s (41 + 28 * i) := (h.2.2.1 i hi).2.2.2 3 (by omega) (by omega)
theorem rd_4 (h : z_R fl kp n B V s) {i : Nat} (hi : i < n) : V (9 + 4 * i) 4 = s (41 + 28 * i + 1) := (h.2.2.1 i hi).2.2.2 4 (by omega) (by omega)
theorem rd_5 (h : z_R fl kp n B V s) {i : Nat} (hi : i < n) : V (9 + 4 * i) 5 = s (41 + 28 * i + 2) := (h.2.2.1 i hi).2.2.2 5 (by omega) (by omega)
theorem rd_6 (h : z_R fl kp n B V s) {i : Nat} (hi : i < n) : V (9 + 4 * i) 6 = s (41 + 28 * i + 3) := (h.2.2.1 i hi).2.2.2 6 (by omega) (by omega)
theorem rd_7 (h : z_R fl kp n B V s) {i : Nat} (hi : i < n) : V (9 + 4 * i) 7 = s (41 + 28 * i + 4) := (h.2.2.1 i hi).2.2.2 7 (by omega) (by omega)
theorem rd_8 (h : z_R fl kp n B V s) {i : Nat} (hi : i < n) : V (9 + 4 * i) 8 = s (41 + 28 * i + 5) := (h.2.2.1 i hi).2.2.2 8 (by omega) (by omega)
theorem rd_9 (h : z_R fl kp n B V s) {i : Nat} (hi : i < n) : V (9 + 4 * i) 9 = s (41 + 28 * i + 20) := (h.2.2.1 i hi).2.2.2 9 (by omega) (by omega)
theorem rd_10 (h : z_R fl kp n B V s) {i : Nat} (hi : i < n) : V (9 + 4 * i) 10 = s (41 + 28 * i + 6) := (h.2.2.1 i hi).2.2.2 10 (by omega) (by omega)
theorem rd_11 (h : z_R fl kp n B V s) {i : Nat} (hi : i < n) : V (9 + 4 * i) 11 = s (41 + 28 * i + 7) := (h.2.2.1 i hi).2.2.2 11 (by omega) (by omega)
theorem R_so (h : z_R fl kp n B V s) (hn : n ≤ 8) {i : Nat} (hi : i < n) : z_R fl kp n B (g_so i V) (f_nf i (z_u s (41 + 28 * i + 4) (nI 1 <<< (nI i &&& 31)))) := by
  unfold g_so
  rw [rd_0 h hi]
  exact Rm9 (Rm8 (Rm7 h hn hi _) hn hi _) hn hi _
theorem R_aw (h : z_R fl kp n B V s) (hn : n ≤ 8) {i : Nat} (hi : i < n) (ph t : Int32) : z_R fl kp n B (g_aw i ph t V) (f_ph i ph t s) := by
  unfold g_aw
  rw [h.1.2.2.1]
  exact Rm11 (Rm10 h hn hi ph) hn hi _
theorem R_ta (h : z_R fl kp n B V s) (hn : n ≤ 8) {i k : Nat} (hi : i < n) (hk : k < 7) : z_R fl kp n B (z_w V (12 + 4 * i) k (V (12 + 4 * i) k + nI 1)) (z_u s (41 + 28 * i + (21 + k)) (s (41 + 28 * i + (21 + k)) + nI 1)) :=
  R_mb h hn hi (Or.inr (Or.inr ⟨rfl, hk, rfl⟩)) _ _ (fun e => by rw [((h.2.2.2.1 e) i hi).2.2 k hk])
theorem R_al (h : z_R fl kp n B V s) (hF : z_F n J Bf s) {i : Nat} (hi : i < n) (hB : B < 2 ^ 31 - 1) : z_R fl kp n (B + 1) (g_al i V) (f_al i s) := by
  have hn : n ≤ 8 := hF.1.1.2
  obtain ⟨c, hc, ec⟩ := F_2 hF hi
  have h1 := Rm5 h hn hi (s (41 + 28 * i + 2) + nI 1)
  have hF1 := (FX_um (f := 2) (v := s (41 + 28 * i + 2) + nI 1) (z_F_mono (Nat.le_succ Bf) hF) hi (by omega) (by rw [ec, nI_add]; exact zC_2 (by omega))).1
  have h2 := R_chg h1 hF1 hi (nI 10 * (s (41 + 28 * i + 2) + nI 1) + nI i) hB
  unfold g_al
  rw [rd_5 h hi, rd_0 h hi]
  generalize g_rg i (nI 10 * (s (41 + 28 * i + 2) + nI 1) + nI i) (z_w V (9 + 4 * i) 5 (s (41 + 28 * i + 2) + nI 1)) = V2 at h2 ⊢
  have h3 := Rm4 h2 hn hi (nI i)
  have h4 := Rm3 (R_so h3 hn hi) hn hi (nI 0)
  dsimp only
  rw [rd_0 h2 hi]
  generalize z_w (g_so i (z_w V2 (9 + 4 * i) 4 (nI i))) (9 + 4 * i) 3 (nI 0) = V4 at h4 ⊢
  have h5 := R_aw h4 hn hi (nI 1) (V4 1 0)
  have h6 := R_ta h5 hn hi (k := 3) (by omega)
  have e10 : V4 1 0 = _ := h4.1.2.2.2.1 0 (by omega)
  rw [e10] at h6 ⊢
  refine Eq.mp ?_ h6
  congr 1
  unfold f_al f_ng f_nf f_ph
  simp (disch := omega) only [z_u_n, Nat.add_zero, Nat.reduceAdd]
  generalize f_chg i (nI 10 * (s (41 + 28 * i + 2) + nI 1) + nI i) (z_u s (41 + 28 * i + 2) (s (41 + 28 * i + 2) + nI 1)) = t
  simp (disch := omega) only [z_u_comm]
end
