/-! ===== a call is done: what holds holds on ===== -/
def z_Sx (L t len : Nat) (sc : Nat → Int32) (G : zG) (M : zM) (w5 w6 : Value) : Prop := ∃ G' M' w5' w6', z_ex 248 (z_blk 248 L) [.ref 1, .ref 32, .ref 455, .ref 472, .int (nI (6 * t)), w5, w6] [] G M = z_ex 248 (z_blk 248 1784) [.ref 1, .ref 32, .ref 455, .ref 472, .int (nI (6 * t)), w5', w6'] [] G' M' ∧ z_J (t + 1) len sc G' M'
section
variable {nb : Nat} {pb : Nat → Nat} {n J B tp pn c t len : Nat} {sc : Nat → Int32} {G : zG} {M : zM}
theorem J_q (hG : z_JG t len nb pb G M) (h1 : M 1 = sc) (hB : B ≤ 1 + 30801 * t) (hm : z_JM nb pb n J B tp pn c M) (x : Int64) : z_J (t + 1) len sc (z_setL G 472 0 x) (th0 M) :=
  ⟨nb, pb, n, J, B, tp, pn, c, JG_k hG (Gk_L _ _ _ _) ⟨Nat.le_add_right _ 1, Nat.le_add_right _ 6⟩ (fun q hq => th0_o M (by omega)), (th0_o M (by omega)).trans h1, by omega, JM_q hG.1 hm⟩
theorem J_q' (hG : z_JG t len nb pb G M) (h1 : M 1 = sc) (hB : B ≤ 1 + 30801 * t) (hm : z_JM nb pb n J B tp pn c M) : z_J (t + 1) len sc G (th0 M) :=
  ⟨nb, pb, n, J, B, tp, pn, c, JG_k hG (Gk_refl _) ⟨Nat.le_add_right _ 1, Nat.le_add_right _ 6⟩ (fun q hq => th0_o M (by omega)), (th0_o M (by omega)).trans h1, by omega, JM_q hG.1 hm⟩
theorem J_r (hG : z_JG t len nb pb G M) (h1 : M 1 = sc) (hB : B ≤ 1 + 30801 * t) (hm : z_JM nb pb n J B tp pn c M) (a : Nat) {e : Nat} (he : e < 3) : z_J (t + 1) len sc (z_thr G) (rfm (rfc M e) a e) := by
  have o : ∀ q, q < 32 → rfm (rfc M e) a e q = M q := fun q hq => by unfold rfm rfc; rw [z_sA_n _ _ _ _ (by omega), z_sA_n _ _ _ _ (by omega), z_sA_n _ _ _ _ (by omega)]
  exact ⟨nb, pb, n, J, B, tp, pn, c, JG_k hG (Gk_thr _) ⟨Nat.le_refl _, Nat.le_refl _⟩ o, (o 1 (by omega)).trans h1, by omega, JM_r hG.1 hm he⟩
theorem J_p (hG : z_JG t len nb pb G M) (h1 : M 1 = sc) (hB : B ≤ 1 + 30801 * t) (hm : z_JM nb pb n J B tp pn c M) {M1 M2 : zM} (x : z_Pc M M1) (y : z_Pq (th0 M1) M2) (v : Int64) : z_J (t + 1) len sc (z_setL G 472 0 v) M2 := by
  have o : ∀ q, q < 32 → M2 q = M q := fun q hq => by rw [y.1 q (by omega) (by omega) (by omega) (by omega) (by omega), th0_o M1 (by omega), x.1 q (by omega) (by omega)]
  exact ⟨nb, pb, n, J, B, tp, pn, c, JG_k hG (Gk_L _ _ _ _) ⟨Nat.le_add_right _ 1, Nat.le_add_right _ 6⟩ o, (o 1 (by omega)).trans h1, by omega, JM_p hG.1 hm x y⟩
theorem J_p' (hG : z_JG t len nb pb G M) (h1 : M 1 = sc) (hB : B ≤ 1 + 30801 * t) (hm : z_JM nb pb n J B tp pn c M) {M1 M2 : zM} (x : z_Pc M M1) (y : z_Pq (th0 M1) M2) : z_J (t + 1) len sc G M2 := by
  have o : ∀ q, q < 32 → M2 q = M q := fun q hq => by rw [y.1 q (by omega) (by omega) (by omega) (by omega) (by omega), th0_o M1 (by omega), x.1 q (by omega) (by omega)]
  exact ⟨nb, pb, n, J, B, tp, pn, c, JG_k hG (Gk_refl _) ⟨Nat.le_add_right _ 1, Nat.le_add_right _ 6⟩ o, (o 1 (by omega)).trans h1, by omega, JM_p hG.1 hm x y⟩
theorem J_a0 (hG : z_JG t len nb pb G M) (hp : pn < 8) {M1 M2 : zM} {s s' : Nat → Int32} (x : z_Ka nb pb pn c n B s M M1) (y : z_Rm c (th0 M1) M2 s') : ∀ q, q < 32 → M2 q = M q := fun q hq => by
  have lo := HC_lo hG.1
  have bp := HC_blo hG.1 hp
  rw [y.2.2.2.2.1 q (by omega) (by omega) (by omega) (by omega), th0_o M1 (by omega), x.1 q (by omega) (by omega) (by omega)]
theorem Ka_k (hG : z_JG t len nb pb G M) (hp : pn < 8) {M1 : zM} {s : Nat → Int32} (x : z_Ka nb pb pn c n B s M M1) : M1 458 = M 458 ∧ M1 455 = M 455 ∧ M1 1 = M 1 := by
  have lo := HC_lo hG.1
  have bp := HC_blo hG.1 hp
  exact ⟨x.1 _ (by omega) (by omega) (by omega), x.1 _ (by omega) (by omega) (by omega), x.1 _ (by omega) (by omega) (by omega)⟩
theorem J_a (hG : z_JG t len nb pb G M) (h1 : M 1 = sc) (hm : z_JM nb pb n J B tp pn c M) {M1 M2 : zM} {J' B' : Nat} {s' : Nat → Int32} (x : z_Ka nb pb pn c n B (M 458) M M1) (r : z_R true (0, 0) n B' (fun k => M1 (nb + k)) s') (f : z_F n J' B' s') (hB : B ≤ B') (hB' : B' ≤ 1 + 30801 * (t + 1)) (y : z_Rm c (th0 M1) M2 s') (v : Int64) : z_J (t + 1) len sc (z_setL G 472 0 v) M2 := by
  have o := J_a0 hG hm.2.2.2.2.2.1.2.1 x y
  exact ⟨nb, pb, n, J', B', tp, (pn + 1) % 8, min (c + 1) 8, JG_k hG (Gk_L _ _ _ _) ⟨Nat.le_add_right _ 1, Nat.le_add_right _ 6⟩ o, (o 1 (by omega)).trans h1, hB', JM_a hG.1 hm x r f hB y⟩
theorem J_a' (hG : z_JG t len nb pb G M) (h1 : M 1 = sc) (hm : z_JM nb pb n J B tp pn c M) {M1 M2 : zM} {J' B' : Nat} {s' : Nat → Int32} (x : z_Ka nb pb pn c n B (M 458) M M1) (r : z_R true (0, 0) n B' (fun k => M1 (nb + k)) s') (f : z_F n J' B' s') (hB : B ≤ B') (hB' : B' ≤ 1 + 30801 * (t + 1)) (y : z_Rm c (th0 M1) M2 s') : z_J (t + 1) len sc G M2 := by
  have o := J_a0 hG hm.2.2.2.2.2.1.2.1 x y
  exact ⟨nb, pb, n, J', B', tp, (pn + 1) % 8, min (c + 1) 8, JG_k hG (Gk_refl _) ⟨Nat.le_add_right _ 1, Nat.le_add_right _ 6⟩ o, (o 1 (by omega)).trans h1, hB', JM_a hG.1 hm x r f hB y⟩
end
theorem q_rule_t {x v : Int32} (h : q_rule x v = true) : ∃ k, k < 4 ∧ x = nI k ∧ zf_in v (q_lo k) (q_hi k) = true := by
  unfold q_rule at h
  rw [Bool.and_eq_true, decide_eq_true_eq] at h
  obtain ⟨⟨a, b⟩, d⟩ := h
  obtain ⟨j, hj, e⟩ := nI_of a
  subst e
  have hj4 := (nI_ltI hj (by omega)).mp b
  rw [z_nN (by omega)] at d
  exact ⟨j, hj4, rfl, d⟩
