/-! ===== the class takes back ===== -/
section
variable {G : zG} {nb : Nat} {pb : Nat → Nat} {n J B pn c : Nat} {s : Nat → Int32}
theorem k_undo0 (hC : z_HC G nb pb) (M : zM) (h9 : M 32 9 = nI 0) : z_call 28 [.ref 32] G M = some (.inl (some (.int (nI 4294967295))), G, M) := by
  have hW := HC_P hC
  simp (disch := first | assumption | omega | exact Nat.le_of_ble_eq_true rfl | decide) only [ze_C_undo, zk_C_undo_0, xo_2_0, xc_16 hC, xo_49, zk_C_undo_7, xo_5, xo_70, xo_39i, xo_39r, xo_21, xc_18 hC, xo_6, xo_20, xo_30, xc_17_7 hC, xc_17_5 hC, xw_34 hW, xo_12_1i, xo_12_1r, xo_12_1n, xo_35m, xo_35w, xo_2_1, xo_19, h9, zer0, if_true, if_false, eq_self, Bool.true_eq_false, Bool.false_eq_true]
def z_G9 (G : zG) (nb p q : Nat) : zG := z_setR (z_setR G 122 p nb) 32 5 q
theorem G9_kd (G : zG) (nb p q : Nat) : ∀ a, z_kd (z_G9 G nb p q) a = z_kd G a := fun _ => rfl
theorem G9_rf (G : zG) (nb p q : Nat) {a k : Nat} (h1 : a ≠ 32 ∨ k ≠ 5) (h2 : a ≠ 122 ∨ k ≠ p) : z_rf (z_G9 G nb p q) a k = z_rf G a k := by
  unfold z_G9 z_setR z_rf
  dsimp only
  by_cases e1 : a = 32
  · subst e1
    rw [if_pos rfl, if_neg (by omega), if_neg (by omega)]
  · rw [if_neg e1]
    by_cases e2 : a = 122
    · subst e2
      rw [if_pos rfl, if_neg (by omega)]
    · rw [if_neg e2]
theorem G9_5 (G : zG) (nb p q : Nat) : z_rf (z_G9 G nb p q) 32 5 = q := by
  unfold z_G9 z_setR z_rf
  dsimp only
  rw [if_pos rfl, if_pos rfl]
theorem G9_p (G : zG) (nb p q : Nat) : z_rf (z_G9 G nb p q) 122 p = nb := by
  unfold z_G9 z_setR z_rf
  dsimp only
  rw [if_neg (by omega), if_pos rfl, if_pos rfl]
theorem HW_G9 {G : zG} {b nb p q : Nat} (hW : z_HW G b) (h1 : b + 41 ≤ 122 ∨ 123 ≤ b) (h2 : 33 ≤ b) : z_HW (z_G9 G nb p q) b := by
  have e : ∀ j k, j < 41 → z_rf (z_G9 G nb p q) (b + j) k = z_rf G (b + j) k := fun j k x => G9_rf G nb p q (Or.inl (by omega)) (Or.inl (by omega))
  have e0 : ∀ k, z_rf (z_G9 G nb p q) b k = z_rf G b k := fun k => G9_rf G nb p q (Or.inl (by omega)) (Or.inl (by omega))
  have l9 : ∀ i, i < 8 → 9 + 4 * i < 41 := fun i hi => by omega
  clear h1 h2
  obtain ⟨hb, w0, ⟨w3, w4, w5, w6, w7⟩, x12, x34, x56, a0, ⟨a1, a2, a3⟩, x78, x910, x1112, x1314, hmem⟩ := hW
  refine ⟨hb, w0, ⟨(e0 _).trans w3, (e0 _).trans w4, (e0 _).trans w5, (e0 _).trans w6, (e0 _).trans w7⟩, x12, x34, x56, a0, ⟨(e 4 _ (by decide)).trans a1, (e 4 _ (by decide)).trans a2, (e 4 _ (by decide)).trans a3⟩, x78, x910, x1112, x1314, fun i hi => ?_⟩
  have l := l9 i hi
  obtain ⟨m0, m1, ⟨m2, m3, m4⟩, y12, y34, y56⟩ := hmem i hi
  exact ⟨(e 3 _ (by decide)).trans m0, m1, ⟨(e _ _ l).trans m2, (e _ _ l).trans m3, (e _ _ l).trans m4⟩, y12, y34, y56⟩
theorem HM_G9 {G : zG} {nb p q : Nat} (hM : z_HM G) : z_HM (z_G9 G nb p q) := by
  have e : ∀ a k, 33 ≤ a → a ≠ 122 → z_rf (z_G9 G nb p q) a k = z_rf G a k := fun a k x y => G9_rf G nb p q (Or.inl (by omega)) (Or.inl y)
  obtain ⟨k0, ⟨r1, r8, r9, r10, r11, r12, r13, r17⟩, q12, q34, q56, q78, q910, q1112, q1314, q1516, hp⟩ := hM
  refine ⟨k0, ⟨by rw [e _ _ (by omega) (by omega)]; exact r1, by rw [e _ _ (by omega) (by omega)]; exact r8, by rw [e _ _ (by omega) (by omega)]; exact r9, by rw [e _ _ (by omega) (by omega)]; exact r10, by rw [e _ _ (by omega) (by omega)]; exact r11, by rw [e _ _ (by omega) (by omega)]; exact r12, by rw [e _ _ (by omega) (by omega)]; exact r13, by rw [e _ _ (by omega) (by omega)]; exact r17⟩, q12, q34, q56, q78, q910, q1112, q1314, q1516, fun k hk => ?_⟩
  obtain ⟨h1, h2, h3⟩ := hp k hk
  exact ⟨by rw [e _ _ (by omega) (by omega)]; exact h1, h2, h3⟩
def z_pbs (pb : Nat → Nat) (nb p : Nat) : Nat → Nat := fun k => if k = p then nb else pb k
theorem HC_G9 (hC : z_HC G nb pb) {p : Nat} (hp : p < 8) : z_HC (z_G9 G nb p (pb p)) (pb p) (z_pbs pb nb p) := by
  have b := HC_bs hC
  have lo := HC_lo hC
  have hWn : ∀ d, z_HW G d → z_base d → z_HW (z_G9 G nb p (pb p)) d := fun d h1 h2 => HW_G9 h1 (by have := z_base_lo h2; omega) (by have := z_base_lo h2; omega)
  obtain ⟨k0, ⟨r0, r3, r4, r5, r6, r7, r10⟩, k33, k34, k123, k122, hW, hP, hB, _⟩ := id hC
  refine ⟨k0, ⟨by rw [G9_rf _ _ _ _ (by omega) (by omega)]; exact r0, by rw [G9_rf _ _ _ _ (by omega) (by omega)]; exact r3, by rw [G9_rf _ _ _ _ (by omega) (by omega)]; exact r4, G9_5 _ _ _ _, by rw [G9_rf _ _ _ _ (by omega) (by omega)]; exact r6, by rw [G9_rf _ _ _ _ (by omega) (by omega)]; exact r7, by rw [G9_rf _ _ _ _ (by omega) (by omega)]; exact r10⟩, k33, k34, k123, k122, hWn _ (hB p hp).2 (b.2.1 p hp).1, HW_G9 hP (by omega) (by omega), fun k hk => ?_, (b.2.1 p hp).1, fun k hk => ?_, fun j k hj hk ne => ?_⟩
  · unfold z_pbs
    by_cases e : k = p
    · subst e
      rw [if_pos rfl]
      exact ⟨G9_p _ _ _ _, hWn _ hW b.1⟩
    · rw [if_neg e]
      exact ⟨by rw [G9_rf _ _ _ _ (by omega) (by omega)]; exact (hB k hk).1, hWn _ (hB k hk).2 (b.2.1 k hk).1⟩
  · unfold z_pbs
    by_cases e : k = p
    · rw [if_pos e]
      exact ⟨b.1, fun q => (b.2.1 p hp).2 q.symm⟩
    · rw [if_neg e]
      exact ⟨(b.2.1 k hk).1, b.2.2 k p hk hp e⟩
  · unfold z_pbs
    by_cases e : j = p
    · rw [if_pos e, if_neg (by omega)]
      exact fun q => (b.2.1 k hk).2 q.symm
    · rw [if_neg e]
      by_cases e2 : k = p
      · rw [if_pos e2]; exact (b.2.1 j hj).2
      · rw [if_neg e2]; exact b.2.2 j k hj hk ne
theorem k_undo1 (hC : z_HC G nb pb) (M : zM) (hpn : pn < 8) (hc : c < 8) (h8 : M 32 8 = nI pn) (h9 : M 32 9 = nI (c + 1)) : z_call 28 [.ref 32] G M = some (.inl (some (.int (nI c))), z_G9 G nb ((pn + 7) % 8) (pb ((pn + 7) % 8)), z_sA M 32 (z_u (z_u (M 32) 9 (nI c)) 8 (nI ((pn + 7) % 8)))) := by
  have hp : (pn + 7) % 8 < 8 := Nat.mod_lt _ (by omega)
  have m7 := md_7 pn hpn
  generalize (pn + 7) % 8 = p at hp m7
  have lo := HC_lo hC
  have lp := HC_blo hC hp
  have hk : z_kd G 32 = (0, 6) := hC.1
  have hkn : z_kd G nb = (0, 5) := (HC_W hC).2.1
  have h122 : (z_kd G 122).1 = 4 := hC.2.2.2.2.2.1.1
  have h1228 : p < (z_kd G 122).2 := by rw [hC.2.2.2.2.2.1.2]; exact hp
  have hk1 : z_kd (z_setR G 122 p nb) 32 = (0, 6) := hk
  have hk2 : z_kd (z_setR (z_setR G 122 p nb) 32 5 (pb p)) 32 = (0, 6) := hk
  have n0 : (nI (c + 1) = 0) = False := eq_false (nI_ne0 (by omega) (by omega))
  have s1 := nI_s1 c
  have n8 : ¬ nI 8 = 0 := by decide
  have u1 : z_u (M 32) 9 (nI c) 8 = nI pn := by rw [z_u_n _ _ _ _ (by omega)]; exact h8
  have u2 : z_u (z_u (M 32) 9 (nI c)) 8 (nI p) 9 = nI c := by rw [z_u_n _ _ _ _ (by omega), z_u_s]
  have hW := HC_P hC
  have hpb : pb p ≠ 0 := by omega
  have hnb : 32 ≤ nb := by omega
  unfold z_G9
  simp (disch := first | assumption | omega | exact Nat.le_of_ble_eq_true rfl | decide) only [ze_C_undo, xc_16 hC, xc_18 hC, xc_17_5 hC, xc_17_7 hC, xc_34 hC, zk_C_undo_0, xo_2_0, xo_16, xo_49, xo_5, xo_70, zk_C_undo_9, xo_39i, xo_39r, xo_21, xo_18, xo_6, xo_20, xo_30, xo_17, xo_34, xo_12_1i, xo_12_1r, xo_12_1n, xo_35m, xo_35w, xo_2_1, xo_19, h9, n0, s1, u1, m7, z_sA_s, z_sA_sA, z_u_s, u2, if_true, if_false, eq_self, Bool.true_eq_false, Bool.false_eq_true]
end
