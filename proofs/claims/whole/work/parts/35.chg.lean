/-! ===== groups change, members go alone, in both ===== -/
theorem z_R0_eq' {V U : zM} {s t : Nat → Int32} (h : z_R0 V s) (hV0 : ∀ f, f < 8 → U 0 f = V 0 f) (hV : ∀ c, 0 < c → c < 8 → U c = V c) (hs : ∀ a, a < 25 → t a = s a) : z_R0 U t := by
  obtain ⟨h1, h2, h3, h4, h5, h6, h7⟩ := h
  refine ⟨?_, ?_, ?_, fun k hk => ?_, ?_, fun k hk => ?_, fun k hk => ?_⟩
  · rw [hV0 0 (by omega), hs 0 (by omega)]; exact h1
  · rw [hV0 1 (by omega), hs 1 (by omega)]; exact h2
  · rw [hV0 2 (by omega), hs 6 (by omega)]; exact h3
  · rw [hV 1 (by omega) (by omega), hs _ (by omega)]; exact h4 k hk
  · rw [hV 4 (by omega) (by omega), hs 7 (by omega)]; exact h5
  · rw [hV 6 (by omega) (by omega), hs _ (by omega)]; exact h6 k hk
  · rw [hV 7 (by omega) (by omega), hs _ (by omega)]; exact h7 k hk
theorem z_R2_eq {n : Nat} {V U : zM} {s t : Nat → Int32} (h : z_R2 n V s) (hn : n ≤ 8) (hV : ∀ i, i < n → U (9 + 4 * i) = V (9 + 4 * i)) (hs : ∀ a, 33 ≤ a → a < 265 → t a = s a) : z_R2 n U t := by
  intro j hj
  have m3 : ∀ g, g < 12 → z_mf g < 28 := by intro g; unfold z_mf; split <;> (try split) <;> omega
  rw [hV j hj]
  obtain ⟨p1, p2, ⟨a, r1, r2, r3⟩, p4⟩ := h j hj
  refine ⟨p1, by rw [hs _ (by omega) (by omega)]; exact p2, ⟨a, r1, r2, fun x hx => ?_⟩, fun f f3 f12 => ?_⟩
  · rw [hs (33 + j) (by omega) (by omega), hs (33 + x) (by omega) (by omega)]; exact r3 x hx
  · have := m3 f f12
    rw [hs _ (by omega) (by omega)]; exact p4 f f3 f12
theorem z_R3_eq {n : Nat} {V U : zM} {s t : Nat → Int32} (h : z_R3 n V s) (hn : n ≤ 8) (hV : ∀ c, 9 < c → c < 41 → U c = V c) (hs : ∀ a, 41 ≤ a → a < 265 → t a = s a) : z_R3 n U t := by
  intro j hj
  obtain ⟨p1, p2, p3⟩ := h j hj
  rw [hV _ (by omega) (by omega), hV _ (by omega) (by omega), hV _ (by omega) (by omega)]
  exact ⟨fun x hx => by rw [hs _ (by omega) (by omega)]; exact p1 x hx, fun x hx => by rw [hs _ (by omega) (by omega)]; exact p2 x hx, fun x hx => by rw [hs _ (by omega) (by omega)]; exact p3 x hx⟩
theorem R_chg {fl : Bool} {kp : Nat × Nat} {n J B Bf : Nat} {V : zM} {s : Nat → Int32} (h : z_R fl kp n B V s) (hF : z_F n J Bf s) {i : Nat} (hi : i < n) (g : Int32) (hB : B < 2 ^ 31 - 1) : z_R fl kp n (B + 1) (g_rg i g V) (f_chg i g s) := by
  have hn : n ≤ 8 := hF.1.1.2
  have hgr : V (9 + 4 * i) 6 = s (41 + 28 * i + 3) := (h.2.2.1 i hi).2.2.2 6 (by omega) (by omega)
  have hnum : V (9 + 4 * i) 0 = nI i := (h.2.2.1 i hi).1
  have hclk : V 0 2 = s 6 := h.1.2.2.1
  have hne := F_3 hF hi
  unfold g_rg
  by_cases e : V (9 + 4 * i) 6 = g
  · rw [if_pos e]
    unfold f_chg
    rw [if_pos (Or.inr (by rw [← hgr]; exact e))]
    have hid : z_u s (41 + 28 * i + 3) g = s := by
      funext q; unfold z_u; split
      · rename_i hq; rw [hq, ← hgr, e]
      · rfl
    rw [hid]; exact z_R_mono (Nat.le_succ B) h
  · rw [if_neg e]
    have h1 := R_m h hn hi (f := 6) (by omega) (by omega) g
    have hmf : z_mf 6 = 3 := rfl
    rw [hmf] at h1
    obtain ⟨⟨c, c1, c2, c3, c4⟩, cN⟩ := h.2.2.2.2.2
    have hz : z_n (V 0 8) = c := by rw [c2]; exact z_nN (by omega)
    rw [hz]
    have hlo := f_chg_lo i g s
    have hcond : ¬ (s (41 + 28 * i + 3) = 0 ∨ s (41 + 28 * i + 3) = g) := fun q => q.elim hne (fun q => e (hgr.trans q))
    have hfc : f_chg i g s = f_cg1 i (s (41 + 28 * i + 3)) g (f_cg0 (z_u s (41 + 28 * i + 3) g)) := by unfold f_chg; rw [if_neg hcond]
    have hr40 : c % 40 < 40 := Nat.mod_lt _ (by omega)
    -- the class
    have hU0 : ∀ f, f < 8 → g_rg1 i g (c % 40 * 4) V 0 f = V 0 f := fun f hf => by
      unfold g_rg1
      rw [z_w_n _ _ _ _ _ _ (by omega), z_w_n _ _ _ _ _ _ (by omega), z_w_n _ _ _ _ _ _ (by omega), z_w_n _ _ _ _ _ _ (by omega), z_w_n _ _ _ _ _ _ (by omega), z_w_n _ _ _ _ _ _ (by omega)]
    have hU08 : g_rg1 i g (c % 40 * 4) V 0 8 = nI (c + 1) := by
      unfold g_rg1
      rw [z_w_n _ _ _ _ _ _ (by omega), z_w_s, c2, nI_add]
    have hUc : ∀ x, x ≠ 0 → x ≠ 8 → g_rg1 i g (c % 40 * 4) V x = z_w V (9 + 4 * i) 6 g x := fun x e1 e2 => by
      unfold g_rg1
      by_cases e3 : x = 9 + 4 * i
      · subst e3
        unfold z_w
        simp only [z_sA_s]
        rw [z_sA_n _ _ _ _ e1, z_sA_n _ _ _ _ e2, z_sA_n _ _ _ _ e2, z_sA_n _ _ _ _ e2, z_sA_n _ _ _ _ e2]
      · rw [z_w_c _ _ _ _ _ e3, z_w_c _ _ _ _ _ e1, z_w_c _ _ _ _ _ e2, z_w_c _ _ _ _ _ e2, z_w_c _ _ _ _ _ e2, z_w_c _ _ _ _ _ e2, z_w_c _ _ _ _ _ e3]
    have hU8 : ∀ a, (a < c % 40 * 4 ∨ c % 40 * 4 + 4 ≤ a) → g_rg1 i g (c % 40 * 4) V 8 a = V 8 a := fun a ha => by
      unfold g_rg1
      rw [z_w_n _ _ _ _ _ _ (by omega), z_w_n _ _ _ _ _ _ (by omega), z_w_n _ _ _ _ _ _ (by omega), z_w_n _ _ _ _ _ _ (by omega), z_w_n _ _ _ _ _ _ (by omega), z_w_n _ _ _ _ _ _ (by omega)]
    have hV0 : g_rg1 i g (c % 40 * 4) V 8 (c % 40 * 4) = s 6 := by
      unfold g_rg1
      rw [z_w_n _ _ _ _ _ _ (by omega), z_w_n _ _ _ _ _ _ (by omega), z_w_n _ _ _ _ _ _ (by omega), z_w_n _ _ _ _ _ _ (by omega), z_w_n _ _ _ _ _ _ (by omega), z_w_s, hclk]
    have hV1 : g_rg1 i g (c % 40 * 4) V 8 (c % 40 * 4 + 1) = nI i := by
      unfold g_rg1
      rw [z_w_n _ _ _ _ _ _ (by omega), z_w_n _ _ _ _ _ _ (by omega), z_w_n _ _ _ _ _ _ (by omega), z_w_n _ _ _ _ _ _ (by omega), z_w_s, hnum]
    have hV2 : g_rg1 i g (c % 40 * 4) V 8 (c % 40 * 4 + 2) = s (41 + 28 * i + 3) := by
      unfold g_rg1
      rw [z_w_n _ _ _ _ _ _ (by omega), z_w_n _ _ _ _ _ _ (by omega), z_w_n _ _ _ _ _ _ (by omega), z_w_s, hgr]
    have hV3 : g_rg1 i g (c % 40 * 4) V 8 (c % 40 * 4 + 3) = g := by
      unfold g_rg1
      rw [z_w_n _ _ _ _ _ _ (by omega), z_w_n _ _ _ _ _ _ (by omega), z_w_s]
    generalize g_rg1 i g (c % 40 * 4) V = U at hU0 hU08 hUc hU8 hV0 hV1 hV2 hV3 ⊢
    -- the reference
    obtain ⟨r0, r1, r2, r3, r4, r5⟩ := h1
    refine ⟨z_R0_eq' r0 (fun f hf => by rw [hU0 f hf, z_w_n _ _ _ _ _ _ (by omega)]) (fun x x1 x2 => hUc x (by omega) (by omega)) (fun a ha => hlo a (by omega)), z_R1_eq r1 hn (hUc 2 (by omega) (by omega)) (fun a _ _ => hlo a (by omega)), z_R2_eq r2 hn (fun j _ => hUc _ (by omega) (by omega)) (fun a _ _ => hlo a (by omega)), fun e => z_R3_eq (r3 e) hn (fun x _ _ => hUc x (by omega) (by omega)) (fun a _ _ => hlo a (by omega)), z_R4_eq r4 (by rw [hU0 2 (by omega), z_w_n _ _ _ _ _ _ (by omega)]) (fun f _ => by rw [hUc 4 (by omega) (by omega)]) (hUc 5 (by omega) (by omega)) (hlo 8 (by omega)) (fun a _ ha => hlo a ha), ?_⟩
    rw [hfc]
    refine ⟨?_, fun j hj => by rw [hUc _ (by omega) (by omega), z_w_n _ _ _ _ _ _ (by omega)]; exact cN j hj⟩
    refine ⟨c + 1, by omega, hU08, ?_⟩
    by_cases h40 : 40 ≤ c
    · have hm : min c 40 = 40 := by omega
      have hm1 : min (c + 1) 40 = 40 := by omega
      rw [hm] at c3 c4
      rw [hm1]
      have hs1 : z_u s (41 + 28 * i + 3) g 4165 = nI 40 := by rw [z_u_n _ _ _ _ (by omega)]; exact c3
      have hcg0 : f_cg0 (z_u s (41 + 28 * i + 3) g) = z_u (z_shf (z_u s (41 + 28 * i + 3) g) 4166 156 4) 4165 (nI 39) := by unfold f_cg0; rw [if_pos hs1]
      rw [hcg0]
      have hz39 : z_n (z_u (z_shf (z_u s (41 + 28 * i + 3) g) 4166 156 4) 4165 (nI 39) 4165) = 39 := by rw [z_u_s]; exact z_nN (by omega)
      unfold f_cg1
      rw [hz39]
      refine ⟨by rw [z_u_s, z_u_s, nI_add], fun p hp f hf => ?_⟩
      by_cases hp39 : p = 39
      · subst hp39
        rw [show (c + 1 - 40 + 39) % 40 = c % 40 by congr 1; omega]
        rcases (show f = 0 ∨ f = 1 ∨ f = 2 ∨ f = 3 by omega) with e | e | e | e
        · subst e
          rw [Nat.add_zero, hV0, z_u_n _ _ _ _ (by omega), z_u_n _ _ _ _ (by omega), z_u_n _ _ _ _ (by omega), z_u_n _ _ _ _ (by omega), z_u_s, z_u_n _ _ _ _ (by omega), z_shf_out _ _ _ _ _ (by omega), z_u_n _ _ _ _ (by omega)]
        · subst e
          rw [hV1, z_u_n _ _ _ _ (by omega), z_u_n _ _ _ _ (by omega), z_u_n _ _ _ _ (by omega), z_u_s]
        · subst e
          rw [hV2, z_u_n _ _ _ _ (by omega), z_u_n _ _ _ _ (by omega), z_u_s]
        · subst e
          rw [hV3, z_u_n _ _ _ _ (by omega), z_u_s]
      · have hidx : (c + 1 - 40 + p) % 40 = (c - 40 + (p + 1)) % 40 := by congr 1; omega
        rw [hidx]
        have hneq : (c - 40 + (p + 1)) % 40 ≠ c % 40 := by omega
        rw [hU8 _ (by omega), c4 (p + 1) (by omega) f hf, z_u_n _ _ _ _ (by omega), z_u_n _ _ _ _ (by omega), z_u_n _ _ _ _ (by omega), z_u_n _ _ _ _ (by omega), z_u_n _ _ _ _ (by omega), z_u_n _ _ _ _ (by omega), z_shf_in _ _ _ _ _ (by omega) (by omega), z_u_n _ _ _ _ (by omega), show 4166 + 4 * p + f + 4 = 4166 + 4 * (p + 1) + f by omega]
    · have hm : min c 40 = c := by omega
      have hm1 : min (c + 1) 40 = c + 1 := by omega
      rw [hm] at c3 c4
      rw [hm1]
      have hs1 : z_u s (41 + 28 * i + 3) g 4165 = nI c := by rw [z_u_n _ _ _ _ (by omega)]; exact c3
      have hcg0 : f_cg0 (z_u s (41 + 28 * i + 3) g) = z_u s (41 + 28 * i + 3) g := by unfold f_cg0; rw [if_neg (by rw [hs1]; exact fun q => absurd ((nI_eq (by omega) (by omega)).mp q) (by omega))]
      rw [hcg0]
      have hzc : z_n (z_u s (41 + 28 * i + 3) g 4165) = c := by rw [hs1]; exact z_nN (by omega)
      unfold f_cg1
      rw [hzc, hs1, nI_add]
      refine ⟨z_u_s _ _ _, fun p hp f hf => ?_⟩
      have hcc : c % 40 = c := Nat.mod_eq_of_lt (by omega)
      rw [hcc] at hV0 hV1 hV2 hV3 hU8
      rw [show c + 1 - (c + 1) + p = p by omega, Nat.mod_eq_of_lt (show p < 40 by omega)]
      by_cases hpc : p = c
      · subst hpc
        rcases (show f = 0 ∨ f = 1 ∨ f = 2 ∨ f = 3 by omega) with e | e | e | e
        · subst e
          rw [Nat.add_zero, hV0, z_u_n _ _ _ _ (by omega), z_u_n _ _ _ _ (by omega), z_u_n _ _ _ _ (by omega), z_u_n _ _ _ _ (by omega)]
          show s 6 = z_u (z_u s (41 + 28 * i + 3) g) (4166 + 4 * p) (z_u s (41 + 28 * i + 3) g 6) (4166 + 4 * p)
          rw [z_u_s, z_u_n _ _ _ _ (by omega)]
        · subst e
          rw [hV1, z_u_n _ _ _ _ (by omega), z_u_n _ _ _ _ (by omega), z_u_n _ _ _ _ (by omega), z_u_s]
        · subst e
          rw [hV2, z_u_n _ _ _ _ (by omega), z_u_n _ _ _ _ (by omega), z_u_s]
        · subst e
          rw [hV3, z_u_n _ _ _ _ (by omega), z_u_s]
      · have := c4 p (by omega) f hf
        rw [show c - c + p = p by omega, Nat.mod_eq_of_lt (show p < 40 by omega)] at this
        rw [hU8 _ (by omega), this, z_u_n _ _ _ _ (by omega), z_u_n _ _ _ _ (by omega), z_u_n _ _ _ _ (by omega), z_u_n _ _ _ _ (by omega), z_u_n _ _ _ _ (by omega), z_u_n _ _ _ _ (by omega)]
