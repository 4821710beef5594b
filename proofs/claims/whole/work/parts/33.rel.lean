/-! ===== a world and the reference's row ===== -/
def z_mf (f : Nat) : Nat := if f = 9 then 20 else if 10 ≤ f then f - 4 else f - 3
def z_cn (V : zM) (k : Nat) : Nat := z_ct (fun j => !decide (V 5 (j * 12 + 3) = V 0 2)) k
def z_R0 (V : zM) (s : Nat → Int32) : Prop := V 0 0 = s 0 ∧ V 0 1 = s 1 ∧ V 0 2 = s 6 ∧ (∀ k, k < 4 → V 1 k = s (2 + k)) ∧ V 4 3 = s 7 ∧ (∀ k, k < 8 → V 6 k = s (9 + k)) ∧ (∀ k, k < 8 → V 7 k = s (17 + k))
def z_R1 (n : Nat) (V : zM) (s : Nat → Int32) : Prop := ∀ i, i < n → (∃ w, w < 256 ∧ V 2 i = nI w ∧ ∀ j, j < 8 → w.testBit j = (decide (j < n ∧ j ≠ i) && !zf_has (s (25 + i)) (nI j))) ∧ (∃ c, c < 256 ∧ s (25 + i) = nI c ∧ ∀ j, j < 8 → c.testBit j = true → j < n ∧ j ≠ i ∧ zf_has (s (25 + j)) (nI i) = true)
def z_R2 (n : Nat) (V : zM) (s : Nat → Int32) : Prop := ∀ i, i < n → V (9 + 4 * i) 0 = nI i ∧ V (9 + 4 * i) 1 = s (33 + i) ∧ (∃ a, a < 256 ∧ V (9 + 4 * i) 2 = nI a ∧ ∀ j, j < 8 → a.testBit j = decide (j < n ∧ s (33 + i) < s (33 + j))) ∧ ∀ f, 3 ≤ f → f < 12 → V (9 + 4 * i) f = s (41 + 28 * i + z_mf f)
def z_R3 (n : Nat) (V : zM) (s : Nat → Int32) : Prop := ∀ i, i < n → (∀ k, k < 6 → V (10 + 4 * i) k = s (41 + 28 * i + (8 + k))) ∧ (∀ k, k < 6 → V (11 + 4 * i) k = s (41 + 28 * i + (14 + k))) ∧ ∀ k, k < 7 → V (12 + 4 * i) k = s (41 + 28 * i + (21 + k))
/-- a letter as the class has it, and as the reference has it -/
def z_LR (fl : Bool) (c L : Nat → Int32) : Prop := (∀ t, t < 5 → c t = L t) ∧ (L 2 = nI 5 → c 5 = L 5) ∧ (L 2 = nI 7 → c 5 = L 6) ∧ (fl = true → ∀ t, t < 6 → c (6 + t) = L (7 + t))
theorem z_LR_eq {fl : Bool} {c L c' L' : Nat → Int32} (h : z_LR fl c L) (hc : ∀ t, t < 12 → c' t = c t) (hL : ∀ t, t < 13 → L' t = L t) : z_LR fl c' L' := by
  obtain ⟨p1, p2, p3, p4⟩ := h
  refine ⟨fun q hq => ?_, ?_, ?_, fun e q hq => ?_⟩
  · rw [hc q (by omega), hL q (by omega)]; exact p1 q hq
  · rw [hL 2 (by omega), hc 5 (by omega), hL 5 (by omega)]; exact p2
  · rw [hL 2 (by omega), hc 5 (by omega), hL 6 (by omega)]; exact p3
  · rw [hc _ (by omega), hL _ (by omega)]; exact p4 e q hq
def z_R4 (fl : Bool) (kp : Nat × Nat) (V : zM) (s : Nat → Int32) : Prop := z_cn V kp.1 = kp.2 ∧ ∃ sz, sz ≤ 600 ∧ V 4 1 = nI sz ∧ kp.1 ≤ sz ∧ kp.1 ≤ 300 ∧ V 4 2 = nI (kp.1 - z_cn V kp.1) ∧ s 8 = nI (z_cn V kp.1 + (sz - kp.1)) ∧ z_cn V kp.1 + (sz - kp.1) ≤ 300 ∧
  (∀ j, j < kp.1 → V 5 (j * 12 + 3) ≠ V 0 2 → z_LR fl (fun t => V 5 (j * 12 + t)) (fun t => s (265 + 13 * z_cn V j + t))) ∧
  (∀ j, kp.1 ≤ j → j < sz → z_LR fl (fun t => V 5 (j * 12 + t)) (fun t => s (265 + 13 * (z_cn V kp.1 + (j - kp.1)) + t)))
def z_R5 (B : Nat) (V : zM) (s : Nat → Int32) : Prop := (∃ c, c ≤ B ∧ V 0 8 = nI c ∧ s 4165 = nI (min c 40) ∧ ∀ p, p < min c 40 → ∀ f, f < 4 → V 8 ((c - min c 40 + p) % 40 * 4 + f) = s (4166 + 4 * p + f)) ∧ ∀ i, i < 8 → V (9 + 4 * i) 0 = nI i
def z_R (fl : Bool) (kp : Nat × Nat) (n B : Nat) (V : zM) (s : Nat → Int32) : Prop := z_R0 V s ∧ z_R1 n V s ∧ z_R2 n V s ∧ (fl = true → z_R3 n V s) ∧ z_R4 fl kp V s ∧ z_R5 B V s
theorem z_R0_eq {V U : zM} {s t : Nat → Int32} (h : z_R0 V s) (hV : ∀ c, c < 8 → U c = V c) (hs : ∀ a, a < 25 → t a = s a) : z_R0 U t := by
  obtain ⟨h1, h2, h3, h4, h5, h6, h7⟩ := h
  refine ⟨?_, ?_, ?_, fun k hk => ?_, ?_, fun k hk => ?_, fun k hk => ?_⟩
  · rw [hV 0 (by omega), hs 0 (by omega)]; exact h1
  · rw [hV 0 (by omega), hs 1 (by omega)]; exact h2
  · rw [hV 0 (by omega), hs 6 (by omega)]; exact h3
  · rw [hV 1 (by omega), hs _ (by omega)]; exact h4 k hk
  · rw [hV 4 (by omega), hs 7 (by omega)]; exact h5
  · rw [hV 6 (by omega), hs _ (by omega)]; exact h6 k hk
  · rw [hV 7 (by omega), hs _ (by omega)]; exact h7 k hk
theorem z_R1_eq {n : Nat} {V U : zM} {s t : Nat → Int32} (h : z_R1 n V s) (hn : n ≤ 8) (hV : U 2 = V 2) (hs : ∀ a, 25 ≤ a → a < 33 → t a = s a) : z_R1 n U t := by
  intro i hi
  obtain ⟨⟨w, w1, w2, w3⟩, c, c1, c2, c3⟩ := h i hi
  refine ⟨⟨w, w1, by rw [hV]; exact w2, fun j hj => by rw [hs _ (by omega) (by omega)]; exact w3 j hj⟩, c, c1, by rw [hs _ (by omega) (by omega)]; exact c2, fun j hj hb => ?_⟩
  have := c3 j hj hb
  rw [hs _ (by omega) (by omega)]; exact this
theorem z_cn_eq {V U : zM} (h2 : U 0 2 = V 0 2) (k : Nat) (h : ∀ a, a < k * 12 → U 5 a = V 5 a) : z_cn U k = z_cn V k :=
  z_ct_congr k (fun j hj => by rw [h2, h _ (by omega)])
theorem z_R4_eq {fl : Bool} {kp : Nat × Nat} {V U : zM} {s t : Nat → Int32} (h : z_R4 fl kp V s) (h2 : U 0 2 = V 0 2) (h4 : ∀ f, f = 1 ∨ f = 2 → U 4 f = V 4 f) (h5 : U 5 = V 5) (hs : t 8 = s 8) (hl : ∀ a, 265 ≤ a → a < 4165 → t a = s a) : z_R4 fl kp U t := by
  have hc : ∀ k, z_cn U k = z_cn V k := fun k => z_cn_eq h2 k (fun a _ => by rw [h5])
  obtain ⟨gk, sz, g1, g2, g3, g4, g5, g6, g7, g8, g9⟩ := h
  refine ⟨by rw [hc]; exact gk, sz, g1, by rw [h4 1 (Or.inl rfl)]; exact g2, g3, g4, by rw [h4 2 (Or.inr rfl), hc]; exact g5, by rw [hs, hc]; exact g6, by rw [hc]; exact g7, fun j hj hd => ?_, fun j h1 h3 => ?_⟩
  · rw [h5, h2] at hd
    have hcj : z_cn V j ≤ j := z_ct_le _ _
    exact z_LR_eq (g8 j hj hd) (fun q hq => by rw [h5]) (fun q hq => by rw [hc]; exact hl _ (by omega) (by omega))
  · exact z_LR_eq (g9 j h1 h3) (fun q hq => by rw [h5]) (fun q hq => by rw [hc]; exact hl _ (by omega) (by omega))
theorem z_R5_eq {B : Nat} {V U : zM} {s t : Nat → Int32} (h : z_R5 B V s) (h8 : U 0 8 = V 0 8) (hc : U 8 = V 8) (hs : ∀ a, 4165 ≤ a → t a = s a) (hN : ∀ i, i < 8 → U (9 + 4 * i) 0 = V (9 + 4 * i) 0) : z_R5 B U t := by
  obtain ⟨⟨c, c1, c2, c3, c4⟩, c5⟩ := h
  exact ⟨⟨c, c1, by rw [h8]; exact c2, by rw [hs _ (by omega)]; exact c3, fun p hp f hf => by rw [hc, hs _ (by omega)]; exact c4 p hp f hf⟩, fun i hi => (hN i hi).trans (c5 i hi)⟩
theorem z_R5_mono {B B' : Nat} {V : zM} {s : Nat → Int32} (hB : B ≤ B') (h : z_R5 B V s) : z_R5 B' V s := by
  obtain ⟨⟨c, c1, c2⟩, c3⟩ := h
  exact ⟨⟨c, by omega, c2⟩, c3⟩
theorem z_R_mono {fl : Bool} {kp : Nat × Nat} {n B B' : Nat} {V : zM} {s : Nat → Int32} (hB : B ≤ B') (h : z_R fl kp n B V s) : z_R fl kp n B' V s := ⟨h.1, h.2.1, h.2.2.1, h.2.2.2.1, h.2.2.2.2.1, z_R5_mono hB h.2.2.2.2.2⟩
/-- a member's number, in both -/
theorem R_m {fl : Bool} {kp : Nat × Nat} {n B : Nat} {V : zM} {s : Nat → Int32} (h : z_R fl kp n B V s) (hn : n ≤ 8) {i f : Nat} (hi : i < n) (h3 : 3 ≤ f) (h12 : f < 12) (v : Int32) : z_R fl kp n B (z_w V (9 + 4 * i) f v) (z_u s (41 + 28 * i + z_mf f) v) := by
  obtain ⟨h0, h1, h2, hfl, h4, h5⟩ := h
  have hmf : z_mf f < 28 ∧ (z_mf f < 8 ∨ z_mf f = 20) := by unfold z_mf; split <;> (try split) <;> omega
  have hmf2 : ∀ g, 3 ≤ g → g < 12 → g ≠ f → z_mf g ≠ z_mf f := by
    intro g e1 e2 e3
    unfold z_mf
    (repeat' split) <;> omega
  have hmf3 : ∀ g, g < 12 → z_mf g < 28 := by intro g; unfold z_mf; split <;> (try split) <;> omega
  have hc : ∀ c, c < 9 → z_w V (9 + 4 * i) f v c = V c := fun c hc => z_w_c _ _ _ _ _ (by omega)
  refine ⟨z_R0_eq h0 (fun c q => hc c (by omega)) (fun a ha => z_u_n _ _ _ _ (by omega)), z_R1_eq h1 hn (hc 2 (by omega)) (fun a _ _ => z_u_n _ _ _ _ (by omega)), ?_, ?_, z_R4_eq h4 (by rw [hc 0 (by omega)]) (fun f _ => by rw [hc 4 (by omega)]) (hc 5 (by omega)) (z_u_n _ _ _ _ (by omega)) (fun a _ _ => z_u_n _ _ _ _ (by omega)), z_R5_eq h5 (by rw [hc 0 (by omega)]) (hc 8 (by omega)) (fun a _ => z_u_n _ _ _ _ (by omega)) (fun j _ => z_w_n _ _ _ _ _ _ (by omega))⟩
  · intro j hj
    obtain ⟨p1, p2, ⟨a, q1, q2, q3⟩, p4⟩ := h2 j hj
    refine ⟨by rw [z_w_n _ _ _ _ _ _ (by omega)]; exact p1, by rw [z_w_n _ _ _ _ _ _ (by omega), z_u_n _ _ _ _ (by omega)]; exact p2, ⟨a, q1, by rw [z_w_n _ _ _ _ _ _ (by omega)]; exact q2, fun k hk => ?_⟩, fun g g3 g12 => ?_⟩
    · rw [z_u_n _ _ (33 + j) _ (by omega), z_u_n _ _ (33 + k) _ (by omega)]; exact q3 k hk
    · have m3 := hmf3 g g12
      by_cases e : j = i ∧ g = f
      · obtain ⟨rfl, rfl⟩ := e
        rw [z_w_s, z_u_s]
      · have e2 : j ≠ i ∨ g ≠ f := by omega
        rw [z_w_n _ _ _ _ _ _ (by omega)]
        by_cases ej : j = i
        · have := hmf2 g g3 g12 (e2.elim (fun q => absurd ej q) (fun q => q))
          rw [z_u_n _ _ _ _ (by omega)]; exact p4 g g3 g12
        · rw [z_u_n _ _ _ _ (by omega)]; exact p4 g g3 g12
  · intro e j hj
    obtain ⟨p1, p2, p3⟩ := hfl e j hj
    refine ⟨fun k hk => ?_, fun k hk => ?_, fun k hk => ?_⟩
    · rw [z_w_c _ _ _ _ _ (by omega), z_u_n _ _ _ _ (by omega)]; exact p1 k hk
    · rw [z_w_c _ _ _ _ _ (by omega), z_u_n _ _ _ _ (by omega)]; exact p2 k hk
    · rw [z_w_c _ _ _ _ _ (by omega), z_u_n _ _ _ _ (by omega)]; exact p3 k hk
/-- numbers that fl lets out: the reference's alone, the class's alone -/
theorem R_ms {kp : Nat × Nat} {n B : Nat} {V : zM} {s : Nat → Int32} (h : z_R false kp n B V s) (hn : n ≤ 8) {i f : Nat} (hi : i < n) (hf : (8 ≤ f ∧ f < 20) ∨ (21 ≤ f ∧ f < 28)) (v : Int32) : z_R false kp n B V (z_u s (41 + 28 * i + f) v) := by
  obtain ⟨h0, h1, h2, hfl, h4, h5⟩ := h
  have hmf3 : ∀ g, 3 ≤ g → g < 12 → z_mf g < 8 ∨ z_mf g = 20 := by intro g; unfold z_mf; split <;> (try split) <;> omega
  refine ⟨z_R0_eq h0 (fun _ _ => rfl) (fun a ha => z_u_n _ _ _ _ (by omega)), z_R1_eq h1 hn rfl (fun a _ _ => z_u_n _ _ _ _ (by omega)), ?_, fun e => absurd e (by decide), z_R4_eq h4 rfl (fun _ _ => rfl) rfl (z_u_n _ _ _ _ (by omega)) (fun a _ _ => z_u_n _ _ _ _ (by omega)), z_R5_eq h5 rfl rfl (fun a _ => z_u_n _ _ _ _ (by omega)) (fun _ _ => rfl)⟩
  intro j hj
  obtain ⟨p1, p2, ⟨a, q1, q2, q3⟩, p4⟩ := h2 j hj
  refine ⟨p1, by rw [z_u_n _ _ _ _ (by omega)]; exact p2, ⟨a, q1, q2, fun k hk => ?_⟩, fun g g3 g12 => ?_⟩
  · rw [z_u_n _ _ (33 + j) _ (by omega), z_u_n _ _ (33 + k) _ (by omega)]; exact q3 k hk
  · have := hmf3 g g3 g12
    rw [z_u_n _ _ _ _ (by omega)]; exact p4 g g3 g12
theorem R_mc {kp : Nat × Nat} {n B : Nat} {V : zM} {s : Nat → Int32} (h : z_R false kp n B V s) {i c k : Nat} (hc : c = 10 + 4 * i ∨ c = 11 + 4 * i ∨ c = 12 + 4 * i) (v : Int32) : z_R false kp n B (z_w V c k v) s := by
  obtain ⟨h0, h1, h2, hfl, h4, h5⟩ := h
  have hw : ∀ x, x < 9 → z_w V c k v x = V x := fun x hx => z_w_c _ _ _ _ _ (by omega)
  refine ⟨z_R0_eq h0 (fun c q => hw c (by omega)) (fun _ _ => rfl), ?_, ?_, fun e => absurd e (by decide), z_R4_eq h4 (by rw [hw 0 (by omega)]) (fun f _ => by rw [hw 4 (by omega)]) (hw 5 (by omega)) rfl (fun _ _ _ => rfl), z_R5_eq h5 (by rw [hw 0 (by omega)]) (hw 8 (by omega)) (fun _ _ => rfl) (fun j _ => by rw [z_w_c _ _ _ _ _ (by omega)])⟩
  · intro i hi; rw [hw 2 (by omega)]; exact h1 i hi
  · intro j hj
    rw [z_w_c _ _ _ _ _ (by omega)]; exact h2 j hj
/-- units and tallies, in both -/
theorem R_mb {fl : Bool} {kp : Nat × Nat} {n B : Nat} {V : zM} {s : Nat → Int32} (h : z_R fl kp n B V s) (hn : n ≤ 8) {i c k f : Nat} (hi : i < n) (hc : (c = 10 + 4 * i ∧ k < 6 ∧ f = 8 + k) ∨ (c = 11 + 4 * i ∧ k < 6 ∧ f = 14 + k) ∨ (c = 12 + 4 * i ∧ k < 7 ∧ f = 21 + k)) (v w : Int32) (hv : fl = true → v = w) : z_R fl kp n B (z_w V c k v) (z_u s (41 + 28 * i + f) w) := by
  cases fl with
  | false => exact R_ms (R_mc (i := i) h (by omega) v) hn hi (by omega) w
  | true =>
    rw [hv rfl]
    obtain ⟨h0, h1, h2, hfl, h4, h5⟩ := h
    have hw : ∀ x, x < 9 → z_w V c k w x = V x := fun x hx => z_w_c _ _ _ _ _ (by omega)
    have hmf3 : ∀ g, 3 ≤ g → g < 12 → z_mf g < 8 ∨ z_mf g = 20 := by intro g; unfold z_mf; split <;> (try split) <;> omega
    refine ⟨z_R0_eq h0 (fun c q => hw c (by omega)) (fun a ha => z_u_n _ _ _ _ (by omega)), z_R1_eq h1 hn (hw 2 (by omega)) (fun a _ _ => z_u_n _ _ _ _ (by omega)), ?_, fun _ => ?_, z_R4_eq h4 (by rw [hw 0 (by omega)]) (fun f _ => by rw [hw 4 (by omega)]) (hw 5 (by omega)) (z_u_n _ _ _ _ (by omega)) (fun a _ _ => z_u_n _ _ _ _ (by omega)), z_R5_eq h5 (by rw [hw 0 (by omega)]) (hw 8 (by omega)) (fun a _ => z_u_n _ _ _ _ (by omega)) (fun j _ => by rw [z_w_c _ _ _ _ _ (by omega)])⟩
    · intro j hj
      obtain ⟨p1, p2, ⟨a, q1, q2, q3⟩, p4⟩ := h2 j hj
      rw [z_w_c _ _ _ _ _ (by omega)]
      refine ⟨p1, by rw [z_u_n _ _ _ _ (by omega)]; exact p2, ⟨a, q1, q2, fun k hk => ?_⟩, fun g g3 g12 => ?_⟩
      · rw [z_u_n _ _ (33 + j) _ (by omega), z_u_n _ _ (33 + k) _ (by omega)]; exact q3 k hk
      · have := hmf3 g g3 g12
        rw [z_u_n _ _ _ _ (by omega)]; exact p4 g g3 g12
    · intro j hj
      obtain ⟨p1, p2, p3⟩ := hfl rfl j hj
      refine ⟨fun q hq => ?_, fun q hq => ?_, fun q hq => ?_⟩
      · by_cases e : 10 + 4 * j = c ∧ q = k
        · obtain ⟨e1, e2⟩ := e
          rw [e1, e2, z_w_s, show 41 + 28 * j + (8 + k) = 41 + 28 * i + f by omega, z_u_s]
        · rw [z_w_n _ _ _ _ _ _ (by omega), z_u_n _ _ _ _ (by omega)]; exact p1 q hq
      · by_cases e : 11 + 4 * j = c ∧ q = k
        · obtain ⟨e1, e2⟩ := e
          rw [e1, e2, z_w_s, show 41 + 28 * j + (14 + k) = 41 + 28 * i + f by omega, z_u_s]
        · rw [z_w_n _ _ _ _ _ _ (by omega), z_u_n _ _ _ _ (by omega)]; exact p2 q hq
      · by_cases e : 12 + 4 * j = c ∧ q = k
        · obtain ⟨e1, e2⟩ := e
          rw [e1, e2, z_w_s, show 41 + 28 * j + (21 + k) = 41 + 28 * i + f by omega, z_u_s]
        · rw [z_w_n _ _ _ _ _ _ (by omega), z_u_n _ _ _ _ (by omega)]; exact p3 q hq
