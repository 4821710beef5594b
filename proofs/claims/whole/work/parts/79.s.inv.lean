/-! ===== what holds ahead of every call of a script ===== -/
def z_JM (nb : Nat) (pb : Nat → Nat) (n J B tp pn c : Nat) (M : zM) : Prop :=
  z_R true (0, 0) n B (fun k => M (nb + k)) (M 458) ∧ z_F n J B (M 458) ∧
  (M 32 1 = nI tp ∧ M 455 2 = nI tp ∧ tp ≤ 200 ∧ ∀ k, (k < tp → ∃ u, u < 256 ∧ M 33 k = nI u) ∧ M 457 k = M 33 k) ∧
  (∀ k, k < 3 → M 34 k = M 456 k) ∧ M 32 2 = M 455 5 ∧
  (M 32 8 = nI pn ∧ pn < 8 ∧ M 32 9 = nI c ∧ c ≤ 8 ∧ M 455 14 = nI c) ∧
  (∀ j, j < c → ∃ n' J', z_R true (0, 0) n' B (fun k => M (pb ((pn + 8 - c + j) % 8) + k)) (M (463 + j)) ∧ z_F n' J' B (M (463 + j))) ∧
  (∀ i, i < 8 → M (81 + (9 + 4 * i)) 0 = nI i) ∧ ∀ k, k < 8 → ∀ i, i < 8 → M (pb k + (9 + 4 * i)) 0 = nI i
def z_JG (u len : Nat) (nb : Nat) (pb : Nat → Nat) (G : zG) (M : zM) : Prop := z_HC G nb pb ∧ z_HM G ∧ z_HQ G ∧ z_St G M ∧ (z_nc G ≤ 441 + u ∧ z_ns G ≤ 129251 + 6 * u) ∧ z_kd G 472 = (2, 1) ∧ z_kd G 1 = (1, len)
def z_J (u len : Nat) (sc : Nat → Int32) (G : zG) (M : zM) : Prop := ∃ nb pb n J B tp pn c, z_JG u len nb pb G M ∧ M 1 = sc ∧ B ≤ 1 + 30801 * u ∧ z_JM nb pb n J B tp pn c M
theorem JG_k {u len nb : Nat} {pb : Nat → Nat} {G G' : zG} {M M' : zM} (h : z_JG u len nb pb G M) (k : z_Gk G G') (cn : z_nc G' ≤ z_nc G + 1 ∧ z_ns G' ≤ z_ns G + 6) (e : ∀ q, q < 32 → M' q = M q) : z_JG (u + 1) len nb pb G' M' := by
  obtain ⟨h1, h2, h3, h4, h5, h6, h7⟩ := h
  exact ⟨HC_k k h1, HM_k k h2, HQ_k k h3, St_k k h4 e, by omega, (k.1 _).trans h6, (k.1 _).trans h7⟩
theorem JM_mono {nb : Nat} {pb : Nat → Nat} {n J B B' tp pn c : Nat} {M : zM} (h : z_JM nb pb n J B tp pn c M) (hB : B ≤ B') : z_JM nb pb n J B' tp pn c M := by
  obtain ⟨h1, h2, h3, h4, h5, h6, h7, h8, h9⟩ := h
  refine ⟨z_R_mono hB h1, z_F_mono hB h2, h3, h4, h5, h6, fun j hj => ?_, h8, h9⟩
  obtain ⟨n', J', a, b⟩ := h7 j hj
  exact ⟨n', J', z_R_mono hB a, z_F_mono hB b⟩
section
variable {nb : Nat} {pb : Nat → Nat} {n J B tp pn c : Nat} {G : zG} {M M' : zM}
theorem JM_eq (hC : z_HC G nb pb) (h : z_JM nb pb n J B tp pn c M) (a1 : ∀ q, nb ≤ q → q < nb + 41 → M' q = M q) (a2 : ∀ k, k < 8 → ∀ q, pb k ≤ q → q < pb k + 41 → M' q = M q) (a3 : ∀ f, f = 1 ∨ f = 2 ∨ f = 8 ∨ f = 9 → M' 32 f = M 32 f) (a4 : M' 33 = M 33) (a5 : ∀ k, k < 3 → M' 34 k = M' 456 k) (a6 : ∀ f, f = 2 ∨ f = 5 ∨ f = 14 → M' 455 f = M 455 f) (a7 : M' 457 = M 457) (a8 : ∀ a, a < 4326 → M' 458 a = M 458 a) (a9 : ∀ j, j < 8 → ∀ a, a < 4326 → M' (463 + j) a = M (463 + j) a) (a10 : ∀ i, i < 8 → M' (81 + (9 + 4 * i)) 0 = nI i) : z_JM nb pb n J B tp pn c M' := by
  obtain ⟨h1, h2, ⟨t1, t2, t3, t4⟩, h4, h5, ⟨p1, p2, p3, p4, p5⟩, h7, h8, h9⟩ := h
  have hn : n ≤ 8 := h2.1.1.2
  refine ⟨z_R_V (z_R_x h1 hn a8) hn (fun k hk => a1 _ (by omega) (by omega)), z_F_x h2 a8, ⟨(a3 1 (by omega)).trans t1, (a6 2 (by omega)).trans t2, t3, by rw [a4, a7]; exact t4⟩, a5, by rw [a3 2 (by omega), a6 5 (by omega)]; exact h5, ⟨(a3 8 (by omega)).trans p1, p2, (a3 9 (by omega)).trans p3, p4, (a6 14 (by omega)).trans p5⟩, fun j hj => ?_, a10, fun k hk i hi => by rw [a2 k hk _ (by omega) (by omega)]; exact h9 k hk i hi⟩
  obtain ⟨n', J', r, f⟩ := h7 j hj
  have hn' : n' ≤ 8 := f.1.1.2
  exact ⟨n', J', z_R_V (z_R_x r hn' (a9 j (by omega))) hn' (fun k hk => a2 ((pn + 8 - c + j) % 8) (Nat.mod_lt _ (by omega)) _ (by omega) (by omega)), z_F_x f (a9 j (by omega))⟩
theorem JM_q (hC : z_HC G nb pb) (h : z_JM nb pb n J B tp pn c M) : z_JM nb pb n J B tp pn c (th0 M) := by
  have lo := HC_lo hC
  have h4 := h.2.2.2.1
  have h8 := h.2.2.2.2.2.2.2.1
  exact JM_eq hC h (fun q _ _ => th0_o M (by omega)) (fun k hk q _ _ => th0_o M (by have := HC_blo hC hk; omega)) (fun f _ => by rw [th0_o M (by omega)]) (th0_o M (by omega)) (fun k hk => by rw [th0_o M (by omega), th0_o M (by omega)]; exact h4 k hk) (fun f hf => th0_fn M (by omega)) (th0_o M (by omega)) (fun a _ => by rw [th0_o M (by omega)]) (fun j _ a _ => by rw [th0_o M (by omega)]) (fun i hi => by rw [th0_o M (by omega)]; exact h8 i hi)
theorem JM_r (hC : z_HC G nb pb) (h : z_JM nb pb n J B tp pn c M) {a e : Nat} (he : e < 3) : z_JM nb pb n J B tp pn c (rfm (rfc M e) a e) := by
  have lo := HC_lo hC
  have h4 := h.2.2.2.1
  have h8 := h.2.2.2.2.2.2.2.1
  have o : ∀ q, q ≠ 34 → q ≠ 455 → q ≠ 456 → rfm (rfc M e) a e q = M q := fun q x y z => by unfold rfm rfc; rw [z_sA_n _ _ _ _ z, z_sA_n _ _ _ _ y, z_sA_n _ _ _ _ x]
  refine JM_eq hC h (fun q _ _ => o q (by omega) (by omega) (by omega)) (fun k hk q _ _ => by have := HC_blo hC hk; exact o q (by omega) (by omega) (by omega)) (fun f _ => by rw [o 32 (by omega) (by omega) (by omega)]) (o _ (by omega) (by omega) (by omega)) (fun k hk => ?_) (fun f hf => ?_) (o _ (by omega) (by omega) (by omega)) (fun a _ => by rw [o _ (by omega) (by omega) (by omega)]) (fun j _ a _ => by rw [o _ (by omega) (by omega) (by omega)]) (fun i hi => by rw [o _ (by omega) (by omega) (by omega)]; exact h8 i hi)
  · unfold rfm
    rw [z_sA_n _ _ _ _ (by omega), z_sA_n _ _ _ _ (by omega), z_sA_s]
    unfold rfc
    rw [z_sA_s, z_sA_n _ _ _ _ (by omega)]
    by_cases q : k = e
    · subst q; rw [z_u_s, z_u_s, h4 k hk]
    · rw [z_u_n _ _ _ _ q, z_u_n _ _ _ _ q, h4 k hk]
  · unfold rfm
    rw [z_sA_n _ _ _ _ (by omega), z_sA_s, z_u_n _ _ _ _ (by omega)]
    unfold rfc
    rw [z_sA_n _ _ _ _ (by omega)]
theorem rfm_0 (M : zM) (a e : Nat) : rfm M a e 455 0 = nI a := by unfold rfm; rw [z_sA_n _ _ _ _ (by omega), z_sA_s, z_u_s]
theorem JM_p (hC : z_HC G nb pb) (h : z_JM nb pb n J B tp pn c M) {M1 M2 : zM} (x : z_Pc M M1) (y : z_Pq (th0 M1) M2) : z_JM nb pb n J B tp pn c M2 := by
  have lo := HC_lo hC
  have h4 := h.2.2.2.1
  have o : ∀ q, (q < 81 ∨ 122 ≤ q) → q ≠ 123 → q ≠ 455 → q ≠ 458 → q ≠ 460 → q ≠ 461 → q ≠ 471 → M2 q = M q := fun q a b c d e f g => by rw [y.1 q c d e f g, th0_o M1 c, x.1 q a b]
  have e455 : M1 455 = M 455 := x.1 455 (by omega) (by omega)
  have e458 : M1 458 = M 458 := x.1 458 (by omega) (by omega)
  refine JM_eq hC h (fun q _ _ => o q (by omega) (by omega) (by omega) (by omega) (by omega) (by omega) (by omega)) (fun k hk q _ _ => by have := HC_blo hC hk; exact o q (by omega) (by omega) (by omega) (by omega) (by omega) (by omega) (by omega)) (fun f _ => by rw [o 32 (by omega) (by omega) (by omega) (by omega) (by omega) (by omega) (by omega)]) (o _ (by omega) (by omega) (by omega) (by omega) (by omega) (by omega) (by omega)) (fun k hk => by rw [o 34 (by omega) (by omega) (by omega) (by omega) (by omega) (by omega) (by omega), o 456 (by omega) (by omega) (by omega) (by omega) (by omega) (by omega) (by omega)]; exact h4 k hk) (fun f hf => ?_) (o _ (by omega) (by omega) (by omega) (by omega) (by omega) (by omega) (by omega)) (fun a ha => ?_) (fun j _ a _ => by rw [o _ (by omega) (by omega) (by omega) (by omega) (by omega) (by omega) (by omega)]) (fun i hi => ?_)
  · rw [y.2.2 f (by omega) (by omega), th0_fn M1 (by omega), e455]
  · rw [y.2.1 a ha, th0_o M1 (by omega), e458]
  · rw [y.1 _ (by omega) (by omega) (by omega) (by omega) (by omega), th0_o M1 (by omega)]; exact x.2 i hi
theorem Pq_0 {M1 M2 : zM} (y : z_Pq (th0 M1) M2) : M2 455 0 = nI 0 := (y.2.2 0 (by omega) (by omega)).trans (th0_f0 M1)
theorem Rm_0 {M1 M2 : zM} {t : Nat → Int32} (y : z_Rm c (th0 M1) M2 t) : M2 455 0 = nI 0 := (y.1 0 (by omega) (by omega)).trans (th0_f0 M1)
theorem JM_a (hC : z_HC G nb pb) (h : z_JM nb pb n J B tp pn c M) {M1 M2 : zM} {J' B' : Nat} {s' : Nat → Int32} (x : z_Ka nb pb pn c n B (M 458) M M1) (r : z_R true (0, 0) n B' (fun k => M1 (nb + k)) s') (f : z_F n J' B' s') (hB : B ≤ B') (y : z_Rm c (th0 M1) M2 s') : z_JM nb pb n J' B' tp ((pn + 1) % 8) (min (c + 1) 8) M2 := by
  have lo := HC_lo hC
  obtain ⟨h1, h2, ⟨t1, t2, t3, t4⟩, h4, h5, ⟨p1, p2, p3, p4, p5⟩, h7, h8, h9⟩ := h
  have hn : n ≤ 8 := h2.1.1.2
  obtain ⟨x1, x2, x3, x4, x5⟩ := x
  obtain ⟨y1, y2, y3, y4, y5, y6⟩ := y
  have bp := HC_blo hC p2
  have o1 : ∀ q, (q < 40 ∨ 452 ≤ q) → q ≠ 32 → M1 q = M q := fun q a b => x1 q b (by omega) (by omega)
  have oc : ∀ q, q < 455 → M2 q = M1 q := fun q a => by rw [y5 q (by omega) (by omega) (by omega) (by omega), th0_o M1 (by omega)]
  have o2 : ∀ q, (q < 40 ∨ (452 ≤ q ∧ q ≠ 455 ∧ q ≠ 458 ∧ q ≠ 471 ∧ (q < 463 ∨ 470 < q))) → q ≠ 32 → M2 q = M q := fun q a b => by rw [y5 q (by omega) (by omega) (by omega) (by omega), th0_o M1 (by omega), o1 q (by omega) b]
  have e32 : M2 32 = M1 32 := oc 32 (by omega)
  have e455 : ∀ f, f ≠ 0 → f ≠ 14 → f ≠ 18 → M2 455 f = M 455 f := fun f a b d => by rw [y1 f b d, th0_fn M1 a, o1 455 (by omega) (by omega)]
  have e458 : M1 458 = M 458 := o1 458 (by omega) (by omega)
  -- a world of the past that stays
  have hold : ∀ k, k < 8 → k ≠ pn → ∀ q, pb k ≤ q → q < pb k + 41 → M2 q = M q := fun k hk hne q a b => by
    have bk := HC_blo hC hk
    have d1 := HC_dj hC hk
    have d2 := z_base_dj ((HC_bs hC).2.1 k hk).1 ((HC_bs hC).2.1 pn p2).1 ((HC_bs hC).2.2 k pn hk p2 hne)
    rw [oc q (by omega), x1 q (by omega) (by omega) (by omega)]
  have hnew : ∀ k, k < 41 → M2 (pb pn + k) = M1 (pb pn + k) := fun k hk => oc _ (by omega)
  refine ⟨z_R_V (by rw [y6]; exact r) hn (fun k hk => oc _ (by omega)), by rw [y6]; exact f, ⟨by rw [e32, x2 1 (by omega) (by omega)]; exact t1, by rw [e455 2 (by omega) (by omega) (by omega)]; exact t2, t3, fun k => ?_⟩, fun k hk => ?_, ?_, ⟨by rw [e32]; exact x3, Nat.mod_lt _ (by omega), by rw [e32]; exact x4, by omega, y2⟩, fun j hj => ?_, fun i hi => ?_, fun k hk i hi => ?_⟩
  · rw [o2 33 (by omega) (by omega), o2 457 (by omega) (by omega)]; exact t4 k
  · rw [o2 34 (by omega) (by omega), o2 456 (by omega) (by omega)]; exact h4 k hk
  · rw [e32, x2 2 (by omega) (by omega), e455 5 (by omega) (by omega) (by omega)]; exact h5
  · -- the past, one more
    by_cases hl : j = min c 7
    · have ei : ((pn + 1) % 8 + 8 - min (c + 1) 8 + j) % 8 = pn := by omega
      rw [ei]
      refine ⟨n, J, z_R_V (z_R_x (z_R_mono hB x5) hn (fun a ha => ?_)) hn hnew, z_F_x (z_F_mono hB h2) (fun a ha => ?_)⟩
      · rw [hl, y4 a ha, th0_o M1 (by omega), e458]
      · rw [hl, y4 a ha, th0_o M1 (by omega), e458]
    · have hj7 : j < min c 7 := by omega
      obtain ⟨d, hd⟩ : ∃ d, d = c + 1 - min (c + 1) 8 := ⟨_, rfl⟩
      have y3' : ∀ a, a < 4326 → M2 (463 + j) a = M (463 + (j + d)) a := fun a ha => by
        rw [y3 j hj7 a ha, ← hd, th0_o M1 (by omega), show 463 + j + d = 463 + (j + d) by omega, o1 _ (by omega) (by omega)]
      obtain ⟨n', J', r', f'⟩ := h7 (j + d) (by omega)
      have hn' : n' ≤ 8 := f'.1.1.2
      have ei : ((pn + 1) % 8 + 8 - min (c + 1) 8 + j) % 8 = (pn + 8 - c + (j + d)) % 8 := by omega
      rw [ei]
      have i8 : (pn + 8 - c + (j + d)) % 8 < 8 := Nat.mod_lt _ (by omega)
      have ine : (pn + 8 - c + (j + d)) % 8 ≠ pn := by omega
      exact ⟨n', J', z_R_V (z_R_x (z_R_mono hB r') hn' y3') hn' (fun k hk => hold _ i8 ine _ (by omega) (by omega)), z_F_x (z_F_mono hB f') y3'⟩
  · rw [oc _ (by omega), x1 _ (by omega) (by omega) (by omega)]; exact h8 i hi
  · by_cases hk2 : k = pn
    · subst hk2
      rw [hnew _ (by omega)]
      exact x5.2.2.2.2.2.2 i hi
    · rw [hold k hk hk2 _ (by omega) (by omega)]; exact h9 k hk i hi
theorem JM_Lk (h : z_JM nb pb n J B tp pn c M) : z_Lk n (M 458) := fun a ha => by
  obtain ⟨_, d, d1, d2, _⟩ := h.1.2.1 a ha
  exact ⟨d, d1, d2⟩
end
theorem lg_s (G : zG) (p k : Nat) (x : Int64) : z_lg (z_setL G p k x) p k = x := by
  show (if p = p then (fun j => if j = k then x else G.2.2.2 p j) else _) k = x
  rw [if_pos rfl]
  show (if k = k then x else _) = x
  rw [if_pos rfl]
