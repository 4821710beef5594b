/-! ===== constructors: one more array, kept in a field ===== -/
def z_mk (G : zG) (p f : Nat) (kind : Nat × Nat) (sl : Nat) : zG := z_setR (z_new G kind sl) p f (z_np G)
def z_Al (G : zG) (p c : Nat) : Prop := z_kd G p = (0, c) ∧ 32 ≤ p ∧ p < z_np G ∧ z_np G = z_nc G + 32
theorem set_rf (G : zG) (p f q a k : Nat) : z_rf (z_setR G p f q) a k = if a = p ∧ k = f then q else z_rf G a k := by
  show (if a = p then (fun j => if j = f then q else G.2.2.1 p j) else G.2.2.1 a) k = if a = p ∧ k = f then q else G.2.2.1 a k
  by_cases h : a = p
  · subst h
    rw [if_pos rfl]
    show (if k = f then q else G.2.2.1 a k) = _
    by_cases h2 : k = f
    · rw [if_pos h2, if_pos (And.intro rfl h2)]
    · rw [if_neg h2, if_neg (fun x : a = a ∧ k = f => h2 x.2)]
  · rw [if_neg h, if_neg (fun x : a = p ∧ k = f => h x.1)]
theorem new_rf (G : zG) (kind : Nat × Nat) (sl a k : Nat) (h : a ≠ z_np G) : z_rf (z_new G kind sl) a k = z_rf G a k := by
  show (if a = z_np G then (fun _ => 0) else G.2.2.1 a) k = G.2.2.1 a k
  rw [if_neg h]
theorem new_kd (G : zG) (kind : Nat × Nat) (sl a : Nat) (h : a ≠ z_np G) : z_kd (z_new G kind sl) a = z_kd G a := by
  show (if a = z_np G then kind else G.2.1 a) = G.2.1 a
  rw [if_neg h]
theorem new_kds (G : zG) (kind : Nat × Nat) (sl : Nat) : z_kd (z_new G kind sl) (z_np G) = kind := by
  unfold z_kd z_new
  show (if G.1.1 = G.1.1 then kind else _) = _
  rw [if_pos rfl]
section
variable {G : zG} {p f c : Nat} {kind : Nat × Nat} {sl : Nat}
theorem mk_np : z_np (z_mk G p f kind sl) = z_np G + 1 := rfl
theorem mk_nc : z_nc (z_mk G p f kind sl) = z_nc G + 1 := rfl
theorem mk_ns : z_ns (z_mk G p f kind sl) = z_ns G + sl := rfl
theorem mk_kd {a : Nat} (h : a < z_np G) : z_kd (z_mk G p f kind sl) a = z_kd G a := new_kd G kind sl a (by omega)
theorem mk_kds : z_kd (z_mk G p f kind sl) (z_np G) = kind := new_kds G kind sl
theorem mk_kdp {a : Nat} (h : a ≠ z_np G) : z_kd (z_mk G p f kind sl) a = z_kd G a := new_kd G kind sl a h
theorem mk_rfs : z_rf (z_mk G p f kind sl) p f = z_np G := by unfold z_mk; rw [set_rf, if_pos ⟨rfl, rfl⟩]
theorem mk_rf {a k : Nat} (h : a < z_np G) (hk : a ≠ p ∨ k ≠ f) : z_rf (z_mk G p f kind sl) a k = z_rf G a k := by
  unfold z_mk; rw [set_rf, if_neg (by omega), new_rf _ _ _ _ _ (by omega)]
theorem mk_Al {q d : Nat} (h : z_Al G q d) : z_Al (z_mk G p f kind sl) q d := by
  obtain ⟨a, b, e, g⟩ := h
  exact ⟨(mk_kd e).trans a, b, by rw [mk_np]; omega, by rw [mk_np, mk_nc]; omega⟩
theorem x_mk74 (hA : z_Al G p c) (m a b cc pc c2 pc2 : Nat) (ops : List zO) (ls st : List Value) (M : zM) (n : Nat) (hn : n ≤ 100000) : z_ex m ((74, a, b, cc, pc) :: (19, c, f, c2, pc2) :: ops) ls (.int (nI n) :: .ref p :: st) G M = z_ex m ops ls st (z_mk G p f (1, n) n) (z_sA M (z_np G) (fun _ => 0)) := by
  obtain ⟨h1, h2, h3, h4⟩ := hA
  rw [xo_74 _ _ _ _ _ _ _ _ _ _ _ h4 hn, xo_19 _ _ _ _ _ _ _ _ _ _ _ _ ((new_kd _ _ _ _ (by omega)).trans h1) h2 (by omega)]; rfl
theorem x_mk76 (hA : z_Al G p c) (m a b cc pc c2 pc2 : Nat) (ops : List zO) (ls st : List Value) (M : zM) (n : Nat) (hn : n ≤ 100000) : z_ex m ((76, a, b, cc, pc) :: (19, c, f, c2, pc2) :: ops) ls (.int (nI n) :: .ref p :: st) G M = z_ex m ops ls st (z_mk G p f (a, n) n) (z_sA M (z_np G) (fun _ => 0)) := by
  obtain ⟨h1, h2, h3, h4⟩ := hA
  rw [xo_76 _ _ _ _ _ _ _ _ _ _ _ h4 hn, xo_19 _ _ _ _ _ _ _ _ _ _ _ _ ((new_kd _ _ _ _ (by omega)).trans h1) h2 (by omega)]; rfl
end
/-- what making d cells of s slots leaves as it was: all that stood, but p's own fields -/
def z_Xt (p d s : Nat) (G G' : zG) (M M' : zM) : Prop := (z_np G' = z_np G + d ∧ z_nc G' = z_nc G + d ∧ z_ns G' = z_ns G + s) ∧ (∀ a, a < z_np G → z_kd G' a = z_kd G a) ∧ (∀ a k, a < z_np G → a ≠ p → z_rf G' a k = z_rf G a k) ∧ ∀ a, a < z_np G → a ≠ p → M' a = M a
theorem Xt_trans {p q d s d2 s2 : Nat} {G G1 G2 : zG} {M M1 M2 : zM} (h : z_Xt p d s G G1 M M1) (g : z_Xt q d2 s2 G1 G2 M1 M2) (hq : q = p ∨ z_np G ≤ q) : z_Xt p (d + d2) (s + s2) G G2 M M2 := by
  obtain ⟨⟨a1, a2, a3⟩, b, e, f⟩ := h
  obtain ⟨⟨c1, c2, c3⟩, x, y, z⟩ := g
  exact ⟨⟨by omega, by omega, by omega⟩, fun a ha => (x a (by omega)).trans (b a ha), fun a k ha hp => (y a k (by omega) (by omega)).trans (e a k ha hp), fun a ha hp => (z a (by omega) (by omega)).trans (f a ha hp)⟩
theorem Xt_mk {G : zG} {p f : Nat} {kind : Nat × Nat} {sl : Nat} (M : zM) (g : Nat → Int32) : z_Xt p 1 sl G (z_mk G p f kind sl) M (z_sA M (z_np G) g) := ⟨⟨rfl, rfl, rfl⟩, fun a ha => mk_kd ha, fun a k ha hp => mk_rf ha (Or.inl hp), fun a ha _ => z_sA_n _ _ _ _ (by omega)⟩
theorem Xt_new {G : zG} (p : Nat) {kind : Nat × Nat} {sl : Nat} (M : zM) (g : Nat → Int32) : z_Xt p 1 sl G (z_new G kind sl) M (z_sA M (z_np G) g) := ⟨⟨rfl, rfl, rfl⟩, fun a ha => new_kd _ _ _ _ (by omega), fun a k ha _ => new_rf _ _ _ _ _ (by omega), fun a ha _ => z_sA_n _ _ _ _ (by omega)⟩
theorem Xt_set (G : zG) (p f q : Nat) (M : zM) : z_Xt p 0 0 G (z_setR G p f q) M M := ⟨⟨rfl, rfl, rfl⟩, fun _ _ => rfl, fun a k _ hp => by rw [set_rf, if_neg (fun x => hp x.1)], fun _ _ _ => rfl⟩
theorem Xt_u (G : zG) (p : Nat) (M : zM) (g : Nat → Int32) : z_Xt p 0 0 G G M (z_sA M p g) := ⟨⟨rfl, rfl, rfl⟩, fun _ _ => rfl, fun _ _ _ _ => rfl, fun a _ hp => z_sA_n _ _ _ _ hp⟩
theorem Xt_refl (G : zG) (p : Nat) (M : zM) : z_Xt p 0 0 G G M M := ⟨⟨rfl, rfl, rfl⟩, fun _ _ => rfl, fun _ _ _ _ => rfl, fun _ _ _ => rfl⟩
section
variable {G : zG} {p : Nat}
theorem c_P_init (hA : z_Al G p 3) (M : zM) : ∃ G' M', z_call 2 [.ref p] G M = some (.inl none, G', M') ∧ z_Xt p 2 12 G G' M M' ∧ (z_rf G' p 2 = z_np G ∧ z_rf G' p 3 = z_np G + 1) ∧ z_kd G' (z_np G) = (1, 4) ∧ z_kd G' (z_np G + 1) = (1, 8) ∧ M' p = M p := by
  have hp := hA.2.2.1
  refine ⟨_, _, by simp (disch := first | assumption | omega | decide | (repeat apply mk_Al) <;> assumption) only [ze_P_init, zk_P_init_0, xo_2_0, xo_68, xo_5, xo_6, xo_69, x_mk74] <;> rfl, Xt_trans (Xt_mk _ _) (Xt_mk _ _) (Or.inl rfl), ⟨?_, ?_⟩, ?_, ?_, ?_⟩
  · rw [mk_rf (by rw [mk_np]; omega) (by omega), mk_rfs]
  · rw [mk_rfs, mk_np]
  · rw [mk_kd (by rw [mk_np]; omega), mk_kds]
  · exact mk_kds (G := z_mk G p 2 (1, 4) 4)
  · rw [mk_np, z_sA_n _ _ _ _ (by omega), z_sA_n _ _ _ _ (by omega)]
theorem c_A_init (hA : z_Al G p 1) (M : zM) : ∃ G' M', z_call 4 [.ref p] G M = some (.inl none, G', M') ∧ z_Xt p 3 7216 G G' M M' ∧ (z_rf G' p 0 = z_np G ∧ z_rf G' p 4 = z_np G + 1 ∧ z_rf G' p 5 = z_np G + 2) ∧ z_kd G' (z_np G) = (1, 7200) ∧ z_kd G' (z_np G + 1) = (1, 8) ∧ z_kd G' (z_np G + 2) = (1, 8) ∧ M' p = M p := by
  have hp := hA.2.2.1
  refine ⟨_, _, by simp (disch := first | assumption | omega | decide | (repeat apply mk_Al) <;> assumption) only [ze_A_init, zk_A_init_0, xo_2_0, xo_68, xo_5, xo_6, xo_7, xo_69, x_mk74] <;> rfl, Xt_trans (Xt_trans (Xt_mk _ _) (Xt_mk _ _) (Or.inl rfl)) (Xt_mk _ _) (Or.inl rfl), ⟨?_, ?_, ?_⟩, ?_, ?_, ?_, ?_⟩
  · rw [mk_rf (by rw [mk_np, mk_np]; omega) (by omega), mk_rf (by rw [mk_np]; omega) (by omega), mk_rfs]
  · rw [mk_rf (by rw [mk_np, mk_np]; omega) (by omega), mk_rfs, mk_np]
  · rw [mk_rfs, mk_np, mk_np]
  · rw [mk_kd (by rw [mk_np, mk_np]; omega), mk_kd (by rw [mk_np]; omega), mk_kds]
  · rw [mk_kd (by rw [mk_np, mk_np]; omega)]; exact mk_kds (G := z_mk G p 0 (1, 7200) 7200)
  · exact mk_kds (G := z_mk (z_mk G p 0 (1, 7200) 7200) p 4 (1, 8) 8)
  · simp only [mk_np]
    rw [z_sA_n _ _ _ _ (by omega), z_sA_n _ _ _ _ (by omega), z_sA_n _ _ _ _ (by omega)]
theorem c_B_init (hA : z_Al G p 2) (M : zM) (v : Int32) : ∃ G' M', z_call 5 [.ref p, .int v] G M = some (.inl none, G', M') ∧ z_Xt p 3 19 G G' M M' ∧ (z_rf G' p 12 = z_np G ∧ z_rf G' p 13 = z_np G + 1 ∧ z_rf G' p 14 = z_np G + 2) ∧ z_kd G' (z_np G) = (1, 6) ∧ z_kd G' (z_np G + 1) = (1, 6) ∧ z_kd G' (z_np G + 2) = (1, 7) ∧ M' p 0 = v := by
  have hp := hA.2.2.1
  have h18 : ∀ (m b c pc : Nat) (ops : List zO) (ls st : List Value) (x : Int32) (G1 : zG) (M1 : zM), z_Al G1 p 2 → z_ex m ((18, 2, b, c, pc) :: ops) ls (.int x :: .ref p :: st) G1 M1 = z_ex m ops ls st G1 (z_sA M1 p (z_u (M1 p) b x)) := fun m b c pc ops ls st x G1 M1 h => xo_18 _ _ _ _ _ _ _ _ _ _ _ _ h.1 h.2.1
  refine ⟨_, _, by simp (disch := first | assumption | omega | decide | (repeat apply mk_Al) <;> assumption) only [ze_B_init, zk_B_init_0, xo_2_0, xo_0_1, xo_68, xo_5, xo_6, xo_7, xo_69, x_mk74, h18] <;> rfl, Xt_trans (Xt_trans (Xt_trans (Xt_mk _ _) (Xt_mk _ _) (Or.inl rfl)) (Xt_mk _ _) (Or.inl rfl)) (Xt_u _ _ _ _) (Or.inl rfl), ⟨?_, ?_, ?_⟩, ?_, ?_, ?_, ?_⟩
  · rw [mk_rf (by rw [mk_np, mk_np]; omega) (by omega), mk_rf (by rw [mk_np]; omega) (by omega), mk_rfs]
  · rw [mk_rf (by rw [mk_np, mk_np]; omega) (by omega), mk_rfs, mk_np]
  · rw [mk_rfs, mk_np, mk_np]
  · rw [mk_kd (by rw [mk_np, mk_np]; omega), mk_kd (by rw [mk_np]; omega), mk_kds]
  · rw [mk_kd (by rw [mk_np, mk_np]; omega)]; exact mk_kds (G := z_mk G p 12 (1, 6) 6)
  · exact mk_kds (G := z_mk (z_mk G p 12 (1, 6) 6) p 13 (1, 6) 6)
  · rw [z_sA_s, z_u_s]
theorem c_D_init (hp : 32 ≤ p) (hk : z_kd G p = (0, 0)) (M : zM) : z_call 6 [.ref p] G M = some (.inl none, G, M) := by
  simp (disch := first | assumption | omega | decide) only [ze_D_init, zk_D_init_0, xo_2_0, xo_68, xo_69]
end
