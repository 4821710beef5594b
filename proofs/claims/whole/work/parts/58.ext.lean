/-! ===== a row matters below 4326 alone ===== -/
theorem z_F_x {n J B : Nat} {s t : Nat → Int32} (h : z_F n J B s) (e : ∀ a, a < 4326 → t a = s a) : z_F n J B t := by
  refine z_F_eq h ?_ (fun a ha => e a (by omega)) (e 8 (by omega)) (fun a _ ha => e a (by omega))
  obtain ⟨⟨h0, hn⟩, h8, h4⟩ := h.1
  exact ⟨⟨(e 0 (by omega)).trans h0, hn⟩, by rw [e 8 (by omega)]; exact h8, by rw [e 4165 (by omega)]; exact h4⟩
theorem z_mf_28 : ∀ f, 3 ≤ f → f < 12 → z_mf f < 28 := by
  intro f h1 h2
  have : ∀ f, f < 12 → z_mf f < 28 := by decide
  exact this f h2
theorem z_R_x {fl : Bool} {kp : Nat × Nat} {n B : Nat} {V : zM} {s t : Nat → Int32} (h : z_R fl kp n B V s) (hn : n ≤ 8) (e : ∀ a, a < 4326 → t a = s a) : z_R fl kp n B V t := by
  obtain ⟨g0, g1, g2, g3, g4, g5⟩ := h
  refine ⟨z_R0_eq g0 (fun _ _ => rfl) (fun a ha => e a (by omega)), z_R1_eq g1 hn rfl (fun a _ ha => e a (by omega)), fun i hi => ?_, fun hf i hi => ?_, z_R4_eq g4 rfl (fun _ _ => rfl) rfl (e 8 (by omega)) (fun a _ ha => e a (by omega)), ?_⟩
  · obtain ⟨m1, m2, ⟨a, a1, a2, a3⟩, m4⟩ := g2 i hi
    refine ⟨m1, by rw [e _ (by omega)]; exact m2, ⟨a, a1, a2, fun j hj => ?_⟩, fun f h3 h12 => ?_⟩
    · rw [a3 j hj]
      by_cases hjn : j < n
      · rw [e _ (by omega), e _ (by omega)]
      · rw [decide_eq_false (fun q => hjn q.1), decide_eq_false (fun q => hjn q.1)]
    · have := z_mf_28 f h3 h12
      rw [e _ (by omega)]; exact m4 f h3 h12
  · obtain ⟨m1, m2, m3⟩ := g3 hf i hi
    exact ⟨fun k hk => by rw [e _ (by omega)]; exact m1 k hk, fun k hk => by rw [e _ (by omega)]; exact m2 k hk, fun k hk => by rw [e _ (by omega)]; exact m3 k hk⟩
  · obtain ⟨⟨c, c1, c2, c3, c4⟩, c5⟩ := g5
    exact ⟨⟨c, c1, c2, by rw [e _ (by omega)]; exact c3, fun p hp f hf => by rw [e _ (by omega)]; exact c4 p hp f hf⟩, c5⟩
theorem z_F_cp {n J B : Nat} {s : Nat → Int32} (h : z_F n J B s) (t : Nat → Int32) : z_F n J B (z_cp 4326 s t) := z_F_x h (fun a ha => z_cp_lt ha s t)
theorem z_R_cp {fl : Bool} {kp : Nat × Nat} {n B : Nat} {V : zM} {s : Nat → Int32} (h : z_R fl kp n B V s) (hn : n ≤ 8) (t : Nat → Int32) : z_R fl kp n B V (z_cp 4326 s t) := z_R_x h hn (fun a ha => z_cp_lt ha s t)
