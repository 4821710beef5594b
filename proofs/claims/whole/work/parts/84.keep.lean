/-! ===== what no run changes: the places that aren't ours; counts go up ===== -/
def z_Kp (G : zG) (M : zM) (G1 : zG) (M1 : zM) : Prop := (∀ q, q < 32 → z_kd G1 q = z_kd G q ∧ M1 q = M q) ∧ z_np G ≤ z_np G1 ∧ z_nc G ≤ z_nc G1 ∧ z_ns G ≤ z_ns G1
theorem z_Kp.rf (G : zG) (M : zM) : z_Kp G M G M := ⟨fun _ _ => ⟨rfl, rfl⟩, Nat.le_refl _, Nat.le_refl _, Nat.le_refl _⟩
theorem z_Kp.tr {G G1 G2 : zG} {M M1 M2 : zM} (h : z_Kp G M G1 M1) (h2 : z_Kp G1 M1 G2 M2) : z_Kp G M G2 M2 :=
  ⟨fun q hq => ⟨(h2.1 q hq).1.trans (h.1 q hq).1, (h2.1 q hq).2.trans (h.1 q hq).2⟩, Nat.le_trans h.2.1 h2.2.1, Nat.le_trans h.2.2.1 h2.2.2.1, Nat.le_trans h.2.2.2 h2.2.2.2⟩
theorem z_Kp.sA (G : zG) (M : zM) {p : Nat} (f : Nat → Int32) (hp : 32 ≤ p) : z_Kp G M G (z_sA M p f) :=
  ⟨fun q hq => ⟨rfl, by simp [z_sA, show q ≠ p by omega]⟩, Nat.le_refl _, Nat.le_refl _, Nat.le_refl _⟩
theorem z_Kp.sR (G : zG) (M : zM) (p k q : Nat) : z_Kp G M (z_setR G p k q) M := ⟨fun _ _ => ⟨rfl, rfl⟩, Nat.le_refl _, Nat.le_refl _, Nat.le_refl _⟩
theorem z_Kp.sL (G : zG) (M : zM) (p k : Nat) (x : Int64) : z_Kp G M (z_setL G p k x) M := ⟨fun _ _ => ⟨rfl, rfl⟩, Nat.le_refl _, Nat.le_refl _, Nat.le_refl _⟩
theorem z_Kp.nw {G : zG} (M : zM) (kind : Nat × Nat) (sl : Nat) (hn : 32 ≤ z_np G) : z_Kp G M (z_new G kind sl) (z_sA M (z_np G) (fun _ => 0)) := by
  refine ⟨fun q hq => ⟨?_, by simp [z_sA, show q ≠ z_np G by omega]⟩, ?_, ?_, ?_⟩
  · have : q ≠ G.1.1 := by have : z_np G = G.1.1 := rfl; omega
    simp [z_kd, z_new, this]
  · simp [z_np, z_new]
  · simp [z_nc, z_new]
  · simp [z_ns, z_new]
theorem z_Kp.n2 {G : zG} (M : zM) (n k : Nat) (hn : 32 ≤ z_np G) : z_Kp G M (z_new2 G n k) (z_new2M G n M) := by
  have e : z_np G = G.1.1 := rfl
  refine ⟨fun q hq => ⟨?_, ?_⟩, ?_, ?_, ?_⟩
  · have h1 : q ≠ G.1.1 := by omega
    have h2 : ¬ (G.1.1 < q ∧ q ≤ G.1.1 + n) := by omega
    simp [z_kd, z_new2, h1, h2]
  · have h2 : ¬ (G.1.1 ≤ q ∧ q ≤ G.1.1 + n) := by omega
    simp [z_new2M, h2]
  · simp [z_np, z_new2]
  · simp [z_nc, z_new2]
  · simp [z_ns, z_new2]
theorem z_Kp.th (G : zG) (M : zM) : z_Kp G M (z_thr G) M := ⟨fun _ _ => ⟨rfl, rfl⟩, Nat.le_refl _, by simp [z_nc, z_thr], by simp [z_ns, z_thr]⟩
set_option maxHeartbeats 4000000 in
theorem z_stepK {o a b : Nat} {ls st : List Value} {G : zG} {M : zM} {L : Option Nat} {ls' st' : List Value} {G1 : zG} {M1 : zM} (hn : 32 ≤ z_np G) (h : z_step o a b ls st G M = some (.inl (L, ls', st', G1, M1))) : z_Kp G M G1 M1 := by
  unfold z_step at h
  split at h
  all_goals first
    | (cases h; done)
    | (cases h; exact z_Kp.rf _ _)
    | (split at h <;> first | (cases h; done) | (cases h; exact z_Kp.rf _ _) | (split at h <;> first | (cases h; done) | (cases h; exact z_Kp.rf _ _) | (cases h; rename_i hc; first | exact z_Kp.sA _ _ _ hc.2 | exact z_Kp.sA _ _ _ hc.1.2 | exact z_Kp.sA _ _ _ hc.1.2.2 | exact z_Kp.sR _ _ _ _ _ | exact z_Kp.sL _ _ _ _ _ | exact z_Kp.nw _ _ _ hn | exact z_Kp.n2 _ _ _ hn)) | (cases h; exact z_Kp.nw _ _ _ hn))
    | (simp only [Option.map_eq_some_iff] at h; obtain ⟨q, -, hq⟩ := h; cases hq; done)
    | (split at h <;> first | (cases h; done) | (split at h <;> first | (cases h; done) | (split at h <;> first | (cases h; done) | (cases h; exact z_Kp.rf _ _))))
theorem z_stepD {o a b : Nat} {ls st : List Value} {G : zG} {M : zM} {d : zD} (h : z_step o a b ls st G M = some (.inr (.inl d))) : z_Kp G M d.2.1 d.2.2 := by
  unfold z_step at h
  split at h
  all_goals first
    | (cases h; done)
    | (cases h; exact z_Kp.th _ _)
    | (split at h <;> first | (cases h; done) | (cases h; exact z_Kp.rf _ _) | (cases h; exact z_Kp.th _ _) | (split at h <;> first | (cases h; done) | (cases h; exact z_Kp.rf _ _)))
    | (rename_i he; simp only [Option.map_eq_some_iff] at h; obtain ⟨q, -, hq⟩ := h; cases hq)
theorem z_runK : ∀ (n m : Nat) (ops : List zO) (ls st : List Value) (G : zG) (M : zM) (d : zD), 32 ≤ z_np G → z_run n m ops ls st G M = some d → z_Kp G M d.2.1 d.2.2 := by
  intro n
  induction n with
  | zero => intro m ops ls st G M d _ h; simp [z_run] at h
  | succ n ih =>
    intro m ops ls st G M d hn h
    cases ops with
    | nil => simp [z_run] at h
    | cons op ops =>
      rw [z_run] at h
      generalize hs : z_step op.1 op.2.1 op.2.2.1 ls st G M = r at h
      rcases r with _ | ⟨L, ls', st', G', M'⟩ | d' | ⟨f, av, rest⟩
      · cases h
      · have k1 := z_stepK hn hs
        exact k1.tr (ih _ _ _ _ _ _ _ (Nat.le_trans hn k1.2.1) h)
      · cases h
        exact z_stepD hs
      · dsimp only at h
        generalize hc : z_run n f (z_blk f 0) (z_ent f av) [] G M = rc at h
        rcases rc with _ | ⟨q, G', M'⟩
        · cases h
        · have k1 := ih _ _ _ _ _ _ _ hn hc
          have hn' := Nat.le_trans hn k1.2.1
          rcases q with r | E
          · exact k1.tr (ih _ _ _ _ _ _ _ hn' h)
          · dsimp only at h
            by_cases h64 : op.1 = 64
            · rw [if_pos h64] at h
              generalize z_hd m E = hh at h
              rcases hh with _ | ⟨t, k⟩
              · cases h
                exact k1
              · dsimp only at h
                generalize z_put ls k .null = pp at h
                rcases pp with _ | ls'
                · cases h
                · exact k1.tr (ih _ _ _ _ _ _ _ hn' h)
            · rw [if_neg h64] at h
              cases h
