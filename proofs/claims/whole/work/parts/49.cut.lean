/-! ===== links are cut: in both ===== -/
def z_sg (g : Nat → Nat) : Nat → Nat → Nat
  | 0, _ => 0
  | r + 1, k => g k + z_sg g r (k + 1)
theorem z_sg_s (g : Nat → Nat) (r k : Nat) : z_sg g (r + 1) k = g k + z_sg g r (k + 1) := rfl
theorem z_sg_r (g : Nat → Nat) : ∀ r k, z_sg g (r + 1) k = z_sg g r k + g (k + r)
  | 0, k => by rw [z_sg_s]; show g k + 0 = 0 + g (k + 0); rw [Nat.add_zero, Nat.add_zero, Nat.zero_add]
  | r + 1, k => by rw [z_sg_s, z_sg_r g r (k + 1), z_sg_s, show k + 1 + r = k + (r + 1) by omega]; omega
theorem z_sg_congr {g h : Nat → Nat} : ∀ r k, (∀ j, k ≤ j → j < k + r → g j = h j) → z_sg g r k = z_sg h r k
  | 0, _, _ => rfl
  | r + 1, k, e => by rw [z_sg_s, z_sg_s, e k (Nat.le_refl _) (by omega), z_sg_congr r (k + 1) (fun j h1 h2 => e j (by omega) (by omega))]
theorem z_sg_add (g h : Nat → Nat) : ∀ r k, z_sg (fun j => g j + h j) r k = z_sg g r k + z_sg h r k
  | 0, _ => rfl
  | r + 1, k => by rw [z_sg_s, z_sg_s, z_sg_s, z_sg_add g h r (k + 1)]; omega
theorem z_fd_sg (g : Nat → Nat) : ∀ r k h, z_fd (fun k h => h + g k) r k h = h + z_sg g r k
  | 0, _, _ => rfl
  | r + 1, k, h => by rw [z_fd_s, z_fd_sg g r (k + 1), z_sg_s]; omega
theorem z_dbl (f : Nat → Nat → Nat) (hd : ∀ i, f i i = 0) : ∀ n, z_sg (fun i => z_sg (f i) n 0) n 0 = z_sg (fun a => z_sg (fun b => f a b + f b a) (n - (a + 1)) (a + 1)) n 0
  | 0 => rfl
  | n + 1 => by
    rw [z_sg_r, z_sg_r (fun a => z_sg (fun b => f a b + f b a) (n + 1 - (a + 1)) (a + 1))]
    have e1 : z_sg (fun i => z_sg (f i) (n + 1) 0) n 0 = z_sg (fun i => z_sg (f i) n 0) n 0 + z_sg (fun i => f i n) n 0 := by
      rw [← z_sg_add]
      exact z_sg_congr n 0 (fun j _ _ => by rw [z_sg_r, Nat.zero_add])
    have e2 : z_sg (fun a => z_sg (fun b => f a b + f b a) (n + 1 - (a + 1)) (a + 1)) n 0 = z_sg (fun a => z_sg (fun b => f a b + f b a) (n - (a + 1)) (a + 1)) n 0 + z_sg (fun a => f a n + f n a) n 0 := by
      rw [← z_sg_add]
      refine z_sg_congr n 0 (fun j _ hj => ?_)
      rw [show n + 1 - (j + 1) = n - (j + 1) + 1 by omega, z_sg_r, show j + 1 + (n - (j + 1)) = n by omega]
    have e3 : z_sg (fun b => f (0 + n) b + f b (0 + n)) (n + 1 - (0 + n + 1)) (0 + n + 1) = 0 := by
      rw [show n + 1 - (0 + n + 1) = 0 by omega]; rfl
    rw [e1, e2, e3, z_dbl f hd n, z_sg_add, Nat.zero_add, z_sg_r, Nat.zero_add, hd]
    omega
/-- a pair's link is cut -/
def f_c2 (set : Int32) (a b : Nat) (p : (Nat → Int32) × Nat) : (Nat → Int32) × Nat := if zf_has set (nI a) = zf_has set (nI b) ∨ zf_has (p.1 (25 + a)) (nI b) = true then p else (z_u (z_u p.1 (25 + a) (p.1 (25 + a) ||| (nI 1 <<< (nI b &&& 31)))) (25 + b) (p.1 (25 + b) ||| (nI 1 <<< (nI a &&& 31))), p.2 + 1)
def f_c1 (set : Int32) (n a : Nat) (p : (Nat → Int32) × Nat) : (Nat → Int32) × Nat := z_fd (f_c2 set a) (n - (a + 1)) (a + 1) p
def f_cu (set : Int32) (n : Nat) (s : Nat → Int32) : (Nat → Int32) × Nat := z_fd (f_c1 set n) n 0 (s, 0)
def z_dq (a b x y : Nat) : Bool := decide (min x y < a ∨ (min x y = a ∧ max x y < b))
/-- how far the cutting is -/
def z_CI (u n : Nat) (c : Nat → Nat) (s : Nat → Int32) (a b : Nat) (p : (Nat → Int32) × Nat) : Prop :=
  (∀ q, (q < 25 ∨ 25 + n ≤ q) → p.1 q = s q) ∧ (∀ x, x < n → ∃ d, d < 256 ∧ p.1 (25 + x) = nI d ∧ ∀ y, y < 8 → d.testBit y = ((c x).testBit y || (decide (y < n ∧ y ≠ x) && ((u.testBit x != u.testBit y) && z_dq a b x y))))
def z_gc (u : Nat) (c : Nat → Nat) (a b : Nat) : Nat := ((u.testBit a != u.testBit b) && !(c a).testBit b).toNat
theorem z_CI_step {u n a b : Nat} {c : Nat → Nat} {s : Nat → Int32} {p : (Nat → Int32) × Nat} (hu : u < 256) (hn : n ≤ 8) (hsym : ∀ x y, x < n → y < n → (c x).testBit y = (c y).testBit x) (hab : a < b) (hb : b < n) (h : z_CI u n c s a b p) : z_CI u n c s a (b + 1) (f_c2 (nI u) a b p) ∧ (f_c2 (nI u) a b p).2 = p.2 + z_gc u c a b := by
  obtain ⟨h1, h2⟩ := h
  have hdone : z_dq a b a b = false := by
    unfold z_dq
    exact decide_eq_false (by rw [Nat.min_eq_left (by omega), Nat.max_eq_right (by omega)]; omega)
  obtain ⟨da, da1, da2, da3⟩ := h2 a (by omega)
  have hda : da.testBit b = (c a).testBit b := by
    rw [da3 b (by omega), hdone, Bool.and_false, Bool.and_false, Bool.or_false]
  have hother : ∀ x y, x < n → y < n → x ≠ y → ¬ ((x = a ∧ y = b) ∨ (x = b ∧ y = a)) → z_dq a (b + 1) x y = z_dq a b x y := by
    intro x y hx hy hxy hno
    unfold z_dq
    refine decide_eq_decide.mpr ⟨fun q => ?_, fun q => ?_⟩
    · rcases Nat.lt_or_ge x y with hxy2 | hxy2
      · rw [Nat.min_eq_left (by omega), Nat.max_eq_right (by omega)] at q ⊢; omega
      · rw [Nat.min_eq_right (by omega), Nat.max_eq_left (by omega)] at q ⊢; omega
    · rcases Nat.lt_or_ge x y with hxy2 | hxy2
      · rw [Nat.min_eq_left (by omega), Nat.max_eq_right (by omega)] at q ⊢; omega
      · rw [Nat.min_eq_right (by omega), Nat.max_eq_left (by omega)] at q ⊢; omega
  have hdn1 : z_dq a (b + 1) a b = true := decide_eq_true (by rw [Nat.min_eq_left (by omega), Nat.max_eq_right (by omega)]; omega)
  have hdn2 : z_dq a (b + 1) b a = true := decide_eq_true (by rw [Nat.min_eq_right (by omega), Nat.max_eq_left (by omega)]; omega)
  -- the formula where nothing is changed
  have keep : ((u.testBit a != u.testBit b) = false ∨ (c a).testBit b = true) → z_CI u n c s a (b + 1) p := by
    intro hc
    refine ⟨h1, fun x hx => ?_⟩
    obtain ⟨d, d1, d2, d3⟩ := h2 x hx
    refine ⟨d, d1, d2, fun y hy => ?_⟩
    rw [d3 y hy]
    by_cases hyn : y < n ∧ y ≠ x
    · by_cases hp : (x = a ∧ y = b) ∨ (x = b ∧ y = a)
      · rcases hc with hc | hc
        · have hcx : (u.testBit x != u.testBit y) = false := by
            rcases hp with ⟨rfl, rfl⟩ | ⟨rfl, rfl⟩
            · exact hc
            · revert hc; cases u.testBit x <;> cases u.testBit y <;> simp
          rw [hcx]; simp
        · have hcx : (c x).testBit y = true := by
            rcases hp with ⟨rfl, rfl⟩ | ⟨rfl, rfl⟩
            · exact hc
            · rw [hsym x y hb (by omega)]; exact hc
          rw [hcx, Bool.true_or, Bool.true_or]
      · rw [hother x y hx hyn.1 (fun e => hyn.2 e.symm) hp]
    · rw [decide_eq_false hyn, Bool.false_and, Bool.false_and]
  unfold f_c2 z_gc
  rw [z_hasN u hu a (by omega), z_hasN u hu b (by omega), da2, z_hasN da da1 b (by omega), hda]
  by_cases hcr : u.testBit a = u.testBit b
  · rw [if_pos (Or.inl hcr)]
    have e : (u.testBit a != u.testBit b) = false := by rw [hcr]; cases u.testBit b <;> rfl
    exact ⟨keep (Or.inl e), by rw [e]; rfl⟩
  · have e : (u.testBit a != u.testBit b) = true := by
      revert hcr; cases u.testBit a <;> cases u.testBit b <;> simp
    cases hcab : (c a).testBit b
    · rw [if_neg (fun q => q.elim hcr Bool.false_ne_true)]
      refine ⟨⟨fun q hq => ?_, fun x hx => ?_⟩, by rw [e]; rfl⟩
      · dsimp only; rw [z_u_n _ _ _ _ (by omega), z_u_n _ _ _ _ (by omega)]; exact h1 q hq
      · obtain ⟨d, d1, d2, d3⟩ := h2 x hx
        by_cases hxa : x = a
        · subst hxa
          have : d = da := (nI_eq (by omega) (by omega)).mp (d2.symm.trans da2)
          subst this
          refine ⟨d ||| 2 ^ b, z_or8 d1 (by omega), by dsimp only; rw [z_u_n _ _ _ _ (by omega), z_u_s, z_bitN b (by omega), z_orN d d1 b (by omega)], fun y hy => ?_⟩
          rw [Nat.testBit_or, d3 y hy, Nat.testBit_two_pow]
          by_cases hyb : b = y
          · subst hyb
            rw [decide_eq_true (rfl : b = b), Bool.or_true, e, hdn1, decide_eq_true (show b < n ∧ b ≠ x from ⟨hb, by omega⟩)]; simp
          · rw [decide_eq_false hyb, Bool.or_false]
            by_cases hyn : y < n ∧ y ≠ x
            · rw [hother x y hx hyn.1 (fun e => hyn.2 e.symm) (by omega)]
            · rw [decide_eq_false hyn, Bool.false_and, Bool.false_and]
        · by_cases hxb : x = b
          · subst hxb
            refine ⟨d ||| 2 ^ a, z_or8 d1 (by omega), by dsimp only; rw [z_u_s, d2, z_bitN a (by omega), z_orN d d1 a (by omega)], fun y hy => ?_⟩
            rw [Nat.testBit_or, d3 y hy, Nat.testBit_two_pow]
            by_cases hya : a = y
            · subst hya
              have e' : (u.testBit x != u.testBit a) = true := by revert e; cases u.testBit a <;> cases u.testBit x <;> simp
              rw [decide_eq_true (rfl : a = a), Bool.or_true, e', hdn2, decide_eq_true (show a < n ∧ a ≠ x from ⟨by omega, by omega⟩)]; simp
            · rw [decide_eq_false hya, Bool.or_false]
              by_cases hyn : y < n ∧ y ≠ x
              · rw [hother x y hx hyn.1 (fun e => hyn.2 e.symm) (by omega)]
              · rw [decide_eq_false hyn, Bool.false_and, Bool.false_and]
          · refine ⟨d, d1, by dsimp only; rw [z_u_n _ _ _ _ (by omega), z_u_n _ _ _ _ (by omega)]; exact d2, fun y hy => ?_⟩
            rw [d3 y hy]
            by_cases hyn : y < n ∧ y ≠ x
            · rw [hother x y hx hyn.1 (fun e => hyn.2 e.symm) (by omega)]
            · rw [decide_eq_false hyn, Bool.false_and, Bool.false_and]
    · rw [if_pos (Or.inr rfl)]
      exact ⟨keep (Or.inr hcab), by rw [e]; rfl⟩
theorem z_CI_in {u n : Nat} {c : Nat → Nat} {s : Nat → Int32} (hu : u < 256) (hn : n ≤ 8) (hsym : ∀ x y, x < n → y < n → (c x).testBit y = (c y).testBit x) {a : Nat} : ∀ r b p, b + r = n → a < b → z_CI u n c s a b p → z_CI u n c s a n (z_fd (f_c2 (nI u) a) r b p) ∧ (z_fd (f_c2 (nI u) a) r b p).2 = p.2 + z_sg (z_gc u c a) r b
  | 0, b, p, e, _, h => by
    obtain rfl : b = n := by omega
    exact ⟨h, rfl⟩
  | r + 1, b, p, e, hab, h => by
    obtain ⟨h1, h2⟩ := z_CI_step hu hn hsym hab (by omega) h
    obtain ⟨h3, h4⟩ := z_CI_in hu hn hsym r (b + 1) (f_c2 (nI u) a b p) (by omega) (by omega) h1
    rw [z_fd_s]
    exact ⟨h3, by rw [h4, h2, z_sg_s]; omega⟩
theorem z_CI_mv {u n a b a' b' : Nat} {c : Nat → Nat} {s : Nat → Int32} {p : (Nat → Int32) × Nat} (h : z_CI u n c s a b p) (he : ∀ x y, x < n → y < n → x ≠ y → z_dq a' b' x y = z_dq a b x y) : z_CI u n c s a' b' p := by
  obtain ⟨h1, h2⟩ := h
  refine ⟨h1, fun x hx => ?_⟩
  obtain ⟨d, d1, d2, d3⟩ := h2 x hx
  refine ⟨d, d1, d2, fun y hy => ?_⟩
  rw [d3 y hy]
  by_cases hyn : y < n ∧ y ≠ x
  · rw [he x y hx hyn.1 (fun e => hyn.2 e.symm)]
  · rw [decide_eq_false hyn, Bool.false_and, Bool.false_and]
theorem z_dq_eq {n a x y : Nat} (hx : x < n) (hy : y < n) (hxy : x ≠ y) : z_dq (a + 1) (a + 1 + 1) x y = z_dq a n x y := by
  unfold z_dq
  refine decide_eq_decide.mpr ⟨fun q => ?_, fun q => ?_⟩
  · rcases Nat.lt_or_ge x y with hxy2 | hxy2
    · rw [Nat.min_eq_left (by omega), Nat.max_eq_right (by omega)] at q ⊢; omega
    · rw [Nat.min_eq_right (by omega), Nat.max_eq_left (by omega)] at q ⊢; omega
  · rcases Nat.lt_or_ge x y with hxy2 | hxy2
    · rw [Nat.min_eq_left (by omega), Nat.max_eq_right (by omega)] at q ⊢; omega
    · rw [Nat.min_eq_right (by omega), Nat.max_eq_left (by omega)] at q ⊢; omega
theorem z_CI_out {u n : Nat} {c : Nat → Nat} {s : Nat → Int32} (hu : u < 256) (hn : n ≤ 8) (hsym : ∀ x y, x < n → y < n → (c x).testBit y = (c y).testBit x) : ∀ r a p, a + r = n → z_CI u n c s a (a + 1) p → z_CI u n c s n (n + 1) (z_fd (f_c1 (nI u) n) r a p) ∧ (z_fd (f_c1 (nI u) n) r a p).2 = p.2 + z_sg (fun a => z_sg (z_gc u c a) (n - (a + 1)) (a + 1)) r a
  | 0, a, p, e, h => by
    have ha : a = n := by omega
    subst ha
    exact ⟨h, rfl⟩
  | r + 1, a, p, e, h => by
    obtain ⟨h1, h2⟩ := z_CI_in hu hn hsym (a := a) (n - (a + 1)) (a + 1) p (by omega) (by omega) h
    have h1' : z_CI u n c s (a + 1) (a + 1 + 1) (f_c1 (nI u) n a p) := z_CI_mv h1 (fun x y hx hy hxy => z_dq_eq hx hy hxy)
    obtain ⟨h3, h4⟩ := z_CI_out hu hn hsym r (a + 1) (f_c1 (nI u) n a p) (by omega) h1'
    rw [z_fd_s]
    refine ⟨h3, ?_⟩
    rw [h4, z_sg_s]
    have : (f_c1 (nI u) n a p).2 = p.2 + z_sg (z_gc u c a) (n - (a + 1)) (a + 1) := h2
    rw [this]; omega
theorem f_cu_p {u n : Nat} {c : Nat → Nat} {s : Nat → Int32} (hu : u < 256) (hn : n ≤ 8) (hc : ∀ x, x < n → c x < 256 ∧ s (25 + x) = nI (c x)) (hsym : ∀ x y, x < n → y < n → (c x).testBit y = (c y).testBit x) : (∀ q, (q < 25 ∨ 25 + n ≤ q) → (f_cu (nI u) n s).1 q = s q) ∧ (∀ x, x < n → ∃ d, d < 256 ∧ (f_cu (nI u) n s).1 (25 + x) = nI d ∧ ∀ y, y < 8 → d.testBit y = ((c x).testBit y || (decide (y < n ∧ y ≠ x) && (u.testBit x != u.testBit y)))) ∧ (f_cu (nI u) n s).2 = z_sg (fun a => z_sg (z_gc u c a) (n - (a + 1)) (a + 1)) n 0 := by
  have h0 : z_CI u n c s 0 (0 + 1) (s, 0) := ⟨fun _ _ => rfl, fun x hx => ⟨c x, (hc x hx).1, (hc x hx).2, fun y hy => by
    by_cases hyn : y < n ∧ y ≠ x
    · have : z_dq 0 (0 + 1) x y = false := decide_eq_false (by
        rcases Nat.lt_or_ge x y with hxy2 | hxy2
        · rw [Nat.min_eq_left (by omega), Nat.max_eq_right (by omega)]; omega
        · rw [Nat.min_eq_right (by omega), Nat.max_eq_left (by omega)]; omega)
      rw [this, Bool.and_false, Bool.and_false, Bool.or_false]
    · rw [decide_eq_false hyn, Bool.false_and, Bool.or_false]⟩⟩
  obtain ⟨⟨h1, h2⟩, h3⟩ := z_CI_out hu hn hsym n 0 (s, 0) (by omega) h0
  refine ⟨h1, fun x hx => ?_, by rw [show (f_cu (nI u) n s).2 = (z_fd (f_c1 (nI u) n) n 0 (s, 0)).2 from rfl, h3]; show 0 + _ = _; rw [Nat.zero_add]⟩
  obtain ⟨d, d1, d2, d3⟩ := h2 x hx
  refine ⟨d, d1, d2, fun y hy => ?_⟩
  rw [d3 y hy]
  by_cases hyn : y < n ∧ y ≠ x
  · have : z_dq n (n + 1) x y = true := decide_eq_true (by left; exact Nat.lt_of_le_of_lt (Nat.min_le_left x y) hx)
    rw [this, Bool.and_true]
  · rw [decide_eq_false hyn, Bool.false_and, Bool.false_and]
theorem c_M_cuts {G : zG} (hM : z_HM G) (M : zM) {n : Nat} (h0 : M 458 0 = nI n) (hn : n ≤ 8) (set : Int32) : z_call 201 [.ref 455, .int set] G M = some (.inl (some (.int (nI (f_cu set n (M 458)).2))), G, z_sA M 458 (f_cu set n (M 458)).1) := by
  obtain ⟨k0, ⟨r1, r8, r9, r10, r11, r12, r13, r17⟩, ⟨q1, q2⟩, ⟨q3, q4⟩, ⟨q5, q6⟩, ⟨q7, q8⟩, ⟨q9, q10⟩, ⟨q11, q12⟩, ⟨q13, q14⟩, ⟨q15, q16⟩, hp⟩ := id hM; have kr : ∀ a, z_rc a = 7 → z_kd G 455 = (0, z_rc a) := fun a h => (by rw [h]; exact k0)
  have hltn : ¬ nI n < nI n := nI_nlt (Nat.le_refl _) (by omega)
  have e0 : z_call 201 [.ref 455, .int set] G M = z_ex 201 (z_blk 201 4) [.ref 455, .int set, .int (nI 0), .int (nI 0), .null] [] G (z_sA M 458 (M 458)) := by
    rw [z_sA_id]
    simp only [ze_M_cuts, zk_M_cuts_0, xo_5, xo_10_2i, xo_10_2r, xo_10_2n, xo_10_3i, xo_10_3r, xo_10_3n, xo_55, xo_0_3, xo_2_0, xo_17, xo_32, xo_45, xo_20, xo_11_4i, xo_11_4r, xo_11_4n, xo_1_4, xo_0_1, xo_63_2, xk_v, xk_n, xo_42, xo_64_3, xo_49, xo_54, xo_6, xo_40, xo_26, xo_24, xo_33, xo_15_2i, xo_15_2r, xo_15_2n, xo_15_4i, xo_15_4r, xo_15_4n, xo_15_3i, xo_15_3r, xo_15_3n, xo_0_2, xo_70]
  have inn : ∀ (a : Nat) (p : (Nat → Int32) × Nat), a < n → p.1 0 = nI n → z_ex 201 (z_blk 201 19) [.ref 455, .int set, .int (nI p.2), .int (nI a), .int (nI (a + 1))] [] G (z_sA M 458 p.1) = z_ex 201 (z_blk 201 98) [.ref 455, .int set, .int (nI (f_c1 set n a p).2), .int (nI a), .int (nI n)] [] G (z_sA M 458 (f_c1 set n a p).1) ∧ (f_c1 set n a p).1 0 = nI n := by
    intro a p ha hp
    have hI := z_fd_inv (f := f_c2 set a) (fun _ p => p.1 0 = nI n) (n - (a + 1)) (a + 1) p hp (fun b q _ _ hq => by
      unfold f_c2
      split
      · exact hq
      · dsimp only; rw [z_u_n _ _ _ _ (by omega), z_u_n _ _ _ _ (by omega)]; exact hq)
    refine ⟨?_, hI⟩
    have e := z_loop (fun b (p : (Nat → Int32) × Nat) => z_ex 201 (z_blk 201 19) [.ref 455, .int set, .int (nI p.2), .int (nI a), .int (nI b)] [] G (z_sA M 458 p.1)) (f_c2 set a) n (fun b p => p.1 0 = nI n ∧ a < b) (by
      intro b q hb hI
      obtain ⟨i1, i2⟩ := hI
      have hlt : nI b < nI n := nI_lt hb (by omega)
      obtain ⟨t, h⟩ := q
      dsimp only at i1 ⊢
      unfold f_c2
      dsimp only
      by_cases hs : zf_has set (nI a) = zf_has set (nI b)
      · rw [if_pos (Or.inl hs)]
        refine ⟨?_, i1, by omega⟩
        have hz : (z_b (zf_has set (nI b)) = z_b (zf_has set (nI b))) = True := eq_true rfl
        conv => lhs; rw [zk_M_cuts_19]
        simp (disch := first | assumption | exact kr _ rfl | omega | exact Nat.le_of_ble_eq_true rfl) only [xo_5, xo_10_2i, xo_10_2r, xo_10_2n, xo_10_3i, xo_10_3r, xo_10_3n, xo_55, xo_0_3, xo_2_0, xo_17, xo_32, xo_45, xo_20, xo_11_4i, xo_11_4r, xo_11_4n, xo_1_4, zk_M_cuts_30, xo_0_1, xo_63_2, xk_v, xk_n, xo_42, xo_64_3, xo_49, xo_54, xo_6, xo_40, xo_26, xo_24, xo_33, xo_15_2i, xo_15_2r, xo_15_2n, zk_M_cuts_92, xo_15_4i, xo_15_4r, xo_15_4n, xo_15_3i, xo_15_3r, xo_15_3n, xo_0_2, xo_70, nI_add, pk_mul, Nat.add_zero, z_sA_s, z_sA_sA, z_u_s, r9, i1, hlt, c_M_has, hs, hz, if_true, if_false, eq_self, Bool.true_eq_false, Bool.false_eq_true, and_true, true_and, and_false, false_and, or_true, true_or, or_false, false_or, ne_eq, not_true_eq_false, not_false_eq_true, decide_true, decide_false, z_sA_id]
      · have hz : (z_b (zf_has set (nI a)) = z_b (zf_has set (nI b))) = False := eq_false (by
          revert hs
          cases zf_has set (nI a) <;> cases zf_has set (nI b) <;> intro hs <;> (first | exact absurd rfl hs | decide))
        cases hw : zf_has (t (25 + a)) (nI b)
        · rw [if_neg (fun q => q.elim hs Bool.false_ne_true)]
          refine ⟨?_, by dsimp only; rw [z_u_n _ _ _ _ (by omega), z_u_n _ _ _ _ (by omega)]; exact i1, by omega⟩
          conv => lhs; rw [zk_M_cuts_19]
          simp (disch := first | assumption | exact kr _ rfl | omega | exact Nat.le_of_ble_eq_true rfl) only [xo_5, xo_10_2i, xo_10_2r, xo_10_2n, xo_10_3i, xo_10_3r, xo_10_3n, xo_55, xo_0_3, xo_2_0, xo_17, xo_32, xo_45, xo_20, xo_11_4i, xo_11_4r, xo_11_4n, xo_1_4, zk_M_cuts_30, xo_0_1, xo_63_2, xk_v, xk_n, xo_42, zk_M_cuts_44, xo_64_3, xo_49, xo_54, zk_M_cuts_57, xo_6, xo_40, xo_26, xo_24, xo_33, xo_15_2i, xo_15_2r, xo_15_2n, zk_M_cuts_92, xo_15_4i, xo_15_4r, xo_15_4n, xo_15_3i, xo_15_3r, xo_15_3n, xo_0_2, xo_70, nI_add, pk_mul, Nat.add_zero, z_sA_s, z_sA_sA, z_u_s, r9, i1, hlt, c_M_has, hz, zr_M_isWhole, c_M_isWhole hM, hw, Bool.not_false, z_b0, z_u_n, if_true, if_false, eq_self, Bool.true_eq_false, Bool.false_eq_true, and_true, true_and, and_false, false_and, or_true, true_or, or_false, false_or, ne_eq, not_true_eq_false, not_false_eq_true, decide_true, decide_false, z_sA_id]
        · rw [if_pos (Or.inr rfl)]
          refine ⟨?_, i1, by omega⟩
          conv => lhs; rw [zk_M_cuts_19]
          simp (disch := first | assumption | exact kr _ rfl | omega | exact Nat.le_of_ble_eq_true rfl) only [xo_5, xo_10_2i, xo_10_2r, xo_10_2n, xo_10_3i, xo_10_3r, xo_10_3n, xo_55, xo_0_3, xo_2_0, xo_17, xo_32, xo_45, xo_20, xo_11_4i, xo_11_4r, xo_11_4n, xo_1_4, zk_M_cuts_30, xo_0_1, xo_63_2, xk_v, xk_n, xo_42, zk_M_cuts_44, xo_64_3, xo_49, zk_M_cuts_54, xo_54, xo_6, xo_40, xo_26, xo_24, xo_33, xo_15_2i, xo_15_2r, xo_15_2n, zk_M_cuts_92, xo_15_4i, xo_15_4r, xo_15_4n, xo_15_3i, xo_15_3r, xo_15_3n, xo_0_2, xo_70, nI_add, pk_mul, Nat.add_zero, z_sA_s, z_sA_sA, z_u_s, r9, i1, hlt, c_M_has, hz, zr_M_isWhole, c_M_isWhole hM, hw, Bool.not_true, z_b0, if_true, if_false, eq_self, Bool.true_eq_false, Bool.false_eq_true, and_true, true_and, and_false, false_and, or_true, true_or, or_false, false_or, ne_eq, not_true_eq_false, not_false_eq_true, decide_true, decide_false, z_sA_id]) (n - (a + 1)) (a + 1) p (by omega) ⟨hp, by omega⟩
    have hI0 : (f_c1 set n a p).1 0 = nI n := hI
    show z_ex 201 (z_blk 201 19) [.ref 455, .int set, .int (nI p.2), .int (nI a), .int (nI (a + 1))] [] G (z_sA M 458 p.1) = _
    rw [e]
    show z_ex 201 (z_blk 201 19) [.ref 455, .int set, .int (nI (f_c1 set n a p).2), .int (nI a), .int (nI n)] [] G (z_sA M 458 (f_c1 set n a p).1) = _
    conv => lhs; rw [zk_M_cuts_19]
    simp (disch := first | assumption | exact kr _ rfl | omega | exact Nat.le_of_ble_eq_true rfl) only [xo_5, xo_10_2i, xo_10_2r, xo_10_2n, xo_10_3i, xo_10_3r, xo_10_3n, xo_55, xo_0_3, xo_2_0, xo_17, xo_32, xo_45, xo_20, xo_11_4i, xo_11_4r, xo_11_4n, xo_1_4, xo_0_1, xo_63_2, xk_v, xk_n, xo_42, xo_64_3, xo_49, xo_54, xo_6, xo_40, xo_26, xo_24, xo_33, xo_15_2i, xo_15_2r, xo_15_2n, xo_15_4i, xo_15_4r, xo_15_4n, xo_15_3i, xo_15_3r, xo_15_3n, xo_0_2, xo_70, nI_add, pk_mul, Nat.add_zero, z_sA_s, z_sA_sA, z_u_s, r9, hI0, hltn, if_true, if_false, eq_self, Bool.true_eq_false, Bool.false_eq_true, and_true, true_and, and_false, false_and, or_true, true_or, or_false, false_or, ne_eq, not_true_eq_false, not_false_eq_true, decide_true, decide_false, z_sA_id]
  have out : ∀ (r a : Nat) (p : (Nat → Int32) × Nat) (w : Value), a + r = n → p.1 0 = nI n → z_ex 201 (z_blk 201 4) [.ref 455, .int set, .int (nI p.2), .int (nI a), w] [] G (z_sA M 458 p.1) = some (.inl (some (.int (nI (z_fd (f_c1 set n) r a p).2))), G, z_sA M 458 (z_fd (f_c1 set n) r a p).1) := by
    intro r
    induction r with
    | zero =>
      intro a p w e hp
      have ha : a = n := by omega
      subst ha
      conv => lhs; rw [zk_M_cuts_4]
      simp (disch := first | assumption | exact kr _ rfl | omega | exact Nat.le_of_ble_eq_true rfl) only [xo_5, xo_10_2i, xo_10_2r, xo_10_2n, xo_10_3i, xo_10_3r, xo_10_3n, xo_55, xo_0_3, xo_2_0, xo_17, xo_32, xo_45, xo_20, xo_11_4i, xo_11_4r, xo_11_4n, xo_1_4, xo_0_1, xo_63_2, xk_v, xk_n, xo_42, xo_64_3, xo_49, xo_54, xo_6, xo_40, xo_26, xo_24, xo_33, xo_15_2i, xo_15_2r, xo_15_2n, xo_15_4i, xo_15_4r, xo_15_4n, xo_15_3i, xo_15_3r, xo_15_3n, zk_M_cuts_104, xo_0_2, xo_70, nI_add, pk_mul, Nat.add_zero, z_sA_s, z_sA_sA, z_u_s, r9, hp, hltn, if_true, if_false, eq_self, Bool.true_eq_false, Bool.false_eq_true, and_true, true_and, and_false, false_and, or_true, true_or, or_false, false_or, ne_eq, not_true_eq_false, not_false_eq_true, decide_true, decide_false, z_sA_id, z_fd_0]
    | succ r ih =>
      intro a p w e hp
      have hlt : nI a < nI n := nI_lt (by omega) (by omega)
      obtain ⟨e1, e2⟩ := inn a p (by omega) hp
      rw [z_fd_s, ← ih (a + 1) _ (.int (nI n)) (by omega) e2]
      conv => lhs; rw [zk_M_cuts_4]
      simp (disch := first | assumption | exact kr _ rfl | omega | exact Nat.le_of_ble_eq_true rfl) only [xo_5, xo_10_2i, xo_10_2r, xo_10_2n, xo_10_3i, xo_10_3r, xo_10_3n, xo_55, xo_0_3, xo_2_0, xo_17, xo_32, xo_45, zk_M_cuts_14, xo_20, xo_11_4i, xo_11_4r, xo_11_4n, xo_1_4, xo_0_1, xo_63_2, xk_v, xk_n, xo_42, xo_64_3, xo_49, xo_54, xo_6, xo_40, xo_26, xo_24, xo_33, xo_15_2i, xo_15_2r, xo_15_2n, xo_15_4i, xo_15_4r, xo_15_4n, xo_15_3i, xo_15_3r, xo_15_3n, xo_0_2, xo_70, nI_add, pk_mul, Nat.add_zero, z_sA_s, z_sA_sA, z_u_s, r9, hp, hlt, if_true, if_false, eq_self, Bool.true_eq_false, Bool.false_eq_true, and_true, true_and, and_false, false_and, or_true, true_or, or_false, false_or, ne_eq, not_true_eq_false, not_false_eq_true, decide_true, decide_false, z_sA_id, e1, zk_M_cuts_98, xo_15_3i, xo_15_3r, xo_15_3n, xo_54]
  rw [e0]
  exact out n 0 (M 458, 0) .null (by omega) h0
def g_sv (n u : Nat) (V : zM) : zM := z_fd (fun i U => z_w U 2 i (U 2 i &&& ((if u.testBit i = true then nI ((2 ^ n - 1) &&& (u ^^^ 4294967295)) else nI u) ^^^ nI 4294967295))) n 0 V
theorem g_sv_c (n u : Nat) (V : zM) (c : Nat) (h : c ≠ 2) : g_sv n u V c = V c := by
  have := z_fd_inv (f := fun i U => z_w U 2 i (U 2 i &&& ((if u.testBit i = true then nI ((2 ^ n - 1) &&& (u ^^^ 4294967295)) else nI u) ^^^ nI 4294967295))) (fun _ U => U c = V c) n 0 V rfl (fun a U _ _ hU => by rw [z_w_c _ _ _ _ _ h]; exact hU)
  exact this
theorem g_sv_i (n u : Nat) (V : zM) (i : Nat) (h : i < n) : g_sv n u V 2 i = V 2 i &&& ((if u.testBit i = true then nI ((2 ^ n - 1) &&& (u ^^^ 4294967295)) else nI u) ^^^ nI 4294967295) := by
  have := z_fd_inv (f := fun i U => z_w U 2 i (U 2 i &&& ((if u.testBit i = true then nI ((2 ^ n - 1) &&& (u ^^^ 4294967295)) else nI u) ^^^ nI 4294967295))) (fun k U => (∀ a, a < k → U 2 a = V 2 a &&& ((if u.testBit a = true then nI ((2 ^ n - 1) &&& (u ^^^ 4294967295)) else nI u) ^^^ nI 4294967295)) ∧ ∀ a, k ≤ a → U 2 a = V 2 a) n 0 V ⟨fun a ha => absurd ha (Nat.not_lt_zero a), fun _ _ => rfl⟩ (fun k U _ _ hU => ⟨fun a ha => by
    by_cases e : a = k
    · subst e; rw [z_w_s, hU.2 a (Nat.le_refl _)]
    · rw [z_w_n _ _ _ _ _ _ (by omega)]; exact hU.1 a (by omega), fun a ha => by rw [z_w_n _ _ _ _ _ _ (by omega)]; exact hU.2 a (by omega)⟩)
  rw [Nat.zero_add] at this
  exact this.1 i h
theorem z_t32 : ∀ x, x < 8 → (4294967295 : Nat).testBit x = true := by decide
theorem z_notT {a x : Nat} (hx : x < 8) : (a ^^^ 4294967295).testBit x = !a.testBit x := by
  rw [Nat.testBit_xor, z_t32 x hx]; cases a.testBit x <;> rfl
theorem s_W_sever {G : zG} {b : Nat} {fl : Bool} {kp : Nat × Nat} {n J B Bf u : Nat} {V : zM} {s : Nat → Int32} (hW : z_HW G b) (M : zM) (h : z_R fl kp n B V s) (hF : z_F n J Bf s) (hu : u < 256) : ∃ V', z_call 83 [.ref b, .int (nI u)] G (wr M b V) = some (.inl (some (.int (nI (f_cu (nI u) n s).2))), G, wr M b V') ∧ z_R fl kp n B V' (f_cu (nI u) n s).1 := by
  have hn : n ≤ 8 := hF.1.1.2
  have h0 : V 0 0 = nI n := h.1.1.trans hF.1.1.1
  have hltn : ¬ nI n < nI n := nI_nlt (Nat.le_refl _) (by omega)
  obtain ⟨W, hWd⟩ : ∃ W : Nat → Nat, ∀ j, j < n → W j < 256 ∧ V 2 j = nI (W j) ∧ ∀ x, x < 8 → (W j).testBit x = (decide (x < n ∧ x ≠ j) && !zf_has (s (25 + j)) (nI x)) := by
    refine ⟨fun j => if hj : j < n then Classical.choose (h.2.1 j hj).1 else 0, fun j hj => ?_⟩
    dsimp only
    rw [dif_pos hj]
    exact Classical.choose_spec (h.2.1 j hj).1
  obtain ⟨c, hcd⟩ : ∃ c : Nat → Nat, ∀ j, j < n → c j < 256 ∧ s (25 + j) = nI (c j) ∧ ∀ x, x < 8 → (c j).testBit x = true → x < n ∧ x ≠ j ∧ zf_has (s (25 + x)) (nI j) = true := by
    refine ⟨fun j => if hj : j < n then Classical.choose (h.2.1 j hj).2 else 0, fun j hj => ?_⟩
    dsimp only
    rw [dif_pos hj]
    exact Classical.choose_spec (h.2.1 j hj).2
  have hsym : ∀ x y, x < n → y < n → (c x).testBit y = (c y).testBit x := by
    intro x y hx hy
    have one : ∀ x y, x < n → y < n → (c x).testBit y = true → (c y).testBit x = true := fun x y hx hy hh => by
      have := ((hcd x hx).2.2 y (by omega) hh).2.2
      rw [(hcd y hy).2.1, z_hasN _ (hcd y hy).1 x (by omega)] at this
      exact this
    cases h1 : (c x).testBit y
    · cases h2 : (c y).testBit x
      · rfl
      · rw [one y x hy hx h2] at h1; exact h1.symm
    · exact (one x y hx hy h1).symm
  have hWc : ∀ j x, j < n → x < 8 → (W j).testBit x = (decide (x < n ∧ x ≠ j) && !(c j).testBit x) := fun j x hj hx => by
    rw [(hWd j hj).2.2 x hx, (hcd j hj).2.1, z_hasN _ (hcd j hj).1 x hx]
  obtain ⟨p1, p2, p3⟩ := f_cu_p (s := s) hu hn (fun x hx => ⟨(hcd x hx).1, (hcd x hx).2.1⟩) hsym
  -- the class's loop
  have hall := c_W_all hW M V h0
  rw [z_allN n hn] at hall
  have hoth : nI (2 ^ n - 1) &&& (nI u ^^^ nI 4294967295) = nI ((2 ^ n - 1) &&& (u ^^^ 4294967295)) := by rw [z_xorNN, z_andNN]
  have hot8 : (2 ^ n - 1) &&& (u ^^^ 4294967295) < 256 := z_and8 (z_pow256 n hn)
  have hotT : ∀ x, x < 8 → ((2 ^ n - 1) &&& (u ^^^ 4294967295)).testBit x = (decide (x < n) && !u.testBit x) := fun x hx => by
    rw [Nat.testBit_and, z_allT n hn x hx, z_notT hx]
  have e0 : z_call 83 [.ref b, .int (nI u)] G (wr M b V) = z_ex 83 (z_blk 83 14) [.ref b, .int (nI u), .int (nI 0), .int (nI ((2 ^ n - 1) &&& (u ^^^ 4294967295))), .int (nI 0)] [] G (wr M b V) := by
    simp (disch := first | assumption | omega | exact Nat.le_of_ble_eq_true rfl | decide) only [ze_W_sever, zk_W_sever_0, xo_5, xo_10_2i, xo_10_2r, xo_10_2n, xo_2_0, xw_64w_1 hW, xk_v, xk_n, xo_0_1, xo_25, xo_23, xo_10_3i, xo_10_3r, xo_10_3n, xo_11_4i, xo_11_4r, xo_11_4n, xo_55, xo_1_4, xw_16w hW, xo_45, xo_26, xo_48, xo_0_2, xw_17w_4 hW, xw_32_2 hW, xo_0_3, xo_63_1, xo_20, xo_40, xw_33_2 hW, xo_54, xo_15_4i, xo_15_4r, xo_15_4n, xo_70, hall, hoth]
  have hcount : (f_cu (nI u) n s).2 = z_sg (fun i => if u.testBit i = true then z_pc (W i &&& ((2 ^ n - 1) &&& (u ^^^ 4294967295))) else 0) n 0 := by
    have hd := z_dbl (fun i j => (u.testBit i && !u.testBit j && (W i).testBit j).toNat) (fun i => by cases u.testBit i <;> rfl) n
    rw [p3]
    have e1 : z_sg (fun a => z_sg (z_gc u c a) (n - (a + 1)) (a + 1)) n 0 = z_sg (fun a => z_sg (fun b => (u.testBit a && !u.testBit b && (W a).testBit b).toNat + (u.testBit b && !u.testBit a && (W b).testBit a).toNat) (n - (a + 1)) (a + 1)) n 0 := by
      refine z_sg_congr n 0 (fun a _ ha => z_sg_congr _ _ (fun y y1 y2 => ?_))
      rw [hWc a y (by omega) (by omega), hWc y a (by omega) (by omega), decide_eq_true (show y < n ∧ y ≠ a by omega), decide_eq_true (show a < n ∧ a ≠ y by omega), hsym y a (by omega) (by omega)]
      unfold z_gc
      cases u.testBit a <;> cases u.testBit y <;> cases (c a).testBit y <;> rfl
    rw [e1, ← hd]
    refine z_sg_congr n 0 (fun i _ hi => ?_)
    by_cases hui : u.testBit i = true
    · rw [if_pos hui, z_pcT _ (z_and8 (hWd i (by omega)).1), z_ct_cut (n := n) hn (fun j j1 j2 => by rw [Nat.testBit_and, hotT j j2, decide_eq_false (show ¬ j < n by omega), Bool.false_and, Bool.and_false])]
      unfold z_ct
      rw [z_fd_sg, Nat.zero_add]
      refine z_sg_congr n 0 (fun j _ hj => ?_)
      dsimp only
      rw [Nat.testBit_and, hotT j (by omega), decide_eq_true (show j < n by omega), hui]
      cases u.testBit j <;> cases (W i).testBit j <;> rfl
    · rw [if_neg hui]
      have : ∀ r k, z_sg (fun j => (u.testBit i && !u.testBit j && (W i).testBit j).toNat) r k = 0 := by
        intro r
        induction r with
        | zero => intro k; rfl
        | succ r ih =>
          intro k
          rw [z_sg_s, ih]
          have : u.testBit i = false := by cases hh : u.testBit i; rfl; exact absurd hh hui
          rw [this]; rfl
      exact this n 0
  have e : ∀ r k (U : zM) (h : Nat), k + r = n → U 0 0 = nI n → (∀ a, k ≤ a → U 2 a = V 2 a) → z_ex 83 (z_blk 83 14) [.ref b, .int (nI u), .int (nI h), .int (nI ((2 ^ n - 1) &&& (u ^^^ 4294967295))), .int (nI k)] [] G (wr M b U) = some (.inl (some (.int (nI (h + z_sg (fun i => if u.testBit i = true then z_pc (W i &&& ((2 ^ n - 1) &&& (u ^^^ 4294967295))) else 0) r k)))), G, wr M b (z_fd (fun i U => z_w U 2 i (U 2 i &&& ((if u.testBit i = true then nI ((2 ^ n - 1) &&& (u ^^^ 4294967295)) else nI u) ^^^ nI 4294967295))) r k U)) := by
    intro r
    induction r with
    | zero =>
      intro k U h e hU0 _
      have hk : k = n := by omega
      subst hk
      conv => lhs; rw [zk_W_sever_14]
      simp (disch := first | assumption | omega | exact Nat.le_of_ble_eq_true rfl | decide) only [xo_5, xo_10_2i, xo_10_2r, xo_10_2n, xo_2_0, xw_64w_1 hW, xk_v, xk_n, xo_0_1, xo_25, xo_23, xo_10_3i, xo_10_3r, xo_10_3n, xo_11_4i, xo_11_4r, xo_11_4n, xo_55, xo_1_4, xw_16w hW, xo_45, xo_26, xo_48, xo_0_2, xw_17w_4 hW, xw_32_2 hW, xo_0_3, xo_63_1, xo_20, xo_40, xw_33_2 hW, xo_54, xo_15_4i, xo_15_4r, xo_15_4n, zk_W_sever_82, xo_70, nI_add, pk_mul, Nat.add_zero, hU0, hltn, if_true, if_false, eq_self, Bool.true_eq_false, Bool.false_eq_true, z_fd_0, z_sg]
    | succ r ih =>
      intro k U h e hU0 hU2
      have hk : k < n := by omega
      have hk8 : k < 8 := by omega
      have hlt : nI k < nI n := nI_lt hk (by omega)
      have hw2 : U 2 k = nI (W k) := by rw [hU2 k (Nat.le_refl _)]; exact (hWd k hk).2.1
      rw [z_fd_s, z_sg_s]
      cases hbt : u.testBit k
      · have e2 : nI u &&& (nI 1 <<< (nI k &&& 31)) = 0 := (z_andN u hu k hk8).mpr hbt
        rw [if_neg (by decide), if_neg (by decide), Nat.zero_add, ← ih (k + 1) _ _ (by omega) (by rw [z_w_n _ _ _ _ _ _ (by omega)]; exact hU0) (fun a ha => by rw [z_w_n _ _ _ _ _ _ (by omega)]; exact hU2 a (by omega))]
        conv => lhs; rw [zk_W_sever_14]
        simp (disch := first | assumption | omega | exact Nat.le_of_ble_eq_true rfl | decide) only [xo_5, xo_10_2i, xo_10_2r, xo_10_2n, xo_2_0, xw_64w_1 hW, xk_v, xk_n, xo_0_1, xo_25, xo_23, xo_10_3i, xo_10_3r, xo_10_3n, xo_11_4i, xo_11_4r, xo_11_4n, xo_55, xo_1_4, xw_16w hW, xo_45, zk_W_sever_23, xo_26, xo_48, xo_0_2, xw_17w_4 hW, xw_32_2 hW, xo_0_3, xo_63_1, xo_20, xo_40, xw_33_2 hW, xo_54, zk_W_sever_63, zk_W_sever_76, xo_15_4i, xo_15_4r, xo_15_4n, xo_70, nI_add, pk_mul, Nat.add_zero, hU0, hlt, e2, if_true, if_false, eq_self, Bool.true_eq_false, Bool.false_eq_true]
      · have e2 : ¬ nI u &&& (nI 1 <<< (nI k &&& 31)) = 0 := fun q => by
          have := (z_andN u hu k hk8).mp q
          rw [hbt] at this; exact Bool.false_ne_true this.symm
        have hand := z_andNN (W k) ((2 ^ n - 1) &&& (u ^^^ 4294967295))
        have hbc := c_J_bitCount G (wr M b U) (k := W k &&& ((2 ^ n - 1) &&& (u ^^^ 4294967295))) (z_and8 (hWd k hk).1)
        rw [if_pos rfl, if_pos rfl, ← Nat.add_assoc, ← ih (k + 1) _ _ (by omega) (by rw [z_w_n _ _ _ _ _ _ (by omega)]; exact hU0) (fun a ha => by rw [z_w_n _ _ _ _ _ _ (by omega)]; exact hU2 a (by omega))]
        conv => lhs; rw [zk_W_sever_14]
        simp (disch := first | assumption | omega | exact Nat.le_of_ble_eq_true rfl | decide) only [xo_5, xo_10_2i, xo_10_2r, xo_10_2n, xo_2_0, xw_64w_1 hW, xk_v, xk_n, xo_0_1, xo_25, xo_23, xo_10_3i, xo_10_3r, xo_10_3n, xo_11_4i, xo_11_4r, xo_11_4n, xo_55, xo_1_4, xw_16w hW, xo_45, zk_W_sever_23, xo_26, xo_48, zk_W_sever_32, xo_0_2, xw_17w_4 hW, xw_32_2 hW, xo_0_3, xo_63_1, xo_20, xo_40, xw_33_2 hW, xo_54, zk_W_sever_76, xo_15_4i, xo_15_4r, xo_15_4n, xo_70, nI_add, pk_mul, Nat.add_zero, hU0, hlt, e2, hw2, hand, hbc, if_true, if_false, eq_self, Bool.true_eq_false, Bool.false_eq_true]
  have ef := e n 0 V 0 (by omega) h0 (fun _ _ => rfl)
  rw [Nat.zero_add, ← hcount] at ef
  refine ⟨g_sv n u V, by rw [e0, ef]; rfl, R_cut h hn (fun q hq => g_sv_c n u V q hq) (fun q hq => p1 q (by omega)) ?_⟩
  intro i hi
  obtain ⟨d, d1, d2, d3⟩ := p2 i hi
  refine ⟨⟨W i &&& ((if u.testBit i = true then (2 ^ n - 1) &&& (u ^^^ 4294967295) else u) ^^^ 4294967295), z_and8 (hWd i hi).1, ?_, fun j hj => ?_⟩, d, d1, d2, fun j hj hb => ?_⟩
  · rw [g_sv_i n u V i hi, (hWd i hi).2.1]
    split
    · rw [z_xorNN, z_andNN]
    · rw [z_xorNN, z_andNN]
  · rw [Nat.testBit_and, z_notT hj, hWc i j hi hj, d2, z_hasN d d1 j hj, d3 j hj]
    by_cases hjn : j < n ∧ j ≠ i
    · rw [decide_eq_true hjn]
      cases hui : u.testBit i
      · rw [if_neg (by decide)]
        cases u.testBit j <;> cases (c i).testBit j <;> rfl
      · rw [if_pos rfl, hotT j hj, decide_eq_true hjn.1]
        cases u.testBit j <;> cases (c i).testBit j <;> rfl
    · rw [decide_eq_false hjn, Bool.false_and, Bool.false_and, Bool.false_and]
  · rw [d3 j hj] at hb
    by_cases hjn : j < n ∧ j ≠ i
    · obtain ⟨dj, dj1, dj2, dj3⟩ := p2 j hjn.1
      refine ⟨hjn.1, hjn.2, ?_⟩
      rw [dj2, z_hasN dj dj1 i (by omega), dj3 i (by omega), decide_eq_true (show i < n ∧ i ≠ j from ⟨hi, fun e => hjn.2 e.symm⟩), hsym j i hjn.1 hi]
      rw [decide_eq_true hjn] at hb
      revert hb
      cases u.testBit i <;> cases u.testBit j <;> cases (c i).testBit j <;> simp
    · rw [decide_eq_false hjn, Bool.false_and, Bool.or_false] at hb
      have := (hcd i hi).2.2 j hj hb
      exact absurd ⟨this.1, this.2.1⟩ hjn
