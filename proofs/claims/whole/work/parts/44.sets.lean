/-! ===== circles and sets ===== -/
def z_bs (P : Nat → Bool) (n : Nat) : Nat := z_fd (fun o a => if P o = true then a ||| 2 ^ o else a) n 0 0
theorem z_bs_s (P : Nat → Bool) (n : Nat) : z_bs P (n + 1) = if P n = true then z_bs P n ||| 2 ^ n else z_bs P n := by
  unfold z_bs; rw [z_fd_r, Nat.zero_add]
theorem z_bs_t (P : Nat → Bool) : ∀ n j, (z_bs P n).testBit j = (decide (j < n) && P j)
  | 0, j => by rw [decide_eq_false (Nat.not_lt_zero j), Bool.false_and]; exact Nat.zero_testBit j
  | n + 1, j => by
    rw [z_bs_s]
    by_cases hP : P n = true
    · rw [if_pos hP, Nat.testBit_or, z_bs_t P n j, Nat.testBit_two_pow]
      by_cases hj : j = n
      · subst hj; simp [hP]
      · have : decide (j < n + 1) = decide (j < n) := decide_eq_decide.mpr (by omega)
        rw [this, decide_eq_false (show ¬ n = j from fun e => hj e.symm), Bool.or_false]
    · rw [if_neg hP, z_bs_t P n j]
      by_cases hj : j = n
      · subst hj; simp [hP]
      · have : decide (j < n + 1) = decide (j < n) := decide_eq_decide.mpr (by omega)
        rw [this]
theorem z_bs_lt (P : Nat → Bool) : ∀ n, n ≤ 8 → z_bs P n < 256
  | 0, _ => by show 0 < 256; omega
  | n + 1, h => by
    rw [z_bs_s]
    split
    · exact z_or8 (z_bs_lt P n (by omega)) (by omega)
    · exact z_bs_lt P n (by omega)
theorem z_bs_congr {P Q : Nat → Bool} (n : Nat) (h : ∀ k, k < n → P k = Q k) : z_bs P n = z_bs Q n :=
  z_fd_congr n 0 0 (fun j a _ hj => by rw [h j (by omega)])
def z_sub (S T : Nat) : Prop := ∀ j, S.testBit j = true → T.testBit j = true
def z_cls (ed : Nat → Nat → Bool) (n U : Nat) : Prop := ∀ a b, a < n → b < n → U.testBit a = true → ed a b = true → U.testBit b = true
def z_OP (ed : Nat → Nat → Bool) (n : Nat) (Q : Nat → Nat) : Prop := ∀ S, (∀ j, S.testBit j = true → j < n) → z_sub S (Q S) ∧ (∀ U, z_cls ed n U → z_sub S U → z_sub (Q S) U) ∧ (∀ a b, a < n → b < n → S.testBit a = true → ed a b = true → (Q S).testBit b = true) ∧ (∀ j, (Q S).testBit j = true → j < n)
theorem z_sub_eq {S T : Nat} (h : z_sub S T) (g : z_sub T S) : S = T := Nat.eq_of_testBit_eq (fun j => by
  cases hs : S.testBit j
  · cases ht : T.testBit j
    · rfl
    · rw [g j ht] at hs; exact absurd hs (by decide)
  · exact (h j hs).symm)
def z_cd (n S : Nat) : Nat := z_ct (fun j => S.testBit j) n
theorem z_ct_imp {P Q : Nat → Bool} (h : ∀ j, P j = true → Q j = true) : ∀ n, z_ct P n ≤ z_ct Q n
  | 0 => Nat.le_refl _
  | n + 1 => by
    rw [z_ct_s, z_ct_s]
    have := z_ct_imp h n
    cases hp : P n
    · have : (false : Bool).toNat ≤ (Q n).toNat := Nat.zero_le _
      omega
    · rw [h n hp]; omega
theorem z_ct_imp_lt {P Q : Nat → Bool} (h : ∀ j, P j = true → Q j = true) {k : Nat} (hk : Q k = true) (hk2 : P k = false) : ∀ n, k < n → z_ct P n + 1 ≤ z_ct Q n
  | 0, hn => absurd hn (Nat.not_lt_zero k)
  | n + 1, hn => by
    rw [z_ct_s, z_ct_s]
    by_cases e : k = n
    · subst e
      have := z_ct_imp h k
      rw [hk, hk2]
      simp only [Bool.toNat_true, Bool.toNat_false]; omega
    · have := z_ct_imp_lt h hk hk2 n (by omega)
      cases hp : P n
      · simp only [Bool.toNat_false]; omega
      · rw [h n hp]; omega
def z_it (Q : Nat → Nat) (r S : Nat) : Nat := z_fd (fun _ S => Q S) r 0 S
theorem z_it_s (Q : Nat → Nat) (r S : Nat) : z_it Q (r + 1) S = Q (z_it Q r S) := by unfold z_it; rw [z_fd_r]
theorem z_it_p {ed : Nat → Nat → Bool} {n : Nat} {Q : Nat → Nat} (hQ : z_OP ed n Q) {S : Nat} (hS : ∀ j, S.testBit j = true → j < n) : ∀ r, z_sub S (z_it Q r S) ∧ (∀ U, z_cls ed n U → z_sub S U → z_sub (z_it Q r S) U) ∧ (∀ j, (z_it Q r S).testBit j = true → j < n) ∧ (z_cls ed n (z_it Q r S) ∨ z_cd n S + r ≤ z_cd n (z_it Q r S))
  | 0 => ⟨fun _ h => h, fun _ _ h => h, hS, Or.inr (Nat.le_refl _)⟩
  | r + 1 => by
    obtain ⟨p1, p2, p3, p4⟩ := z_it_p hQ hS r
    rw [z_it_s]
    generalize z_it Q r S = T at p1 p2 p3 p4
    obtain ⟨q1, q2, q3, q4⟩ := hQ T p3
    refine ⟨fun j hj => q1 j (p1 j hj), fun U hU hs => q2 U hU (p2 U hU hs), q4, ?_⟩
    by_cases e : Q T = T
    · left
      rw [e]
      intro a b ha hb h1 h2
      have := q3 a b ha hb h1 h2
      rw [e] at this; exact this
    · right
      have hne : ∃ k, (Q T).testBit k = true ∧ T.testBit k = false := by
        apply Classical.byContradiction
        intro hc
        exact e (z_sub_eq (fun j hj => by
          cases ht : T.testBit j
          · exact absurd ⟨j, hj, ht⟩ hc
          · rfl) q1)
      obtain ⟨k, k1, k2⟩ := hne
      have hlt : z_cd n T + 1 ≤ z_cd n (Q T) := z_ct_imp_lt (fun j hj => q1 j hj) k1 k2 n (q4 k k1)
      rcases p4 with p4 | p4
      · exfalso
        have := q2 T p4 (fun _ h => h) k k1
        rw [k2] at this; exact Bool.false_ne_true this
      · omega
theorem z_it_cls {ed : Nat → Nat → Bool} {n : Nat} {Q : Nat → Nat} (hQ : z_OP ed n Q) {S : Nat} (hS : ∀ j, S.testBit j = true → j < n) : z_cls ed n (z_it Q n S) := by
  obtain ⟨p1, p2, p3, p4⟩ := z_it_p hQ hS n
  rcases p4 with p4 | p4
  · exact p4
  · by_cases e : ∃ k, S.testBit k = true
    · obtain ⟨k, k1⟩ := e
      have h1 : 1 ≤ z_cd n S := by
        have := z_ct_imp_lt (P := fun _ => false) (Q := fun j => S.testBit j) (fun j hj => absurd hj (by decide)) k1 rfl n (hS k k1)
        unfold z_cd; omega
      have h2 : z_cd n (z_it Q n S) ≤ n := z_ct_le _ _
      omega
    · intro a b _ _ h1 _
      have h0 : z_cls ed n S := fun a b _ _ h _ => absurd ⟨a, h⟩ e
      exact absurd ⟨a, p2 S h0 (fun _ h => h) a h1⟩ e
theorem z_it_eq {ed : Nat → Nat → Bool} {n : Nat} {Q R : Nat → Nat} (hQ : z_OP ed n Q) (hR : z_OP ed n R) {S : Nat} (hS : ∀ j, S.testBit j = true → j < n) : z_it Q n S = z_it R n S :=
  z_sub_eq ((z_it_p hQ hS n).2.1 _ (z_it_cls hR hS) (z_it_p hR hS n).1) ((z_it_p hR hS n).2.1 _ (z_it_cls hQ hS) (z_it_p hQ hS n).1)
/-- the reference's round -/
def z_q1 (ed : Nat → Nat → Bool) (n a S : Nat) : Nat := z_fd (fun b T => if (T.testBit a && ed a b) = true then T ||| 2 ^ b else T) n 0 S
def z_q2 (ed : Nat → Nat → Bool) (n S : Nat) : Nat := z_fd (fun a T => z_q1 ed n a T) n 0 S
theorem z_q1_p {ed : Nat → Nat → Bool} {n a S : Nat} (ha : a < n) (hS : ∀ j, S.testBit j = true → j < n) : z_sub S (z_q1 ed n a S) ∧ (∀ U, z_cls ed n U → z_sub S U → z_sub (z_q1 ed n a S) U) ∧ (∀ b, b < n → S.testBit a = true → ed a b = true → (z_q1 ed n a S).testBit b = true) ∧ (∀ j, (z_q1 ed n a S).testBit j = true → j < n) := by
  have := z_fd_inv (f := fun b T => if (T.testBit a && ed a b) = true then T ||| 2 ^ b else T) (fun k T => z_sub S T ∧ (∀ U, z_cls ed n U → z_sub S U → z_sub T U) ∧ (∀ b, b < k → S.testBit a = true → ed a b = true → T.testBit b = true) ∧ (∀ j, T.testBit j = true → j < n)) n 0 S ⟨fun _ h => h, fun _ _ h => h, fun b hb => absurd hb (Nat.not_lt_zero b), hS⟩ (by
    intro k T _ hk hI
    obtain ⟨i1, i2, i3, i4⟩ := hI
    by_cases hc : (T.testBit a && ed a k) = true
    · rw [if_pos hc]
      rw [Bool.and_eq_true] at hc
      refine ⟨fun j hj => by rw [Nat.testBit_or, i1 j hj, Bool.true_or], fun U hU hs j hj => ?_, fun b hb h1 h2 => ?_, fun j hj => ?_⟩
      · rw [Nat.testBit_or, Nat.testBit_two_pow] at hj
        cases ht : T.testBit j
        · rw [ht, Bool.false_or] at hj
          have e : k = j := of_decide_eq_true hj
          subst e
          exact hU a k ha (by omega) (i2 U hU hs a hc.1) hc.2
        · exact i2 U hU hs j ht
      · rw [Nat.testBit_or, Nat.testBit_two_pow]
        by_cases e : k = b
        · rw [decide_eq_true e, Bool.or_true]
        · rw [i3 b (by omega) h1 h2, Bool.true_or]
      · rw [Nat.testBit_or, Nat.testBit_two_pow] at hj
        cases ht : T.testBit j
        · rw [ht, Bool.false_or] at hj
          have e : k = j := of_decide_eq_true hj
          omega
        · exact i4 j ht
    · rw [if_neg hc]
      refine ⟨i1, i2, fun b hb h1 h2 => ?_, i4⟩
      by_cases e : b = k
      · subst e
        exact absurd (by rw [i1 a h1, h2]; rfl) hc
      · exact i3 b (by omega) h1 h2)
  rw [Nat.zero_add] at this
  exact this
theorem z_q2_op (ed : Nat → Nat → Bool) (n : Nat) : z_OP ed n (z_q2 ed n) := by
  intro S hS
  have := z_fd_inv (f := fun a T => z_q1 ed n a T) (fun k T => z_sub S T ∧ (∀ U, z_cls ed n U → z_sub S U → z_sub T U) ∧ (∀ a b, a < k → b < n → S.testBit a = true → ed a b = true → T.testBit b = true) ∧ (∀ j, T.testBit j = true → j < n)) n 0 S ⟨fun _ h => h, fun _ _ h => h, fun a b ha => absurd ha (Nat.not_lt_zero a), hS⟩ (by
    intro k T _ hk hI
    obtain ⟨i1, i2, i3, i4⟩ := hI
    obtain ⟨q1, q2, q3, q4⟩ := z_q1_p (ed := ed) (a := k) (show k < n by omega) i4
    refine ⟨fun j hj => q1 j (i1 j hj), fun U hU hs => q2 U hU (i2 U hU hs), fun a b ha hb h1 h2 => ?_, q4⟩
    by_cases e : a = k
    · subst e; exact q3 b hb (i1 a h1) h2
    · exact q1 b (i3 a b (by omega) hb h1 h2))
  rw [Nat.zero_add] at this
  exact this
/-- the class's round -/
def z_c1 (E : Nat → Nat) (n S : Nat) : Nat := z_fd (fun j R => if S.testBit j = true then R ||| E j else R) n 0 S
theorem z_c1_op (ed : Nat → Nat → Bool) (n : Nat) (E : Nat → Nat) (hE : ∀ j b, j < n → (E j).testBit b = (decide (b < n) && ed j b)) : z_OP ed n (z_c1 E n) := by
  intro S hS
  have := z_fd_inv (f := fun j R => if S.testBit j = true then R ||| E j else R) (fun k T => z_sub S T ∧ (∀ U, z_cls ed n U → z_sub S U → z_sub T U) ∧ (∀ a b, a < k → b < n → S.testBit a = true → ed a b = true → T.testBit b = true) ∧ (∀ j, T.testBit j = true → j < n)) n 0 S ⟨fun _ h => h, fun _ _ h => h, fun a b ha => absurd ha (Nat.not_lt_zero a), hS⟩ (by
    intro k T _ hk hI
    obtain ⟨i1, i2, i3, i4⟩ := hI
    by_cases hc : S.testBit k = true
    · rw [if_pos hc]
      refine ⟨fun j hj => by rw [Nat.testBit_or, i1 j hj, Bool.true_or], fun U hU hs j hj => ?_, fun a b ha hb h1 h2 => ?_, fun j hj => ?_⟩
      · rw [Nat.testBit_or, hE k j (by omega)] at hj
        cases ht : T.testBit j
        · rw [ht, Bool.false_or, Bool.and_eq_true] at hj
          exact hU k j (by omega) (of_decide_eq_true hj.1) (hs k hc) hj.2
        · exact i2 U hU hs j ht
      · rw [Nat.testBit_or]
        by_cases e : a = k
        · subst e; rw [hE a b (by omega), decide_eq_true hb, h2]; simp
        · rw [i3 a b (by omega) hb h1 h2, Bool.true_or]
      · rw [Nat.testBit_or, hE k j (by omega)] at hj
        cases ht : T.testBit j
        · rw [ht, Bool.false_or, Bool.and_eq_true] at hj
          exact of_decide_eq_true hj.1
        · exact i4 j ht
    · rw [if_neg hc]
      refine ⟨i1, i2, fun a b ha hb h1 h2 => ?_, i4⟩
      by_cases e : a = k
      · subst e; exact absurd h1 hc
      · exact i3 a b (by omega) hb h1 h2)
  rw [Nat.zero_add] at this
  exact this
theorem z_bits8 {n S : Nat} (hn : n ≤ 8) (h : ∀ j, S.testBit j = true → j < n) : S < 256 := by
  refine Nat.lt_pow_two_of_testBit (n := 8) S (fun i hi => ?_)
  cases hb : S.testBit i
  · rfl
  · have := h i hb; omega
/-- of the row: who is linked to whom -/
def f_ed (s : Nat → Int32) (a b : Nat) : Bool := !decide (s (41 + 28 * b) = nI 2) && (!decide (a = b) && !zf_has (s (25 + a)) (nI b))
def f_s0 (s : Nat → Int32) (i : Nat) : Nat := if s (41 + 28 * i) = nI 2 then 0 else 2 ^ i
def f_so (n : Nat) (s : Nat → Int32) (i : Nat) : Nat := z_it (z_q2 (f_ed s) n) n (f_s0 s i)
def f_ci (n : Nat) (s : Nat → Int32) (i : Nat) : Nat := if s (41 + 28 * i) = 0 then z_bs (fun o => decide (s (41 + 28 * o) = 0) && decide (s (41 + 28 * o + 3) = s (41 + 28 * i + 3))) n else 0
theorem f_s0_b (s : Nat → Int32) {i n : Nat} (hi : i < n) : ∀ j, (f_s0 s i).testBit j = true → j < n := by
  intro j hj
  unfold f_s0 at hj
  split at hj
  · rw [Nat.zero_testBit] at hj; exact absurd hj Bool.false_ne_true
  · rw [Nat.testBit_two_pow] at hj
    have := of_decide_eq_true hj
    omega
