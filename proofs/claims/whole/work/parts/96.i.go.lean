/-! ===== the start: what the Statement gives of it ===== -/
def z_fc : List Cond := flatC (Jvm.Cond.and given_1 narrow_1)
def z_sk (k : Nat) : String × Nat := ([("ChiefCircles$TextReader", 55), ("ChiefCircles$TextReader", 109), ("ChiefCircles$TextReader", 110), ("ChiefCircles$TextReader", 111), ("ChiefCircles$TextReader", 113), ("ChiefCircles$TextReader", 115), ("ChiefCircles$TextReader", 117), ("ChiefCirclesModel", 152), ("ChiefCirclesModel", 113), ("ChiefCirclesModel", 119), ("ChiefCirclesModel", 121), ("ChiefCirclesModel", 123), ("ChiefCirclesModel", 125), ("ChiefCirclesModel", 127)] : List (String × Nat)).getD (k - 6) ("", 0)
def z_se (E : Nat) : Nat := if E = 0 then 309 else if E = 1 then 316 else 321
abbrev z_tk (k : Nat) : Term := .string (z_sk k).1 (z_sk k).2
abbrev z_tv (k : Nat) : Term := .field (z_tk k) "java/lang/String" "value" "[B"
abbrev zz_ta (k : Nat) : Term := .static (z_sC k) (z_sN k) "[I"
def z_el (k j : Nat) : Int32 := if k = 2 ∨ k = 4 then (if j = 2 then nI 0 else nI 1) else if j = 3 then nI 3 else nI 30
set_option maxRecDepth 40000 in
theorem z_f1 : ∀ k, k < 20 → 6 ≤ k → (Cond.exactly (z_tk k) "java/lang/String" ∈ z_fc ∧ Cond.eq (.field (z_tk k) "java/lang/String" "coder" "B") (.int 0) ∈ z_fc) ∧ Cond.arrayOf (z_tv k) .byte ∈ z_fc ∧ Cond.eq (.length (z_tv k)) (.int (Int32.ofNat (z_tx k).length)) ∈ z_fc := by decide +kernel
set_option maxRecDepth 40000 in
theorem z_f2 : ∀ k, k < 20 → 6 ≤ k → ∀ j, j < (z_tx k).length → Cond.eq (.elem (z_tv k) (.int (Int32.ofNat j))) (.int (Int32.ofNat ((z_tx k).getD j 0))) ∈ z_fc := by decide +kernel
set_option maxRecDepth 40000 in
theorem z_f3a : ∀ k, k < 6 → 2 ≤ k → Cond.arrayOf (zz_ta k) .int ∈ z_fc ∧ Cond.eq (.length (zz_ta k)) (.int (Int32.ofNat 4)) ∈ z_fc := by decide +kernel
set_option maxRecDepth 40000 in
theorem z_f3b : ∀ k, k < 6 → 2 ≤ k → ∀ j, j < 4 → Cond.eq (.elem (zz_ta k) (.int (Int32.ofNat j))) (.int (z_el k j)) ∈ z_fc := by decide +kernel
set_option maxRecDepth 40000 in
theorem z_f3c : ∀ k, k < 6 → 2 ≤ k → Cond.laysStatic (z_sC k) (z_sN k) "[I" ∈ lw_tbl ∧ Cond.initialized (z_sC k) ∈ lw_tbl := by decide +kernel
set_option maxRecDepth 40000 in
theorem z_f4 : ∀ E, E < 3 → Cond.exactly (.string "ChiefCircles" (z_se E)) "java/lang/String" ∈ z_fc ∧ Cond.stringRef "ChiefCircles" (z_se E) (z_em E) ∈ lw_tbl := by decide +kernel
set_option maxRecDepth 40000 in
theorem z_f5 : ∀ q ∈ z_tt, (z_sk q.2.2 = (zz_on q.1, q.2.1) ∧ q.2.2 < 20 ∧ 6 ≤ q.2.2) ∧ Cond.stringRef (zz_on q.1) q.2.1 (z_sx q.2.2) ∈ lw_tbl := by decide +kernel
theorem z_f6 : ∀ q ∈ z_tx3, q.2.2.1 < 3 ∧ z_se q.2.2.1 = q.2.2.2.2.1 := by decide +kernel
set_option maxRecDepth 40000 in
theorem z_f7 : (∀ q ∈ z_tm66, Cond.methodLinkNest (zz_on q.1) q.2.1 (z_y q.2.2.1) "ChiefCircles" ∈ lw_tbl) ∧ (∀ q ∈ z_fln, Cond.fieldLinkNest "ChiefCircles$TextReader" q.1 "ChiefCircles" (z_sN q.2) "[I" "ChiefCircles" ∈ lw_tbl) ∧ (∀ E, E < 3 → Cond.castable (z_en E) (z_en E) ∈ lw_tbl) ∧ (∀ y ∈ z_dcl, Cond.declares y ∈ lw_tbl) ∧ (Cond.arrayOver (.object "ChiefCircles$Member") ∈ lw_tbl ∧ Cond.arrayOver (.object "ChiefCircles$World") ∈ lw_tbl ∧ Cond.arrayOver (.array .int) ∈ lw_tbl) ∧ (∀ E, E < 3 → ∀ F, F < 3 → E ≠ F → Cond.not (.castable (z_en E) (z_en F)) ∈ z_fc) ∧ Cond.arrayClass .int ∈ lw_tbl ∧ Cond.arrayClass .long ∈ lw_tbl := by decide +kernel
set_option maxRecDepth 40000 in
theorem z_f8 : ((Cond.laysStatic "java/lang/String" "COMPACT_STRINGS" "Z" ∈ lw_tbl ∧ Cond.initialized "java/lang/String" ∈ lw_tbl ∧ Cond.eq (.static "java/lang/String" "COMPACT_STRINGS" "Z") (.int 1) ∈ z_fc) ∧ Cond.laysStatic "jdk/internal/util/Preconditions" "SIOOBE_FORMATTER" "Ljava/util/function/BiFunction;" ∈ lw_tbl ∧ Cond.initialized "jdk/internal/util/Preconditions" ∈ lw_tbl ∧ Cond.isRef (.static "jdk/internal/util/Preconditions" "SIOOBE_FORMATTER" "Ljava/util/function/BiFunction;") ∈ z_fc) ∧ (Cond.laysStatic Bundle.tN "UNASSIGNED_STACK" Bundle.steD ∈ lw_tbl ∧ Cond.initialized Bundle.tN ∈ lw_tbl ∧ Cond.isRef (.static Bundle.tN "UNASSIGNED_STACK" Bundle.steD) ∈ z_fc) ∧ Cond.laysStatic Bundle.tN "SUPPRESSED_SENTINEL" Bundle.listD ∈ lw_tbl ∧ Cond.isRef (.static Bundle.tN "SUPPRESSED_SENTINEL" Bundle.listD) ∈ z_fc := by decide +kernel
section
variable {A : Array Value} {s : State}
theorem zz_Ka (hts : ∀ w ∈ lw_tbl, w.before A s = true) : ∃ ka : Nat → ClassId, ∀ (k : Nat) (q : ClassId × FieldType), (z_tys ka)[k]? = some q → ArrOfT s q.1 q.2 ∧ va_RA s q.1 q.2 := by
  obtain ⟨-, -, -, -, ⟨w3, w4, w5⟩, -, w1, w2⟩ := z_f7
  obtain ⟨c1, k1, o1, a1, b1, d1⟩ := Cond.arrayClass_spec (hts _ w1)
  obtain ⟨c2, k2, o2, a2, b2, d2⟩ := Cond.arrayClass_spec (hts _ w2)
  obtain ⟨o3, c3, k3, e3, -, b3, d3, a3⟩ := Cond.arrayOver_spec (hts _ w3)
  obtain ⟨o4, c4, k4, e4, -, b4, d4, a4⟩ := Cond.arrayOver_spec (hts _ w4)
  obtain ⟨o5, c5, k5, e5, -, b5, d5, a5⟩ := arrayOverA_spec (hts _ w5)
  refine ⟨fun k => if k = 1 then c1 else if k = 2 then c2 else if k = 3 then c3 else if k = 4 then c4 else c5, ?_⟩
  intro k q hq
  match k, hq with
  | 0, hq => cases hq; exact ⟨fun n z => ⟨fun k h => (by cases h), k1, b1, o1, d1⟩, a1⟩
  | 1, hq => cases hq; exact ⟨fun n z => ⟨fun k h => (by cases h), k2, b2, o2, d2⟩, a2⟩
  | 2, hq => cases hq; exact ⟨fun n z => ⟨fun k h => (by cases h), k3, b3, o3, d3⟩, k3, o3, b3, d3, e3, a3⟩
  | 3, hq => cases hq; exact ⟨fun n z => ⟨fun k h => (by cases h), k4, b4, o4, d4⟩, k4, o4, b4, d4, e4, a4⟩
  | 4, hq => cases hq; exact ⟨fun n z => ⟨fun k h => (by cases h), k5, b5, o5, d5⟩, a5⟩
  | k + 5, hq => cases hq
set_option maxRecDepth 40000 in
theorem z_f9 : ∀ c, c < 8 → ∀ q, z_cl[c]? = some q → (∀ w ∈ u_ws q.1 q.2.1 q.2.2, w ∈ lw_tbl) ∧ ∃ n, Cond.instantiable q.1 n ∈ lw_tbl := by
  have h : ∀ c, c < 8 → ∀ w ∈ (match z_cl[c]? with | some q => u_ws q.1 q.2.1 q.2.2 | none => []), w ∈ lw_tbl := by decide +kernel
  have h2 : ∀ c, c < 8 → (match z_cl[c]? with | some q => Cond.instantiable q.1 q.2.2 | none => Cond.arrayClass .int) ∈ lw_tbl := by decide +kernel
  intro c hc q hq
  have a1 := h c hc
  have a2 := h2 c hc
  rw [hq] at a1 a2
  exact ⟨a1, q.2.2, a2⟩
theorem z_cl8 : z_cl.length = 8 := rfl
theorem z_Kd (hts : ∀ w ∈ lw_tbl, w.before A s = true) : ∃ D : va_G, ∀ (c : Nat) (q : vw_C), z_cl[c]? = some q → u_Kn s q.1 q.2.1 q.2.2 (D.1 c) (D.2 c) := by
  have h0 : ∀ c : Nat, ∃ d : ClassId × (Nat → Nat), ∀ q : vw_C, z_cl[c]? = some q → u_Kn s q.1 q.2.1 q.2.2 d.1 d.2 := by
    intro c
    cases hq : z_cl[c]? with
    | none => exact ⟨(0, fun _ => 0), fun q h => by cases h⟩
    | some q =>
      have hc : c < 8 := by
        have := (List.getElem?_eq_some_iff.mp hq).1
        rwa [z_cl8] at this
      obtain ⟨h1, n, h2⟩ := z_f9 c hc q hq
      obtain ⟨cC, iS, h3⟩ := u_known hts h1 (hts _ h2)
      exact ⟨(cC, iS), fun q2 h => by cases h; exact h3⟩
  obtain ⟨f, hf⟩ := Classical.axiomOfChoice h0
  exact ⟨(fun c => (f c).1, fun c => (f c).2), fun c q hq => hf c q hq⟩
theorem z_K0 (hts : ∀ w ∈ lw_tbl, w.before A s = true) : ∃ (D : va_G) (ka : Nat → ClassId), va_K D z_cl (z_tys ka) s := by
  obtain ⟨D, hD⟩ := z_Kd hts
  obtain ⟨ka, hk⟩ := zz_Ka hts
  exact ⟨D, ka, hD, hk⟩
theorem z_S0s (hn : ∀ w ∈ z_fc, w.before A s = true) {z : Nat} (hz : ∀ a : Nat, a < s.heap.size → ¬ z_A z a) {k : Nat} (h20 : k < 20) (h6 : 6 ≤ k) : ∃ a v : Nat, (z_tk k).eval A s none [] s = some (.ref a) ∧ va_O "java/lang/String" a (z_A z) s s.heap ∧ va_OF "java/lang/String" "coder" "B" (.int 0) a (z_A z) s s.heap ∧ va_OF "java/lang/String" "value" "[B" (.ref v) a (z_A z) s s.heap ∧ va_T .byte v (z_tx k).length (fun j => .int (Int32.ofNat ((z_tx k).getD j 0))) (z_A z) s s.heap := by
  obtain ⟨⟨h1, h2⟩, h3, h4⟩ := z_f1 k h20 h6
  obtain ⟨a, c, cA, kA, q1, q2, q3, q4, q5, q6, -⟩ := Cond.exactly_spec (args := A) (first := s) (o := none) (s := s) (idx := []) (t := z_tk k) (cls := "java/lang/String") (hn _ h1)
  obtain ⟨t, ht, hT⟩ := va_Tof (f := fun j => .int (Int32.ofNat ((z_tx k).getD j 0))) (A := z_A z) (N := (z_tx k).length) (by have := (z_txs k h20).1; omega) (hn _ h3) (va_eqt (hn _ h4)) (fun j hj => va_eqt (hn _ (z_f2 k h20 h6 j hj))) hz
  exact ⟨a, t, q1, ⟨cA, q3, q5, by rw [q6]; exact q2, hz a (Array.getElem?_eq_some_iff.mp q3).1⟩, vk_OFof q1 (va_eqt (hn _ h2)) hz, vk_OFof q1 ht hz, hT⟩
theorem z_T0s (hts : ∀ w ∈ lw_tbl, w.before A s = true) (hn : ∀ w ∈ z_fc, w.before A s = true) {z : Nat} (hz : ∀ a : Nat, a < s.heap.size → ¬ z_A z a) {k : Nat} (h6 : k < 6) (h2 : 2 ≤ k) : ∃ t : Nat, va_Z (z_sC k) (z_sN k) "[I" (.ref t) (z_A z) s s.heap ∧ va_T .int t 4 (fun j => .int (z_el k j)) (z_A z) s s.heap := by
  obtain ⟨h3, h4⟩ := z_f3a k h6 h2
  have h5 := z_f3b k h6 h2
  obtain ⟨h7, h8⟩ := z_f3c k h6 h2
  obtain ⟨t, ht, hT⟩ := va_Tof (f := fun j => .int (z_el k j)) (A := z_A z) (N := 4) (by decide) (hn _ h3) (va_eqt (hn _ h4)) (fun j hj => va_eqt (hn _ (h5 j hj))) hz
  exact ⟨t, va_Zof (hts _ h7) (hts _ h8) ht hz, hT⟩
theorem z_E0s (hn : ∀ w ∈ z_fc, w.before A s = true) {E : Nat} (hE : E < 3) : ∃ a : Nat, (Term.string "ChiefCircles" (z_se E)).eval A s none [] s = some (.ref a) := by
  obtain ⟨a, c, cA, kA, q1, -⟩ := Cond.exactly_spec (args := A) (first := s) (o := none) (s := s) (idx := []) (t := .string "ChiefCircles" (z_se E)) (cls := "java/lang/String") (hn _ (z_f4 E hE).1)
  exact ⟨a, q1⟩
/-- the start -/
theorem z_I0 (hts : ∀ w ∈ lw_tbl, w.before A s = true) (hn : ∀ w ∈ z_fc, w.before A s = true) (b : Nat) : ∃ ad av sa : Nat → Nat, z_Iv s.heap.size ad av sa s s.heap ∧ ad 1 = b ∧ (∀ k, 2 ≤ k → k < 6 → va_T .int (ad k) 4 (fun j => .int (z_el k j)) (z_A s.heap.size) s s.heap) ∧ ∀ q, 32 ≤ q → ad q = s.heap.size + (q - 32) := by
  have hz : ∀ a : Nat, a < s.heap.size → ¬ z_A s.heap.size a := fun a h h2 => Nat.not_le_of_lt h h2
  have hS : ∀ k : Nat, ∃ q : Nat × Nat, k < 20 → 6 ≤ k → (z_tk k).eval A s none [] s = some (.ref q.1) ∧ va_O "java/lang/String" q.1 (z_A s.heap.size) s s.heap ∧ va_OF "java/lang/String" "coder" "B" (.int 0) q.1 (z_A s.heap.size) s s.heap ∧ va_OF "java/lang/String" "value" "[B" (.ref q.2) q.1 (z_A s.heap.size) s s.heap ∧ va_T .byte q.2 (z_tx k).length (fun j => .int (Int32.ofNat ((z_tx k).getD j 0))) (z_A s.heap.size) s s.heap := by
    intro k
    by_cases h : k < 20 ∧ 6 ≤ k
    · obtain ⟨a, v, h1⟩ := z_S0s hn hz h.1 h.2
      exact ⟨(a, v), fun _ _ => h1⟩
    · exact ⟨(0, 0), fun a b => absurd ⟨a, b⟩ h⟩
  have hT : ∀ k : Nat, ∃ t : Nat, k < 6 → 2 ≤ k → va_Z (z_sC k) (z_sN k) "[I" (.ref t) (z_A s.heap.size) s s.heap ∧ va_T .int t 4 (fun j => .int (z_el k j)) (z_A s.heap.size) s s.heap := by
    intro k
    by_cases h : k < 6 ∧ 2 ≤ k
    · obtain ⟨t, h1⟩ := z_T0s hts hn hz h.1 h.2
      exact ⟨t, fun _ _ => h1⟩
    · exact ⟨0, fun a b => absurd ⟨a, b⟩ h⟩
  have hE : ∀ E : Nat, ∃ a : Nat, E < 3 → (Term.string "ChiefCircles" (z_se E)).eval A s none [] s = some (.ref a) := by
    intro E
    by_cases h : E < 3
    · obtain ⟨a, h1⟩ := z_E0s hn h
      exact ⟨a, fun _ => h1⟩
    · exact ⟨0, fun a => absurd a h⟩
  obtain ⟨fS, hS⟩ := Classical.axiomOfChoice hS
  obtain ⟨fT, hT⟩ := Classical.axiomOfChoice hT
  obtain ⟨fE, hE⟩ := Classical.axiomOfChoice hE
  obtain ⟨w1, w2, w3, w4, ⟨w5, w6, w7⟩, w8, -, -⟩ := z_f7
  obtain ⟨⟨⟨v1, v2, v3⟩, v4, v5, v6⟩, ⟨v7, v8, v9⟩, u1, u2⟩ := z_f8
  have e1 : ∀ k, 2 ≤ k → k < 6 → (fun q => if q = 1 then b else if q < 6 then fT q else if q < 20 then (fS q).1 else s.heap.size + (q - 32)) k = fT k := fun k a1 a2 => by
    show (if k = 1 then b else if k < 6 then fT k else if k < 20 then (fS k).1 else s.heap.size + (k - 32)) = fT k
    rw [if_neg (by omega), if_pos a2]
  have e2 : ∀ k, 6 ≤ k → k < 20 → (fun q => if q = 1 then b else if q < 6 then fT q else if q < 20 then (fS q).1 else s.heap.size + (q - 32)) k = (fS k).1 := fun k a1 a2 => by
    show (if k = 1 then b else if k < 6 then fT k else if k < 20 then (fS k).1 else s.heap.size + (k - 32)) = (fS k).1
    rw [if_neg (by omega), if_neg (by omega), if_pos a2]
  have e3 : ∀ k, 32 ≤ k → (fun q => if q = 1 then b else if q < 6 then fT q else if q < 20 then (fS q).1 else s.heap.size + (q - 32)) k = s.heap.size + (k - 32) := fun k a1 => by
    show (if k = 1 then b else if k < 6 then fT k else if k < 20 then (fS k).1 else s.heap.size + (k - 32)) = s.heap.size + (k - 32)
    rw [if_neg (by omega), if_neg (by omega), if_neg (by omega)]
  refine ⟨fun q => if q = 1 then b else if q < 6 then fT q else if q < 20 then (fS q).1 else s.heap.size + (q - 32), fun k => (fS k).2, fE, ⟨?_, ?_, ?_⟩, rfl, ?_, e3⟩
  · exact ⟨fun q hq => va_Nw.of rfl (hts _ (w1 q hq)), fun q hq => va_Nw.of rfl (hts _ (w2 q hq)), fun E h => va_Nw.of rfl (hts _ (w3 E h)), fun y hy => va_Nw.of rfl (hts _ (w4 y hy)), ⟨hts _ w5, hts _ w6, hts _ w7⟩, fun E F hE hF h => va_Nc.of (hn _ (w8 E hE F hF h))⟩
  · refine ⟨fun q hq => ?_, fun q hq => ?_⟩
    · obtain ⟨⟨a1, a2, a3⟩, a4⟩ := z_f5 q hq
      have h1 := (hS q.2.2 a2 a3).1
      unfold z_tk at h1
      rw [a1] at h1
      rw [e2 _ a3 a2]
      exact vk_R.of (hts _ a4) h1
    · obtain ⟨a1, a2⟩ := z_f6 q hq
      have h1 := hE q.2.2.1 a1
      have h2 := (z_f4 q.2.2.1 a1).2
      rw [a2] at h1 h2
      exact vk_R.of (hts _ h2) h1
  · refine ⟨fun k a1 a2 => ?_, ⟨va_Zof (hts _ v1) (hts _ v2) (va_eqt (hn _ v3)) hz, va_Zqof (hts _ v4) (hts _ v5) (hn _ v6) hz⟩, fun k a1 a2 => ?_, vx_Zqof (hts _ v7) (hts _ v8) (hn _ v9) hz, vx_Zqof (hts _ u1) (hts _ v8) (hn _ u2) hz⟩
    · rw [e1 k a1 a2]
      exact (hT k a2 a1).1
    · unfold z_S8
      rw [e2 k a1 a2]
      exact (hS k a2 a1).2
  · intro k a1 a2
    rw [e1 k a1 a2]
    exact (hT k a2 a1).2
end
