/-! ===== the small machine's state in the real heap ===== -/
def z_A (z : Nat) : Nat → Prop := fun q => z ≤ q
def z_cv (ad : Nat → Nat) (v : Value) : Value := match v with
  | .ref q => .ref (ad q)
  | w => w
def z_ro (ad : Nat → Nat) (r : Nat) : Option Nat := if r = 0 then none else some (ad r)
def z_fs (ad : Nat → Nat) (ci : Nat) (rf : Nat → Nat) (row : Nat → Int32) : List Value := (List.range (z_nf ci)).map (fun k => if z_isR ci k = true then va_rf (z_ro ad (rf k)) else .int (row k))
def z_cell (ad : Nat → Nat) (ka : Nat → ClassId) (G : zG) (M : zM) (q : Nat) : va_E :=
  if (z_kd G q).1 = 0 then .inr ((z_kd G q).2, z_fs ad (z_kd G q).2 (z_rf G q) (M q))
  else if (z_kd G q).1 = 1 then .inl (ka 1, (z_kd G q).2, .inl (M q))
  else if (z_kd G q).1 = 2 then .inl (ka 2, (z_kd G q).2, .inr (.inl (z_lg G q)))
  else .inl (ka (z_kd G q).1, (z_kd G q).2, .inr (.inr (.inr (.inr (fun k => z_ro ad (z_rf G q k))))))
def z_ws (z : Nat) (ad : Nat → Nat) (ka : Nat → ClassId) (G : zG) (M : zM) : va_W := (List.range (z_np G - 32)).map (fun i => (z + i, z_cell ad ka G M (32 + i)))
def z_tys (ka : Nat → ClassId) : List (ClassId × FieldType) := [(ka 1, .int), (ka 2, .long), (ka 3, .object "ChiefCircles$Member"), (ka 4, .object "ChiefCircles$World"), (ka 5, .array .int)]
def z_Rel (z : Nat) (ad : Nat → Nat) (ka : Nat → ClassId) (D : va_G) (G : zG) (M : zM) (H : Heap) : Prop :=
  va_P D z_cl (z_ws z ad ka G M) H ∧ 32 ≤ z_np G ∧ z_np G ≤ z_nc G + 32 ∧ ∀ q, z_np G ≤ q → (z_kd G q).1 = 9
def z_Ext (z : Nat) (ad : Nat → Nat) (U : State) (H : Heap) (G : zG) (M : zM) : Prop := ∀ q, q < 32 → (z_kd G q).1 = 1 → va_T .int (ad q) (z_kd G q).2 (fun j => .int (M q j)) (z_A z) U H
theorem z_Ext.kp {z : Nat} {ad : Nat → Nat} {U : State} {H : Heap} {G G1 : zG} {M M1 : zM} (h : z_Ext z ad U H G M) (k : z_Kp G M G1 M1) : z_Ext z ad U H G1 M1 := by
  intro q hq h1
  rw [(k.1 q hq).1] at h1 ⊢
  rw [(k.1 q hq).2]
  exact h q hq h1
theorem z_ws_get {z : Nat} {ad : Nat → Nat} {ka : Nat → ClassId} {G : zG} {M : zM} {q : Nat} (h1 : 32 ≤ q) (h2 : q < z_np G) : (z_ws z ad ka G M)[q - 32]? = some (z + (q - 32), z_cell ad ka G M q) := by
  unfold z_ws
  rw [List.getElem?_map, List.getElem?_range (by omega)]
  simp only [Option.map_some]
  rw [show 32 + (q - 32) = q by omega]
theorem z_ws_at {z : Nat} {ad : Nat → Nat} {ka : Nat → ClassId} {G : zG} {M : zM} {k : Nat} {x : Nat × va_E} (h : (z_ws z ad ka G M)[k]? = some x) : k < z_np G - 32 ∧ x = (z + k, z_cell ad ka G M (32 + k)) := by
  unfold z_ws at h
  rw [List.getElem?_map] at h
  by_cases hk : k < z_np G - 32
  · rw [List.getElem?_range hk] at h
    simp only [Option.map_some, Option.some.injEq] at h
    exact ⟨hk, h.symm⟩
  · rw [List.getElem?_eq_none (by rw [List.length_range]; omega)] at h
    simp at h
theorem z_ws_D (z : Nat) (ad : Nat → Nat) (ka : Nat → ClassId) (G : zG) (M : zM) : va_D (z_A z) (z_ws z ad ka G M) := by
  refine ⟨fun i j p q hi hj e => ?_, fun k q hk => ?_⟩
  · obtain ⟨-, rfl⟩ := z_ws_at hi
    obtain ⟨-, rfl⟩ := z_ws_at hj
    have e' : z + i = z + j := e
    omega
  · obtain ⟨-, rfl⟩ := z_ws_at hk
    exact Nat.le_add_right z k
theorem z_ws_set {z : Nat} {ad : Nat → Nat} {ka : Nat → ClassId} {G G1 : zG} {M M1 : zM} {q : Nat} (h1 : 32 ≤ q) (h2 : q < z_np G) (hn : z_np G1 = z_np G) (ho : ∀ q', q' ≠ q → z_cell ad ka G1 M1 q' = z_cell ad ka G M q') : (z_ws z ad ka G M).set (q - 32) (z + (q - 32), z_cell ad ka G1 M1 q) = z_ws z ad ka G1 M1 := by
  apply List.ext_getElem?
  intro i
  rw [List.getElem?_set]
  have hl : (z_ws z ad ka G M).length = z_np G - 32 := by simp [z_ws]
  by_cases e : q - 32 = i
  · subst e
    rw [if_pos rfl, if_pos (by rw [hl]; omega), z_ws_get h1 (by omega)]
  · rw [if_neg e]
    by_cases hi : i < z_np G - 32
    · have a1 := z_ws_get (z := z) (ad := ad) (ka := ka) (G := G) (M := M) (q := 32 + i) (by omega) (by omega)
      have a2 := z_ws_get (z := z) (ad := ad) (ka := ka) (G := G1) (M := M1) (q := 32 + i) (by omega) (by omega)
      rw [show 32 + i - 32 = i by omega] at a1 a2
      rw [a1, a2, ho (32 + i) (by omega)]
    · rw [List.getElem?_eq_none (by rw [hl]; omega), List.getElem?_eq_none (by simp [z_ws]; omega)]
theorem z_ws_push {z : Nat} {ad : Nat → Nat} {ka : Nat → ClassId} {G G1 : zG} {M M1 : zM} (h32 : 32 ≤ z_np G) (hn : z_np G1 = z_np G + 1) (ho : ∀ q', q' < z_np G → z_cell ad ka G1 M1 q' = z_cell ad ka G M q') : z_ws z ad ka G1 M1 = z_ws z ad ka G M ++ [(z + (z_np G - 32), z_cell ad ka G1 M1 (z_np G))] := by
  unfold z_ws
  rw [hn, show z_np G + 1 - 32 = (z_np G - 32) + 1 by omega, List.range_succ, List.map_append]
  congr 1
  · apply List.map_congr_left
    intro i hi
    rw [ho (32 + i) (by have := List.mem_range.mp hi; omega)]
  · simp only [List.map_cons, List.map_nil]
    rw [show 32 + (z_np G - 32) = z_np G by omega]
theorem z_lt_of_kd {z : Nat} {ad : Nat → Nat} {ka : Nat → ClassId} {D : va_G} {G : zG} {M : zM} {H : Heap} (h : z_Rel z ad ka D G M H) {q : Nat} (hk : (z_kd G q).1 ≠ 9) : q < z_np G := by
  rcases Nat.lt_or_ge q (z_np G) with a | a
  · exact a
  · exact absurd (h.2.2.2 q a) hk
/-! the locals -/
def z_loc (ad : Nat → Nat) (arr : Array Slot) (ls : List Value) : Prop := arr.size = ls.length ∧ lv_wf arr ∧ ∀ (i : Nat) (v : Value), ls[i]? = some v → v ≠ .null → arr[i]? = some (.val (z_cv ad v))
def z_lv (ad : Nat → Nat) (ls : List Value) : List (Nat × Value) := (List.range ls.length).filterMap (fun i => (ls[i]?).bind (fun v => if v = Value.null then none else some (i, z_cv ad v)))
theorem z_lv_mem {ad : Nat → Nat} {ls : List Value} {q : Nat × Value} : q ∈ z_lv ad ls ↔ ∃ v, ls[q.1]? = some v ∧ v ≠ .null ∧ q.2 = z_cv ad v := by
  unfold z_lv
  rw [List.mem_filterMap]
  constructor
  · rintro ⟨i, -, h⟩
    rw [Option.bind_eq_some_iff] at h
    obtain ⟨v, hv, h⟩ := h
    split at h
    · cases h
    · rename_i hn
      cases h
      exact ⟨v, hv, hn, rfl⟩
  · rintro ⟨v, h1, h2, h3⟩
    have hlt : q.1 < ls.length := (List.getElem?_eq_some_iff.mp h1).1
    refine ⟨q.1, List.mem_range.mpr hlt, ?_⟩
    rw [h1]
    obtain ⟨i, w⟩ := q
    dsimp only at h3 ⊢
    subst h3
    rw [Option.bind_some, if_neg h2]
theorem z_loc.has {ad : Nat → Nat} {arr : Array Slot} {ls : List Value} (h : z_loc ad arr ls) : lv_has arr ls.length (z_lv ad ls) := by
  refine ⟨h.1, h.2.1, fun q hq => ?_⟩
  obtain ⟨v, h1, h2, h3⟩ := z_lv_mem.mp hq
  rw [h3]
  exact h.2.2 q.1 v h1 h2
theorem z_cat_cv (ad : Nat → Nat) (v : Value) : (z_cv ad v).category = v.category := by cases v <;> rfl
theorem z_put_spec : ∀ {ls : List Value} {i : Nat} {v : Value} {ls' : List Value}, z_put ls i v = some ls' → i < ls.length ∧ ls' = ls.set i v ∧ ∀ x, 0 < i → ls[i - 1]? = some x → x.category ≠ 2
  | [], _, _, _, h => by simp [z_put] at h
  | _ :: r, 0, v, ls', h => by
    simp only [z_put, Option.some.injEq] at h
    exact ⟨by simp, by rw [← h]; rfl, fun x h0 => absurd h0 (by omega)⟩
  | y :: r, k + 1, v, ls', h => by
    rw [z_put] at h
    split at h
    · cases h
    · rename_i hc
      rw [Option.map_eq_some_iff] at h
      obtain ⟨r', h1, h2⟩ := h
      obtain ⟨a1, a2, a3⟩ := z_put_spec h1
      refine ⟨by simp; omega, by rw [← h2, a2]; rfl, fun x _ hx => ?_⟩
      rw [Nat.add_sub_cancel] at hx
      cases k with
      | zero =>
        simp only [List.getElem?_cons_zero, Option.some.injEq] at hx
        subst hx
        exact fun q => hc ⟨rfl, q⟩
      | succ k =>
        rw [List.getElem?_cons_succ] at hx
        exact a3 x (by omega) (by rw [Nat.add_sub_cancel]; exact hx)
theorem z_putL_spec : ∀ {ls : List Value} {i : Nat} {v : Int64} {ls' : List Value}, z_putL ls i v = some ls' → i + 1 < ls.length ∧ ls' = (ls.set i (.long v)).set (i + 1) .null ∧ ∀ x, 0 < i → ls[i - 1]? = some x → x.category ≠ 2
  | [], _, _, _, h => by simp [z_putL] at h
  | [_], 0, _, _, h => by simp [z_putL] at h
  | _ :: _ :: r, 0, v, ls', h => by
    simp only [z_putL, Option.some.injEq] at h
    exact ⟨by simp, by rw [← h]; rfl, fun x h0 => absurd h0 (by omega)⟩
  | y :: r, k + 1, v, ls', h => by
    rw [z_putL] at h
    split at h
    · cases h
    · rename_i hc
      rw [Option.map_eq_some_iff] at h
      obtain ⟨r', h1, h2⟩ := h
      obtain ⟨a1, a2, a3⟩ := z_putL_spec h1
      refine ⟨by simp; omega, by rw [← h2, a2]; rfl, fun x _ hx => ?_⟩
      rw [Nat.add_sub_cancel] at hx
      cases k with
      | zero =>
        simp only [List.getElem?_cons_zero, Option.some.injEq] at hx
        subst hx
        exact fun q => hc ⟨rfl, q⟩
      | succ k =>
        rw [List.getElem?_cons_succ] at hx
        exact a3 x (by omega) (by rw [Nat.add_sub_cancel]; exact hx)
theorem z_loc.put {ad : Nat → Nat} {arr' : Array Slot} {ls ls' : List Value} {i : Nat} {v : Value} (hp : z_put ls i v = some ls') (h : lv_has arr' ls.length ((i, z_cv ad v) :: (z_lv ad ls).filter (fun q => !(q.1 == i) && !(q.1 + 1 == i && q.2.category == 2)))) : z_loc ad arr' ls' := by
  obtain ⟨a1, a2, a3⟩ := z_put_spec hp
  subst a2
  refine ⟨by rw [List.length_set]; exact h.1, h.2.1, fun j u hj hu => ?_⟩
  by_cases e : i = j
  · subst e
    rw [List.getElem?_set, if_pos rfl, if_pos a1] at hj
    cases hj
    exact h.2.2 (i, z_cv ad v) List.mem_cons_self
  · rw [List.getElem?_set, if_neg e] at hj
    refine h.2.2 (j, z_cv ad u) (List.mem_cons_of_mem _ (List.mem_filter.mpr ⟨z_lv_mem.mpr ⟨u, hj, hu, rfl⟩, ?_⟩))
    simp only [Bool.and_eq_true, Bool.not_eq_true', beq_eq_false_iff_ne, ne_eq, Bool.and_eq_false_iff, z_cat_cv]
    refine ⟨fun q => e q.symm, ?_⟩
    by_cases e2 : j + 1 = i
    · right
      subst e2
      exact a3 u (by omega) (by rw [Nat.add_sub_cancel]; exact hj)
    · exact Or.inl e2
theorem z_loc.nul {ad : Nat → Nat} {arr' : Array Slot} {ls ls' : List Value} {i : Nat} {w : Value} (hp : z_put ls i .null = some ls') (h : lv_has arr' ls.length ((i, w) :: (z_lv ad ls).filter (fun q => !(q.1 == i) && !(q.1 + 1 == i && q.2.category == 2)))) : z_loc ad arr' ls' := by
  obtain ⟨a1, a2, a3⟩ := z_put_spec hp
  subst a2
  refine ⟨by rw [List.length_set]; exact h.1, h.2.1, fun j u hj hu => ?_⟩
  by_cases e : i = j
  · subst e
    rw [List.getElem?_set, if_pos rfl, if_pos a1] at hj
    cases hj
    exact absurd rfl hu
  · rw [List.getElem?_set, if_neg e] at hj
    refine h.2.2 (j, z_cv ad u) (List.mem_cons_of_mem _ (List.mem_filter.mpr ⟨z_lv_mem.mpr ⟨u, hj, hu, rfl⟩, ?_⟩))
    simp only [Bool.and_eq_true, Bool.not_eq_true', beq_eq_false_iff_ne, ne_eq, Bool.and_eq_false_iff, z_cat_cv]
    refine ⟨fun q => e q.symm, ?_⟩
    by_cases e2 : j + 1 = i
    · right
      subst e2
      exact a3 u (by omega) (by rw [Nat.add_sub_cancel]; exact hj)
    · exact Or.inl e2
theorem z_loc.putL {ad : Nat → Nat} {arr' : Array Slot} {ls ls' : List Value} {i : Nat} {v : Int64} (hp : z_putL ls i v = some ls') (h : lv_has arr' ls.length ((i, Value.long v) :: (z_lv ad ls).filter (fun q => !(q.1 == i) && (!(q.1 == i + 1) && !(q.1 + 1 == i && q.2.category == 2))))) : z_loc ad arr' ls' := by
  obtain ⟨a1, a2, a3⟩ := z_putL_spec hp
  subst a2
  refine ⟨by rw [List.length_set, List.length_set]; exact h.1, h.2.1, fun j u hj hu => ?_⟩
  rw [List.getElem?_set] at hj
  by_cases e1 : i + 1 = j
  · rw [if_pos e1] at hj
    split at hj
    · cases hj
      exact absurd rfl hu
    · cases hj
  rw [if_neg e1] at hj
  by_cases e : i = j
  · subst e
    rw [List.getElem?_set, if_pos rfl, if_pos (by omega)] at hj
    cases hj
    exact h.2.2 (i, Value.long v) List.mem_cons_self
  · rw [List.getElem?_set, if_neg e] at hj
    refine h.2.2 (j, z_cv ad u) (List.mem_cons_of_mem _ (List.mem_filter.mpr ⟨z_lv_mem.mpr ⟨u, hj, hu, rfl⟩, ?_⟩))
    simp only [Bool.and_eq_true, Bool.not_eq_true', beq_eq_false_iff_ne, ne_eq, Bool.and_eq_false_iff, z_cat_cv]
    refine ⟨fun q => e q.symm, fun q => e1 q.symm, ?_⟩
    by_cases e2 : j + 1 = i
    · right
      subst e2
      exact a3 u (by omega) (by rw [Nat.add_sub_cancel]; exact hj)
    · exact Or.inl e2
theorem z_cat_sum (ad : Nat → Nat) : ∀ r : List Value, ((r.map (z_cv ad)).map fun v => v.category).sum = z_cat r
  | [] => rfl
  | v :: r => by
    simp only [List.map_cons, List.sum_cons, z_cat]
    rw [z_cat_cv, z_cat_sum ad r]
/-- where each class of arrays is told of -/
theorem z_tys_at (ka : Nat → ClassId) : (z_tys ka)[0]? = some (ka 1, .int) ∧ (z_tys ka)[1]? = some (ka 2, .long) ∧ (z_tys ka)[2]? = some (ka 3, .object "ChiefCircles$Member") ∧ (z_tys ka)[3]? = some (ka 4, .object "ChiefCircles$World") ∧ (z_tys ka)[4]? = some (ka 5, .array .int) := ⟨rfl, rfl, rfl, rfl, rfl⟩
theorem z_Rel.size {z : Nat} {ad : Nat → Nat} {ka : Nat → ClassId} {D : va_G} {G : zG} {M : zM} {H : Heap} (h : z_Rel z ad ka D G M H) (hz : z ≤ H.size) : z + (z_np G - 32) ≤ H.size := by
  by_cases e : z_np G = 32
  · rw [e]
    omega
  · have h32 := h.2.1
    have hg := z_ws_get (z := z) (ad := ad) (ka := ka) (G := G) (M := M) (q := z_np G - 1) (by omega) (by omega)
    have h1 := (h.1 _ _ hg).lt
    dsimp only at h1
    omega
theorem z_fs_len (ad : Nat → Nat) (ci : Nat) (rf : Nat → Nat) (row : Nat → Int32) : (z_fs ad ci rf row).length = z_nf ci := by simp [z_fs]
theorem z_fs_at (ad : Nat → Nat) {ci k : Nat} (rf : Nat → Nat) (row : Nat → Int32) (hk : k < z_nf ci) : (z_fs ad ci rf row)[k]? = some (if z_isR ci k = true then va_rf (z_ro ad (rf k)) else .int (row k)) := by
  unfold z_fs
  rw [List.getElem?_map, List.getElem?_range hk]
  rfl
theorem z_fs_setI (ad : Nat → Nat) {ci k : Nat} (rf : Nat → Nat) (row : Nat → Int32) (x : Int32) (hk : k < z_nf ci) (hr : z_isR ci k = false) : (z_fs ad ci rf row).set k (.int x) = z_fs ad ci rf (z_u row k x) := by
  apply List.ext_getElem?
  intro i
  rw [List.getElem?_set, z_fs_len]
  by_cases e : k = i
  · subst e
    rw [if_pos rfl, if_pos hk, z_fs_at ad rf _ hk, hr]
    simp [z_u]
  · rw [if_neg e]
    by_cases hi : i < z_nf ci
    · rw [z_fs_at ad rf _ hi, z_fs_at ad rf _ hi, z_u_n _ _ _ _ (fun q => e q.symm)]
    · rw [List.getElem?_eq_none (by rw [z_fs_len]; omega), List.getElem?_eq_none (by rw [z_fs_len]; omega)]
theorem z_fs_setR (ad : Nat → Nat) {ci k q : Nat} (rf : Nat → Nat) (row : Nat → Int32) (hk : k < z_nf ci) (hr : z_isR ci k = true) (hq : q ≠ 0) : (z_fs ad ci rf row).set k (.ref (ad q)) = z_fs ad ci (fun j => if j = k then q else rf j) row := by
  apply List.ext_getElem?
  intro i
  rw [List.getElem?_set, z_fs_len]
  by_cases e : k = i
  · subst e
    rw [if_pos rfl, if_pos hk, z_fs_at ad _ row hk, hr]
    simp [z_ro, hq, va_rf]
  · rw [if_neg e]
    by_cases hi : i < z_nf ci
    · have e9 : ¬ i = k := fun q => e q.symm
      rw [z_fs_at ad _ row hi, z_fs_at ad _ row hi]
      simp only [if_neg e9]
    · rw [List.getElem?_eq_none (by rw [z_fs_len]; omega), List.getElem?_eq_none (by rw [z_fs_len]; omega)]
theorem z_vp {i : Int32} {n : Nat} (h : ¬ i < 0 ∧ i.toNatClampNeg < n) : vp_in i n := fun q => q.elim h.1 (fun q => absurd h.2 (Nat.not_lt.mpr q))
theorem z_cell_obj {ad : Nat → Nat} {ka : Nat → ClassId} {G : zG} {M : zM} {q ci : Nat} (h : z_kd G q = (0, ci)) : z_cell ad ka G M q = .inr (ci, z_fs ad ci (z_rf G q) (M q)) := by simp [z_cell, h]
theorem z_cell_int {ad : Nat → Nat} {ka : Nat → ClassId} {G : zG} {M : zM} {q : Nat} (h : (z_kd G q).1 = 1) : z_cell ad ka G M q = .inl (ka 1, (z_kd G q).2, .inl (M q)) := by simp [z_cell, h]
theorem z_cell_long {ad : Nat → Nat} {ka : Nat → ClassId} {G : zG} {M : zM} {q : Nat} (h : (z_kd G q).1 = 2) : z_cell ad ka G M q = .inl (ka 2, (z_kd G q).2, .inr (.inl (z_lg G q))) := by simp [z_cell, h]
theorem z_cell_ref {ad : Nat → Nat} {ka : Nat → ClassId} {G : zG} {M : zM} {q : Nat} (h : 3 ≤ (z_kd G q).1) : z_cell ad ka G M q = .inl (ka (z_kd G q).1, (z_kd G q).2, .inr (.inr (.inr (.inr (fun k => z_ro ad (z_rf G q k)))))) := by
  have h0 : ¬ (z_kd G q).1 = 0 := by omega
  have h1 : ¬ (z_kd G q).1 = 1 := by omega
  have h2 : ¬ (z_kd G q).1 = 2 := by omega
  simp [z_cell, h0, h1, h2]
/-- a cell of ours by its place -/
theorem z_at {z : Nat} {ad : Nat → Nat} {ka : Nat → ClassId} {D : va_G} {G : zG} {M : zM} {H : Heap} (hR : z_Rel z ad ka D G M H) (had : ∀ q, 32 ≤ q → ad q = z + (q - 32)) {q : Nat} (h1 : 32 ≤ q) (hk : (z_kd G q).1 ≠ 9) : (z_ws z ad ka G M)[q - 32]? = some (ad q, z_cell ad ka G M q) := by
  rw [z_ws_get h1 (z_lt_of_kd hR hk), had q h1]
/-- one cell of ours is another -/
theorem z_Rel.one {z : Nat} {ad : Nat → Nat} {ka : Nat → ClassId} {D : va_G} {G G1 : zG} {M M1 : zM} {H H1 : Heap} (hR : z_Rel z ad ka D G M H) (had : ∀ q, 32 ≤ q → ad q = z + (q - 32)) {q : Nat} (h1 : 32 ≤ q) (hk : (z_kd G q).1 ≠ 9) (hg : G1.1 = G.1) (hkd : G1.2.1 = G.2.1) (ho : ∀ q', q' ≠ q → z_cell ad ka G1 M1 q' = z_cell ad ka G M q') (hP : va_P D z_cl ((z_ws z ad ka G M).set (q - 32) (ad q, z_cell ad ka G1 M1 q)) H1) : z_Rel z ad ka D G1 M1 H1 := by
  have e1 : z_np G1 = z_np G := by unfold z_np; rw [hg]
  have e2 : z_nc G1 = z_nc G := by unfold z_nc; rw [hg]
  rw [had q h1, z_ws_set h1 (z_lt_of_kd hR hk) e1 ho] at hP
  refine ⟨hP, by rw [e1]; exact hR.2.1, by rw [e1, e2]; exact hR.2.2.1, fun q hq => ?_⟩
  have e3 : z_kd G1 q = z_kd G q := by unfold z_kd; rw [hkd]
  rw [e3]
  exact hR.2.2.2 q (by rw [← e1]; exact hq)
