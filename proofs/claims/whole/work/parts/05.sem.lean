/-! ===== the small machine: a step function over places, ints and references; its runs ===== -/
def z_np (G : zG) : Nat := G.1.1
def z_nc (G : zG) : Nat := G.1.2.1
def z_ns (G : zG) : Nat := G.1.2.2
def z_kd (G : zG) (p : Nat) : Nat × Nat := G.2.1 p
def z_rf (G : zG) (p k : Nat) : Nat := G.2.2.1 p k
def z_lg (G : zG) (p k : Nat) : Int64 := G.2.2.2 p k
/-- one row of the memory is another; one number of a row is another -/
def z_sA (M : zM) (a : Nat) (f : Nat → Int32) : zM := fun q => if q = a then f else M q
def z_u (f : Nat → Int32) (k : Nat) (v : Int32) : Nat → Int32 := fun j => if j = k then v else f j
def z_setR (G : zG) (p k q : Nat) : zG := (G.1, G.2.1, (fun a => if a = p then (fun j => if j = k then q else G.2.2.1 p j) else G.2.2.1 a), G.2.2.2)
def z_setL (G : zG) (p k : Nat) (x : Int64) : zG := (G.1, G.2.1, G.2.2.1, (fun a => if a = p then (fun j => if j = k then x else G.2.2.2 p j) else G.2.2.2 a))
/-- one more place -/
def z_new (G : zG) (kind : Nat × Nat) (sl : Nat) : zG := ((G.1.1 + 1, G.1.2.1 + 1, G.1.2.2 + sl), (fun a => if a = G.1.1 then kind else G.2.1 a), (fun a => if a = G.1.1 then (fun _ => 0) else G.2.2.1 a), (fun a => if a = G.1.1 then (fun _ => 0) else G.2.2.2 a))
/-- an array of n arrays of k ints: the outer one, then the inner ones -/
def z_new2 (G : zG) (n k : Nat) : zG := ((G.1.1 + (1 + n), G.1.2.1 + (1 + n), G.1.2.2 + (n + n * k)), (fun a => if a = G.1.1 then (5, n) else if G.1.1 < a ∧ a ≤ G.1.1 + n then (1, k) else G.2.1 a), (fun a => if a = G.1.1 then (fun j => if j < n then G.1.1 + 1 + j else 0) else if G.1.1 < a ∧ a ≤ G.1.1 + n then (fun _ => 0) else G.2.2.1 a), (fun a => if G.1.1 ≤ a ∧ a ≤ G.1.1 + n then (fun _ => 0) else G.2.2.2 a))
def z_new2M (G : zG) (n : Nat) (M : zM) : zM := fun a => if G.1.1 ≤ a ∧ a ≤ G.1.1 + n then (fun _ => 0) else M a
/-- an exception's cell and slots are made: no place -/
def z_thr (G : zG) : zG := ((G.1.1, G.1.2.1 + 1, G.1.2.2 + 6), G.2)
abbrev zN : Type := Option Nat × List Value × List Value × zG × zM
abbrev zQ : Type := Option Value ⊕ Nat
abbrev zD : Type := zQ × zG × zM
abbrev zK : Type := Nat × List Value × List Value
abbrev zS : Type := Option (zN ⊕ (zD ⊕ zK))
abbrev z_go (ls st : List Value) (G : zG) (M : zM) : zS := some (.inl (none, ls, st, G, M))
abbrev z_to (L : Nat) (ls st : List Value) (G : zG) (M : zM) : zS := some (.inl (some L, ls, st, G, M))
abbrev z_dn (q : zQ) (G : zG) (M : zM) : zS := some (.inr (.inl (q, G, M)))
/-- a value is stored as a local: not behind a long -/
def z_put : List Value → Nat → Value → Option (List Value)
  | [], _, _ => none
  | _ :: r, 0, v => some (v :: r)
  | x :: r, k + 1, v => if k = 0 ∧ x.category = 2 then none else (z_put r k v).map (fun r' => x :: r')
def z_putL : List Value → Nat → Int64 → Option (List Value)
  | _ :: _ :: r, 0, v => some (.long v :: .null :: r)
  | x :: r, k + 1, v => if k = 0 ∧ x.category = 2 then none else (z_putL r k v).map (fun r' => x :: r')
  | _, _, _ => none
def z_take : Nat → List Value → List Value → Option (List Value × List Value)
  | 0, st, acc => some (acc, st)
  | n + 1, v :: st, acc => z_take n st (v :: acc)
  | _ + 1, [], _ => none
def z_cat : List Value → Nat
  | [] => 0
  | v :: r => v.category + z_cat r
/-- how many fields a class has -/
def z_nf : Nat → Nat
  | 0 => 1 | 1 => 6 | 2 => 15 | 3 => 4 | 4 => 9 | 5 => 9 | 6 => 11 | 7 => 20 | _ => 0
def z_ushr (x y : Int32) : Int32 := (x.toUInt32 >>> (y.toUInt32 &&& Int32.toUInt32 31)).toInt32
def z_cmpl (x y : Int64) : Int32 := if x < y then -1 else if x = y then 0 else 1
def z_swt (a : Nat) (x : Int32) : Nat := if x.toInt < ((z_sw a).1 : Int) then (z_sw a).2.2 else (z_sw a).2.1.getD (x.toInt - ((z_sw a).1 : Int)).toNat (z_sw a).2.2
/-- the receiver of a call by a name is of the class that has the method -/
def z_rcB (o f : Nat) (av : List Value) (G : zG) : Bool := (o == 63) || (o == 67) || (match av with | .ref p :: _ => !(o == 64) || decide (z_kd G p = (0, z_rc f) ∧ 32 ≤ p) | _ => false)
def z_cg (o f n : Nat) (st : List Value) (G : zG) : Option (List Value × List Value) := match z_take n st [] with
  | some (av, rest) => if z_rcB o f av G = true ∧ z_cat rest ≤ 8 ∧ z_cat av ≤ n then some (av, rest) else none
  | none => none
def z_step (o a b : Nat) (ls st : List Value) (G : zG) (M : zM) : zS :=
  match o with
  | 0 => match ls[a]? with | some (.int x) => z_go ls (.int x :: st) G M | _ => none
  | 1 => match ls[a]? with | some (.int x) => z_go ls (.int x :: st) G M | _ => none
  | 2 => match ls[a]? with | some (.ref x) => z_go ls (.ref x :: st) G M | _ => none
  | 3 => match ls[a]? with | some (.ref x) => z_go ls (.ref x :: st) G M | _ => none
  | 4 => match ls[a]? with | some (.long x) => z_go ls (.long x :: st) G M | _ => none
  | 5 => z_go ls (.int (Int32.ofNat a) :: st) G M
  | 6 => z_go ls (.int (Int32.ofNat a) :: st) G M
  | 7 => z_go ls (.int (Int32.ofNat a) :: st) G M
  | 8 => z_go ls (.int (Int32.ofNat a) :: st) G M
  | 9 => z_go ls (.int (Int32.ofNat a) :: st) G M
  | 10 => match st with | .int x :: r => (match z_put ls a (.int x) with | some ls' => z_go ls' r G M | none => none) | _ => none
  | 11 => match st with | .int x :: r => (match z_put ls a (.int x) with | some ls' => z_go ls' r G M | none => none) | _ => none
  | 12 => match st with | .ref x :: r => (match z_put ls a (.ref x) with | some ls' => z_go ls' r G M | none => none) | _ => none
  | 13 => match st with | .ref x :: r => (match z_put ls a (.ref x) with | some ls' => z_go ls' r G M | none => none) | _ => none
  | 14 => match st with | .long x :: r => (match z_putL ls a x with | some ls' => z_go ls' r G M | none => none) | _ => none
  | 15 => match ls[a]? with | some (.int x) => (match z_put ls a (.int (x + Int32.ofNat b)) with | some ls' => z_go ls' st G M | none => none) | _ => none
  | 16 => match st with | .ref p :: r => if z_kd G p = (0, a) ∧ 32 ≤ p then z_go ls (.int (M p b) :: r) G M else none | _ => none
  | 17 => match st with | .ref p :: r => if (z_kd G p = (0, a) ∧ 32 ≤ p) ∧ z_rf G p b ≠ 0 then z_go ls (.ref (z_rf G p b) :: r) G M else none | _ => none
  | 18 => match st with | .int x :: .ref p :: r => if z_kd G p = (0, a) ∧ 32 ≤ p then z_go ls r G (z_sA M p (z_u (M p) b x)) else none | _ => none
  | 19 => match st with | .ref q :: .ref p :: r => if (z_kd G p = (0, a) ∧ 32 ≤ p) ∧ q ≠ 0 then z_go ls r (z_setR G p b q) M else none | _ => none
  | 20 => match st with | .int y :: .int x :: r => z_go ls (.int (x + y) :: r) G M | _ => none
  | 21 => match st with | .int y :: .int x :: r => z_go ls (.int (x - y) :: r) G M | _ => none
  | 22 => match st with | .int y :: .int x :: r => z_go ls (.int (x * y) :: r) G M | _ => none
  | 23 => match st with | .int y :: .int x :: r => z_go ls (.int (x &&& y) :: r) G M | _ => none
  | 24 => match st with | .int y :: .int x :: r => z_go ls (.int (x ||| y) :: r) G M | _ => none
  | 25 => match st with | .int y :: .int x :: r => z_go ls (.int (x ^^^ y) :: r) G M | _ => none
  | 26 => match st with | .int y :: .int x :: r => z_go ls (.int (x <<< (y &&& 31)) :: r) G M | _ => none
  | 27 => match st with | .int y :: .int x :: r => z_go ls (.int (x >>> (y &&& 31)) :: r) G M | _ => none
  | 28 => match st with | .int y :: .int x :: r => z_go ls (.int (z_ushr x y) :: r) G M | _ => none
  | 29 => match st with | .int y :: .int x :: r => if y = 0 then none else z_go ls (.int (x / y) :: r) G M | _ => none
  | 30 => match st with | .int y :: .int x :: r => if y = 0 then none else z_go ls (.int (x - x / y * y) :: r) G M | _ => none
  | 31 => match st with | .int x :: r => z_go ls (.int (-x) :: r) G M | _ => none
  | 32 => match st with | .int i :: .ref p :: r => if (z_kd G p).1 = 1 ∧ ¬ i < 0 ∧ i.toNatClampNeg < (z_kd G p).2 then z_go ls (.int (M p i.toNatClampNeg) :: r) G M else none | _ => none
  | 33 => match st with | .int x :: .int i :: .ref p :: r => if ((z_kd G p).1 = 1 ∧ 32 ≤ p) ∧ ¬ i < 0 ∧ i.toNatClampNeg < (z_kd G p).2 then z_go ls r G (z_sA M p (z_u (M p) i.toNatClampNeg x)) else none | _ => none
  | 34 => match st with | .int i :: .ref p :: r => if ((3 ≤ (z_kd G p).1 ∧ (z_kd G p).1 ≤ 5 ∧ 32 ≤ p) ∧ ¬ i < 0 ∧ i.toNatClampNeg < (z_kd G p).2) ∧ z_rf G p i.toNatClampNeg ≠ 0 then z_go ls (.ref (z_rf G p i.toNatClampNeg) :: r) G M else none | _ => none
  | 35 => match st with | .ref q :: .int i :: .ref p :: r => if ((((z_kd G p).1 = 3 ∧ z_kd G q = (0, 2)) ∨ ((z_kd G p).1 = 4 ∧ z_kd G q = (0, 5))) ∧ 32 ≤ p ∧ 32 ≤ q) ∧ ¬ i < 0 ∧ i.toNatClampNeg < (z_kd G p).2 then z_go ls r (z_setR G p i.toNatClampNeg q) M else none | _ => none
  | 36 => match st with | .ref p :: r => if (z_kd G p).1 = 1 then z_go ls (.int (Int32.ofNat (z_kd G p).2) :: r) G M else none | _ => none
  | 37 => match st with | .int i :: .ref p :: r => if ((z_kd G p).1 = 2 ∧ 32 ≤ p) ∧ ¬ i < 0 ∧ i.toNatClampNeg < (z_kd G p).2 then z_go ls (.long (z_lg G p i.toNatClampNeg) :: r) G M else none | _ => none
  | 38 => match st with | .long x :: .int i :: .ref p :: r => if ((z_kd G p).1 = 2 ∧ 32 ≤ p) ∧ ¬ i < 0 ∧ i.toNatClampNeg < (z_kd G p).2 then z_go ls r (z_setL G p i.toNatClampNeg x) M else none | _ => none
  | 39 => match st with | v :: r => if v.category = 1 then z_go ls (v :: v :: r) G M else none | _ => none
  | 40 => match st with | v :: w :: r => if v.category = 1 ∧ w.category = 1 then z_go ls (v :: w :: v :: w :: r) G M else none | _ => none
  | 41 => match st with | v :: r => if v.category = 1 then z_go ls r G M else none | _ => none
  | 42 => match st with | .int y :: .int x :: r => if x = y then z_to a ls r G M else z_to b ls r G M | _ => none
  | 43 => match st with | .int y :: .int x :: r => if x = y then z_to b ls r G M else z_to a ls r G M | _ => none
  | 44 => match st with | .int y :: .int x :: r => if x < y then z_to a ls r G M else z_to b ls r G M | _ => none
  | 45 => match st with | .int y :: .int x :: r => if x < y then z_to b ls r G M else z_to a ls r G M | _ => none
  | 46 => match st with | .int y :: .int x :: r => if y < x then z_to a ls r G M else z_to b ls r G M | _ => none
  | 47 => match st with | .int y :: .int x :: r => if y < x then z_to b ls r G M else z_to a ls r G M | _ => none
  | 48 => match st with | .int x :: r => if x = 0 then z_to a ls r G M else z_to b ls r G M | _ => none
  | 49 => match st with | .int x :: r => if x = 0 then z_to b ls r G M else z_to a ls r G M | _ => none
  | 50 => match st with | .int x :: r => if x < 0 then z_to a ls r G M else z_to b ls r G M | _ => none
  | 51 => match st with | .int x :: r => if x < 0 then z_to b ls r G M else z_to a ls r G M | _ => none
  | 52 => match st with | .int x :: r => if 0 < x then z_to a ls r G M else z_to b ls r G M | _ => none
  | 53 => match st with | .int x :: r => if 0 < x then z_to b ls r G M else z_to a ls r G M | _ => none
  | 54 => z_to a ls st G M
  | 55 => z_to a ls st G M
  | 56 => match st with | .int x :: r => z_to (z_swt a x) ls r G M | _ => none
  | 57 => match st with | .int x :: r => z_go ls (.long x.toInt64 :: r) G M | _ => none
  | 58 => match st with | .long y :: .long x :: r => z_go ls (.long (x + y) :: r) G M | _ => none
  | 59 => match st with | .long y :: .long x :: r => z_go ls (.long (x * y) :: r) G M | _ => none
  | 60 => match st with | .long y :: .long x :: r => z_go ls (.int (z_cmpl x y) :: r) G M | _ => none
  | 61 => z_go ls (.long (Int64.ofNat a) :: st) G M
  | 62 => z_go ls (.long (Int64.ofNat a) :: st) G M
  | 63 => (z_cg 63 a b st G).map fun q => .inr (.inr (a, q.1, q.2))
  | 64 => (z_cg 64 a b st G).map fun q => .inr (.inr (a, q.1, q.2))
  | 65 => (z_cg 65 a b st G).map fun q => .inr (.inr (a, q.1, q.2))
  | 66 => (z_cg 66 a b st G).map fun q => .inr (.inr (a, q.1, q.2))
  | 67 => (z_cg 67 a b st G).map fun q => .inr (.inr (a, q.1, q.2))
  | 68 => match st with | .ref _ :: r => if z_cat r ≤ 8 then z_go ls r G M else none | _ => none
  | 69 => match st with | [] => z_dn (.inl none) G M | _ => none
  | 70 => match st with | [.int x] => z_dn (.inl (some (.int x))) G M | _ => none
  | 71 => match st with | [.long x] => z_dn (.inl (some (.long x))) G M | _ => none
  | 72 => match st with | [.int x] => if x = 0 ∨ x = 1 then z_dn (.inl (some (.int x))) G M else none | _ => none
  | 73 => if z_np G = z_nc G + 32 then z_go ls (.ref (z_np G) :: st) (z_new G (0, a) (z_nf a)) (z_sA M (z_np G) (fun _ => 0)) else none
  | 74 => match st with | .int n :: r => if z_np G = z_nc G + 32 ∧ ¬ n < 0 ∧ n.toNatClampNeg ≤ 100000 then z_go ls (.ref (z_np G) :: r) (z_new G (1, n.toNatClampNeg) n.toNatClampNeg) (z_sA M (z_np G) (fun _ => 0)) else none | _ => none
  | 75 => match st with | .int n :: r => if z_np G = z_nc G + 32 ∧ ¬ n < 0 ∧ n.toNatClampNeg ≤ 100000 then z_go ls (.ref (z_np G) :: r) (z_new G (2, n.toNatClampNeg) n.toNatClampNeg) (z_sA M (z_np G) (fun _ => 0)) else none | _ => none
  | 76 => match st with | .int n :: r => if z_np G = z_nc G + 32 ∧ ¬ n < 0 ∧ n.toNatClampNeg ≤ 100000 then z_go ls (.ref (z_np G) :: r) (z_new G (a, n.toNatClampNeg) n.toNatClampNeg) (z_sA M (z_np G) (fun _ => 0)) else none | _ => none
  | 77 => match st with | .int k :: .int n :: r => if z_np G = z_nc G + 32 ∧ (¬ n < 0 ∧ n.toNatClampNeg ≤ 100000) ∧ ¬ k < 0 ∧ k.toNatClampNeg ≤ 100000 then z_go ls (.ref (z_np G) :: r) (z_new2 G n.toNatClampNeg k.toNatClampNeg) (z_new2M G n.toNatClampNeg M) else none | _ => none
  | 78 => z_go ls (.ref a :: st) G M
  | 79 => z_go ls (.ref a :: st) G M
  | 80 => match st with | [.int n, .int dp, .ref q, .int sp, .ref p] => if (((z_kd G p).1 = 1 ∧ 32 ≤ p) ∧ (z_kd G q).1 = 1 ∧ 32 ≤ q) ∧ (¬ sp < 0 ∧ ¬ dp < 0 ∧ ¬ n < 0) ∧ sp.toNatClampNeg + n.toNatClampNeg ≤ (z_kd G p).2 ∧ dp.toNatClampNeg + n.toNatClampNeg ≤ (z_kd G q).2 then z_go ls [] G (z_sA M q (va_cpy (M p) (M q) sp.toNatClampNeg dp.toNatClampNeg n.toNatClampNeg)) else none | _ => none
  | 81 => match st with | .ref p :: r => if (6 ≤ p ∧ p < 20) ∧ z_cat r ≤ 8 then z_go ls (.int (Int32.ofNat (z_tx p).length) :: r) G M else none | _ => none
  | 82 => match st with | .int i :: .ref p :: r => if (6 ≤ p ∧ p < 20) ∧ (¬ i < 0 ∧ i.toNatClampNeg < (z_tx p).length) ∧ z_cat r ≤ 8 then z_go ls (.int (Int32.ofNat ((z_tx p).getD i.toNatClampNeg 0)) :: r) G M else none | _ => none
  | 83 => match st with | [] => z_dn (.inr a) (z_thr G) M | _ => none
  | 84 => z_go ls (.ref a :: st) G M
  | 85 => z_go ls (.ref a :: st) G M
  | 86 => match st with | .int y :: .int x :: r => if z_cat r ≤ 8 then z_go ls (.int (if x < y then y else x) :: r) G M else none | _ => none
  | 87 => match st with | .int y :: .int x :: r => if z_cat r ≤ 8 then z_go ls (.int (if y < x then y else x) :: r) G M else none | _ => none
  | _ => none
def z_ent (f : Nat) (av : List Value) : List Value := av ++ List.replicate (z_mxl f - av.length) .null
def z_run : Nat → Nat → List zO → List Value → List Value → zG → zM → Option zD
  | 0, _, _, _, _, _, _ => none
  | _ + 1, _, [], _, _, _, _ => none
  | n + 1, m, op :: ops, ls, st, G, M =>
    match z_step op.1 op.2.1 op.2.2.1 ls st G M with
    | none => none
    | some (.inl (L, ls', st', G', M')) => z_run n m (match L with | none => ops | some t => z_blk m t) ls' st' G' M'
    | some (.inr (.inl d)) => some d
    | some (.inr (.inr (f, av, rest))) =>
      match z_run n f (z_blk f 0) (z_ent f av) [] G M with
      | none => none
      | some (.inl r, G', M') => z_run n m ops ls (r.toList ++ rest) G' M'
      | some (.inr E, G', M') => if op.1 = 64 then (match z_hd m E with
        | none => some (.inr E, G', M')
        | some (t, k) => match z_put ls k .null with
          | none => none
          | some ls' => z_run n m (z_blk m t) ls' [] G' M') else none
theorem z_run_up : ∀ (n m : Nat) (ops : List zO) (ls st : List Value) (G : zG) (M : zM) (d : zD), z_run n m ops ls st G M = some d → z_run (n + 1) m ops ls st G M = some d := by
  intro n
  induction n with
  | zero => intro m ops ls st G M d h; simp [z_run] at h
  | succ n ih =>
    intro m ops ls st G M d h
    cases ops with
    | nil => simp [z_run] at h
    | cons op ops =>
      rw [z_run] at h ⊢
      generalize z_step op.1 op.2.1 op.2.2.1 ls st G M = r at h ⊢
      rcases r with _ | ⟨L, ls', st', G', M'⟩ | d' | ⟨f, av, rest⟩
      · exact h
      · exact ih _ _ _ _ _ _ _ h
      · exact h
      · dsimp only at h ⊢
        generalize hc : z_run n f (z_blk f 0) (z_ent f av) [] G M = rc at h
        rcases rc with _ | ⟨q, G', M'⟩
        · cases h
        · rw [ih _ _ _ _ _ _ _ hc]
          rcases q with r | E
          · exact ih _ _ _ _ _ _ _ h
          · dsimp only at h ⊢
            by_cases h64 : op.1 = 64
            · rw [if_pos h64] at h ⊢
              generalize z_hd m E = hh at h ⊢
              rcases hh with _ | ⟨t, k⟩
              · exact h
              · dsimp only at h ⊢
                generalize z_put ls k .null = pp at h ⊢
                rcases pp with _ | ls'
                · exact h
                · exact ih _ _ _ _ _ _ _ h
            · rw [if_neg h64] at h
              cases h
theorem z_run_le {n k m : Nat} {ops : List zO} {ls st : List Value} {G : zG} {M : zM} {d : zD} (hk : n ≤ k) (h : z_run n m ops ls st G M = some d) : z_run k m ops ls st G M = some d := by
  induction hk with
  | refl => exact h
  | step _ ih => exact z_run_up _ _ _ _ _ _ _ _ ih
/-- what a run comes to, if it ends -/
noncomputable def z_ex (m : Nat) (ops : List zO) (ls st : List Value) (G : zG) (M : zM) : Option zD := by
  classical
  exact if h : ∃ d n, z_run n m ops ls st G M = some d then some (Classical.choose h) else none
theorem z_ex_iff {m : Nat} {ops : List zO} {ls st : List Value} {G : zG} {M : zM} {d : zD} : z_ex m ops ls st G M = some d ↔ ∃ n, z_run n m ops ls st G M = some d := by
  classical
  unfold z_ex
  constructor
  · intro h
    split at h
    · rename_i hh
      cases h
      exact Classical.choose_spec hh
    · cases h
  · rintro ⟨n, hn⟩
    have hh : ∃ d n, z_run n m ops ls st G M = some d := ⟨d, n, hn⟩
    rw [dif_pos hh]
    obtain ⟨n', hn'⟩ := Classical.choose_spec hh
    have h1 := z_run_le (Nat.le_max_left n n') hn
    have h2 := z_run_le (Nat.le_max_right n n') hn'
    rw [h1] at h2
    exact h2.symm
theorem z_ext {a b : Option zD} (h : ∀ d, a = some d ↔ b = some d) : a = b := by
  cases a with
  | none => cases b with
    | none => rfl
    | some d => exact ((h d).mpr rfl).symm ▸ rfl
  | some d => exact ((h d).mp rfl).symm
noncomputable def z_call (f : Nat) (av : List Value) (G : zG) (M : zM) : Option zD := z_ex f (z_blk f 0) (z_ent f av) [] G M
/-- what follows a call -/
noncomputable def z_k (o m : Nat) (ops : List zO) (ls rest : List Value) : Option zD → Option zD
  | none => none
  | some (.inl r, G', M') => z_ex m ops ls (r.toList ++ rest) G' M'
  | some (.inr E, G', M') => if o = 64 then (match z_hd m E with
    | none => some (.inr E, G', M')
    | some (t, k) => match z_put ls k .null with
      | none => none
      | some ls' => z_ex m (z_blk m t) ls' [] G' M') else none
theorem z_ex_cons (m : Nat) (op : zO) (ops : List zO) (ls st : List Value) (G : zG) (M : zM) : z_ex m (op :: ops) ls st G M = match z_step op.1 op.2.1 op.2.2.1 ls st G M with
    | none => none
    | some (.inl (L, ls', st', G', M')) => z_ex m (match L with | none => ops | some t => z_blk m t) ls' st' G' M'
    | some (.inr (.inl d)) => some d
    | some (.inr (.inr (f, av, rest))) => z_k op.1 m ops ls rest (z_call f av G M) := by
  apply z_ext
  intro d
  rw [z_ex_iff]
  have e : (∃ n, z_run n m (op :: ops) ls st G M = some d) ↔ ∃ n, z_run (n + 1) m (op :: ops) ls st G M = some d := by
    constructor
    · rintro ⟨n, h⟩; exact ⟨n, z_run_up _ _ _ _ _ _ _ _ h⟩
    · rintro ⟨n, h⟩; exact ⟨n + 1, h⟩
  rw [e]
  simp only [z_run]
  generalize z_step op.1 op.2.1 op.2.2.1 ls st G M = r
  rcases r with _ | ⟨L, ls', st', G', M'⟩ | d' | ⟨f, av, rest⟩
  · simp
  · dsimp only
    rw [z_ex_iff]
  · simp
  · dsimp only
    constructor
    · rintro ⟨n, h⟩
      generalize hc : z_run n f (z_blk f 0) (z_ent f av) [] G M = rc at h
      rcases rc with _ | ⟨q, G', M'⟩
      · cases h
      · have hcc : z_call f av G M = some (q, G', M') := z_ex_iff.mpr ⟨n, hc⟩
        rw [hcc]
        rcases q with r | E
        · exact z_ex_iff.mpr ⟨n, h⟩
        · dsimp only [z_k] at h ⊢
          by_cases h64 : op.1 = 64
          · rw [if_pos h64] at h ⊢
            generalize z_hd m E = hh at h ⊢
            rcases hh with _ | ⟨t, k⟩
            · exact h
            · dsimp only at h ⊢
              generalize z_put ls k .null = pp at h ⊢
              rcases pp with _ | ls'
              · exact h
              · exact z_ex_iff.mpr ⟨n, h⟩
          · rw [if_neg h64] at h
            cases h
    · intro h
      generalize hcc : z_call f av G M = rc at h
      rcases rc with _ | ⟨q, G', M'⟩
      · simp [z_k] at h
      · obtain ⟨n1, hn1⟩ := z_ex_iff.mp hcc
        rcases q with r | E
        · dsimp only [z_k] at h
          obtain ⟨n2, hn2⟩ := z_ex_iff.mp h
          refine ⟨max n1 n2, ?_⟩
          rw [z_run_le (Nat.le_max_left n1 n2) hn1]
          exact z_run_le (Nat.le_max_right n1 n2) hn2
        · dsimp only [z_k] at h
          by_cases h64 : op.1 = 64
          · rw [if_pos h64] at h
            generalize hh0 : z_hd m E = hh at h
            rcases hh with _ | ⟨t, k⟩
            · refine ⟨n1, ?_⟩
              rw [hn1]
              dsimp only
              rw [if_pos h64, hh0]
              exact h
            · dsimp only at h
              generalize hp0 : z_put ls k .null = pp at h
              rcases pp with _ | ls'
              · cases h
              · obtain ⟨n2, hn2⟩ := z_ex_iff.mp h
                refine ⟨max n1 n2, ?_⟩
                rw [z_run_le (Nat.le_max_left n1 n2) hn1]
                dsimp only
                rw [if_pos h64, hh0]
                dsimp only
                rw [hp0]
                exact z_run_le (Nat.le_max_right n1 n2) hn2
          · rw [if_neg h64] at h
            cases h
