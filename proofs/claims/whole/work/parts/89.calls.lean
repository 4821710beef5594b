/-! ===== contracts of the small machine's calls, and their use ===== -/
def z_en (E : Nat) : String := if E = 0 then "java/util/NoSuchElementException" else if E = 1 then "java/lang/IllegalArgumentException" else "java/lang/IllegalStateException"
def zz_Pc (Iv : State → Heap → Prop) (z : Nat) (ad : Nat → Nat) (ka : Nat → ClassId) (D : va_G) (av : List Value) (G : zG) (M : zM) : Array Value → State → Prop := va_Pc (av.map (z_cv ad)) (fun U => Iv U U.heap ∧ va_K D z_cl (z_tys ka) U ∧ z_Rel z ad ka D G M U.heap ∧ z_Ext z ad U U.heap G M ∧ z ≤ U.heap.size ∧ U.heap.size ≤ z + z_nc G)
def z_Qr (z : Nat) (ad : Nat → Nat) (ka : Nat → ClassId) (D : va_G) (r : Option Value) (G1 : zG) (M1 : zM) : Array Value → State → Outcome → State → Prop := fun _ st oc t => (oc = .returned (r.map (z_cv ad)) ∧ z_Rel z ad ka D G1 M1 t.heap) ∧ va_F (z_A z) st t
def z_Qx (z : Nat) (ad : Nat → Nat) (ka : Nat → ClassId) (D : va_G) (E : Nat) (G1 : zG) (M1 : zM) : String → State → State → Prop := fun X st t => X = z_en E ∧ z_Rel z ad ka D G1 M1 t.heap ∧ va_F (z_A z) st t
def z_rm (f : Nat) (G G1 : zG) : Room := { frames := z_fr f, cells := z_nc G1 - z_nc G, slots := z_ns G1 - z_ns G, locals := zz_lo f }
/-- a method's contract: what its run on the small machine says -/
def z_Mt (l : Launch) (Iv : State → Heap → Prop) (z : Nat) (ad : Nat → Nat) (ka : Nat → ClassId) (D : va_G) (w : Cond) (f : Nat) (av : List Value) (G : zG) (M : zM) (o : zQ) (G1 : zG) (M1 : zM) : Prop := match o with
  | .inl r => Met l (z_y f) (w :: z_gw) (z_rm f G G1) (zz_Pc Iv z ad ka D av G M) (z_Qr z ad ka D r G1 M1) (z_nc G1 - z_nc G) (z_ns G1 - z_ns G) (z_A z)
  | .inr E => vx_Met l (z_y f) (w :: z_gw) (z_rm f G G1) (zz_Pc Iv z ad ka D av G M) (fun _ _ _ _ => False) (z_Qx z ad ka D E G1 M1) (z_nc G1 - z_nc G) (z_ns G1 - z_ns G) (z_A z)
def z_IvOK (Iv : State → Heap → Prop) (z : Nat) : Prop := (∀ (U V : State) (H : Heap), U.WarmedH V.vm → Iv U H → Iv V H) ∧ (∀ (U : State) (H H1 : Heap), H.size ≤ H1.size → (∀ q : Nat, q < H.size → ¬ z_A z q → H1[q]? = H[q]?) → Iv U H → Iv U H1)
theorem z_Ext.moved {z : Nat} {ad : Nat → Nat} {s U : State} {H : Heap} {G : zG} {M : zM} (hvm : s.vm.Alike U.vm) (h : z_Ext z ad s H G M) : z_Ext z ad U H G M := fun q hq h1 => va_T.moved hvm (h q hq h1)
theorem z_Ext.kept {z : Nat} {ad : Nat → Nat} {s : State} {H H1 : Heap} {G : zG} {M : zM} (h : z_Ext z ad s H G M) (hq : ∀ a : Nat, a < H.size → ¬ z_A z a → H1[a]? = H[a]?) : z_Ext z ad s H1 G M := fun q hq1 h1 => va_T.kept (h q hq1 h1) hq
theorem z_goodIn {w : Cond} (hw : w ∈ z_gw) : GoodIn z_gw (w :: z_gw) := fun x hx => by
  have h : x ∈ z_gw := (List.mem_cons.mp hx).elim (fun e => by rw [e]; exact hw) (fun h => h)
  exact ⟨h, good_of_word (List.mem_filter.mp h).2⟩
theorem z_blind {Iv : State → Heap → Prop} {z : Nat} {ad : Nat → Nat} {ka : Nat → ClassId} {D : va_G} {av : List Value} {G : zG} {M : zM} (hI : z_IvOK Iv z) : FrameBlind (zz_Pc Iv z ad ka D av G M) := by
  intro a U g mk q
  obtain ⟨h1, h2, h3, h4, h5, h6⟩ := q
  exact ⟨h1, hI.1 U (U.calling g mk a) U.heap (State.WarmedH.refl U) h2, va_K.moved (u := U) (U := U.calling g mk a) (Vm.Alike.refl U.vm) h3, h4, z_Ext.moved (s := U) (U := U.calling g mk a) (Vm.Alike.refl U.vm) h5, h6⟩
theorem z_pre {Iv : State → Heap → Prop} {z : Nat} {ad : Nat → Nat} {ka : Nat → ClassId} {D : va_G} {av : List Value} {G : zG} {M : zM} {s : State} {H : Heap} {locs : List Loc} (hI : z_IvOK Iv z) (hi : Iv s s.heap) (hK : va_K D z_cl (z_tys ka) s) (hR : z_Rel z ad ka D G M H) (hE : z_Ext z ad s s.heap G M) (hS : va_S (z_A z) s.heap H locs) (hz : z ≤ s.heap.size) (hsz : H.size ≤ z + z_nc G) : ∀ U : State, U.heap = H → s.WarmedH U.vm → zz_Pc Iv z ad ka D av G M (av.map (z_cv ad)).toArray U := by
  intro U hU hW
  refine ⟨rfl, ?_, va_K.moved hW.alike hK, by rw [hU]; exact hR, ?_, by rw [hU]; exact Nat.le_trans hz hS.1, by rw [hU]; exact hsz⟩
  · rw [hU]
    exact hI.1 s U H hW (hI.2 s s.heap H hS.1 hS.2.1 hi)
  · rw [hU]
    exact z_Ext.moved hW.alike (hE.kept hS.2.1)
theorem z_take_spec : ∀ {n : Nat} {st acc av rest : List Value}, z_take n st acc = some (av, rest) → av.reverse ++ rest = acc.reverse ++ st ∧ av.length = acc.length + n
  | 0, st, acc, av, rest, h => by
    simp only [z_take, Option.some.injEq, Prod.mk.injEq] at h
    obtain ⟨rfl, rfl⟩ := h
    exact ⟨rfl, rfl⟩
  | n + 1, [], acc, av, rest, h => by simp [z_take] at h
  | n + 1, v :: st, acc, av, rest, h => by
    rw [z_take] at h
    obtain ⟨h1, h2⟩ := z_take_spec h
    refine ⟨by rw [h1]; simp, by rw [h2]; simp; omega⟩
theorem z_cg_spec {o f n : Nat} {st av rest : List Value} {G : zG} (h : z_cg o f n st G = some (av, rest)) : st = av.reverse ++ rest ∧ av.length = n ∧ z_rcB o f av G = true ∧ z_cat rest ≤ 8 ∧ z_cat av ≤ n := by
  unfold z_cg at h
  split at h
  · rename_i av2 rest2 ht
    split at h
    · rename_i hc
      cases h
      obtain ⟨h1, h2⟩ := z_take_spec ht
      exact ⟨by simpa using h1.symm, by simpa using h2, hc⟩
    · cases h
  · cases h
section
variable {p : Program} {l : Launch} {e : Env} {R : Room} {s : State} {m : MethodId} {args : Array Value} {below : List Frame} {meth : Method} {c : Code} {H : Heap} {locs : List Loc} {cells slots : Nat} {Q : State → Prop}
variable {z : Nat} {ad : Nat → Nat} {ka : Nat → ClassId} {D : va_G} {pc mc ms : Nat} {G1 : zG} {M1 : zM} {arr : Array Slot} {stk rest : List Value} {av : Array Value}
theorem z_kept {st0 t T1 : State} {L : List Loc} (h0 : st0.heap = H) (e1 : T1.heap = t.heap) (hS : va_S (z_A z) s.heap H locs) (hL : ∀ q ∈ L, z_A z q.base) (hF : va_F (z_A z) st0 t) : va_S (z_A z) s.heap T1.heap (locs ++ L) :=
  (vx_keep h0 e1 hS (fun _ _ h => h) (fun _ h => h) hL hF).2.2
theorem z_ret {r : Option Value} (hr : va_Run p l e R s m args below meth c H locs cells slots mc ms (F0 m pc arr stk) (rest.map (z_cv ad)) (z_Qr z ad ka D r G1 M1 av) (z_A z)) (hS : va_S (z_A z) s.heap H locs)
    (kk : ∀ (H1 : Heap) (locs1 : List Loc), z_Rel z ad ka D G1 M1 H1 → va_S (z_A z) s.heap H1 locs1 → W p l e R s m args below meth c H1 locs1 (cells + mc) (slots + ms) Q (F0 m (pc + 3) arr ((r.toList ++ rest).map (z_cv ad)))) : W p l e R s m args below meth c H locs cells slots Q (F0 m pc arr stk) := by
  intro T hT X
  obtain ⟨v, st0, t, T1, L, h0, X1, hL, e1, e2, ⟨⟨hv, hrel⟩, hF⟩, st⟩ := hr T hT X
  cases hv
  obtain ⟨t2, a1, b1⟩ := kk T1.heap (locs ++ L) (by rw [e1]; exact hrel) (z_kept h0 e1 hS hL hF) T1 rfl X1
  refine ⟨t2, st t2 ?_, b1⟩
  have e9 : (r.toList ++ rest).map (z_cv ad) = (r.map (z_cv ad)).toList ++ rest.map (z_cv ad) := by cases r <;> simp
  rw [e9] at a1
  exact a1
theorem z_exc {E : Nat} (hr : vx_Run p l e R s m args below meth c H locs cells slots mc ms (F0 m pc arr stk) rest (fun _ _ _ => False) (z_Qx z ad ka D E G1 M1) (z_A z)) (hS : va_S (z_A z) s.heap H locs)
    (kx : ∀ (q : Addr) (ce : Cell) (H1 : Heap) (locs1 : List Loc), z_Rel z ad ka D G1 M1 H1 → va_S (z_A z) s.heap H1 locs1 → H1[q]? = some ce → ce.vm = .none → s.vm.findClass (z_en E) = some ce.cls → vx_W p l e R s m args below meth c H1 locs1 (cells + mc) (slots + ms) Q (F0 m pc arr rest) q) : W p l e R s m args below meth c H locs cells slots Q (F0 m pc arr stk) := by
  intro T hT X
  rcases hr T hT X with ⟨v, st0, t, T1, L, h0, X1, hL, e1, e2, hF, st⟩ | ⟨q, st0, t, T1, L, X9, ce, h0, X1, hL, e1, e2, ⟨hX, hrel, hF⟩, hce, hcv, hcl, st⟩
  · exact hF.elim
  · subst hX
    obtain ⟨t2, a1, b1⟩ := kx q ce T1.heap (locs ++ L) (by rw [e1]; exact hrel) (z_kept h0 e1 hS hL hF) (by rw [e1]; exact hce) hcv hcl T1 rfl X1
    exact ⟨t2, st.trans a1, b1⟩
end
