/-! ===== calls of the small machine are the real machine's ===== -/
section
variable {p : Program} {l : Launch} {e : Env} {R : Room} {s : State} {m : MethodId} {args : Array Value} {below : List Frame} {meth : Method} {c : Code} {H : Heap} {locs : List Loc} {cells slots : Nat} {Q : State → Prop}
variable {Iv : State → Heap → Prop} {z : Nat} {ad : Nat → Nat} {ka : Nat → ClassId} {D : va_G} {mi f n cp pc : Nat} {ls st : List Value} {G : zG} {M : zM} {G1 : zG} {M1 : zM} {arr : Array Slot} {av rest : List Value}
theorem z_stk (ad : Nat → Nat) {st av rest : List Value} (h : st = av.reverse ++ rest) : st.map (z_cv ad) = (av.map (z_cv ad)).reverse ++ rest.map (z_cv ad) := by rw [h, List.map_append, List.map_reverse]
theorem z_parse {desc : String} {n : Nat} (h : (parseMethodDescriptor desc).map (fun d => d.parameters.length + 1) = some (n + 1)) : (parseMethodDescriptor desc).map (fun d => d.parameters.length) = some n := by
  rw [Option.map_eq_some_iff] at h ⊢
  obtain ⟨d, h1, h2⟩ := h
  exact ⟨d, h1, by omega⟩
theorem z_c63 {r : Option Value} (hI : z_IvOK Iv z) (hi : Iv s s.heap) (C : z_Ctx z ad ka D mi p R s m args meth c) (hl : z_loc ad arr ls) (hll : ls.length = z_mxl mi) (hR : z_Rel z ad ka D G M H) (hE : z_Ext z ad s s.heap G M) (hS : va_S (z_A z) s.heap H locs) (hcnt : s.heap.size + cells ≤ z + z_nc G) (hrm : cells + (z_nc G1 - z_nc G) ≤ R.cells ∧ slots + (z_ns G1 - z_ns G) ≤ R.slots)
    (hB : z_opB mi (63, f, n, cp, pc) = true) (hg : z_cg 63 f n st G = some (av, rest)) (hM : z_Mt l Iv z ad ka D (.code (z_y f) (zz_cd f) (z_mxl f) (z_rt f)) f av G M (.inl r) G1 M1)
    (kk : ∀ (H1 : Heap) (locs1 : List Loc), z_Rel z ad ka D G1 M1 H1 → va_S (z_A z) s.heap H1 locs1 → W p l e R s m args below meth c H1 locs1 (cells + (z_nc G1 - z_nc G)) (slots + (z_ns G1 - z_ns G)) Q (F0 m (pc + 3) arr ((r.toList ++ rest).map (z_cv ad)))) : W p l e R s m args below meth c H locs cells slots Q (F0 m pc arr (st.map (z_cv ad))) := by
  obtain ⟨hx, hb, hml, hrt, hown, hts, hlk, hfr, hlo, hK, hz, hnm, had, hon⟩ := C
  obtain ⟨e1, e2, e3, e4, e5⟩ := z_cg_spec hg
  obtain ⟨hd, hT0⟩ := z_opB_spec hB (by decide) (by decide)
  have hT := of_decide_eq_true hT0
  have hin := z_tm63_in _ _ _ hT.1
  have hp := z_tm63_p _ hin
  refine z_size (fun hsz => ?_)
  exact z_ret (va_runS (As := av.map (z_cv ad)) (nL := z_mxl mi) ⟨hx, hb, hml, hown, hts⟩ hM ⟨callB_of n hts (z_goodIn (z_tm63_c _ hin)) rfl rfl rfl (hts _ (z_tm63_n _ hin)) (hts _ (z_tm63_l _ hin)) ⟨hp.2.1, hp.2.2, hT.2.1⟩ ⟨Nat.le_trans hT.2.2.1 hfr, Nat.le_trans hT.2.2.2.1 hlo⟩, hts _ (z_tm63_s _ hin)⟩ ⟨z_blind hI, z_pre hI hi hK hR hE hS hz (by omega)⟩ rfl (by rw [List.length_map]; exact e2) (hl.1.trans hll) (z_stk ad e1) (lv_room (by rw [z_cat_sum]; exact e4)) hd hrm) hS kk
theorem z_c67 {r : Option Value} (hI : z_IvOK Iv z) (hi : Iv s s.heap) (C : z_Ctx z ad ka D mi p R s m args meth c) (hl : z_loc ad arr ls) (hll : ls.length = z_mxl mi) (hR : z_Rel z ad ka D G M H) (hE : z_Ext z ad s s.heap G M) (hS : va_S (z_A z) s.heap H locs) (hcnt : s.heap.size + cells ≤ z + z_nc G) (hrm : cells + (z_nc G1 - z_nc G) ≤ R.cells ∧ slots + (z_ns G1 - z_ns G) ≤ R.slots)
    (hB : z_opB mi (67, f, n, cp, pc) = true) (hg : z_cg 67 f n st G = some (av, rest)) (hM : z_Mt l Iv z ad ka D (.codeWith (z_y f) (zz_cd f) (z_mxl f) (z_rt f) (z_hh f)) f av G M (.inl r) G1 M1)
    (kk : ∀ (H1 : Heap) (locs1 : List Loc), z_Rel z ad ka D G1 M1 H1 → va_S (z_A z) s.heap H1 locs1 → W p l e R s m args below meth c H1 locs1 (cells + (z_nc G1 - z_nc G)) (slots + (z_ns G1 - z_ns G)) Q (F0 m (pc + 3) arr ((r.toList ++ rest).map (z_cv ad)))) : W p l e R s m args below meth c H locs cells slots Q (F0 m pc arr (st.map (z_cv ad))) := by
  obtain ⟨hx, hb, hml, hrt, hown, hts, hlk, hfr, hlo, hK, hz, hnm, had, hon⟩ := C
  obtain ⟨e1, e2, e3, e4, e5⟩ := z_cg_spec hg
  obtain ⟨hd, hT0⟩ := z_opB_spec hB (by decide) (by decide)
  have hT := of_decide_eq_true hT0
  have hin := z_tm67_in _ _ _ hT.1
  have hp := z_tm67_p _ hin
  refine z_size (fun hsz => ?_)
  have hG : GoodIn z_gw (va_wsS (zz_on (z_ow mi)) cp (z_y f) (Cond.codeWith (z_y f) (zz_cd f) (z_mxl f) (z_rt f) (z_hh f) :: z_gw)) := by
    intro w hw
    unfold va_wsS at hw
    rcases List.mem_append.mp hw with h | h
    · have hm : w ∈ z_gw := by
        rcases List.mem_cons.mp h with h | h
        · rw [h]; exact z_tm67_l _ hin
        · rcases List.mem_cons.mp h with h | h
          · rw [h]; exact z_tm67_s _ hin
          · rcases List.mem_cons.mp h with h | h
            · rw [h]; exact z_tm67_n _ hin
            · cases h
      exact ⟨hm, good_of_word (List.mem_filter.mp hm).2⟩
    · exact z_goodIn (z_tm67_c _ hin) w h
  exact z_ret (vx_runSW (As := av.map (z_cv ad)) (nL := z_mxl mi) ⟨hx, hb, hml, hown, hts⟩ hM (vx_cwSW n hts hG rfl rfl rfl ⟨hp.2.1, hp.2.2, hT.2.1⟩ ⟨Nat.le_trans hT.2.2.1 hfr, Nat.le_trans hT.2.2.2.1 hlo⟩) ⟨z_blind hI, z_pre hI hi hK hR hE hS hz (by omega)⟩ rfl (by rw [List.length_map]; exact e2) (hl.1.trans hll) (z_stk ad e1) (lv_room (by rw [z_cat_sum]; exact e4)) hd hrm) hS kk
theorem z_rcv_spec {o f : Nat} {av : List Value} {G : zG} (h : z_rcB 64 f av G = true) : ∃ (q : Nat) (as : List Value), av = .ref q :: as ∧ z_kd G q = (0, z_rc f) ∧ 32 ≤ q := by
  unfold z_rcB at h
  rw [show ((64 : Nat) == 63) = false from rfl, show ((64 : Nat) == 67) = false from rfl, show ((64 : Nat) == 64) = true from rfl] at h
  simp only [Bool.not_true, Bool.false_or] at h
  split at h
  · rename_i q as
    exact ⟨q, as, rfl, of_decide_eq_true h⟩
  · cases h
theorem z_rcv_i {o f : Nat} {av : List Value} {G : zG} (ho : o = 65 ∨ o = 66) (h : z_rcB o f av G = true) : ∃ (q : Nat) (as : List Value), av = .ref q :: as := by
  unfold z_rcB at h
  have h1 : (o == 63) = false := by rcases ho with e | e <;> rw [e] <;> rfl
  have h2 : (o == 67) = false := by rcases ho with e | e <;> rw [e] <;> rfl
  rw [h1, h2] at h
  simp only [Bool.false_or] at h
  split at h
  · rename_i q as _
    exact ⟨_, _, rfl⟩
  · cases h
theorem z_cwB (C : z_Ctx z ad ka D mi p R s m args meth c) {as : List Value} (hB : z_opB mi (64, f, n, cp, pc) = true) (hn : as.length + 1 = n) : CallW R s args (zz_on (z_ow mi)) (z_y f).cls cp (z_y f) (zz_cd f) (z_mxl f) (z_rt f) (Cond.code (z_y f) (zz_cd f) (z_mxl f) (z_rt f) :: z_gw) (z_rm f G G1) (z_nc G1 - z_nc G) (z_ns G1 - z_ns G) as.length := by
  obtain ⟨hx, hb, hml, hrt, hown, hts, hlk, hfr, hlo, hK, hz, hnm, had, hon⟩ := C
  obtain ⟨hd, hT0⟩ := z_opB_spec hB (by decide) (by decide)
  have hT := of_decide_eq_true hT0
  have hin := z_tm64_in _ _ _ hT.1
  have hp := z_tm64_p _ hin
  refine ⟨callB_of as.length hts (z_goodIn (z_tm64_c _ hin)) rfl rfl rfl (hts _ (z_tm64_n _ hin)) (hts _ (z_tm64_l _ hin)) ⟨hp.2.1, hp.2.2, z_parse (by rw [hn]; exact hT.2.1)⟩ ⟨Nat.le_trans hT.2.2.1 hfr, Nat.le_trans hT.2.2.2.1 hlo⟩, hts _ (z_tm64_i _ hin), hts _ (z_tm64_e _ hin)⟩
theorem z_preV (hI : z_IvOK Iv z) (hi : Iv s s.heap) (C : z_Ctx z ad ka D mi p R s m args meth c) (hR : z_Rel z ad ka D G M H) (hE : z_Ext z ad s s.heap G M) (hS : va_S (z_A z) s.heap H locs) (hsz : H.size ≤ z + z_nc G) (hB : z_opB mi (64, f, n, cp, pc) = true) {q : Nat} {as : List Value} (hk : z_kd G q = (0, z_rc f)) (hq : 32 ≤ q) : PreV s H (z_y f).cls (ad q) (zz_Pc Iv z ad ka D (.ref q :: as) G M) (as.map (z_cv ad)) := by
  obtain ⟨hx, hb, hml, hrt, hown, hts, hlk, hfr, hlo, hK, hz, hnm, had, hon⟩ := C
  have hT := of_decide_eq_true (z_opB_spec hB (by decide) (by decide)).2
  obtain ⟨c1, -, -, -, -⟩ := z_cok hT.2.2.2.2.2.1
  have he := z_at hR had hq (by rw [hk]; exact fun h => by cases h)
  rw [z_cell_obj hk] at he
  have hv := va_recv hK hR.1 c1 he
  refine ⟨z_blind hI, ?_, z_pre hI hi hK hR hE hS hz hsz⟩
  rw [← hT.2.2.2.2.2.2.1]
  exact hv
theorem z_c64 {r : Option Value} (hI : z_IvOK Iv z) (hi : Iv s s.heap) (C : z_Ctx z ad ka D mi p R s m args meth c) (hl : z_loc ad arr ls) (hll : ls.length = z_mxl mi) (hR : z_Rel z ad ka D G M H) (hE : z_Ext z ad s s.heap G M) (hS : va_S (z_A z) s.heap H locs) (hcnt : s.heap.size + cells ≤ z + z_nc G) (hrm : cells + (z_nc G1 - z_nc G) ≤ R.cells ∧ slots + (z_ns G1 - z_ns G) ≤ R.slots)
    (hB : z_opB mi (64, f, n, cp, pc) = true) (hg : z_cg 64 f n st G = some (av, rest)) (hM : z_Mt l Iv z ad ka D (.code (z_y f) (zz_cd f) (z_mxl f) (z_rt f)) f av G M (.inl r) G1 M1)
    (kk : ∀ (H1 : Heap) (locs1 : List Loc), z_Rel z ad ka D G1 M1 H1 → va_S (z_A z) s.heap H1 locs1 → W p l e R s m args below meth c H1 locs1 (cells + (z_nc G1 - z_nc G)) (slots + (z_ns G1 - z_ns G)) Q (F0 m (pc + 3) arr ((r.toList ++ rest).map (z_cv ad)))) : W p l e R s m args below meth c H locs cells slots Q (F0 m pc arr (st.map (z_cv ad))) := by
  obtain ⟨e1, e2, e3, e4, e5⟩ := z_cg_spec hg
  obtain ⟨q, as, rfl, hk, hq⟩ := z_rcv_spec (o := 64) e3
  refine z_size (fun hsz => ?_)
  have hcw := z_cwB (G := G) (G1 := G1) C hB (as := as) (by simpa using e2)
  have hpv := z_preV (as := as) hI hi C hR hE hS (by omega) hB hk hq
  obtain ⟨hx, hb, hml, hrt, hown, hts, hlk, hfr, hlo, hK, hz, hnm, had, hon⟩ := C
  have hstk : st.map (z_cv ad) = (as.map (z_cv ad)).reverse ++ .ref (ad q) :: rest.map (z_cv ad) := by
    rw [z_stk ad e1]
    simp [z_cv]
  exact z_ret (va_runV (As := as.map (z_cv ad)) (nL := z_mxl mi) ⟨hx, hb, hml, hown, hts⟩ hM hcw hpv rfl (by rw [List.length_map]) (hl.1.trans hll) hstk (lv_room (by rw [z_cat_sum]; exact e4)) (z_opB_spec hB (by decide) (by decide)).1 hrm) hS kk
theorem z_x64 {E : Nat} (hI : z_IvOK Iv z) (hi : Iv s s.heap) (C : z_Ctx z ad ka D mi p R s m args meth c) (hl : z_loc ad arr ls) (hll : ls.length = z_mxl mi) (hR : z_Rel z ad ka D G M H) (hE : z_Ext z ad s s.heap G M) (hS : va_S (z_A z) s.heap H locs) (hcnt : s.heap.size + cells ≤ z + z_nc G) (hrm : cells + (z_nc G1 - z_nc G) ≤ R.cells ∧ slots + (z_ns G1 - z_ns G) ≤ R.slots)
    (hB : z_opB mi (64, f, n, cp, pc) = true) (hg : z_cg 64 f n st G = some (av, rest)) (hM : z_Mt l Iv z ad ka D (.code (z_y f) (zz_cd f) (z_mxl f) (z_rt f)) f av G M (.inr E) G1 M1)
    (kx : ∀ (q : Addr) (ce : Cell) (H1 : Heap) (locs1 : List Loc), z_Rel z ad ka D G1 M1 H1 → va_S (z_A z) s.heap H1 locs1 → H1[q]? = some ce → ce.vm = .none → s.vm.findClass (z_en E) = some ce.cls → vx_W p l e R s m args below meth c H1 locs1 (cells + (z_nc G1 - z_nc G)) (slots + (z_ns G1 - z_ns G)) Q (F0 m pc arr (rest.map (z_cv ad))) q) : W p l e R s m args below meth c H locs cells slots Q (F0 m pc arr (st.map (z_cv ad))) := by
  obtain ⟨e1, e2, e3, e4, e5⟩ := z_cg_spec hg
  obtain ⟨q, as, rfl, hk, hq⟩ := z_rcv_spec (o := 64) e3
  refine z_size (fun hsz => ?_)
  have hcw := z_cwB (G := G) (G1 := G1) C hB (as := as) (by simpa using e2)
  have hpv := z_preV (as := as) hI hi C hR hE hS (by omega) hB hk hq
  obtain ⟨hx, hb, hml, hrt, hown, hts, hlk, hfr, hlo, hK, hz, hnm, had, hon⟩ := C
  have hstk : st.map (z_cv ad) = (as.map (z_cv ad)).reverse ++ .ref (ad q) :: rest.map (z_cv ad) := by
    rw [z_stk ad e1]
    simp [z_cv]
  exact z_exc (vx_runV (As := as.map (z_cv ad)) (nL := z_mxl mi) ⟨hx, hb, hml, hown, hts⟩ hM hcw hpv rfl (by rw [List.length_map]) (hl.1.trans hll) hstk (lv_room (by rw [z_cat_sum]; exact e4)) (z_opB_spec hB (by decide) (by decide)).1 hrm) hS kx
theorem z_c65 {r : Option Value} (hI : z_IvOK Iv z) (hi : Iv s s.heap) (C : z_Ctx z ad ka D mi p R s m args meth c) (hl : z_loc ad arr ls) (hll : ls.length = z_mxl mi) (hR : z_Rel z ad ka D G M H) (hE : z_Ext z ad s s.heap G M) (hS : va_S (z_A z) s.heap H locs) (hcnt : s.heap.size + cells ≤ z + z_nc G) (hrm : cells + (z_nc G1 - z_nc G) ≤ R.cells ∧ slots + (z_ns G1 - z_ns G) ≤ R.slots)
    (hB : z_opB mi (65, f, n, cp, pc) = true) (hg : z_cg 65 f n st G = some (av, rest)) (hM : z_Mt l Iv z ad ka D (.code (z_y f) (zz_cd f) (z_mxl f) (z_rt f)) f av G M (.inl r) G1 M1)
    (kk : ∀ (H1 : Heap) (locs1 : List Loc), z_Rel z ad ka D G1 M1 H1 → va_S (z_A z) s.heap H1 locs1 → W p l e R s m args below meth c H1 locs1 (cells + (z_nc G1 - z_nc G)) (slots + (z_ns G1 - z_ns G)) Q (F0 m (pc + 3) arr ((r.toList ++ rest).map (z_cv ad)))) : W p l e R s m args below meth c H locs cells slots Q (F0 m pc arr (st.map (z_cv ad))) := by
  obtain ⟨e1, e2, e3, e4, e5⟩ := z_cg_spec hg
  obtain ⟨q, as, rfl⟩ := z_rcv_i (Or.inl rfl) e3
  refine z_size (fun hsz => ?_)
  obtain ⟨hx, hb, hml, hrt, hown, hts, hlk, hfr, hlo, hK, hz, hnm, had, hon⟩ := C
  obtain ⟨hd, hT0⟩ := z_opB_spec hB (by decide) (by decide)
  have hT := of_decide_eq_true hT0
  have hin := z_tm65_in _ _ _ hT.1
  have hp := z_tm65_p _ hin
  have hn : as.length + 1 = n := by simpa using e2
  have hstk : st.map (z_cv ad) = (as.map (z_cv ad)).reverse ++ .ref (ad q) :: rest.map (z_cv ad) := by
    rw [z_stk ad e1]
    simp [z_cv]
  have hcd := z_tm65_c _ hin
  have hr0 : z_rt f = none := hT.2.2.2.2.2.2
  dsimp only at hcd
  rw [hr0] at hcd
  have hM2 : Met l (z_y f) (Cond.code (z_y f) (zz_cd f) (z_mxl f) none :: z_gw) (z_rm f G G1) (zz_Pc Iv z ad ka D (.ref q :: as) G M) (z_Qr z ad ka D r G1 M1) (z_nc G1 - z_nc G) (z_ns G1 - z_ns G) (z_A z) := by
    have h := hM
    rw [hr0] at h
    exact h
  exact z_ret (va_runI (As := as.map (z_cv ad)) (nL := z_mxl mi) ⟨hx, hb, hml, hown, hts⟩ hM2 (cwI as.length hts (z_goodIn hcd) rfl rfl rfl (hts _ (z_tm65_n _ hin)) (hts _ (z_tm65_l _ hin)) (hts _ (z_tm65_i _ hin)) hT.2.2.2.2.2.1 ⟨hp.2.1, hp.2.2, z_parse (by rw [hn]; exact hT.2.1)⟩ ⟨Nat.le_trans hT.2.2.1 hfr, Nat.le_trans hT.2.2.2.1 hlo⟩) ⟨z_blind hI, z_pre (av := .ref q :: as) hI hi hK hR hE hS hz (by omega)⟩ rfl (by rw [List.length_map]) (hl.1.trans hll) hstk (lv_room (by rw [z_cat_sum]; exact e4)) hd hrm) hS kk
theorem z_c66 {r : Option Value} (hI : z_IvOK Iv z) (hi : Iv s s.heap) (hnst : ∀ q ∈ z_tm66, va_Nw (.methodLinkNest (zz_on q.1) q.2.1 (z_y q.2.2.1) "ChiefCircles") s) (C : z_Ctx z ad ka D mi p R s m args meth c) (hl : z_loc ad arr ls) (hll : ls.length = z_mxl mi) (hR : z_Rel z ad ka D G M H) (hE : z_Ext z ad s s.heap G M) (hS : va_S (z_A z) s.heap H locs) (hcnt : s.heap.size + cells ≤ z + z_nc G) (hrm : cells + (z_nc G1 - z_nc G) ≤ R.cells ∧ slots + (z_ns G1 - z_ns G) ≤ R.slots)
    (hB : z_opB mi (66, f, n, cp, pc) = true) (hg : z_cg 66 f n st G = some (av, rest)) (hM : z_Mt l Iv z ad ka D (.code (z_y f) (zz_cd f) (z_mxl f) (z_rt f)) f av G M (.inl r) G1 M1)
    (kk : ∀ (H1 : Heap) (locs1 : List Loc), z_Rel z ad ka D G1 M1 H1 → va_S (z_A z) s.heap H1 locs1 → W p l e R s m args below meth c H1 locs1 (cells + (z_nc G1 - z_nc G)) (slots + (z_ns G1 - z_ns G)) Q (F0 m (pc + 3) arr ((r.toList ++ rest).map (z_cv ad)))) : W p l e R s m args below meth c H locs cells slots Q (F0 m pc arr (st.map (z_cv ad))) := by
  obtain ⟨e1, e2, e3, e4, e5⟩ := z_cg_spec hg
  obtain ⟨q, as, rfl⟩ := z_rcv_i (Or.inr rfl) e3
  refine z_size (fun hsz => ?_)
  obtain ⟨hx, hb, hml, hrt, hown, hts, hlk, hfr, hlo, hK, hz, hnm, had, hon⟩ := C
  obtain ⟨hd, hT0⟩ := z_opB_spec hB (by decide) (by decide)
  have hT := of_decide_eq_true hT0
  have hin := z_tm66_in _ _ _ hT.1
  have hp := z_tm66_p _ hin
  have hn : as.length + 1 = n := by simpa using e2
  have hstk : st.map (z_cv ad) = (as.map (z_cv ad)).reverse ++ .ref (ad q) :: rest.map (z_cv ad) := by
    rw [z_stk ad e1]
    simp [z_cv]
  have hcd := z_tm66_c _ hin
  have hr0 : z_rt f = none := hT.2.2.2.2.2.2
  dsimp only at hcd
  rw [hr0] at hcd
  have hM2 : Met l (z_y f) (Cond.code (z_y f) (zz_cd f) (z_mxl f) none :: z_gw) (z_rm f G G1) (zz_Pc Iv z ad ka D (.ref q :: as) G M) (z_Qr z ad ka D r G1 M1) (z_nc G1 - z_nc G) (z_ns G1 - z_ns G) (z_A z) := by
    have h := hM
    rw [hr0] at h
    exact h
  have hln : va_Nw (.methodLinkNest (zz_on (z_ow mi)) cp (z_y f) "ChiefCircles") s := hnst (z_ow mi, cp, f, 66) hin
  have hni : (Cond.initialized (z_y f).cls).before args s = true := hts _ (z_tm66_n _ hin)
  have hii : (Cond.instanceMethod (z_y f)).before args s = true := hts _ (z_tm66_i _ hin)
  have hpa : (parseMethodDescriptor (z_y f).desc).map (fun d => d.parameters.length) = some as.length := z_parse (by rw [hn]; exact hT.2.1)
  have hcn := va_cnB (R := R) (args := args) (host := "ChiefCircles") (own := zz_on (z_ow mi)) (index := cp) (rm := z_rm f G G1) (mc := z_nc G1 - z_nc G) (ms := z_ns G1 - z_ns G) as.length hts (z_goodIn hcd) rfl rfl rfl hln hni ⟨hp.2.1, hp.2.2, hpa⟩ ⟨Nat.le_trans hT.2.2.1 hfr, Nat.le_trans hT.2.2.2.1 hlo⟩
  have hrun := va_runIN (e := e) (below := below) (meth := meth) (locs := locs) (cells := cells) (slots := slots) (rest := rest.map (z_cv ad)) (g := F0 m pc arr (st.map (z_cv ad))) (As := as.map (z_cv ad)) (nL := z_mxl mi) ⟨hx, hb, hml, hown, hts⟩ hM2 ⟨hcn, hT.2.2.2.2.2.1, hii⟩ ⟨z_blind hI, z_pre (av := .ref q :: as) hI hi hK hR hE hS hz (by omega)⟩ rfl (by rw [List.length_map]) (hl.1.trans hll) hstk (lv_room (by rw [z_cat_sum]; exact e4)) hd hrm
  exact z_ret hrun hS kk
end
