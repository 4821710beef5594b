/-! ===== an exception that is caught ===== -/
theorem z_u1 {cc : ByteArray} {pc : Nat} (hn : ¬ pc < cc.size) : ((Reader.u1 : Decoder Nat).run cc).run pc = .error (HasTruncated.truncated pc) := by
  have e : ((Reader.u1 : Decoder Nat).run cc).run pc = ((if h : pc < cc.size then (do set (pc + 1); pure cc[pc].toNat : Decoder Nat) else throw (HasTruncated.truncated pc)).run cc).run pc := rfl
  rw [e, dif_neg hn]; rfl
theorem z_dec_lt {cc : ByteArray} {pc : Nat} {x : Instr × Nat} (h : decode cc pc = .ok x) : pc < cc.size := by
  apply Classical.byContradiction
  intro hn
  have hu : (Decoder.instr pc).runAt cc pc = .error (HasTruncated.truncated pc) := by
    unfold Decoder.instr Reader.runAt
    rw [ReaderT.run_bind, StateT.run_bind, z_u1 hn]
    rfl
  unfold decode at h
  rw [hu] at h
  cases h
def z_ct9 (E : Nat) : Nat := if E = 0 then 24 else if E = 1 then 13 else 26
def z_iv (cc : ByteArray) (pc : Nat) : Bool := match decode cc pc with | .ok (.invokevirtual _, _) => true | _ => false
def z_HF (mi E t k : Nat) : Prop := E < 3 ∧ z_ow mi = 10 ∧ ∃ en hp, ((∃ suf, z_hh mi = (0, en, hp, z_ct9 E) :: suf) ∨ ∃ F h1 suf, (F < 3 ∧ E ≠ F) ∧ z_hh mi = (0, en, h1, z_ct9 F) :: (0, en, hp, z_ct9 E) :: suf) ∧ ((zz_cd mi).size ≤ 40 ∧ (List.range 40).all (fun pc => !z_iv (zz_cd mi) pc || decide (pc < en)) = true) ∧ ((k < 4 ∧ decode (zz_cd mi) hp = .ok (.astore_n (Fin.ofNat 4 k), 1) ∧ t = hp + 1) ∨ (decode (zz_cd mi) hp = .ok (.astore k, 2) ∧ t = hp + 2))
theorem zh_58_1 : z_HF 58 1 13 3 := ⟨by decide, by decide +kernel, 9, 12, Or.inl ⟨_, rfl⟩, ⟨by decide +kernel, by decide +kernel⟩, Or.inl ⟨by decide, by decide +kernel, rfl⟩⟩
theorem zh_74_1 : z_HF 74 1 13 3 := ⟨by decide, by decide +kernel, 9, 12, Or.inl ⟨_, rfl⟩, ⟨by decide +kernel, by decide +kernel⟩, Or.inl ⟨by decide, by decide +kernel, rfl⟩⟩
theorem zh_80_1 : z_HF 80 1 13 3 := ⟨by decide, by decide +kernel, 9, 12, Or.inl ⟨_, rfl⟩, ⟨by decide +kernel, by decide +kernel⟩, Or.inl ⟨by decide, by decide +kernel, rfl⟩⟩
theorem zh_84_0 : z_HF 84 0 13 3 := ⟨by decide, by decide +kernel, 9, 12, Or.inl ⟨_, rfl⟩, ⟨by decide +kernel, by decide +kernel⟩, Or.inl ⟨by decide, by decide +kernel, rfl⟩⟩
theorem zh_84_2 : z_HF 84 2 16 3 := ⟨by decide, by decide +kernel, 9, 15, Or.inr ⟨0, _, _, ⟨by decide, by decide⟩, rfl⟩, ⟨by decide +kernel, by decide +kernel⟩, Or.inl ⟨by decide, by decide +kernel, rfl⟩⟩
theorem zh_91_0 : z_HF 91 0 13 3 := ⟨by decide, by decide +kernel, 9, 12, Or.inl ⟨_, rfl⟩, ⟨by decide +kernel, by decide +kernel⟩, Or.inl ⟨by decide, by decide +kernel, rfl⟩⟩
theorem zh_91_2 : z_HF 91 2 16 3 := ⟨by decide, by decide +kernel, 9, 15, Or.inr ⟨0, _, _, ⟨by decide, by decide⟩, rfl⟩, ⟨by decide +kernel, by decide +kernel⟩, Or.inl ⟨by decide, by decide +kernel, rfl⟩⟩
theorem zh_93_1 : z_HF 93 1 15 4 := ⟨by decide, by decide +kernel, 10, 13, Or.inl ⟨_, rfl⟩, ⟨by decide +kernel, by decide +kernel⟩, Or.inr ⟨by decide +kernel, rfl⟩⟩
theorem zh_96_1 : z_HF 96 1 13 3 := ⟨by decide, by decide +kernel, 9, 12, Or.inl ⟨_, rfl⟩, ⟨by decide +kernel, by decide +kernel⟩, Or.inl ⟨by decide, by decide +kernel, rfl⟩⟩
theorem zh_108_0 : z_HF 108 0 15 4 := ⟨by decide, by decide +kernel, 10, 13, Or.inl ⟨_, rfl⟩, ⟨by decide +kernel, by decide +kernel⟩, Or.inr ⟨by decide +kernel, rfl⟩⟩
theorem zh_108_1 : z_HF 108 1 19 4 := ⟨by decide, by decide +kernel, 10, 17, Or.inr ⟨0, _, _, ⟨by decide, by decide⟩, rfl⟩, ⟨by decide +kernel, by decide +kernel⟩, Or.inr ⟨by decide +kernel, rfl⟩⟩
theorem zh_110_0 : z_HF 110 0 17 5 := ⟨by decide, by decide +kernel, 12, 15, Or.inl ⟨_, rfl⟩, ⟨by decide +kernel, by decide +kernel⟩, Or.inr ⟨by decide +kernel, rfl⟩⟩
theorem zh_110_1 : z_HF 110 1 21 5 := ⟨by decide, by decide +kernel, 12, 19, Or.inr ⟨0, _, _, ⟨by decide, by decide⟩, rfl⟩, ⟨by decide +kernel, by decide +kernel⟩, Or.inr ⟨by decide +kernel, rfl⟩⟩
theorem zh_113_0 : z_HF 113 0 15 4 := ⟨by decide, by decide +kernel, 10, 13, Or.inl ⟨_, rfl⟩, ⟨by decide +kernel, by decide +kernel⟩, Or.inr ⟨by decide +kernel, rfl⟩⟩
theorem zh_113_1 : z_HF 113 1 19 4 := ⟨by decide, by decide +kernel, 10, 17, Or.inr ⟨0, _, _, ⟨by decide, by decide⟩, rfl⟩, ⟨by decide +kernel, by decide +kernel⟩, Or.inr ⟨by decide +kernel, rfl⟩⟩
theorem zh_116_0 : z_HF 116 0 22 4 := ⟨by decide, by decide +kernel, 17, 20, Or.inl ⟨_, rfl⟩, ⟨by decide +kernel, by decide +kernel⟩, Or.inr ⟨by decide +kernel, rfl⟩⟩
theorem zh_116_1 : z_HF 116 1 26 4 := ⟨by decide, by decide +kernel, 17, 24, Or.inr ⟨0, _, _, ⟨by decide, by decide⟩, rfl⟩, ⟨by decide +kernel, by decide +kernel⟩, Or.inr ⟨by decide +kernel, rfl⟩⟩
theorem zh_118_0 : z_HF 118 0 15 4 := ⟨by decide, by decide +kernel, 10, 13, Or.inl ⟨_, rfl⟩, ⟨by decide +kernel, by decide +kernel⟩, Or.inr ⟨by decide +kernel, rfl⟩⟩
theorem zh_118_1 : z_HF 118 1 19 4 := ⟨by decide, by decide +kernel, 10, 17, Or.inr ⟨0, _, _, ⟨by decide, by decide⟩, rfl⟩, ⟨by decide +kernel, by decide +kernel⟩, Or.inr ⟨by decide +kernel, rfl⟩⟩
theorem zh_120_1 : z_HF 120 1 15 4 := ⟨by decide, by decide +kernel, 10, 13, Or.inl ⟨_, rfl⟩, ⟨by decide +kernel, by decide +kernel⟩, Or.inr ⟨by decide +kernel, rfl⟩⟩
theorem zh_122_0 : z_HF 122 0 15 4 := ⟨by decide, by decide +kernel, 10, 13, Or.inl ⟨_, rfl⟩, ⟨by decide +kernel, by decide +kernel⟩, Or.inr ⟨by decide +kernel, rfl⟩⟩
theorem zh_122_1 : z_HF 122 1 19 4 := ⟨by decide, by decide +kernel, 10, 17, Or.inr ⟨0, _, _, ⟨by decide, by decide⟩, rfl⟩, ⟨by decide +kernel, by decide +kernel⟩, Or.inr ⟨by decide +kernel, rfl⟩⟩
theorem zh_124_0 : z_HF 124 0 15 4 := ⟨by decide, by decide +kernel, 10, 13, Or.inl ⟨_, rfl⟩, ⟨by decide +kernel, by decide +kernel⟩, Or.inr ⟨by decide +kernel, rfl⟩⟩
theorem zh_124_1 : z_HF 124 1 19 4 := ⟨by decide, by decide +kernel, 10, 17, Or.inr ⟨0, _, _, ⟨by decide, by decide⟩, rfl⟩, ⟨by decide +kernel, by decide +kernel⟩, Or.inr ⟨by decide +kernel, rfl⟩⟩
theorem zh_127_0 : z_HF 127 0 15 4 := ⟨by decide, by decide +kernel, 10, 13, Or.inl ⟨_, rfl⟩, ⟨by decide +kernel, by decide +kernel⟩, Or.inr ⟨by decide +kernel, rfl⟩⟩
theorem zh_130_0 : z_HF 130 0 13 3 := ⟨by decide, by decide +kernel, 9, 12, Or.inl ⟨_, rfl⟩, ⟨by decide +kernel, by decide +kernel⟩, Or.inl ⟨by decide, by decide +kernel, rfl⟩⟩
theorem zh_133_1 : z_HF 133 1 13 3 := ⟨by decide, by decide +kernel, 9, 12, Or.inl ⟨_, rfl⟩, ⟨by decide +kernel, by decide +kernel⟩, Or.inl ⟨by decide, by decide +kernel, rfl⟩⟩
theorem zh_136_1 : z_HF 136 1 15 4 := ⟨by decide, by decide +kernel, 10, 13, Or.inl ⟨_, rfl⟩, ⟨by decide +kernel, by decide +kernel⟩, Or.inr ⟨by decide +kernel, rfl⟩⟩
theorem zh_138_1 : z_HF 138 1 15 4 := ⟨by decide, by decide +kernel, 10, 13, Or.inl ⟨_, rfl⟩, ⟨by decide +kernel, by decide +kernel⟩, Or.inr ⟨by decide +kernel, rfl⟩⟩
theorem zh_140_1 : z_HF 140 1 15 4 := ⟨by decide, by decide +kernel, 10, 13, Or.inl ⟨_, rfl⟩, ⟨by decide +kernel, by decide +kernel⟩, Or.inr ⟨by decide +kernel, rfl⟩⟩
theorem zh_143_1 : z_HF 143 1 17 5 := ⟨by decide, by decide +kernel, 12, 15, Or.inl ⟨_, rfl⟩, ⟨by decide +kernel, by decide +kernel⟩, Or.inr ⟨by decide +kernel, rfl⟩⟩
theorem z_hd_ok {mi E t k : Nat} (h : z_hd mi E = some (t, k)) : z_HF mi E t k := by
  unfold z_hd at h
  by_cases c : mi = 58 ∧ E = 1
  · rw [if_pos c] at h; obtain ⟨rfl, rfl⟩ := c; cases h; exact zh_58_1
  rw [if_neg c] at h; clear c
  by_cases c : mi = 74 ∧ E = 1
  · rw [if_pos c] at h; obtain ⟨rfl, rfl⟩ := c; cases h; exact zh_74_1
  rw [if_neg c] at h; clear c
  by_cases c : mi = 80 ∧ E = 1
  · rw [if_pos c] at h; obtain ⟨rfl, rfl⟩ := c; cases h; exact zh_80_1
  rw [if_neg c] at h; clear c
  by_cases c : mi = 84 ∧ E = 0
  · rw [if_pos c] at h; obtain ⟨rfl, rfl⟩ := c; cases h; exact zh_84_0
  rw [if_neg c] at h; clear c
  by_cases c : mi = 84 ∧ E = 2
  · rw [if_pos c] at h; obtain ⟨rfl, rfl⟩ := c; cases h; exact zh_84_2
  rw [if_neg c] at h; clear c
  by_cases c : mi = 91 ∧ E = 0
  · rw [if_pos c] at h; obtain ⟨rfl, rfl⟩ := c; cases h; exact zh_91_0
  rw [if_neg c] at h; clear c
  by_cases c : mi = 91 ∧ E = 2
  · rw [if_pos c] at h; obtain ⟨rfl, rfl⟩ := c; cases h; exact zh_91_2
  rw [if_neg c] at h; clear c
  by_cases c : mi = 93 ∧ E = 1
  · rw [if_pos c] at h; obtain ⟨rfl, rfl⟩ := c; cases h; exact zh_93_1
  rw [if_neg c] at h; clear c
  by_cases c : mi = 96 ∧ E = 1
  · rw [if_pos c] at h; obtain ⟨rfl, rfl⟩ := c; cases h; exact zh_96_1
  rw [if_neg c] at h; clear c
  by_cases c : mi = 108 ∧ E = 0
  · rw [if_pos c] at h; obtain ⟨rfl, rfl⟩ := c; cases h; exact zh_108_0
  rw [if_neg c] at h; clear c
  by_cases c : mi = 108 ∧ E = 1
  · rw [if_pos c] at h; obtain ⟨rfl, rfl⟩ := c; cases h; exact zh_108_1
  rw [if_neg c] at h; clear c
  by_cases c : mi = 110 ∧ E = 0
  · rw [if_pos c] at h; obtain ⟨rfl, rfl⟩ := c; cases h; exact zh_110_0
  rw [if_neg c] at h; clear c
  by_cases c : mi = 110 ∧ E = 1
  · rw [if_pos c] at h; obtain ⟨rfl, rfl⟩ := c; cases h; exact zh_110_1
  rw [if_neg c] at h; clear c
  by_cases c : mi = 113 ∧ E = 0
  · rw [if_pos c] at h; obtain ⟨rfl, rfl⟩ := c; cases h; exact zh_113_0
  rw [if_neg c] at h; clear c
  by_cases c : mi = 113 ∧ E = 1
  · rw [if_pos c] at h; obtain ⟨rfl, rfl⟩ := c; cases h; exact zh_113_1
  rw [if_neg c] at h; clear c
  by_cases c : mi = 116 ∧ E = 0
  · rw [if_pos c] at h; obtain ⟨rfl, rfl⟩ := c; cases h; exact zh_116_0
  rw [if_neg c] at h; clear c
  by_cases c : mi = 116 ∧ E = 1
  · rw [if_pos c] at h; obtain ⟨rfl, rfl⟩ := c; cases h; exact zh_116_1
  rw [if_neg c] at h; clear c
  by_cases c : mi = 118 ∧ E = 0
  · rw [if_pos c] at h; obtain ⟨rfl, rfl⟩ := c; cases h; exact zh_118_0
  rw [if_neg c] at h; clear c
  by_cases c : mi = 118 ∧ E = 1
  · rw [if_pos c] at h; obtain ⟨rfl, rfl⟩ := c; cases h; exact zh_118_1
  rw [if_neg c] at h; clear c
  by_cases c : mi = 120 ∧ E = 1
  · rw [if_pos c] at h; obtain ⟨rfl, rfl⟩ := c; cases h; exact zh_120_1
  rw [if_neg c] at h; clear c
  by_cases c : mi = 122 ∧ E = 0
  · rw [if_pos c] at h; obtain ⟨rfl, rfl⟩ := c; cases h; exact zh_122_0
  rw [if_neg c] at h; clear c
  by_cases c : mi = 122 ∧ E = 1
  · rw [if_pos c] at h; obtain ⟨rfl, rfl⟩ := c; cases h; exact zh_122_1
  rw [if_neg c] at h; clear c
  by_cases c : mi = 124 ∧ E = 0
  · rw [if_pos c] at h; obtain ⟨rfl, rfl⟩ := c; cases h; exact zh_124_0
  rw [if_neg c] at h; clear c
  by_cases c : mi = 124 ∧ E = 1
  · rw [if_pos c] at h; obtain ⟨rfl, rfl⟩ := c; cases h; exact zh_124_1
  rw [if_neg c] at h; clear c
  by_cases c : mi = 127 ∧ E = 0
  · rw [if_pos c] at h; obtain ⟨rfl, rfl⟩ := c; cases h; exact zh_127_0
  rw [if_neg c] at h; clear c
  by_cases c : mi = 130 ∧ E = 0
  · rw [if_pos c] at h; obtain ⟨rfl, rfl⟩ := c; cases h; exact zh_130_0
  rw [if_neg c] at h; clear c
  by_cases c : mi = 133 ∧ E = 1
  · rw [if_pos c] at h; obtain ⟨rfl, rfl⟩ := c; cases h; exact zh_133_1
  rw [if_neg c] at h; clear c
  by_cases c : mi = 136 ∧ E = 1
  · rw [if_pos c] at h; obtain ⟨rfl, rfl⟩ := c; cases h; exact zh_136_1
  rw [if_neg c] at h; clear c
  by_cases c : mi = 138 ∧ E = 1
  · rw [if_pos c] at h; obtain ⟨rfl, rfl⟩ := c; cases h; exact zh_138_1
  rw [if_neg c] at h; clear c
  by_cases c : mi = 140 ∧ E = 1
  · rw [if_pos c] at h; obtain ⟨rfl, rfl⟩ := c; cases h; exact zh_140_1
  rw [if_neg c] at h; clear c
  by_cases c : mi = 143 ∧ E = 1
  · rw [if_pos c] at h; obtain ⟨rfl, rfl⟩ := c; cases h; exact zh_143_1
  rw [if_neg c] at h; clear c
  cases h
theorem z_ct_ok : ∀ E, E < 3 → Cond.classLink "ChiefCirclesLaw" (z_ct9 E) (z_en E) ∈ z_gw := by
  have h : ∀ E, E < 3 → Cond.classLink "ChiefCirclesLaw" (z_ct9 E) (z_en E) ∈ lw_tbl ∧ goodWord (Cond.classLink "ChiefCirclesLaw" (z_ct9 E) (z_en E)) = true := by decide +kernel
  exact fun E hE => List.mem_filter.mpr (h E hE)
theorem z_ct_0 : ∀ E, z_ct9 E ≠ 0 := fun E => by unfold z_ct9; split <;> (try split) <;> decide
theorem z_HdOK_ok (l : Launch) (z : Nat) (ad av sa : Nat → Nat) (ka : Nat → ClassId) (D : va_G) : z_HdOK l (z_Iv z ad av sa) z ad ka D := by
  intro p e R s m args below meth c H1 locs1 cells slots Q mi f n cp pc E t k ls ls2 st1 arr q ce hhd hput C hi htab hB hl hll hq hv hcl kk
  obtain ⟨hE, how, en, hp, htb, ⟨hs1, hs2⟩, hdec⟩ := z_hd_ok hhd
  obtain ⟨hd, -⟩ := z_opD (by decide) (by decide) (by decide) hB
  obtain ⟨hx, hb, hml, hrt, hown, hts, hlk, hfr, hlo, hK, hz, hnm, had, hon⟩ := C
  rw [how] at hown
  have hown' : s.vm.findClass "ChiefCirclesLaw" = some m.cls := hown
  have hpc : pc < en := by
    have h1 := z_dec_lt hd
    have h2 := List.all_eq_true.mp hs2 pc (List.mem_range.mpr (by omega))
    have h3 : z_iv (zz_cd mi) pc = true := by unfold z_iv; rw [hd]; rfl
    rw [h3] at h2
    exact of_decide_eq_true h2
  have hlink := hts _ (z_ct_ok E hE)
  have hcast := va_Nw.use rfl (A := args) (hi.1.2.2.1 E hE)
  have kk2 : W p l e R s m args below meth c H1 locs1 cells slots Q (F0 m hp arr [.ref q]) := by
    rcases hdec with ⟨k4, d, rfl⟩ | ⟨d, rfl⟩
    · exact lv_astore_n hx hb d (by show k % 4 = k; omega) hl.has (z_put_spec hput).1 rfl (fun arr2 h2 => kk arr2 (z_loc.nul hput h2))
    · exact lv_astore hx hb d hl.has (z_put_spec hput).1 rfl (fun arr2 h2 => kk arr2 (z_loc.nul hput h2))
  rcases htb with ⟨suf, ht⟩ | ⟨F, h1, suf, ⟨hF, hEF⟩, ht⟩
  · exact vx_catch hown' [] ⟨0, en, hp, z_ct9 E⟩ (tableOf suf) (by rw [htab, ht]; rfl) (fun _ h => nomatch h) (by simp [covers, hpc]) (z_ct_0 E) hlink hcast hq hv hcl kk2
  · exact vx_catch hown' [⟨0, en, h1, z_ct9 F⟩] ⟨0, en, hp, z_ct9 E⟩ (tableOf suf) (by rw [htab, ht]; rfl) (fun y h => by
      rw [List.mem_singleton] at h
      subst h
      exact Or.inr ⟨z_ct_0 F, z_en F, hts _ (z_ct_ok F hF), hi.1.2.2.2.2.2 E F hE hF hEF⟩) (by simp [covers, hpc]) (z_ct_0 E) hlink hcast hq hv hcl kk2
