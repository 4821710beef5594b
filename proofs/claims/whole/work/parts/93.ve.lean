/-! ===== the law's blocks, in pieces: by program ===== -/
set_option maxRecDepth 40000 in
theorem zw_0 : (((z_bls 248).drop 0).take 8).all (fun q => z_seqB 248 q.1 q.2) = true := by decide +kernel
set_option maxRecDepth 40000 in
theorem zw_8 : (((z_bls 248).drop 8).take 8).all (fun q => z_seqB 248 q.1 q.2) = true := by decide +kernel
set_option maxRecDepth 40000 in
theorem zw_16 : (((z_bls 248).drop 16).take 8).all (fun q => z_seqB 248 q.1 q.2) = true := by decide +kernel
set_option maxRecDepth 40000 in
theorem zw_24 : (((z_bls 248).drop 24).take 8).all (fun q => z_seqB 248 q.1 q.2) = true := by decide +kernel
set_option maxRecDepth 40000 in
theorem zw_32 : (((z_bls 248).drop 32).take 8).all (fun q => z_seqB 248 q.1 q.2) = true := by decide +kernel
set_option maxRecDepth 40000 in
theorem zw_40 : (((z_bls 248).drop 40).take 8).all (fun q => z_seqB 248 q.1 q.2) = true := by decide +kernel
set_option maxRecDepth 40000 in
theorem zw_48 : (((z_bls 248).drop 48).take 8).all (fun q => z_seqB 248 q.1 q.2) = true := by decide +kernel
set_option maxRecDepth 40000 in
theorem zw_56 : (((z_bls 248).drop 56).take 8).all (fun q => z_seqB 248 q.1 q.2) = true := by decide +kernel
set_option maxRecDepth 40000 in
theorem zw_64 : (((z_bls 248).drop 64).take 8).all (fun q => z_seqB 248 q.1 q.2) = true := by decide +kernel
set_option maxRecDepth 40000 in
theorem zw_72 : (((z_bls 248).drop 72).take 8).all (fun q => z_seqB 248 q.1 q.2) = true := by decide +kernel
set_option maxRecDepth 40000 in
theorem zw_80 : (((z_bls 248).drop 80).take 8).all (fun q => z_seqB 248 q.1 q.2) = true := by decide +kernel
set_option maxRecDepth 40000 in
theorem zw_88 : (((z_bls 248).drop 88).take 8).all (fun q => z_seqB 248 q.1 q.2) = true := by decide +kernel
set_option maxRecDepth 40000 in
theorem zw_96 : (((z_bls 248).drop 96).take 8).all (fun q => z_seqB 248 q.1 q.2) = true := by decide +kernel
set_option maxRecDepth 40000 in
theorem zw_104 : (((z_bls 248).drop 104).take 8).all (fun q => z_seqB 248 q.1 q.2) = true := by decide +kernel
set_option maxRecDepth 40000 in
theorem zw_112 : (((z_bls 248).drop 112).take 8).all (fun q => z_seqB 248 q.1 q.2) = true := by decide +kernel
set_option maxRecDepth 40000 in
theorem zw_120 : (((z_bls 248).drop 120).take 8).all (fun q => z_seqB 248 q.1 q.2) = true := by decide +kernel
set_option maxRecDepth 40000 in
theorem zw_128 : (((z_bls 248).drop 128).take 8).all (fun q => z_seqB 248 q.1 q.2) = true := by decide +kernel
set_option maxRecDepth 40000 in
theorem zw_136 : (((z_bls 248).drop 136).take 8).all (fun q => z_seqB 248 q.1 q.2) = true := by decide +kernel
set_option maxRecDepth 40000 in
theorem zw_144 : (((z_bls 248).drop 144).take 8).all (fun q => z_seqB 248 q.1 q.2) = true := by decide +kernel
set_option maxRecDepth 40000 in
theorem zw_152 : (((z_bls 248).drop 152).take 8).all (fun q => z_seqB 248 q.1 q.2) = true := by decide +kernel
theorem z_all_td {α : Type} (f : α → Bool) (l : List α) (a k : Nat) (h1 : ((l.drop a).take k).all f = true) (h2 : (l.drop (a + k)).all f = true) : (l.drop a).all f = true := by
  have e : l.drop a = (l.drop a).take k ++ l.drop (a + k) := by
    have e1 := (List.take_append_drop k (l.drop a)).symm
    rw [List.drop_drop] at e1
    exact e1
  rw [e, List.all_append, h1, h2]
  rfl
theorem zv_248 : (z_bls 248).all (fun q => z_seqB 248 q.1 q.2) = true := (z_all_td _ _ 0 8 zw_0 (z_all_td _ _ 8 8 zw_8 (z_all_td _ _ 16 8 zw_16 (z_all_td _ _ 24 8 zw_24 (z_all_td _ _ 32 8 zw_32 (z_all_td _ _ 40 8 zw_40 (z_all_td _ _ 48 8 zw_48 (z_all_td _ _ 56 8 zw_56 (z_all_td _ _ 64 8 zw_64 (z_all_td _ _ 72 8 zw_72 (z_all_td _ _ 80 8 zw_80 (z_all_td _ _ 88 8 zw_88 (z_all_td _ _ 96 8 zw_96 (z_all_td _ _ 104 8 zw_104 (z_all_td _ _ 112 8 zw_112 (z_all_td _ _ 120 8 zw_120 (z_all_td _ _ 128 8 zw_128 (z_all_td _ _ 136 8 zw_136 (z_all_td _ _ 144 8 zw_144 (z_all_td _ _ 152 8 zw_152 (rfl : ((z_bls 248).drop 160).all (fun q => z_seqB 248 q.1 q.2) = true)))))))))))))))))))))
