/-! ===== the reference's storm: a draw ===== -/
def md (M : zM) (x : Int32) (s : Nat → Int32) : zM := z_sA (z_sA M 455 (z_u (M 455) 19 x)) 458 s
theorem md_s (M : zM) (x : Int32) (s : Nat → Int32) : md M x s 458 = s := z_sA_s _ _ _
theorem md_m (M : zM) (x : Int32) (s : Nat → Int32) : md M x s 455 = z_u (M 455) 19 x := by unfold md; rw [z_sA_n _ _ _ _ (by omega), z_sA_s]
theorem md_us (M : zM) (x : Int32) (s t : Nat → Int32) : z_sA (md M x s) 458 t = md M x t := by unfold md; rw [z_sA_sA]
theorem md_ud (M : zM) (x y : Int32) (s : Nat → Int32) : z_sA (md M x s) 455 (z_u (md M x s 455) 19 y) = md M y s := by
  rw [md_m, z_u_u]
  unfold md
  rw [z_sA_comm _ 458 455 _ _ (by omega), z_sA_sA]
theorem md_draw {G : zG} (hM : z_HM G) (M : zM) (x : Int32) (s : Nat → Int32) {k : Nat} (h1 : 1 ≤ k) (hk : k ≤ 256) : z_call 245 [.ref 455, .int (nI k)] G (md M x s) = some (.inl (some (.int (f_dv (f_dr x) (nI k)))), G, md M (f_dr x) s) := by
  have e := c_M_draw hM (md M x s) (k := nI k) (nI_ne0 (by omega) (by omega))
  rw [md_ud, md_m, z_u_s] at e
  exact e
theorem md_id (M : zM) : md M (M 455 19) (M 458) = M := by
  have e : z_u (M 455) 19 (M 455 19) = M 455 := by funext a; by_cases ha : a = 19; (· subst ha; rw [z_u_s]); (· rw [z_u_n _ _ _ _ ha])
  unfold md
  rw [e, z_sA_id, z_sA_id]
/-- links are below 256 -/
def z_Lk (n : Nat) (s : Nat → Int32) : Prop := ∀ a, a < n → ∃ c, c < 256 ∧ s (25 + a) = nI c
