/-! ===== the law's wrappers and cases (printed by wip/whole/genlaw.py) ===== -/
theorem cmpl_s (x : Int64) : z_cmpl x x = 0 := by
  unfold z_cmpl
  rw [if_neg (Int64.lt_irrefl), if_pos rfl]
section
variable {m : Nat} {ops : List zO} {ls st : List Value}
theorem xk_cc (E : Nat) (G : zG) (M : zM) {t k : Nat} {ls' : List Value} (h : z_hd m E = some (t, k)) (h2 : z_put ls k .null = some ls') : z_k 64 m ops ls st (some (.inr E, G, M)) = z_ex m (z_blk m t) ls' [] G M := by simp [z_k, h, h2]
end
theorem c_M_thrown {G : zG} (k0 : z_kd G 455 = (0, 7)) (M : zM) : z_call 157 [.ref 455] G M = some (.inl (some (.int (M 455 0))), G, M) := by
  simp (disch := first | assumption | omega | exact Nat.le_of_ble_eq_true rfl | decide) only [ze_M_thrown, zk_M_thrown_0, xo_2_0, xo_16, xo_70]
theorem w_text_0 {G G1 : zG} {M M1 : zM} {x1 : Int32} {v : Int32} (hk : z_kd G 32 = (0, 6)) (h : z_call 59 [.ref 32, .int x1] G M = some (.inl (some (.int v)), G1, M1)) (o1 : (z_kd G1 472).1 = 2) (o2 : (z_kd G1 472).2 = 1) : z_call 58 [.ref 32, .int x1, .ref 472] G M = some (.inl (some (.int (nI 0))), z_setL G1 472 0 v.toInt64, M1) := by
  have hk' : z_kd G 32 = (0, z_rc 59) := hk
  simp (disch := first | assumption | omega | exact Nat.le_of_ble_eq_true rfl | decide) only [ze_L_text, zk_L_text_0, xo_2_2, xo_5, xo_2_0, xo_0_1, xo_64_2, xk_v, xk_n, xo_57, xo_38, xo_54, xo_70, zk_L_text_15, h]
theorem w_text_x1 {G G1 : zG} {M M1 : zM} {x1 : Int32} (hk : z_kd G 32 = (0, 6)) (h : z_call 59 [.ref 32, .int x1] G M = some (.inr 1, G1, M1)) : z_call 58 [.ref 32, .int x1, .ref 472] G M = some (.inl (some (.int (nI 1))), G1, M1) := by
  have hk' : z_kd G 32 = (0, z_rc 59) := hk
  have q1 : z_hd 58 1 = some (13, 3) := rfl
  have q2 : z_put [.ref 32, .int x1, .ref 472, .null] 3 .null = some [.ref 32, .int x1, .ref 472, .null] := rfl
  simp (disch := first | assumption | omega | exact Nat.le_of_ble_eq_true rfl | decide) only [ze_L_text, zk_L_text_0, xo_2_2, xo_5, xo_2_0, xo_0_1, xo_64_2, xo_57, xo_38, xo_54, zk_L_text_13, xo_70, h, xk_cc 1 G1 M1 q1 q2]
theorem w_ticks_0 {G G1 : zG} {M M1 : zM} {x1 : Int32} {v : Int32} (hk : z_kd G 32 = (0, 6)) (h : z_call 75 [.ref 32, .int x1] G M = some (.inl (some (.int v)), G1, M1)) (o1 : (z_kd G1 472).1 = 2) (o2 : (z_kd G1 472).2 = 1) : z_call 74 [.ref 32, .int x1, .ref 472] G M = some (.inl (some (.int (nI 0))), z_setL G1 472 0 v.toInt64, M1) := by
  have hk' : z_kd G 32 = (0, z_rc 75) := hk
  simp (disch := first | assumption | omega | exact Nat.le_of_ble_eq_true rfl | decide) only [ze_L_ticks, zk_L_ticks_0, xo_2_2, xo_5, xo_2_0, xo_0_1, xo_64_2, xk_v, xk_n, xo_57, xo_38, xo_54, xo_70, zk_L_ticks_15, h]
theorem w_ticks_x1 {G G1 : zG} {M M1 : zM} {x1 : Int32} (hk : z_kd G 32 = (0, 6)) (h : z_call 75 [.ref 32, .int x1] G M = some (.inr 1, G1, M1)) : z_call 74 [.ref 32, .int x1, .ref 472] G M = some (.inl (some (.int (nI 1))), G1, M1) := by
  have hk' : z_kd G 32 = (0, z_rc 75) := hk
  have q1 : z_hd 74 1 = some (13, 3) := rfl
  have q2 : z_put [.ref 32, .int x1, .ref 472, .null] 3 .null = some [.ref 32, .int x1, .ref 472, .null] := rfl
  simp (disch := first | assumption | omega | exact Nat.le_of_ble_eq_true rfl | decide) only [ze_L_ticks, zk_L_ticks_0, xo_2_2, xo_5, xo_2_0, xo_0_1, xo_64_2, xo_57, xo_38, xo_54, zk_L_ticks_13, xo_70, h, xk_cc 1 G1 M1 q1 q2]
theorem w_cut_0 {G G1 : zG} {M M1 : zM} {x1 : Int32} {v : Int32} (hk : z_kd G 32 = (0, 6)) (h : z_call 81 [.ref 32, .int x1] G M = some (.inl (some (.int v)), G1, M1)) (o1 : (z_kd G1 472).1 = 2) (o2 : (z_kd G1 472).2 = 1) : z_call 80 [.ref 32, .int x1, .ref 472] G M = some (.inl (some (.int (nI 0))), z_setL G1 472 0 v.toInt64, M1) := by
  have hk' : z_kd G 32 = (0, z_rc 81) := hk
  simp (disch := first | assumption | omega | exact Nat.le_of_ble_eq_true rfl | decide) only [ze_L_cut, zk_L_cut_0, xo_2_2, xo_5, xo_2_0, xo_0_1, xo_64_2, xk_v, xk_n, xo_57, xo_38, xo_54, xo_70, zk_L_cut_15, h]
theorem w_cut_x1 {G G1 : zG} {M M1 : zM} {x1 : Int32} (hk : z_kd G 32 = (0, 6)) (h : z_call 81 [.ref 32, .int x1] G M = some (.inr 1, G1, M1)) : z_call 80 [.ref 32, .int x1, .ref 472] G M = some (.inl (some (.int (nI 1))), G1, M1) := by
  have hk' : z_kd G 32 = (0, z_rc 81) := hk
  have q1 : z_hd 80 1 = some (13, 3) := rfl
  have q2 : z_put [.ref 32, .int x1, .ref 472, .null] 3 .null = some [.ref 32, .int x1, .ref 472, .null] := rfl
  simp (disch := first | assumption | omega | exact Nat.le_of_ble_eq_true rfl | decide) only [ze_L_cut, zk_L_cut_0, xo_2_2, xo_5, xo_2_0, xo_0_1, xo_64_2, xo_57, xo_38, xo_54, zk_L_cut_13, xo_70, h, xk_cc 1 G1 M1 q1 q2]
theorem w_fall_0 {G G1 : zG} {M M1 : zM} {x1 : Int32} {v : Int32} (hk : z_kd G 32 = (0, 6)) (h : z_call 85 [.ref 32, .int x1] G M = some (.inl (some (.int v)), G1, M1)) (o1 : (z_kd G1 472).1 = 2) (o2 : (z_kd G1 472).2 = 1) : z_call 84 [.ref 32, .int x1, .ref 472] G M = some (.inl (some (.int (nI 0))), z_setL G1 472 0 v.toInt64, M1) := by
  have hk' : z_kd G 32 = (0, z_rc 85) := hk
  simp (disch := first | assumption | omega | exact Nat.le_of_ble_eq_true rfl | decide) only [ze_L_fall, zk_L_fall_0, xo_2_2, xo_5, xo_2_0, xo_0_1, xo_64_2, xk_v, xk_n, xo_57, xo_38, xo_54, xo_70, zk_L_fall_18, h]
theorem w_fall_x0 {G G1 : zG} {M M1 : zM} {x1 : Int32} (hk : z_kd G 32 = (0, 6)) (h : z_call 85 [.ref 32, .int x1] G M = some (.inr 0, G1, M1)) : z_call 84 [.ref 32, .int x1, .ref 472] G M = some (.inl (some (.int (nI 1))), G1, M1) := by
  have hk' : z_kd G 32 = (0, z_rc 85) := hk
  have q1 : z_hd 84 0 = some (13, 3) := rfl
  have q2 : z_put [.ref 32, .int x1, .ref 472, .null] 3 .null = some [.ref 32, .int x1, .ref 472, .null] := rfl
  simp (disch := first | assumption | omega | exact Nat.le_of_ble_eq_true rfl | decide) only [ze_L_fall, zk_L_fall_0, xo_2_2, xo_5, xo_2_0, xo_0_1, xo_64_2, xo_57, xo_38, xo_54, zk_L_fall_13, xo_70, h, xk_cc 0 G1 M1 q1 q2]
theorem w_fall_x2 {G G1 : zG} {M M1 : zM} {x1 : Int32} (hk : z_kd G 32 = (0, 6)) (h : z_call 85 [.ref 32, .int x1] G M = some (.inr 2, G1, M1)) : z_call 84 [.ref 32, .int x1, .ref 472] G M = some (.inl (some (.int (nI 2))), G1, M1) := by
  have hk' : z_kd G 32 = (0, z_rc 85) := hk
  have q1 : z_hd 84 2 = some (16, 3) := rfl
  have q2 : z_put [.ref 32, .int x1, .ref 472, .null] 3 .null = some [.ref 32, .int x1, .ref 472, .null] := rfl
  simp (disch := first | assumption | omega | exact Nat.le_of_ble_eq_true rfl | decide) only [ze_L_fall, zk_L_fall_0, xo_2_2, xo_5, xo_2_0, xo_0_1, xo_64_2, xo_57, xo_38, xo_54, xo_70, zk_L_fall_16, h, xk_cc 2 G1 M1 q1 q2]
theorem w_rise_0 {G G1 : zG} {M M1 : zM} {x1 : Int32} {v : Int32} (hk : z_kd G 32 = (0, 6)) (h : z_call 92 [.ref 32, .int x1] G M = some (.inl (some (.int v)), G1, M1)) (o1 : (z_kd G1 472).1 = 2) (o2 : (z_kd G1 472).2 = 1) : z_call 91 [.ref 32, .int x1, .ref 472] G M = some (.inl (some (.int (nI 0))), z_setL G1 472 0 v.toInt64, M1) := by
  have hk' : z_kd G 32 = (0, z_rc 92) := hk
  simp (disch := first | assumption | omega | exact Nat.le_of_ble_eq_true rfl | decide) only [ze_L_rise, zk_L_rise_0, xo_2_2, xo_5, xo_2_0, xo_0_1, xo_64_2, xk_v, xk_n, xo_57, xo_38, xo_54, xo_70, zk_L_rise_18, h]
theorem w_rise_x0 {G G1 : zG} {M M1 : zM} {x1 : Int32} (hk : z_kd G 32 = (0, 6)) (h : z_call 92 [.ref 32, .int x1] G M = some (.inr 0, G1, M1)) : z_call 91 [.ref 32, .int x1, .ref 472] G M = some (.inl (some (.int (nI 1))), G1, M1) := by
  have hk' : z_kd G 32 = (0, z_rc 92) := hk
  have q1 : z_hd 91 0 = some (13, 3) := rfl
  have q2 : z_put [.ref 32, .int x1, .ref 472, .null] 3 .null = some [.ref 32, .int x1, .ref 472, .null] := rfl
  simp (disch := first | assumption | omega | exact Nat.le_of_ble_eq_true rfl | decide) only [ze_L_rise, zk_L_rise_0, xo_2_2, xo_5, xo_2_0, xo_0_1, xo_64_2, xo_57, xo_38, xo_54, zk_L_rise_13, xo_70, h, xk_cc 0 G1 M1 q1 q2]
theorem w_rise_x2 {G G1 : zG} {M M1 : zM} {x1 : Int32} (hk : z_kd G 32 = (0, 6)) (h : z_call 92 [.ref 32, .int x1] G M = some (.inr 2, G1, M1)) : z_call 91 [.ref 32, .int x1, .ref 472] G M = some (.inl (some (.int (nI 2))), G1, M1) := by
  have hk' : z_kd G 32 = (0, z_rc 92) := hk
  have q1 : z_hd 91 2 = some (16, 3) := rfl
  have q2 : z_put [.ref 32, .int x1, .ref 472, .null] 3 .null = some [.ref 32, .int x1, .ref 472, .null] := rfl
  simp (disch := first | assumption | omega | exact Nat.le_of_ble_eq_true rfl | decide) only [ze_L_rise, zk_L_rise_0, xo_2_2, xo_5, xo_2_0, xo_0_1, xo_64_2, xo_57, xo_38, xo_54, xo_70, zk_L_rise_16, h, xk_cc 2 G1 M1 q1 q2]
theorem w_rule_0 {G G1 : zG} {M M1 : zM} {x1 x2 : Int32} {v : Int32} (hk : z_kd G 32 = (0, 6)) (h : z_call 94 [.ref 32, .int x1, .int x2] G M = some (.inl (some (.int v)), G1, M1)) (o1 : (z_kd G1 472).1 = 2) (o2 : (z_kd G1 472).2 = 1) : z_call 93 [.ref 32, .int x1, .int x2, .ref 472] G M = some (.inl (some (.int (nI 0))), z_setL G1 472 0 v.toInt64, M1) := by
  have hk' : z_kd G 32 = (0, z_rc 94) := hk
  simp (disch := first | assumption | omega | exact Nat.le_of_ble_eq_true rfl | decide) only [ze_L_rule, zk_L_rule_0, xo_2_3, xo_5, xo_2_0, xo_0_1, xo_0_2, xo_64_3, xk_v, xk_n, xo_57, xo_38, xo_54, xo_70, zk_L_rule_17, h]
theorem w_rule_x1 {G G1 : zG} {M M1 : zM} {x1 x2 : Int32} (hk : z_kd G 32 = (0, 6)) (h : z_call 94 [.ref 32, .int x1, .int x2] G M = some (.inr 1, G1, M1)) : z_call 93 [.ref 32, .int x1, .int x2, .ref 472] G M = some (.inl (some (.int (nI 1))), G1, M1) := by
  have hk' : z_kd G 32 = (0, z_rc 94) := hk
  have q1 : z_hd 93 1 = some (15, 4) := rfl
  have q2 : z_put [.ref 32, .int x1, .int x2, .ref 472, .null] 4 .null = some [.ref 32, .int x1, .int x2, .ref 472, .null] := rfl
  simp (disch := first | assumption | omega | exact Nat.le_of_ble_eq_true rfl | decide) only [ze_L_rule, zk_L_rule_0, xo_2_3, xo_5, xo_2_0, xo_0_1, xo_0_2, xo_64_3, xo_57, xo_38, xo_54, zk_L_rule_15, xo_70, h, xk_cc 1 G1 M1 q1 q2]
theorem w_told_0 {G G1 : zG} {M M1 : zM} {x1 : Int32} {v : Int32} (hk : z_kd G 32 = (0, 6)) (h : z_call 97 [.ref 32, .int x1] G M = some (.inl (some (.int v)), G1, M1)) (o1 : (z_kd G1 472).1 = 2) (o2 : (z_kd G1 472).2 = 1) : z_call 96 [.ref 32, .int x1, .ref 472] G M = some (.inl (some (.int (nI 0))), z_setL G1 472 0 v.toInt64, M1) := by
  have hk' : z_kd G 32 = (0, z_rc 97) := hk
  simp (disch := first | assumption | omega | exact Nat.le_of_ble_eq_true rfl | decide) only [ze_L_told, zk_L_told_0, xo_2_2, xo_5, xo_2_0, xo_0_1, xo_64_2, xk_v, xk_n, xo_57, xo_38, xo_54, xo_70, zk_L_told_15, h]
theorem w_told_x1 {G G1 : zG} {M M1 : zM} {x1 : Int32} (hk : z_kd G 32 = (0, 6)) (h : z_call 97 [.ref 32, .int x1] G M = some (.inr 1, G1, M1)) : z_call 96 [.ref 32, .int x1, .ref 472] G M = some (.inl (some (.int (nI 1))), G1, M1) := by
  have hk' : z_kd G 32 = (0, z_rc 97) := hk
  have q1 : z_hd 96 1 = some (13, 3) := rfl
  have q2 : z_put [.ref 32, .int x1, .ref 472, .null] 3 .null = some [.ref 32, .int x1, .ref 472, .null] := rfl
  simp (disch := first | assumption | omega | exact Nat.le_of_ble_eq_true rfl | decide) only [ze_L_told, zk_L_told_0, xo_2_2, xo_5, xo_2_0, xo_0_1, xo_64_2, xo_57, xo_38, xo_54, zk_L_told_13, xo_70, h, xk_cc 1 G1 M1 q1 q2]
theorem w_member_0 {G G1 : zG} {M M1 : zM} {x1 x2 : Int32} {v : Int32} (hk : z_kd G 32 = (0, 6)) (h : z_call 109 [.ref 32, .int x1, .int x2] G M = some (.inl (some (.int v)), G1, M1)) (o1 : (z_kd G1 472).1 = 2) (o2 : (z_kd G1 472).2 = 1) : z_call 108 [.ref 32, .int x1, .int x2, .ref 472] G M = some (.inl (some (.int (nI 0))), z_setL G1 472 0 v.toInt64, M1) := by
  have hk' : z_kd G 32 = (0, z_rc 109) := hk
  simp (disch := first | assumption | omega | exact Nat.le_of_ble_eq_true rfl | decide) only [ze_L_member, zk_L_member_0, xo_2_3, xo_5, xo_2_0, xo_0_1, xo_0_2, xo_64_3, xk_v, xk_n, xo_57, xo_38, xo_54, xo_70, zk_L_member_21, h]
theorem w_member_x0 {G G1 : zG} {M M1 : zM} {x1 x2 : Int32} (hk : z_kd G 32 = (0, 6)) (h : z_call 109 [.ref 32, .int x1, .int x2] G M = some (.inr 0, G1, M1)) : z_call 108 [.ref 32, .int x1, .int x2, .ref 472] G M = some (.inl (some (.int (nI 1))), G1, M1) := by
  have hk' : z_kd G 32 = (0, z_rc 109) := hk
  have q1 : z_hd 108 0 = some (15, 4) := rfl
  have q2 : z_put [.ref 32, .int x1, .int x2, .ref 472, .null] 4 .null = some [.ref 32, .int x1, .int x2, .ref 472, .null] := rfl
  simp (disch := first | assumption | omega | exact Nat.le_of_ble_eq_true rfl | decide) only [ze_L_member, zk_L_member_0, xo_2_3, xo_5, xo_2_0, xo_0_1, xo_0_2, xo_64_3, xo_57, xo_38, xo_54, zk_L_member_15, xo_70, h, xk_cc 0 G1 M1 q1 q2]
theorem w_member_x1 {G G1 : zG} {M M1 : zM} {x1 x2 : Int32} (hk : z_kd G 32 = (0, 6)) (h : z_call 109 [.ref 32, .int x1, .int x2] G M = some (.inr 1, G1, M1)) : z_call 108 [.ref 32, .int x1, .int x2, .ref 472] G M = some (.inl (some (.int (nI 2))), G1, M1) := by
  have hk' : z_kd G 32 = (0, z_rc 109) := hk
  have q1 : z_hd 108 1 = some (19, 4) := rfl
  have q2 : z_put [.ref 32, .int x1, .int x2, .ref 472, .null] 4 .null = some [.ref 32, .int x1, .int x2, .ref 472, .null] := rfl
  simp (disch := first | assumption | omega | exact Nat.le_of_ble_eq_true rfl | decide) only [ze_L_member, zk_L_member_0, xo_2_3, xo_5, xo_2_0, xo_0_1, xo_0_2, xo_64_3, xo_57, xo_38, xo_54, xo_70, zk_L_member_19, h, xk_cc 1 G1 M1 q1 q2]
theorem w_units_0 {G G1 : zG} {M M1 : zM} {x1 x2 x3 : Int32} {v : Int32} (hk : z_kd G 32 = (0, 6)) (h : z_call 111 [.ref 32, .int x1, .int x2, .int x3] G M = some (.inl (some (.int v)), G1, M1)) (o1 : (z_kd G1 472).1 = 2) (o2 : (z_kd G1 472).2 = 1) : z_call 110 [.ref 32, .int x1, .int x2, .int x3, .ref 472] G M = some (.inl (some (.int (nI 0))), z_setL G1 472 0 v.toInt64, M1) := by
  have hk' : z_kd G 32 = (0, z_rc 111) := hk
  simp (disch := first | assumption | omega | exact Nat.le_of_ble_eq_true rfl | decide) only [ze_L_units, zk_L_units_0, xo_3_4, xo_5, xo_2_0, xo_0_1, xo_0_2, xo_0_3, xo_64_4, xk_v, xk_n, xo_57, xo_38, xo_54, xo_70, zk_L_units_23, h]
theorem w_units_x0 {G G1 : zG} {M M1 : zM} {x1 x2 x3 : Int32} (hk : z_kd G 32 = (0, 6)) (h : z_call 111 [.ref 32, .int x1, .int x2, .int x3] G M = some (.inr 0, G1, M1)) : z_call 110 [.ref 32, .int x1, .int x2, .int x3, .ref 472] G M = some (.inl (some (.int (nI 1))), G1, M1) := by
  have hk' : z_kd G 32 = (0, z_rc 111) := hk
  have q1 : z_hd 110 0 = some (17, 5) := rfl
  have q2 : z_put [.ref 32, .int x1, .int x2, .int x3, .ref 472, .null] 5 .null = some [.ref 32, .int x1, .int x2, .int x3, .ref 472, .null] := rfl
  simp (disch := first | assumption | omega | exact Nat.le_of_ble_eq_true rfl | decide) only [ze_L_units, zk_L_units_0, xo_3_4, xo_5, xo_2_0, xo_0_1, xo_0_2, xo_0_3, xo_64_4, xo_57, xo_38, xo_54, zk_L_units_17, xo_70, h, xk_cc 0 G1 M1 q1 q2]
theorem w_units_x1 {G G1 : zG} {M M1 : zM} {x1 x2 x3 : Int32} (hk : z_kd G 32 = (0, 6)) (h : z_call 111 [.ref 32, .int x1, .int x2, .int x3] G M = some (.inr 1, G1, M1)) : z_call 110 [.ref 32, .int x1, .int x2, .int x3, .ref 472] G M = some (.inl (some (.int (nI 2))), G1, M1) := by
  have hk' : z_kd G 32 = (0, z_rc 111) := hk
  have q1 : z_hd 110 1 = some (21, 5) := rfl
  have q2 : z_put [.ref 32, .int x1, .int x2, .int x3, .ref 472, .null] 5 .null = some [.ref 32, .int x1, .int x2, .int x3, .ref 472, .null] := rfl
  simp (disch := first | assumption | omega | exact Nat.le_of_ble_eq_true rfl | decide) only [ze_L_units, zk_L_units_0, xo_3_4, xo_5, xo_2_0, xo_0_1, xo_0_2, xo_0_3, xo_64_4, xo_57, xo_38, xo_54, xo_70, zk_L_units_21, h, xk_cc 1 G1 M1 q1 q2]
theorem w_job_0 {G G1 : zG} {M M1 : zM} {x1 x2 : Int32} {v : Int32} (hk : z_kd G 32 = (0, 6)) (h : z_call 114 [.ref 32, .int x1, .int x2] G M = some (.inl (some (.int v)), G1, M1)) (o1 : (z_kd G1 472).1 = 2) (o2 : (z_kd G1 472).2 = 1) : z_call 113 [.ref 32, .int x1, .int x2, .ref 472] G M = some (.inl (some (.int (nI 0))), z_setL G1 472 0 v.toInt64, M1) := by
  have hk' : z_kd G 32 = (0, z_rc 114) := hk
  simp (disch := first | assumption | omega | exact Nat.le_of_ble_eq_true rfl | decide) only [ze_L_job, zk_L_job_0, xo_2_3, xo_5, xo_2_0, xo_0_1, xo_0_2, xo_64_3, xk_v, xk_n, xo_57, xo_38, xo_54, xo_70, zk_L_job_21, h]
theorem w_job_x0 {G G1 : zG} {M M1 : zM} {x1 x2 : Int32} (hk : z_kd G 32 = (0, 6)) (h : z_call 114 [.ref 32, .int x1, .int x2] G M = some (.inr 0, G1, M1)) : z_call 113 [.ref 32, .int x1, .int x2, .ref 472] G M = some (.inl (some (.int (nI 1))), G1, M1) := by
  have hk' : z_kd G 32 = (0, z_rc 114) := hk
  have q1 : z_hd 113 0 = some (15, 4) := rfl
  have q2 : z_put [.ref 32, .int x1, .int x2, .ref 472, .null] 4 .null = some [.ref 32, .int x1, .int x2, .ref 472, .null] := rfl
  simp (disch := first | assumption | omega | exact Nat.le_of_ble_eq_true rfl | decide) only [ze_L_job, zk_L_job_0, xo_2_3, xo_5, xo_2_0, xo_0_1, xo_0_2, xo_64_3, xo_57, xo_38, xo_54, zk_L_job_15, xo_70, h, xk_cc 0 G1 M1 q1 q2]
theorem w_job_x1 {G G1 : zG} {M M1 : zM} {x1 x2 : Int32} (hk : z_kd G 32 = (0, 6)) (h : z_call 114 [.ref 32, .int x1, .int x2] G M = some (.inr 1, G1, M1)) : z_call 113 [.ref 32, .int x1, .int x2, .ref 472] G M = some (.inl (some (.int (nI 2))), G1, M1) := by
  have hk' : z_kd G 32 = (0, z_rc 114) := hk
  have q1 : z_hd 113 1 = some (19, 4) := rfl
  have q2 : z_put [.ref 32, .int x1, .int x2, .ref 472, .null] 4 .null = some [.ref 32, .int x1, .int x2, .ref 472, .null] := rfl
  simp (disch := first | assumption | omega | exact Nat.le_of_ble_eq_true rfl | decide) only [ze_L_job, zk_L_job_0, xo_2_3, xo_5, xo_2_0, xo_0_1, xo_0_2, xo_64_3, xo_57, xo_38, xo_54, xo_70, zk_L_job_19, h, xk_cc 1 G1 M1 q1 q2]
theorem w_link_t {G G1 : zG} {M M1 : zM} {x1 x2 : Int32} (hk : z_kd G 32 = (0, 6)) (h : z_call 117 [.ref 32, .int x1, .int x2] G M = some (.inl (some (.int (nI 1))), G1, M1)) (o1 : (z_kd G1 472).1 = 2) (o2 : (z_kd G1 472).2 = 1) : z_call 116 [.ref 32, .int x1, .int x2, .ref 472] G M = some (.inl (some (.int (nI 0))), z_setL G1 472 0 (Int64.ofNat 1), M1) := by
  have hk' : z_kd G 32 = (0, z_rc 117) := hk
  simp (disch := first | assumption | omega | exact Nat.le_of_ble_eq_true rfl | decide) only [ze_L_link, zk_L_link_0, xo_2_3, xo_5, xo_2_0, xo_0_1, xo_0_2, xo_64_3, xk_v, xk_n, xo_48, zk_L_link_11, xo_62, xo_54, xo_55, zk_L_link_16, xo_38, xo_70, zk_L_link_28, h, one0, if_true, if_false]
theorem w_link_f {G G1 : zG} {M M1 : zM} {x1 x2 : Int32} (hk : z_kd G 32 = (0, 6)) (h : z_call 117 [.ref 32, .int x1, .int x2] G M = some (.inl (some (.int (nI 0))), G1, M1)) (o1 : (z_kd G1 472).1 = 2) (o2 : (z_kd G1 472).2 = 1) : z_call 116 [.ref 32, .int x1, .int x2, .ref 472] G M = some (.inl (some (.int (nI 0))), z_setL G1 472 0 (Int64.ofNat 0), M1) := by
  have hk' : z_kd G 32 = (0, z_rc 117) := hk
  simp (disch := first | assumption | omega | exact Nat.le_of_ble_eq_true rfl | decide) only [ze_L_link, zk_L_link_0, xo_2_3, xo_5, xo_2_0, xo_0_1, xo_0_2, xo_64_3, xk_v, xk_n, xo_48, xo_62, xo_54, zk_L_link_15, xo_55, zk_L_link_16, xo_38, xo_70, zk_L_link_28, h, zer0, if_true, if_false]
theorem w_link_x0 {G G1 : zG} {M M1 : zM} {x1 x2 : Int32} (hk : z_kd G 32 = (0, 6)) (h : z_call 117 [.ref 32, .int x1, .int x2] G M = some (.inr 0, G1, M1)) : z_call 116 [.ref 32, .int x1, .int x2, .ref 472] G M = some (.inl (some (.int (nI 1))), G1, M1) := by
  have hk' : z_kd G 32 = (0, z_rc 117) := hk
  have q1 : z_hd 116 0 = some (22, 4) := rfl
  have q2 : z_put [.ref 32, .int x1, .int x2, .ref 472, .null] 4 .null = some [.ref 32, .int x1, .int x2, .ref 472, .null] := rfl
  simp (disch := first | assumption | omega | exact Nat.le_of_ble_eq_true rfl | decide) only [ze_L_link, zk_L_link_0, xo_2_3, xo_5, xo_2_0, xo_0_1, xo_0_2, xo_64_3, xo_48, xo_62, xo_54, xo_55, xo_38, zk_L_link_22, xo_70, h, xk_cc 0 G1 M1 q1 q2]
theorem w_link_x1 {G G1 : zG} {M M1 : zM} {x1 x2 : Int32} (hk : z_kd G 32 = (0, 6)) (h : z_call 117 [.ref 32, .int x1, .int x2] G M = some (.inr 1, G1, M1)) : z_call 116 [.ref 32, .int x1, .int x2, .ref 472] G M = some (.inl (some (.int (nI 2))), G1, M1) := by
  have hk' : z_kd G 32 = (0, z_rc 117) := hk
  have q1 : z_hd 116 1 = some (26, 4) := rfl
  have q2 : z_put [.ref 32, .int x1, .int x2, .ref 472, .null] 4 .null = some [.ref 32, .int x1, .int x2, .ref 472, .null] := rfl
  simp (disch := first | assumption | omega | exact Nat.le_of_ble_eq_true rfl | decide) only [ze_L_link, zk_L_link_0, xo_2_3, xo_5, xo_2_0, xo_0_1, xo_0_2, xo_64_3, xo_48, xo_62, xo_54, xo_55, xo_38, xo_70, zk_L_link_26, h, xk_cc 1 G1 M1 q1 q2]
theorem w_letter_0 {G G1 : zG} {M M1 : zM} {x1 x2 : Int32} {v : Int32} (hk : z_kd G 32 = (0, 6)) (h : z_call 119 [.ref 32, .int x1, .int x2] G M = some (.inl (some (.int v)), G1, M1)) (o1 : (z_kd G1 472).1 = 2) (o2 : (z_kd G1 472).2 = 1) : z_call 118 [.ref 32, .int x1, .int x2, .ref 472] G M = some (.inl (some (.int (nI 0))), z_setL G1 472 0 v.toInt64, M1) := by
  have hk' : z_kd G 32 = (0, z_rc 119) := hk
  simp (disch := first | assumption | omega | exact Nat.le_of_ble_eq_true rfl | decide) only [ze_L_letter, zk_L_letter_0, xo_2_3, xo_5, xo_2_0, xo_0_1, xo_0_2, xo_64_3, xk_v, xk_n, xo_57, xo_38, xo_54, xo_70, zk_L_letter_21, h]
theorem w_letter_x0 {G G1 : zG} {M M1 : zM} {x1 x2 : Int32} (hk : z_kd G 32 = (0, 6)) (h : z_call 119 [.ref 32, .int x1, .int x2] G M = some (.inr 0, G1, M1)) : z_call 118 [.ref 32, .int x1, .int x2, .ref 472] G M = some (.inl (some (.int (nI 1))), G1, M1) := by
  have hk' : z_kd G 32 = (0, z_rc 119) := hk
  have q1 : z_hd 118 0 = some (15, 4) := rfl
  have q2 : z_put [.ref 32, .int x1, .int x2, .ref 472, .null] 4 .null = some [.ref 32, .int x1, .int x2, .ref 472, .null] := rfl
  simp (disch := first | assumption | omega | exact Nat.le_of_ble_eq_true rfl | decide) only [ze_L_letter, zk_L_letter_0, xo_2_3, xo_5, xo_2_0, xo_0_1, xo_0_2, xo_64_3, xo_57, xo_38, xo_54, zk_L_letter_15, xo_70, h, xk_cc 0 G1 M1 q1 q2]
theorem w_letter_x1 {G G1 : zG} {M M1 : zM} {x1 x2 : Int32} (hk : z_kd G 32 = (0, 6)) (h : z_call 119 [.ref 32, .int x1, .int x2] G M = some (.inr 1, G1, M1)) : z_call 118 [.ref 32, .int x1, .int x2, .ref 472] G M = some (.inl (some (.int (nI 2))), G1, M1) := by
  have hk' : z_kd G 32 = (0, z_rc 119) := hk
  have q1 : z_hd 118 1 = some (19, 4) := rfl
  have q2 : z_put [.ref 32, .int x1, .int x2, .ref 472, .null] 4 .null = some [.ref 32, .int x1, .int x2, .ref 472, .null] := rfl
  simp (disch := first | assumption | omega | exact Nat.le_of_ble_eq_true rfl | decide) only [ze_L_letter, zk_L_letter_0, xo_2_3, xo_5, xo_2_0, xo_0_1, xo_0_2, xo_64_3, xo_57, xo_38, xo_54, xo_70, zk_L_letter_19, h, xk_cc 1 G1 M1 q1 q2]
theorem w_sent_0 {G G1 : zG} {M M1 : zM} {x1 x2 : Int32} {v : Int32} (hk : z_kd G 32 = (0, 6)) (h : z_call 121 [.ref 32, .int x1, .int x2] G M = some (.inl (some (.int v)), G1, M1)) (o1 : (z_kd G1 472).1 = 2) (o2 : (z_kd G1 472).2 = 1) : z_call 120 [.ref 32, .int x1, .int x2, .ref 472] G M = some (.inl (some (.int (nI 0))), z_setL G1 472 0 v.toInt64, M1) := by
  have hk' : z_kd G 32 = (0, z_rc 121) := hk
  simp (disch := first | assumption | omega | exact Nat.le_of_ble_eq_true rfl | decide) only [ze_L_sent, zk_L_sent_0, xo_2_3, xo_5, xo_2_0, xo_0_1, xo_0_2, xo_64_3, xk_v, xk_n, xo_57, xo_38, xo_54, xo_70, zk_L_sent_17, h]
theorem w_sent_x1 {G G1 : zG} {M M1 : zM} {x1 x2 : Int32} (hk : z_kd G 32 = (0, 6)) (h : z_call 121 [.ref 32, .int x1, .int x2] G M = some (.inr 1, G1, M1)) : z_call 120 [.ref 32, .int x1, .int x2, .ref 472] G M = some (.inl (some (.int (nI 1))), G1, M1) := by
  have hk' : z_kd G 32 = (0, z_rc 121) := hk
  have q1 : z_hd 120 1 = some (15, 4) := rfl
  have q2 : z_put [.ref 32, .int x1, .int x2, .ref 472, .null] 4 .null = some [.ref 32, .int x1, .int x2, .ref 472, .null] := rfl
  simp (disch := first | assumption | omega | exact Nat.le_of_ble_eq_true rfl | decide) only [ze_L_sent, zk_L_sent_0, xo_2_3, xo_5, xo_2_0, xo_0_1, xo_0_2, xo_64_3, xo_57, xo_38, xo_54, zk_L_sent_15, xo_70, h, xk_cc 1 G1 M1 q1 q2]
theorem w_tally_0 {G G1 : zG} {M M1 : zM} {x1 x2 : Int32} {v : Int32} (hk : z_kd G 32 = (0, 6)) (h : z_call 123 [.ref 32, .int x1, .int x2] G M = some (.inl (some (.int v)), G1, M1)) (o1 : (z_kd G1 472).1 = 2) (o2 : (z_kd G1 472).2 = 1) : z_call 122 [.ref 32, .int x1, .int x2, .ref 472] G M = some (.inl (some (.int (nI 0))), z_setL G1 472 0 v.toInt64, M1) := by
  have hk' : z_kd G 32 = (0, z_rc 123) := hk
  simp (disch := first | assumption | omega | exact Nat.le_of_ble_eq_true rfl | decide) only [ze_L_tally, zk_L_tally_0, xo_2_3, xo_5, xo_2_0, xo_0_1, xo_0_2, xo_64_3, xk_v, xk_n, xo_57, xo_38, xo_54, xo_70, zk_L_tally_21, h]
theorem w_tally_x0 {G G1 : zG} {M M1 : zM} {x1 x2 : Int32} (hk : z_kd G 32 = (0, 6)) (h : z_call 123 [.ref 32, .int x1, .int x2] G M = some (.inr 0, G1, M1)) : z_call 122 [.ref 32, .int x1, .int x2, .ref 472] G M = some (.inl (some (.int (nI 1))), G1, M1) := by
  have hk' : z_kd G 32 = (0, z_rc 123) := hk
  have q1 : z_hd 122 0 = some (15, 4) := rfl
  have q2 : z_put [.ref 32, .int x1, .int x2, .ref 472, .null] 4 .null = some [.ref 32, .int x1, .int x2, .ref 472, .null] := rfl
  simp (disch := first | assumption | omega | exact Nat.le_of_ble_eq_true rfl | decide) only [ze_L_tally, zk_L_tally_0, xo_2_3, xo_5, xo_2_0, xo_0_1, xo_0_2, xo_64_3, xo_57, xo_38, xo_54, zk_L_tally_15, xo_70, h, xk_cc 0 G1 M1 q1 q2]
theorem w_tally_x1 {G G1 : zG} {M M1 : zM} {x1 x2 : Int32} (hk : z_kd G 32 = (0, 6)) (h : z_call 123 [.ref 32, .int x1, .int x2] G M = some (.inr 1, G1, M1)) : z_call 122 [.ref 32, .int x1, .int x2, .ref 472] G M = some (.inl (some (.int (nI 2))), G1, M1) := by
  have hk' : z_kd G 32 = (0, z_rc 123) := hk
  have q1 : z_hd 122 1 = some (19, 4) := rfl
  have q2 : z_put [.ref 32, .int x1, .int x2, .ref 472, .null] 4 .null = some [.ref 32, .int x1, .int x2, .ref 472, .null] := rfl
  simp (disch := first | assumption | omega | exact Nat.le_of_ble_eq_true rfl | decide) only [ze_L_tally, zk_L_tally_0, xo_2_3, xo_5, xo_2_0, xo_0_1, xo_0_2, xo_64_3, xo_57, xo_38, xo_54, xo_70, zk_L_tally_19, h, xk_cc 1 G1 M1 q1 q2]
theorem w_change_0 {G G1 : zG} {M M1 : zM} {x1 x2 : Int32} {v : Int32} (hk : z_kd G 32 = (0, 6)) (h : z_call 125 [.ref 32, .int x1, .int x2] G M = some (.inl (some (.int v)), G1, M1)) (o1 : (z_kd G1 472).1 = 2) (o2 : (z_kd G1 472).2 = 1) : z_call 124 [.ref 32, .int x1, .int x2, .ref 472] G M = some (.inl (some (.int (nI 0))), z_setL G1 472 0 v.toInt64, M1) := by
  have hk' : z_kd G 32 = (0, z_rc 125) := hk
  simp (disch := first | assumption | omega | exact Nat.le_of_ble_eq_true rfl | decide) only [ze_L_change, zk_L_change_0, xo_2_3, xo_5, xo_2_0, xo_0_1, xo_0_2, xo_64_3, xk_v, xk_n, xo_57, xo_38, xo_54, xo_70, zk_L_change_21, h]
theorem w_change_x0 {G G1 : zG} {M M1 : zM} {x1 x2 : Int32} (hk : z_kd G 32 = (0, 6)) (h : z_call 125 [.ref 32, .int x1, .int x2] G M = some (.inr 0, G1, M1)) : z_call 124 [.ref 32, .int x1, .int x2, .ref 472] G M = some (.inl (some (.int (nI 1))), G1, M1) := by
  have hk' : z_kd G 32 = (0, z_rc 125) := hk
  have q1 : z_hd 124 0 = some (15, 4) := rfl
  have q2 : z_put [.ref 32, .int x1, .int x2, .ref 472, .null] 4 .null = some [.ref 32, .int x1, .int x2, .ref 472, .null] := rfl
  simp (disch := first | assumption | omega | exact Nat.le_of_ble_eq_true rfl | decide) only [ze_L_change, zk_L_change_0, xo_2_3, xo_5, xo_2_0, xo_0_1, xo_0_2, xo_64_3, xo_57, xo_38, xo_54, zk_L_change_15, xo_70, h, xk_cc 0 G1 M1 q1 q2]
theorem w_change_x1 {G G1 : zG} {M M1 : zM} {x1 x2 : Int32} (hk : z_kd G 32 = (0, 6)) (h : z_call 125 [.ref 32, .int x1, .int x2] G M = some (.inr 1, G1, M1)) : z_call 124 [.ref 32, .int x1, .int x2, .ref 472] G M = some (.inl (some (.int (nI 2))), G1, M1) := by
  have hk' : z_kd G 32 = (0, z_rc 125) := hk
  have q1 : z_hd 124 1 = some (19, 4) := rfl
  have q2 : z_put [.ref 32, .int x1, .int x2, .ref 472, .null] 4 .null = some [.ref 32, .int x1, .int x2, .ref 472, .null] := rfl
  simp (disch := first | assumption | omega | exact Nat.le_of_ble_eq_true rfl | decide) only [ze_L_change, zk_L_change_0, xo_2_3, xo_5, xo_2_0, xo_0_1, xo_0_2, xo_64_3, xo_57, xo_38, xo_54, xo_70, zk_L_change_19, h, xk_cc 1 G1 M1 q1 q2]
theorem w_ranked_0 {G G1 : zG} {M M1 : zM} {x1 x2 : Int32} {v : Int32} (hk : z_kd G 32 = (0, 6)) (h : z_call 128 [.ref 32, .int x1, .int x2] G M = some (.inl (some (.int v)), G1, M1)) (o1 : (z_kd G1 472).1 = 2) (o2 : (z_kd G1 472).2 = 1) : z_call 127 [.ref 32, .int x1, .int x2, .ref 472] G M = some (.inl (some (.int (nI 0))), z_setL G1 472 0 v.toInt64, M1) := by
  have hk' : z_kd G 32 = (0, z_rc 128) := hk
  simp (disch := first | assumption | omega | exact Nat.le_of_ble_eq_true rfl | decide) only [ze_L_ranked, zk_L_ranked_0, xo_2_3, xo_5, xo_2_0, xo_0_1, xo_0_2, xo_64_3, xk_v, xk_n, xo_57, xo_38, xo_54, xo_70, zk_L_ranked_17, h]
theorem w_ranked_x0 {G G1 : zG} {M M1 : zM} {x1 x2 : Int32} (hk : z_kd G 32 = (0, 6)) (h : z_call 128 [.ref 32, .int x1, .int x2] G M = some (.inr 0, G1, M1)) : z_call 127 [.ref 32, .int x1, .int x2, .ref 472] G M = some (.inl (some (.int (nI 1))), G1, M1) := by
  have hk' : z_kd G 32 = (0, z_rc 128) := hk
  have q1 : z_hd 127 0 = some (15, 4) := rfl
  have q2 : z_put [.ref 32, .int x1, .int x2, .ref 472, .null] 4 .null = some [.ref 32, .int x1, .int x2, .ref 472, .null] := rfl
  simp (disch := first | assumption | omega | exact Nat.le_of_ble_eq_true rfl | decide) only [ze_L_ranked, zk_L_ranked_0, xo_2_3, xo_5, xo_2_0, xo_0_1, xo_0_2, xo_64_3, xo_57, xo_38, xo_54, zk_L_ranked_15, xo_70, h, xk_cc 0 G1 M1 q1 q2]
theorem w_untilBy_0 {G G1 : zG} {M M1 : zM} {x1 : Int32} {v : Int32} (hk : z_kd G 32 = (0, 6)) (h : z_call 131 [.ref 32, .int x1] G M = some (.inl (some (.int v)), G1, M1)) (o1 : (z_kd G1 472).1 = 2) (o2 : (z_kd G1 472).2 = 1) : z_call 130 [.ref 32, .int x1, .ref 472] G M = some (.inl (some (.int (nI 0))), z_setL G1 472 0 v.toInt64, M1) := by
  have hk' : z_kd G 32 = (0, z_rc 131) := hk
  simp (disch := first | assumption | omega | exact Nat.le_of_ble_eq_true rfl | decide) only [ze_L_untilBy, zk_L_untilBy_0, xo_2_2, xo_5, xo_2_0, xo_0_1, xo_64_2, xk_v, xk_n, xo_57, xo_38, xo_54, xo_70, zk_L_untilBy_15, h]
theorem w_untilBy_x0 {G G1 : zG} {M M1 : zM} {x1 : Int32} (hk : z_kd G 32 = (0, 6)) (h : z_call 131 [.ref 32, .int x1] G M = some (.inr 0, G1, M1)) : z_call 130 [.ref 32, .int x1, .ref 472] G M = some (.inl (some (.int (nI 1))), G1, M1) := by
  have hk' : z_kd G 32 = (0, z_rc 131) := hk
  have q1 : z_hd 130 0 = some (13, 3) := rfl
  have q2 : z_put [.ref 32, .int x1, .ref 472, .null] 3 .null = some [.ref 32, .int x1, .ref 472, .null] := rfl
  simp (disch := first | assumption | omega | exact Nat.le_of_ble_eq_true rfl | decide) only [ze_L_untilBy, zk_L_untilBy_0, xo_2_2, xo_5, xo_2_0, xo_0_1, xo_64_2, xo_57, xo_38, xo_54, zk_L_untilBy_13, xo_70, h, xk_cc 0 G1 M1 q1 q2]
theorem w_hardest_0 {G G1 : zG} {M M1 : zM} {x1 : Int32} {v : Int32} (hk : z_kd G 32 = (0, 6)) (h : z_call 134 [.ref 32, .int x1] G M = some (.inl (some (.int v)), G1, M1)) (o1 : (z_kd G1 472).1 = 2) (o2 : (z_kd G1 472).2 = 1) : z_call 133 [.ref 32, .int x1, .ref 472] G M = some (.inl (some (.int (nI 0))), z_setL G1 472 0 v.toInt64, M1) := by
  have hk' : z_kd G 32 = (0, z_rc 134) := hk
  simp (disch := first | assumption | omega | exact Nat.le_of_ble_eq_true rfl | decide) only [ze_L_hardest, zk_L_hardest_0, xo_2_2, xo_5, xo_2_0, xo_0_1, xo_64_2, xk_v, xk_n, xo_57, xo_38, xo_54, xo_70, zk_L_hardest_15, h]
theorem w_hardest_x1 {G G1 : zG} {M M1 : zM} {x1 : Int32} (hk : z_kd G 32 = (0, 6)) (h : z_call 134 [.ref 32, .int x1] G M = some (.inr 1, G1, M1)) : z_call 133 [.ref 32, .int x1, .ref 472] G M = some (.inl (some (.int (nI 1))), G1, M1) := by
  have hk' : z_kd G 32 = (0, z_rc 134) := hk
  have q1 : z_hd 133 1 = some (13, 3) := rfl
  have q2 : z_put [.ref 32, .int x1, .ref 472, .null] 3 .null = some [.ref 32, .int x1, .ref 472, .null] := rfl
  simp (disch := first | assumption | omega | exact Nat.le_of_ble_eq_true rfl | decide) only [ze_L_hardest, zk_L_hardest_0, xo_2_2, xo_5, xo_2_0, xo_0_1, xo_64_2, xo_57, xo_38, xo_54, zk_L_hardest_13, xo_70, h, xk_cc 1 G1 M1 q1 q2]
theorem w_untilRule_0 {G G1 : zG} {M M1 : zM} {x1 x2 : Int32} {v : Int32} (hk : z_kd G 32 = (0, 6)) (h : z_call 137 [.ref 32, .int x1, .int x2] G M = some (.inl (some (.int v)), G1, M1)) (o1 : (z_kd G1 472).1 = 2) (o2 : (z_kd G1 472).2 = 1) : z_call 136 [.ref 32, .int x1, .int x2, .ref 472] G M = some (.inl (some (.int (nI 0))), z_setL G1 472 0 v.toInt64, M1) := by
  have hk' : z_kd G 32 = (0, z_rc 137) := hk
  simp (disch := first | assumption | omega | exact Nat.le_of_ble_eq_true rfl | decide) only [ze_L_untilRule, zk_L_untilRule_0, xo_2_3, xo_5, xo_2_0, xo_0_1, xo_0_2, xo_64_3, xk_v, xk_n, xo_57, xo_38, xo_54, xo_70, zk_L_untilRule_17, h]
theorem w_untilRule_x1 {G G1 : zG} {M M1 : zM} {x1 x2 : Int32} (hk : z_kd G 32 = (0, 6)) (h : z_call 137 [.ref 32, .int x1, .int x2] G M = some (.inr 1, G1, M1)) : z_call 136 [.ref 32, .int x1, .int x2, .ref 472] G M = some (.inl (some (.int (nI 1))), G1, M1) := by
  have hk' : z_kd G 32 = (0, z_rc 137) := hk
  have q1 : z_hd 136 1 = some (15, 4) := rfl
  have q2 : z_put [.ref 32, .int x1, .int x2, .ref 472, .null] 4 .null = some [.ref 32, .int x1, .int x2, .ref 472, .null] := rfl
  simp (disch := first | assumption | omega | exact Nat.le_of_ble_eq_true rfl | decide) only [ze_L_untilRule, zk_L_untilRule_0, xo_2_3, xo_5, xo_2_0, xo_0_1, xo_0_2, xo_64_3, xo_57, xo_38, xo_54, zk_L_untilRule_15, xo_70, h, xk_cc 1 G1 M1 q1 q2]
theorem w_untilLinks_0 {G G1 : zG} {M M1 : zM} {x1 x2 : Int32} {v : Int32} (hk : z_kd G 32 = (0, 6)) (h : z_call 139 [.ref 32, .int x1, .int x2] G M = some (.inl (some (.int v)), G1, M1)) (o1 : (z_kd G1 472).1 = 2) (o2 : (z_kd G1 472).2 = 1) : z_call 138 [.ref 32, .int x1, .int x2, .ref 472] G M = some (.inl (some (.int (nI 0))), z_setL G1 472 0 v.toInt64, M1) := by
  have hk' : z_kd G 32 = (0, z_rc 139) := hk
  simp (disch := first | assumption | omega | exact Nat.le_of_ble_eq_true rfl | decide) only [ze_L_untilLinks, zk_L_untilLinks_0, xo_2_3, xo_5, xo_2_0, xo_0_1, xo_0_2, xo_64_3, xk_v, xk_n, xo_57, xo_38, xo_54, xo_70, zk_L_untilLinks_17, h]
theorem w_untilLinks_x1 {G G1 : zG} {M M1 : zM} {x1 x2 : Int32} (hk : z_kd G 32 = (0, 6)) (h : z_call 139 [.ref 32, .int x1, .int x2] G M = some (.inr 1, G1, M1)) : z_call 138 [.ref 32, .int x1, .int x2, .ref 472] G M = some (.inl (some (.int (nI 1))), G1, M1) := by
  have hk' : z_kd G 32 = (0, z_rc 139) := hk
  have q1 : z_hd 138 1 = some (15, 4) := rfl
  have q2 : z_put [.ref 32, .int x1, .int x2, .ref 472, .null] 4 .null = some [.ref 32, .int x1, .int x2, .ref 472, .null] := rfl
  simp (disch := first | assumption | omega | exact Nat.le_of_ble_eq_true rfl | decide) only [ze_L_untilLinks, zk_L_untilLinks_0, xo_2_3, xo_5, xo_2_0, xo_0_1, xo_0_2, xo_64_3, xo_57, xo_38, xo_54, zk_L_untilLinks_15, xo_70, h, xk_cc 1 G1 M1 q1 q2]
theorem w_ahead_0 {G G1 : zG} {M M1 : zM} {x1 x2 : Int32} {v : Int32} (hk : z_kd G 32 = (0, 6)) (h : z_call 141 [.ref 32, .int x1, .int x2] G M = some (.inl (some (.int v)), G1, M1)) (o1 : (z_kd G1 472).1 = 2) (o2 : (z_kd G1 472).2 = 1) : z_call 140 [.ref 32, .int x1, .int x2, .ref 472] G M = some (.inl (some (.int (nI 0))), z_setL G1 472 0 v.toInt64, M1) := by
  have hk' : z_kd G 32 = (0, z_rc 141) := hk
  simp (disch := first | assumption | omega | exact Nat.le_of_ble_eq_true rfl | decide) only [ze_L_ahead, zk_L_ahead_0, xo_2_3, xo_5, xo_2_0, xo_0_1, xo_0_2, xo_64_3, xk_v, xk_n, xo_57, xo_38, xo_54, xo_70, zk_L_ahead_17, h]
theorem w_ahead_x1 {G G1 : zG} {M M1 : zM} {x1 x2 : Int32} (hk : z_kd G 32 = (0, 6)) (h : z_call 141 [.ref 32, .int x1, .int x2] G M = some (.inr 1, G1, M1)) : z_call 140 [.ref 32, .int x1, .int x2, .ref 472] G M = some (.inl (some (.int (nI 1))), G1, M1) := by
  have hk' : z_kd G 32 = (0, z_rc 141) := hk
  have q1 : z_hd 140 1 = some (15, 4) := rfl
  have q2 : z_put [.ref 32, .int x1, .int x2, .ref 472, .null] 4 .null = some [.ref 32, .int x1, .int x2, .ref 472, .null] := rfl
  simp (disch := first | assumption | omega | exact Nat.le_of_ble_eq_true rfl | decide) only [ze_L_ahead, zk_L_ahead_0, xo_2_3, xo_5, xo_2_0, xo_0_1, xo_0_2, xo_64_3, xo_57, xo_38, xo_54, zk_L_ahead_15, xo_70, h, xk_cc 1 G1 M1 q1 q2]
theorem w_storms_0 {G G1 : zG} {M M1 : zM} {x1 x2 x3 : Int32} {v : Int32} (hk : z_kd G 32 = (0, 6)) (h : z_call 144 [.ref 32, .int x1, .int x2, .int x3] G M = some (.inl (some (.int v)), G1, M1)) (o1 : (z_kd G1 472).1 = 2) (o2 : (z_kd G1 472).2 = 1) : z_call 143 [.ref 32, .int x1, .int x2, .int x3, .ref 472] G M = some (.inl (some (.int (nI 0))), z_setL G1 472 0 v.toInt64, M1) := by
  have hk' : z_kd G 32 = (0, z_rc 144) := hk
  simp (disch := first | assumption | omega | exact Nat.le_of_ble_eq_true rfl | decide) only [ze_L_storms, zk_L_storms_0, xo_3_4, xo_5, xo_2_0, xo_0_1, xo_0_2, xo_0_3, xo_64_4, xk_v, xk_n, xo_57, xo_38, xo_54, xo_70, zk_L_storms_19, h]
theorem w_storms_x1 {G G1 : zG} {M M1 : zM} {x1 x2 x3 : Int32} (hk : z_kd G 32 = (0, 6)) (h : z_call 144 [.ref 32, .int x1, .int x2, .int x3] G M = some (.inr 1, G1, M1)) : z_call 143 [.ref 32, .int x1, .int x2, .int x3, .ref 472] G M = some (.inl (some (.int (nI 1))), G1, M1) := by
  have hk' : z_kd G 32 = (0, z_rc 144) := hk
  have q1 : z_hd 143 1 = some (17, 5) := rfl
  have q2 : z_put [.ref 32, .int x1, .int x2, .int x3, .ref 472, .null] 5 .null = some [.ref 32, .int x1, .int x2, .int x3, .ref 472, .null] := rfl
  simp (disch := first | assumption | omega | exact Nat.le_of_ble_eq_true rfl | decide) only [ze_L_storms, zk_L_storms_0, xo_3_4, xo_5, xo_2_0, xo_0_1, xo_0_2, xo_0_3, xo_64_4, xo_57, xo_38, xo_54, zk_L_storms_17, xo_70, h, xk_cc 1 G1 M1 q1 q2]
theorem law_text {G G1 : zG} {M M1 M2 : zM} {t len k : Nat} {b : Int32} {w5 w6 : Value} {x1 : Int32} (hx1 : M 1 (6 * t + 1) = x1) (s1 : (z_kd G 1).1 = 1) (s2 : (z_kd G 1).2 = len) (hi : 6 * t + 6 ≤ len) (hl : len ≤ 3072) (e1 : z_call 58 [.ref 32, .int x1, .ref 472] G M = some (.inl (some (.int (nI k))), G1, M1)) (g1 : (z_kd G1 1).1 = 1) (g2 : (z_kd G1 1).2 = len) (m1 : M1 1 = M 1) (km : z_kd G1 455 = (0, 7)) (e2 : z_call 159 [.ref 455, .int x1] G1 M1 = some (.inl (some (.int b)), G1, M2)) (e3 : M2 455 0 = nI k) (o1 : (z_kd G1 472).1 = 2) (o2 : (z_kd G1 472).2 = 1) (hv : k = 0 → z_lg G1 472 0 = b.toInt64) (hk : k ≤ 2) : z_ex 248 (z_blk 248 249) [.ref 1, .ref 32, .ref 455, .ref 472, .int (nI (6 * t)), w5, w6] [] G M = z_ex 248 (z_blk 248 1784) [.ref 1, .ref 32, .ref 455, .ref 472, .int (nI (6 * t)), .int (nI k), .int b] [] G1 M2 := by
  have km' : z_kd G1 455 = (0, z_rc 159) := km
  have km2 : z_kd G1 455 = (0, z_rc 157) := km
  have ct := c_M_thrown km M2
  rw [e3] at ct
  have l1 : 6 * t + 1 < (z_kd G 1).2 := by omega
  have n1 : 6 * t + 1 < (z_kd G1 1).2 := by omega
  have oo : 0 < (z_kd G1 472).2 := by omega
  have e0 : z_ex 248 (z_blk 248 249) [.ref 1, .ref 32, .ref 455, .ref 472, .int (nI (6 * t)), w5, w6] [] G M = z_ex 248 (z_blk 248 285) [.ref 1, .ref 32, .ref 455, .ref 472, .int (nI (6 * t)), .int (nI k), .int b] [] G1 M2 := by
    simp (disch := first | assumption | omega | exact Nat.le_of_ble_eq_true rfl | decide) only [xo_73, xo_39i, xo_39r, xo_65_1, xk_v, xk_n, xo_12_1i, xo_12_1r, xo_12_1n, xo_12_2i, xo_12_2r, xo_12_2n, xo_5, xo_75, xo_12_3i, xo_12_3r, xo_12_3n, xo_11_4i, xo_11_4r, xo_11_4n, xo_55, xo_1_4, xo_2_0, xo_36, xo_6, xo_21, xo_46, xo_32, xo_23, xo_56, xo_2_1, xo_20, xo_64_6, xo_2_2, xo_42, xo_72a, xo_72b, zk_L_law_249, xo_2_3, xo_67_3, xo_11_5i, xo_11_5r, xo_11_5n, xo_64_2, xo_11_6i, xo_11_6r, xo_11_6n, xo_64_1, xo_1_5, xo_49, xo_37, xo_1_6, xo_57, xo_60, xo_48, xo_54, xo_67_4, xo_64_3, xo_67_5, xo_64_4, xo_62, xo_15_4i, xo_15_4r, xo_15_4n, nI_add, e1, m1, e2, ct, hx1, if_true]
  rw [e0]
  by_cases h0 : k = 0
  · subst h0
    have z0 : (nI 0 = 0) = True := zer0
    have hv' := hv rfl
    simp (disch := first | assumption | omega | exact Nat.le_of_ble_eq_true rfl | decide) only [xo_73, xo_39i, xo_39r, xo_65_1, xk_v, xk_n, xo_12_1i, xo_12_1r, xo_12_1n, xo_12_2i, xo_12_2r, xo_12_2n, xo_5, xo_75, xo_12_3i, xo_12_3r, xo_12_3n, xo_11_4i, xo_11_4r, xo_11_4n, xo_55, xo_1_4, xo_2_0, xo_36, xo_6, xo_21, xo_46, xo_32, xo_23, xo_56, xo_2_1, xo_20, xo_64_6, xo_2_2, xo_42, xo_72a, xo_72b, xo_2_3, xo_67_3, xo_11_5i, xo_11_5r, xo_11_5n, xo_64_2, xo_11_6i, xo_11_6r, xo_11_6n, xo_64_1, xo_1_5, zk_L_law_285, xo_49, zk_L_law_290, xo_37, xo_1_6, xo_57, xo_60, xo_48, zk_L_law_302, xo_54, xo_67_4, xo_64_3, xo_67_5, xo_64_4, xo_62, xo_15_4i, xo_15_4r, xo_15_4n, z0, hv', cmpl_s, if_true, if_false, eq_self]
  · have z0 : (nI k = 0) = False := eq_false (nI_ne0 (by omega) (by omega))
    simp (disch := first | assumption | omega | exact Nat.le_of_ble_eq_true rfl | decide) only [xo_73, xo_39i, xo_39r, xo_65_1, xk_v, xk_n, xo_12_1i, xo_12_1r, xo_12_1n, xo_12_2i, xo_12_2r, xo_12_2n, xo_5, xo_75, xo_12_3i, xo_12_3r, xo_12_3n, xo_11_4i, xo_11_4r, xo_11_4n, xo_55, xo_1_4, xo_2_0, xo_36, xo_6, xo_21, xo_46, xo_32, xo_23, xo_56, xo_2_1, xo_20, xo_64_6, xo_2_2, xo_42, xo_72a, xo_72b, xo_2_3, xo_67_3, xo_11_5i, xo_11_5r, xo_11_5n, xo_64_2, xo_11_6i, xo_11_6r, xo_11_6n, xo_64_1, xo_1_5, zk_L_law_285, xo_49, xo_37, xo_1_6, xo_57, xo_60, xo_48, zk_L_law_302, xo_54, xo_67_4, xo_64_3, xo_67_5, xo_64_4, xo_62, xo_15_4i, xo_15_4r, xo_15_4n, z0, if_false]
theorem law_ticks {G G1 : zG} {M M1 M2 : zM} {t len k : Nat} {b : Int32} {w5 w6 : Value} {x1 : Int32} (hx1 : M 1 (6 * t + 1) = x1) (s1 : (z_kd G 1).1 = 1) (s2 : (z_kd G 1).2 = len) (hi : 6 * t + 6 ≤ len) (hl : len ≤ 3072) (e1 : z_call 74 [.ref 32, .int x1, .ref 472] G M = some (.inl (some (.int (nI k))), G1, M1)) (g1 : (z_kd G1 1).1 = 1) (g2 : (z_kd G1 1).2 = len) (m1 : M1 1 = M 1) (km : z_kd G1 455 = (0, 7)) (e2 : z_call 177 [.ref 455, .int x1] G1 M1 = some (.inl (some (.int b)), G1, M2)) (e3 : M2 455 0 = nI k) (o1 : (z_kd G1 472).1 = 2) (o2 : (z_kd G1 472).2 = 1) (hv : k = 0 → z_lg G1 472 0 = b.toInt64) (hk : k ≤ 2) : z_ex 248 (z_blk 248 318) [.ref 1, .ref 32, .ref 455, .ref 472, .int (nI (6 * t)), w5, w6] [] G M = z_ex 248 (z_blk 248 1784) [.ref 1, .ref 32, .ref 455, .ref 472, .int (nI (6 * t)), .int (nI k), .int b] [] G1 M2 := by
  have km' : z_kd G1 455 = (0, z_rc 177) := km
  have km2 : z_kd G1 455 = (0, z_rc 157) := km
  have ct := c_M_thrown km M2
  rw [e3] at ct
  have l1 : 6 * t + 1 < (z_kd G 1).2 := by omega
  have n1 : 6 * t + 1 < (z_kd G1 1).2 := by omega
  have oo : 0 < (z_kd G1 472).2 := by omega
  have e0 : z_ex 248 (z_blk 248 318) [.ref 1, .ref 32, .ref 455, .ref 472, .int (nI (6 * t)), w5, w6] [] G M = z_ex 248 (z_blk 248 354) [.ref 1, .ref 32, .ref 455, .ref 472, .int (nI (6 * t)), .int (nI k), .int b] [] G1 M2 := by
    simp (disch := first | assumption | omega | exact Nat.le_of_ble_eq_true rfl | decide) only [xo_73, xo_39i, xo_39r, xo_65_1, xk_v, xk_n, xo_12_1i, xo_12_1r, xo_12_1n, xo_12_2i, xo_12_2r, xo_12_2n, xo_5, xo_75, xo_12_3i, xo_12_3r, xo_12_3n, xo_11_4i, xo_11_4r, xo_11_4n, xo_55, xo_1_4, xo_2_0, xo_36, xo_6, xo_21, xo_46, xo_32, xo_23, xo_56, xo_2_1, xo_20, xo_64_6, xo_2_2, xo_42, xo_72a, xo_72b, xo_2_3, xo_67_3, xo_11_5i, xo_11_5r, xo_11_5n, xo_64_2, xo_11_6i, xo_11_6r, xo_11_6n, xo_64_1, xo_1_5, xo_49, xo_37, xo_1_6, xo_57, xo_60, xo_48, xo_54, zk_L_law_318, xo_67_4, xo_64_3, xo_67_5, xo_64_4, xo_62, xo_15_4i, xo_15_4r, xo_15_4n, nI_add, e1, m1, e2, ct, hx1, if_true]
  rw [e0]
  by_cases h0 : k = 0
  · subst h0
    have z0 : (nI 0 = 0) = True := zer0
    have hv' := hv rfl
    simp (disch := first | assumption | omega | exact Nat.le_of_ble_eq_true rfl | decide) only [xo_73, xo_39i, xo_39r, xo_65_1, xk_v, xk_n, xo_12_1i, xo_12_1r, xo_12_1n, xo_12_2i, xo_12_2r, xo_12_2n, xo_5, xo_75, xo_12_3i, xo_12_3r, xo_12_3n, xo_11_4i, xo_11_4r, xo_11_4n, xo_55, xo_1_4, xo_2_0, xo_36, xo_6, xo_21, xo_46, xo_32, xo_23, xo_56, xo_2_1, xo_20, xo_64_6, xo_2_2, xo_42, xo_72a, xo_72b, xo_2_3, xo_67_3, xo_11_5i, xo_11_5r, xo_11_5n, xo_64_2, xo_11_6i, xo_11_6r, xo_11_6n, xo_64_1, xo_1_5, xo_49, xo_37, xo_1_6, xo_57, xo_60, xo_48, xo_54, zk_L_law_354, zk_L_law_359, zk_L_law_371, xo_67_4, xo_64_3, xo_67_5, xo_64_4, xo_62, xo_15_4i, xo_15_4r, xo_15_4n, z0, hv', cmpl_s, if_true, if_false, eq_self]
  · have z0 : (nI k = 0) = False := eq_false (nI_ne0 (by omega) (by omega))
    simp (disch := first | assumption | omega | exact Nat.le_of_ble_eq_true rfl | decide) only [xo_73, xo_39i, xo_39r, xo_65_1, xk_v, xk_n, xo_12_1i, xo_12_1r, xo_12_1n, xo_12_2i, xo_12_2r, xo_12_2n, xo_5, xo_75, xo_12_3i, xo_12_3r, xo_12_3n, xo_11_4i, xo_11_4r, xo_11_4n, xo_55, xo_1_4, xo_2_0, xo_36, xo_6, xo_21, xo_46, xo_32, xo_23, xo_56, xo_2_1, xo_20, xo_64_6, xo_2_2, xo_42, xo_72a, xo_72b, xo_2_3, xo_67_3, xo_11_5i, xo_11_5r, xo_11_5n, xo_64_2, xo_11_6i, xo_11_6r, xo_11_6n, xo_64_1, xo_1_5, xo_49, xo_37, xo_1_6, xo_57, xo_60, xo_48, xo_54, zk_L_law_354, zk_L_law_371, xo_67_4, xo_64_3, xo_67_5, xo_64_4, xo_62, xo_15_4i, xo_15_4r, xo_15_4n, z0, if_false]
theorem law_cut {G G1 : zG} {M M1 M2 : zM} {t len k : Nat} {b : Int32} {w5 w6 : Value} {x1 : Int32} (hx1 : M 1 (6 * t + 1) = x1) (s1 : (z_kd G 1).1 = 1) (s2 : (z_kd G 1).2 = len) (hi : 6 * t + 6 ≤ len) (hl : len ≤ 3072) (e1 : z_call 80 [.ref 32, .int x1, .ref 472] G M = some (.inl (some (.int (nI k))), G1, M1)) (g1 : (z_kd G1 1).1 = 1) (g2 : (z_kd G1 1).2 = len) (m1 : M1 1 = M 1) (km : z_kd G1 455 = (0, 7)) (e2 : z_call 199 [.ref 455, .int x1] G1 M1 = some (.inl (some (.int b)), G1, M2)) (e3 : M2 455 0 = nI k) (o1 : (z_kd G1 472).1 = 2) (o2 : (z_kd G1 472).2 = 1) (hv : k = 0 → z_lg G1 472 0 = b.toInt64) (hk : k ≤ 2) : z_ex 248 (z_blk 248 374) [.ref 1, .ref 32, .ref 455, .ref 472, .int (nI (6 * t)), w5, w6] [] G M = z_ex 248 (z_blk 248 1784) [.ref 1, .ref 32, .ref 455, .ref 472, .int (nI (6 * t)), .int (nI k), .int b] [] G1 M2 := by
  have km' : z_kd G1 455 = (0, z_rc 199) := km
  have km2 : z_kd G1 455 = (0, z_rc 157) := km
  have ct := c_M_thrown km M2
  rw [e3] at ct
  have l1 : 6 * t + 1 < (z_kd G 1).2 := by omega
  have n1 : 6 * t + 1 < (z_kd G1 1).2 := by omega
  have oo : 0 < (z_kd G1 472).2 := by omega
  have e0 : z_ex 248 (z_blk 248 374) [.ref 1, .ref 32, .ref 455, .ref 472, .int (nI (6 * t)), w5, w6] [] G M = z_ex 248 (z_blk 248 410) [.ref 1, .ref 32, .ref 455, .ref 472, .int (nI (6 * t)), .int (nI k), .int b] [] G1 M2 := by
    simp (disch := first | assumption | omega | exact Nat.le_of_ble_eq_true rfl | decide) only [xo_73, xo_39i, xo_39r, xo_65_1, xk_v, xk_n, xo_12_1i, xo_12_1r, xo_12_1n, xo_12_2i, xo_12_2r, xo_12_2n, xo_5, xo_75, xo_12_3i, xo_12_3r, xo_12_3n, xo_11_4i, xo_11_4r, xo_11_4n, xo_55, xo_1_4, xo_2_0, xo_36, xo_6, xo_21, xo_46, xo_32, xo_23, xo_56, xo_2_1, xo_20, xo_64_6, xo_2_2, xo_42, xo_72a, xo_72b, xo_2_3, xo_67_3, xo_11_5i, xo_11_5r, xo_11_5n, xo_64_2, xo_11_6i, xo_11_6r, xo_11_6n, xo_64_1, xo_1_5, xo_49, xo_37, xo_1_6, xo_57, xo_60, xo_48, xo_54, zk_L_law_374, xo_67_4, xo_64_3, xo_67_5, xo_64_4, xo_62, xo_15_4i, xo_15_4r, xo_15_4n, nI_add, e1, m1, e2, ct, hx1, if_true]
  rw [e0]
  by_cases h0 : k = 0
  · subst h0
    have z0 : (nI 0 = 0) = True := zer0
    have hv' := hv rfl
    simp (disch := first | assumption | omega | exact Nat.le_of_ble_eq_true rfl | decide) only [xo_73, xo_39i, xo_39r, xo_65_1, xk_v, xk_n, xo_12_1i, xo_12_1r, xo_12_1n, xo_12_2i, xo_12_2r, xo_12_2n, xo_5, xo_75, xo_12_3i, xo_12_3r, xo_12_3n, xo_11_4i, xo_11_4r, xo_11_4n, xo_55, xo_1_4, xo_2_0, xo_36, xo_6, xo_21, xo_46, xo_32, xo_23, xo_56, xo_2_1, xo_20, xo_64_6, xo_2_2, xo_42, xo_72a, xo_72b, xo_2_3, xo_67_3, xo_11_5i, xo_11_5r, xo_11_5n, xo_64_2, xo_11_6i, xo_11_6r, xo_11_6n, xo_64_1, xo_1_5, xo_49, xo_37, xo_1_6, xo_57, xo_60, xo_48, xo_54, zk_L_law_410, zk_L_law_415, zk_L_law_427, xo_67_4, xo_64_3, xo_67_5, xo_64_4, xo_62, xo_15_4i, xo_15_4r, xo_15_4n, z0, hv', cmpl_s, if_true, if_false, eq_self]
  · have z0 : (nI k = 0) = False := eq_false (nI_ne0 (by omega) (by omega))
    simp (disch := first | assumption | omega | exact Nat.le_of_ble_eq_true rfl | decide) only [xo_73, xo_39i, xo_39r, xo_65_1, xk_v, xk_n, xo_12_1i, xo_12_1r, xo_12_1n, xo_12_2i, xo_12_2r, xo_12_2n, xo_5, xo_75, xo_12_3i, xo_12_3r, xo_12_3n, xo_11_4i, xo_11_4r, xo_11_4n, xo_55, xo_1_4, xo_2_0, xo_36, xo_6, xo_21, xo_46, xo_32, xo_23, xo_56, xo_2_1, xo_20, xo_64_6, xo_2_2, xo_42, xo_72a, xo_72b, xo_2_3, xo_67_3, xo_11_5i, xo_11_5r, xo_11_5n, xo_64_2, xo_11_6i, xo_11_6r, xo_11_6n, xo_64_1, xo_1_5, xo_49, xo_37, xo_1_6, xo_57, xo_60, xo_48, xo_54, zk_L_law_410, zk_L_law_427, xo_67_4, xo_64_3, xo_67_5, xo_64_4, xo_62, xo_15_4i, xo_15_4r, xo_15_4n, z0, if_false]
theorem law_fall {G G1 : zG} {M M1 M2 : zM} {t len k : Nat} {b : Int32} {w5 w6 : Value} {x1 : Int32} (hx1 : M 1 (6 * t + 1) = x1) (s1 : (z_kd G 1).1 = 1) (s2 : (z_kd G 1).2 = len) (hi : 6 * t + 6 ≤ len) (hl : len ≤ 3072) (e1 : z_call 84 [.ref 32, .int x1, .ref 472] G M = some (.inl (some (.int (nI k))), G1, M1)) (g1 : (z_kd G1 1).1 = 1) (g2 : (z_kd G1 1).2 = len) (m1 : M1 1 = M 1) (km : z_kd G1 455 = (0, 7)) (e2 : z_call 204 [.ref 455, .int x1] G1 M1 = some (.inl (some (.int b)), G1, M2)) (e3 : M2 455 0 = nI k) (o1 : (z_kd G1 472).1 = 2) (o2 : (z_kd G1 472).2 = 1) (hv : k = 0 → z_lg G1 472 0 = b.toInt64) (hk : k ≤ 2) : z_ex 248 (z_blk 248 443) [.ref 1, .ref 32, .ref 455, .ref 472, .int (nI (6 * t)), w5, w6] [] G M = z_ex 248 (z_blk 248 1784) [.ref 1, .ref 32, .ref 455, .ref 472, .int (nI (6 * t)), .int (nI k), .int b] [] G1 M2 := by
  have km' : z_kd G1 455 = (0, z_rc 204) := km
  have km2 : z_kd G1 455 = (0, z_rc 157) := km
  have ct := c_M_thrown km M2
  rw [e3] at ct
  have l1 : 6 * t + 1 < (z_kd G 1).2 := by omega
  have n1 : 6 * t + 1 < (z_kd G1 1).2 := by omega
  have oo : 0 < (z_kd G1 472).2 := by omega
  have e0 : z_ex 248 (z_blk 248 443) [.ref 1, .ref 32, .ref 455, .ref 472, .int (nI (6 * t)), w5, w6] [] G M = z_ex 248 (z_blk 248 479) [.ref 1, .ref 32, .ref 455, .ref 472, .int (nI (6 * t)), .int (nI k), .int b] [] G1 M2 := by
    simp (disch := first | assumption | omega | exact Nat.le_of_ble_eq_true rfl | decide) only [xo_73, xo_39i, xo_39r, xo_65_1, xk_v, xk_n, xo_12_1i, xo_12_1r, xo_12_1n, xo_12_2i, xo_12_2r, xo_12_2n, xo_5, xo_75, xo_12_3i, xo_12_3r, xo_12_3n, xo_11_4i, xo_11_4r, xo_11_4n, xo_55, xo_1_4, xo_2_0, xo_36, xo_6, xo_21, xo_46, xo_32, xo_23, xo_56, xo_2_1, xo_20, xo_64_6, xo_2_2, xo_42, xo_72a, xo_72b, xo_2_3, xo_67_3, xo_11_5i, xo_11_5r, xo_11_5n, xo_64_2, xo_11_6i, xo_11_6r, xo_11_6n, xo_64_1, xo_1_5, xo_49, xo_37, xo_1_6, xo_57, xo_60, xo_48, xo_54, zk_L_law_443, xo_67_4, xo_64_3, xo_67_5, xo_64_4, xo_62, xo_15_4i, xo_15_4r, xo_15_4n, nI_add, e1, m1, e2, ct, hx1, if_true]
  rw [e0]
  by_cases h0 : k = 0
  · subst h0
    have z0 : (nI 0 = 0) = True := zer0
    have hv' := hv rfl
    simp (disch := first | assumption | omega | exact Nat.le_of_ble_eq_true rfl | decide) only [xo_73, xo_39i, xo_39r, xo_65_1, xk_v, xk_n, xo_12_1i, xo_12_1r, xo_12_1n, xo_12_2i, xo_12_2r, xo_12_2n, xo_5, xo_75, xo_12_3i, xo_12_3r, xo_12_3n, xo_11_4i, xo_11_4r, xo_11_4n, xo_55, xo_1_4, xo_2_0, xo_36, xo_6, xo_21, xo_46, xo_32, xo_23, xo_56, xo_2_1, xo_20, xo_64_6, xo_2_2, xo_42, xo_72a, xo_72b, xo_2_3, xo_67_3, xo_11_5i, xo_11_5r, xo_11_5n, xo_64_2, xo_11_6i, xo_11_6r, xo_11_6n, xo_64_1, xo_1_5, xo_49, xo_37, xo_1_6, xo_57, xo_60, xo_48, xo_54, zk_L_law_479, zk_L_law_484, zk_L_law_496, xo_67_4, xo_64_3, xo_67_5, xo_64_4, xo_62, xo_15_4i, xo_15_4r, xo_15_4n, z0, hv', cmpl_s, if_true, if_false, eq_self]
  · have z0 : (nI k = 0) = False := eq_false (nI_ne0 (by omega) (by omega))
    simp (disch := first | assumption | omega | exact Nat.le_of_ble_eq_true rfl | decide) only [xo_73, xo_39i, xo_39r, xo_65_1, xk_v, xk_n, xo_12_1i, xo_12_1r, xo_12_1n, xo_12_2i, xo_12_2r, xo_12_2n, xo_5, xo_75, xo_12_3i, xo_12_3r, xo_12_3n, xo_11_4i, xo_11_4r, xo_11_4n, xo_55, xo_1_4, xo_2_0, xo_36, xo_6, xo_21, xo_46, xo_32, xo_23, xo_56, xo_2_1, xo_20, xo_64_6, xo_2_2, xo_42, xo_72a, xo_72b, xo_2_3, xo_67_3, xo_11_5i, xo_11_5r, xo_11_5n, xo_64_2, xo_11_6i, xo_11_6r, xo_11_6n, xo_64_1, xo_1_5, xo_49, xo_37, xo_1_6, xo_57, xo_60, xo_48, xo_54, zk_L_law_479, zk_L_law_496, xo_67_4, xo_64_3, xo_67_5, xo_64_4, xo_62, xo_15_4i, xo_15_4r, xo_15_4n, z0, if_false]
theorem law_rise {G G1 : zG} {M M1 M2 : zM} {t len k : Nat} {b : Int32} {w5 w6 : Value} {x1 : Int32} (hx1 : M 1 (6 * t + 1) = x1) (s1 : (z_kd G 1).1 = 1) (s2 : (z_kd G 1).2 = len) (hi : 6 * t + 6 ≤ len) (hl : len ≤ 3072) (e1 : z_call 91 [.ref 32, .int x1, .ref 472] G M = some (.inl (some (.int (nI k))), G1, M1)) (g1 : (z_kd G1 1).1 = 1) (g2 : (z_kd G1 1).2 = len) (m1 : M1 1 = M 1) (km : z_kd G1 455 = (0, 7)) (e2 : z_call 207 [.ref 455, .int x1] G1 M1 = some (.inl (some (.int b)), G1, M2)) (e3 : M2 455 0 = nI k) (o1 : (z_kd G1 472).1 = 2) (o2 : (z_kd G1 472).2 = 1) (hv : k = 0 → z_lg G1 472 0 = b.toInt64) (hk : k ≤ 2) : z_ex 248 (z_blk 248 499) [.ref 1, .ref 32, .ref 455, .ref 472, .int (nI (6 * t)), w5, w6] [] G M = z_ex 248 (z_blk 248 1784) [.ref 1, .ref 32, .ref 455, .ref 472, .int (nI (6 * t)), .int (nI k), .int b] [] G1 M2 := by
  have km' : z_kd G1 455 = (0, z_rc 207) := km
  have km2 : z_kd G1 455 = (0, z_rc 157) := km
  have ct := c_M_thrown km M2
  rw [e3] at ct
  have l1 : 6 * t + 1 < (z_kd G 1).2 := by omega
  have n1 : 6 * t + 1 < (z_kd G1 1).2 := by omega
  have oo : 0 < (z_kd G1 472).2 := by omega
  have e0 : z_ex 248 (z_blk 248 499) [.ref 1, .ref 32, .ref 455, .ref 472, .int (nI (6 * t)), w5, w6] [] G M = z_ex 248 (z_blk 248 535) [.ref 1, .ref 32, .ref 455, .ref 472, .int (nI (6 * t)), .int (nI k), .int b] [] G1 M2 := by
    simp (disch := first | assumption | omega | exact Nat.le_of_ble_eq_true rfl | decide) only [xo_73, xo_39i, xo_39r, xo_65_1, xk_v, xk_n, xo_12_1i, xo_12_1r, xo_12_1n, xo_12_2i, xo_12_2r, xo_12_2n, xo_5, xo_75, xo_12_3i, xo_12_3r, xo_12_3n, xo_11_4i, xo_11_4r, xo_11_4n, xo_55, xo_1_4, xo_2_0, xo_36, xo_6, xo_21, xo_46, xo_32, xo_23, xo_56, xo_2_1, xo_20, xo_64_6, xo_2_2, xo_42, xo_72a, xo_72b, xo_2_3, xo_67_3, xo_11_5i, xo_11_5r, xo_11_5n, xo_64_2, xo_11_6i, xo_11_6r, xo_11_6n, xo_64_1, xo_1_5, xo_49, xo_37, xo_1_6, xo_57, xo_60, xo_48, xo_54, zk_L_law_499, xo_67_4, xo_64_3, xo_67_5, xo_64_4, xo_62, xo_15_4i, xo_15_4r, xo_15_4n, nI_add, e1, m1, e2, ct, hx1, if_true]
  rw [e0]
  by_cases h0 : k = 0
  · subst h0
    have z0 : (nI 0 = 0) = True := zer0
    have hv' := hv rfl
    simp (disch := first | assumption | omega | exact Nat.le_of_ble_eq_true rfl | decide) only [xo_73, xo_39i, xo_39r, xo_65_1, xk_v, xk_n, xo_12_1i, xo_12_1r, xo_12_1n, xo_12_2i, xo_12_2r, xo_12_2n, xo_5, xo_75, xo_12_3i, xo_12_3r, xo_12_3n, xo_11_4i, xo_11_4r, xo_11_4n, xo_55, xo_1_4, xo_2_0, xo_36, xo_6, xo_21, xo_46, xo_32, xo_23, xo_56, xo_2_1, xo_20, xo_64_6, xo_2_2, xo_42, xo_72a, xo_72b, xo_2_3, xo_67_3, xo_11_5i, xo_11_5r, xo_11_5n, xo_64_2, xo_11_6i, xo_11_6r, xo_11_6n, xo_64_1, xo_1_5, xo_49, xo_37, xo_1_6, xo_57, xo_60, xo_48, xo_54, zk_L_law_535, zk_L_law_540, zk_L_law_552, xo_67_4, xo_64_3, xo_67_5, xo_64_4, xo_62, xo_15_4i, xo_15_4r, xo_15_4n, z0, hv', cmpl_s, if_true, if_false, eq_self]
  · have z0 : (nI k = 0) = False := eq_false (nI_ne0 (by omega) (by omega))
    simp (disch := first | assumption | omega | exact Nat.le_of_ble_eq_true rfl | decide) only [xo_73, xo_39i, xo_39r, xo_65_1, xk_v, xk_n, xo_12_1i, xo_12_1r, xo_12_1n, xo_12_2i, xo_12_2r, xo_12_2n, xo_5, xo_75, xo_12_3i, xo_12_3r, xo_12_3n, xo_11_4i, xo_11_4r, xo_11_4n, xo_55, xo_1_4, xo_2_0, xo_36, xo_6, xo_21, xo_46, xo_32, xo_23, xo_56, xo_2_1, xo_20, xo_64_6, xo_2_2, xo_42, xo_72a, xo_72b, xo_2_3, xo_67_3, xo_11_5i, xo_11_5r, xo_11_5n, xo_64_2, xo_11_6i, xo_11_6r, xo_11_6n, xo_64_1, xo_1_5, xo_49, xo_37, xo_1_6, xo_57, xo_60, xo_48, xo_54, zk_L_law_535, zk_L_law_552, xo_67_4, xo_64_3, xo_67_5, xo_64_4, xo_62, xo_15_4i, xo_15_4r, xo_15_4n, z0, if_false]
theorem law_rule {G G1 : zG} {M M1 M2 : zM} {t len k : Nat} {b : Int32} {w5 w6 : Value} {x1 x2 : Int32} (hx1 : M 1 (6 * t + 1) = x1) (hx2 : M 1 (6 * t + 2) = x2) (s1 : (z_kd G 1).1 = 1) (s2 : (z_kd G 1).2 = len) (hi : 6 * t + 6 ≤ len) (hl : len ≤ 3072) (e1 : z_call 93 [.ref 32, .int x1, .int x2, .ref 472] G M = some (.inl (some (.int (nI k))), G1, M1)) (g1 : (z_kd G1 1).1 = 1) (g2 : (z_kd G1 1).2 = len) (m1 : M1 1 = M 1) (km : z_kd G1 455 = (0, 7)) (e2 : z_call 208 [.ref 455, .int x1, .int x2] G1 M1 = some (.inl (some (.int b)), G1, M2)) (e3 : M2 455 0 = nI k) (o1 : (z_kd G1 472).1 = 2) (o2 : (z_kd G1 472).2 = 1) (hv : k = 0 → z_lg G1 472 0 = b.toInt64) (hk : k ≤ 2) : z_ex 248 (z_blk 248 555) [.ref 1, .ref 32, .ref 455, .ref 472, .int (nI (6 * t)), w5, w6] [] G M = z_ex 248 (z_blk 248 1784) [.ref 1, .ref 32, .ref 455, .ref 472, .int (nI (6 * t)), .int (nI k), .int b] [] G1 M2 := by
  have km' : z_kd G1 455 = (0, z_rc 208) := km
  have km2 : z_kd G1 455 = (0, z_rc 157) := km
  have ct := c_M_thrown km M2
  rw [e3] at ct
  have l1 : 6 * t + 1 < (z_kd G 1).2 := by omega
  have n1 : 6 * t + 1 < (z_kd G1 1).2 := by omega
  have l2 : 6 * t + 2 < (z_kd G 1).2 := by omega
  have n2 : 6 * t + 2 < (z_kd G1 1).2 := by omega
  have oo : 0 < (z_kd G1 472).2 := by omega
  have e0 : z_ex 248 (z_blk 248 555) [.ref 1, .ref 32, .ref 455, .ref 472, .int (nI (6 * t)), w5, w6] [] G M = z_ex 248 (z_blk 248 603) [.ref 1, .ref 32, .ref 455, .ref 472, .int (nI (6 * t)), .int (nI k), .int b] [] G1 M2 := by
    simp (disch := first | assumption | omega | exact Nat.le_of_ble_eq_true rfl | decide) only [xo_73, xo_39i, xo_39r, xo_65_1, xk_v, xk_n, xo_12_1i, xo_12_1r, xo_12_1n, xo_12_2i, xo_12_2r, xo_12_2n, xo_5, xo_75, xo_12_3i, xo_12_3r, xo_12_3n, xo_11_4i, xo_11_4r, xo_11_4n, xo_55, xo_1_4, xo_2_0, xo_36, xo_6, xo_21, xo_46, xo_32, xo_23, xo_56, xo_2_1, xo_20, xo_64_6, xo_2_2, xo_42, xo_72a, xo_72b, xo_2_3, xo_67_3, xo_11_5i, xo_11_5r, xo_11_5n, xo_64_2, xo_11_6i, xo_11_6r, xo_11_6n, xo_64_1, xo_1_5, xo_49, xo_37, xo_1_6, xo_57, xo_60, xo_48, xo_54, zk_L_law_555, xo_67_4, xo_64_3, xo_67_5, xo_64_4, xo_62, xo_15_4i, xo_15_4r, xo_15_4n, nI_add, e1, m1, e2, ct, hx1, hx2, if_true]
  rw [e0]
  by_cases h0 : k = 0
  · subst h0
    have z0 : (nI 0 = 0) = True := zer0
    have hv' := hv rfl
    simp (disch := first | assumption | omega | exact Nat.le_of_ble_eq_true rfl | decide) only [xo_73, xo_39i, xo_39r, xo_65_1, xk_v, xk_n, xo_12_1i, xo_12_1r, xo_12_1n, xo_12_2i, xo_12_2r, xo_12_2n, xo_5, xo_75, xo_12_3i, xo_12_3r, xo_12_3n, xo_11_4i, xo_11_4r, xo_11_4n, xo_55, xo_1_4, xo_2_0, xo_36, xo_6, xo_21, xo_46, xo_32, xo_23, xo_56, xo_2_1, xo_20, xo_64_6, xo_2_2, xo_42, xo_72a, xo_72b, xo_2_3, xo_67_3, xo_11_5i, xo_11_5r, xo_11_5n, xo_64_2, xo_11_6i, xo_11_6r, xo_11_6n, xo_64_1, xo_1_5, xo_49, xo_37, xo_1_6, xo_57, xo_60, xo_48, xo_54, xo_67_4, xo_64_3, zk_L_law_603, zk_L_law_608, zk_L_law_620, xo_67_5, xo_64_4, xo_62, xo_15_4i, xo_15_4r, xo_15_4n, z0, hv', cmpl_s, if_true, if_false, eq_self]
  · have z0 : (nI k = 0) = False := eq_false (nI_ne0 (by omega) (by omega))
    simp (disch := first | assumption | omega | exact Nat.le_of_ble_eq_true rfl | decide) only [xo_73, xo_39i, xo_39r, xo_65_1, xk_v, xk_n, xo_12_1i, xo_12_1r, xo_12_1n, xo_12_2i, xo_12_2r, xo_12_2n, xo_5, xo_75, xo_12_3i, xo_12_3r, xo_12_3n, xo_11_4i, xo_11_4r, xo_11_4n, xo_55, xo_1_4, xo_2_0, xo_36, xo_6, xo_21, xo_46, xo_32, xo_23, xo_56, xo_2_1, xo_20, xo_64_6, xo_2_2, xo_42, xo_72a, xo_72b, xo_2_3, xo_67_3, xo_11_5i, xo_11_5r, xo_11_5n, xo_64_2, xo_11_6i, xo_11_6r, xo_11_6n, xo_64_1, xo_1_5, xo_49, xo_37, xo_1_6, xo_57, xo_60, xo_48, xo_54, xo_67_4, xo_64_3, zk_L_law_603, zk_L_law_620, xo_67_5, xo_64_4, xo_62, xo_15_4i, xo_15_4r, xo_15_4n, z0, if_false]
theorem law_told {G G1 : zG} {M M1 M2 : zM} {t len k : Nat} {b : Int32} {w5 w6 : Value} {x1 : Int32} (hx1 : M 1 (6 * t + 1) = x1) (s1 : (z_kd G 1).1 = 1) (s2 : (z_kd G 1).2 = len) (hi : 6 * t + 6 ≤ len) (hl : len ≤ 3072) (e1 : z_call 96 [.ref 32, .int x1, .ref 472] G M = some (.inl (some (.int (nI k))), G1, M1)) (g1 : (z_kd G1 1).1 = 1) (g2 : (z_kd G1 1).2 = len) (m1 : M1 1 = M 1) (km : z_kd G1 455 = (0, 7)) (e2 : z_call 210 [.ref 455, .int x1] G1 M1 = some (.inl (some (.int b)), G1, M2)) (e3 : M2 455 0 = nI k) (o1 : (z_kd G1 472).1 = 2) (o2 : (z_kd G1 472).2 = 1) (hv : k = 0 → z_lg G1 472 0 = b.toInt64) (hk : k ≤ 2) : z_ex 248 (z_blk 248 636) [.ref 1, .ref 32, .ref 455, .ref 472, .int (nI (6 * t)), w5, w6] [] G M = z_ex 248 (z_blk 248 1784) [.ref 1, .ref 32, .ref 455, .ref 472, .int (nI (6 * t)), .int (nI k), .int b] [] G1 M2 := by
  have km' : z_kd G1 455 = (0, z_rc 210) := km
  have km2 : z_kd G1 455 = (0, z_rc 157) := km
  have ct := c_M_thrown km M2
  rw [e3] at ct
  have l1 : 6 * t + 1 < (z_kd G 1).2 := by omega
  have n1 : 6 * t + 1 < (z_kd G1 1).2 := by omega
  have oo : 0 < (z_kd G1 472).2 := by omega
  have e0 : z_ex 248 (z_blk 248 636) [.ref 1, .ref 32, .ref 455, .ref 472, .int (nI (6 * t)), w5, w6] [] G M = z_ex 248 (z_blk 248 672) [.ref 1, .ref 32, .ref 455, .ref 472, .int (nI (6 * t)), .int (nI k), .int b] [] G1 M2 := by
    simp (disch := first | assumption | omega | exact Nat.le_of_ble_eq_true rfl | decide) only [xo_73, xo_39i, xo_39r, xo_65_1, xk_v, xk_n, xo_12_1i, xo_12_1r, xo_12_1n, xo_12_2i, xo_12_2r, xo_12_2n, xo_5, xo_75, xo_12_3i, xo_12_3r, xo_12_3n, xo_11_4i, xo_11_4r, xo_11_4n, xo_55, xo_1_4, xo_2_0, xo_36, xo_6, xo_21, xo_46, xo_32, xo_23, xo_56, xo_2_1, xo_20, xo_64_6, xo_2_2, xo_42, xo_72a, xo_72b, xo_2_3, xo_67_3, xo_11_5i, xo_11_5r, xo_11_5n, xo_64_2, xo_11_6i, xo_11_6r, xo_11_6n, xo_64_1, xo_1_5, xo_49, xo_37, xo_1_6, xo_57, xo_60, xo_48, xo_54, xo_67_4, xo_64_3, zk_L_law_636, xo_67_5, xo_64_4, xo_62, xo_15_4i, xo_15_4r, xo_15_4n, nI_add, e1, m1, e2, ct, hx1, if_true]
  rw [e0]
  by_cases h0 : k = 0
  · subst h0
    have z0 : (nI 0 = 0) = True := zer0
    have hv' := hv rfl
    simp (disch := first | assumption | omega | exact Nat.le_of_ble_eq_true rfl | decide) only [xo_73, xo_39i, xo_39r, xo_65_1, xk_v, xk_n, xo_12_1i, xo_12_1r, xo_12_1n, xo_12_2i, xo_12_2r, xo_12_2n, xo_5, xo_75, xo_12_3i, xo_12_3r, xo_12_3n, xo_11_4i, xo_11_4r, xo_11_4n, xo_55, xo_1_4, xo_2_0, xo_36, xo_6, xo_21, xo_46, xo_32, xo_23, xo_56, xo_2_1, xo_20, xo_64_6, xo_2_2, xo_42, xo_72a, xo_72b, xo_2_3, xo_67_3, xo_11_5i, xo_11_5r, xo_11_5n, xo_64_2, xo_11_6i, xo_11_6r, xo_11_6n, xo_64_1, xo_1_5, xo_49, xo_37, xo_1_6, xo_57, xo_60, xo_48, xo_54, xo_67_4, xo_64_3, zk_L_law_672, zk_L_law_677, zk_L_law_689, xo_67_5, xo_64_4, xo_62, xo_15_4i, xo_15_4r, xo_15_4n, z0, hv', cmpl_s, if_true, if_false, eq_self]
  · have z0 : (nI k = 0) = False := eq_false (nI_ne0 (by omega) (by omega))
    simp (disch := first | assumption | omega | exact Nat.le_of_ble_eq_true rfl | decide) only [xo_73, xo_39i, xo_39r, xo_65_1, xk_v, xk_n, xo_12_1i, xo_12_1r, xo_12_1n, xo_12_2i, xo_12_2r, xo_12_2n, xo_5, xo_75, xo_12_3i, xo_12_3r, xo_12_3n, xo_11_4i, xo_11_4r, xo_11_4n, xo_55, xo_1_4, xo_2_0, xo_36, xo_6, xo_21, xo_46, xo_32, xo_23, xo_56, xo_2_1, xo_20, xo_64_6, xo_2_2, xo_42, xo_72a, xo_72b, xo_2_3, xo_67_3, xo_11_5i, xo_11_5r, xo_11_5n, xo_64_2, xo_11_6i, xo_11_6r, xo_11_6n, xo_64_1, xo_1_5, xo_49, xo_37, xo_1_6, xo_57, xo_60, xo_48, xo_54, xo_67_4, xo_64_3, zk_L_law_672, zk_L_law_689, xo_67_5, xo_64_4, xo_62, xo_15_4i, xo_15_4r, xo_15_4n, z0, if_false]
theorem law_member {G G1 : zG} {M M1 M2 : zM} {t len k : Nat} {b : Int32} {w5 w6 : Value} {x1 x2 : Int32} (hx1 : M 1 (6 * t + 1) = x1) (hx2 : M 1 (6 * t + 2) = x2) (s1 : (z_kd G 1).1 = 1) (s2 : (z_kd G 1).2 = len) (hi : 6 * t + 6 ≤ len) (hl : len ≤ 3072) (e1 : z_call 108 [.ref 32, .int x1, .int x2, .ref 472] G M = some (.inl (some (.int (nI k))), G1, M1)) (g1 : (z_kd G1 1).1 = 1) (g2 : (z_kd G1 1).2 = len) (m1 : M1 1 = M 1) (km : z_kd G1 455 = (0, 7)) (e2 : z_call 222 [.ref 455, .int x1, .int x2] G1 M1 = some (.inl (some (.int b)), G1, M2)) (e3 : M2 455 0 = nI k) (o1 : (z_kd G1 472).1 = 2) (o2 : (z_kd G1 472).2 = 1) (hv : k = 0 → z_lg G1 472 0 = b.toInt64) (hk : k ≤ 2) : z_ex 248 (z_blk 248 692) [.ref 1, .ref 32, .ref 455, .ref 472, .int (nI (6 * t)), w5, w6] [] G M = z_ex 248 (z_blk 248 1784) [.ref 1, .ref 32, .ref 455, .ref 472, .int (nI (6 * t)), .int (nI k), .int b] [] G1 M2 := by
  have km' : z_kd G1 455 = (0, z_rc 222) := km
  have km2 : z_kd G1 455 = (0, z_rc 157) := km
  have ct := c_M_thrown km M2
  rw [e3] at ct
  have l1 : 6 * t + 1 < (z_kd G 1).2 := by omega
  have n1 : 6 * t + 1 < (z_kd G1 1).2 := by omega
  have l2 : 6 * t + 2 < (z_kd G 1).2 := by omega
  have n2 : 6 * t + 2 < (z_kd G1 1).2 := by omega
  have oo : 0 < (z_kd G1 472).2 := by omega
  have e0 : z_ex 248 (z_blk 248 692) [.ref 1, .ref 32, .ref 455, .ref 472, .int (nI (6 * t)), w5, w6] [] G M = z_ex 248 (z_blk 248 740) [.ref 1, .ref 32, .ref 455, .ref 472, .int (nI (6 * t)), .int (nI k), .int b] [] G1 M2 := by
    simp (disch := first | assumption | omega | exact Nat.le_of_ble_eq_true rfl | decide) only [xo_73, xo_39i, xo_39r, xo_65_1, xk_v, xk_n, xo_12_1i, xo_12_1r, xo_12_1n, xo_12_2i, xo_12_2r, xo_12_2n, xo_5, xo_75, xo_12_3i, xo_12_3r, xo_12_3n, xo_11_4i, xo_11_4r, xo_11_4n, xo_55, xo_1_4, xo_2_0, xo_36, xo_6, xo_21, xo_46, xo_32, xo_23, xo_56, xo_2_1, xo_20, xo_64_6, xo_2_2, xo_42, xo_72a, xo_72b, xo_2_3, xo_67_3, xo_11_5i, xo_11_5r, xo_11_5n, xo_64_2, xo_11_6i, xo_11_6r, xo_11_6n, xo_64_1, xo_1_5, xo_49, xo_37, xo_1_6, xo_57, xo_60, xo_48, xo_54, xo_67_4, xo_64_3, zk_L_law_692, xo_67_5, xo_64_4, xo_62, xo_15_4i, xo_15_4r, xo_15_4n, nI_add, e1, m1, e2, ct, hx1, hx2, if_true]
  rw [e0]
  by_cases h0 : k = 0
  · subst h0
    have z0 : (nI 0 = 0) = True := zer0
    have hv' := hv rfl
    simp (disch := first | assumption | omega | exact Nat.le_of_ble_eq_true rfl | decide) only [xo_73, xo_39i, xo_39r, xo_65_1, xk_v, xk_n, xo_12_1i, xo_12_1r, xo_12_1n, xo_12_2i, xo_12_2r, xo_12_2n, xo_5, xo_75, xo_12_3i, xo_12_3r, xo_12_3n, xo_11_4i, xo_11_4r, xo_11_4n, xo_55, xo_1_4, xo_2_0, xo_36, xo_6, xo_21, xo_46, xo_32, xo_23, xo_56, xo_2_1, xo_20, xo_64_6, xo_2_2, xo_42, xo_72a, xo_72b, xo_2_3, xo_67_3, xo_11_5i, xo_11_5r, xo_11_5n, xo_64_2, xo_11_6i, xo_11_6r, xo_11_6n, xo_64_1, xo_1_5, xo_49, xo_37, xo_1_6, xo_57, xo_60, xo_48, xo_54, xo_67_4, xo_64_3, zk_L_law_740, zk_L_law_745, zk_L_law_757, xo_67_5, xo_64_4, xo_62, xo_15_4i, xo_15_4r, xo_15_4n, z0, hv', cmpl_s, if_true, if_false, eq_self]
  · have z0 : (nI k = 0) = False := eq_false (nI_ne0 (by omega) (by omega))
    simp (disch := first | assumption | omega | exact Nat.le_of_ble_eq_true rfl | decide) only [xo_73, xo_39i, xo_39r, xo_65_1, xk_v, xk_n, xo_12_1i, xo_12_1r, xo_12_1n, xo_12_2i, xo_12_2r, xo_12_2n, xo_5, xo_75, xo_12_3i, xo_12_3r, xo_12_3n, xo_11_4i, xo_11_4r, xo_11_4n, xo_55, xo_1_4, xo_2_0, xo_36, xo_6, xo_21, xo_46, xo_32, xo_23, xo_56, xo_2_1, xo_20, xo_64_6, xo_2_2, xo_42, xo_72a, xo_72b, xo_2_3, xo_67_3, xo_11_5i, xo_11_5r, xo_11_5n, xo_64_2, xo_11_6i, xo_11_6r, xo_11_6n, xo_64_1, xo_1_5, xo_49, xo_37, xo_1_6, xo_57, xo_60, xo_48, xo_54, xo_67_4, xo_64_3, zk_L_law_740, zk_L_law_757, xo_67_5, xo_64_4, xo_62, xo_15_4i, xo_15_4r, xo_15_4n, z0, if_false]
theorem law_units {G G1 : zG} {M M1 M2 : zM} {t len k : Nat} {b : Int32} {w5 w6 : Value} {x1 x2 x3 : Int32} (hx1 : M 1 (6 * t + 1) = x1) (hx2 : M 1 (6 * t + 2) = x2) (hx3 : M 1 (6 * t + 3) = x3) (s1 : (z_kd G 1).1 = 1) (s2 : (z_kd G 1).2 = len) (hi : 6 * t + 6 ≤ len) (hl : len ≤ 3072) (e1 : z_call 110 [.ref 32, .int x1, .int x2, .int x3, .ref 472] G M = some (.inl (some (.int (nI k))), G1, M1)) (g1 : (z_kd G1 1).1 = 1) (g2 : (z_kd G1 1).2 = len) (m1 : M1 1 = M 1) (km : z_kd G1 455 = (0, 7)) (e2 : z_call 223 [.ref 455, .int x1, .int x2, .int x3] G1 M1 = some (.inl (some (.int b)), G1, M2)) (e3 : M2 455 0 = nI k) (o1 : (z_kd G1 472).1 = 2) (o2 : (z_kd G1 472).2 = 1) (hv : k = 0 → z_lg G1 472 0 = b.toInt64) (hk : k ≤ 2) : z_ex 248 (z_blk 248 760) [.ref 1, .ref 32, .ref 455, .ref 472, .int (nI (6 * t)), w5, w6] [] G M = z_ex 248 (z_blk 248 1784) [.ref 1, .ref 32, .ref 455, .ref 472, .int (nI (6 * t)), .int (nI k), .int b] [] G1 M2 := by
  have km' : z_kd G1 455 = (0, z_rc 223) := km
  have km2 : z_kd G1 455 = (0, z_rc 157) := km
  have ct := c_M_thrown km M2
  rw [e3] at ct
  have l1 : 6 * t + 1 < (z_kd G 1).2 := by omega
  have n1 : 6 * t + 1 < (z_kd G1 1).2 := by omega
  have l2 : 6 * t + 2 < (z_kd G 1).2 := by omega
  have n2 : 6 * t + 2 < (z_kd G1 1).2 := by omega
  have l3 : 6 * t + 3 < (z_kd G 1).2 := by omega
  have n3 : 6 * t + 3 < (z_kd G1 1).2 := by omega
  have oo : 0 < (z_kd G1 472).2 := by omega
  have e0 : z_ex 248 (z_blk 248 760) [.ref 1, .ref 32, .ref 455, .ref 472, .int (nI (6 * t)), w5, w6] [] G M = z_ex 248 (z_blk 248 820) [.ref 1, .ref 32, .ref 455, .ref 472, .int (nI (6 * t)), .int (nI k), .int b] [] G1 M2 := by
    simp (disch := first | assumption | omega | exact Nat.le_of_ble_eq_true rfl | decide) only [xo_73, xo_39i, xo_39r, xo_65_1, xk_v, xk_n, xo_12_1i, xo_12_1r, xo_12_1n, xo_12_2i, xo_12_2r, xo_12_2n, xo_5, xo_75, xo_12_3i, xo_12_3r, xo_12_3n, xo_11_4i, xo_11_4r, xo_11_4n, xo_55, xo_1_4, xo_2_0, xo_36, xo_6, xo_21, xo_46, xo_32, xo_23, xo_56, xo_2_1, xo_20, xo_64_6, xo_2_2, xo_42, xo_72a, xo_72b, xo_2_3, xo_67_3, xo_11_5i, xo_11_5r, xo_11_5n, xo_64_2, xo_11_6i, xo_11_6r, xo_11_6n, xo_64_1, xo_1_5, xo_49, xo_37, xo_1_6, xo_57, xo_60, xo_48, xo_54, xo_67_4, xo_64_3, zk_L_law_760, xo_67_5, xo_64_4, xo_62, xo_15_4i, xo_15_4r, xo_15_4n, nI_add, e1, m1, e2, ct, hx1, hx2, hx3, if_true]
  rw [e0]
  by_cases h0 : k = 0
  · subst h0
    have z0 : (nI 0 = 0) = True := zer0
    have hv' := hv rfl
    simp (disch := first | assumption | omega | exact Nat.le_of_ble_eq_true rfl | decide) only [xo_73, xo_39i, xo_39r, xo_65_1, xk_v, xk_n, xo_12_1i, xo_12_1r, xo_12_1n, xo_12_2i, xo_12_2r, xo_12_2n, xo_5, xo_75, xo_12_3i, xo_12_3r, xo_12_3n, xo_11_4i, xo_11_4r, xo_11_4n, xo_55, xo_1_4, xo_2_0, xo_36, xo_6, xo_21, xo_46, xo_32, xo_23, xo_56, xo_2_1, xo_20, xo_64_6, xo_2_2, xo_42, xo_72a, xo_72b, xo_2_3, xo_67_3, xo_11_5i, xo_11_5r, xo_11_5n, xo_64_2, xo_11_6i, xo_11_6r, xo_11_6n, xo_64_1, xo_1_5, xo_49, xo_37, xo_1_6, xo_57, xo_60, xo_48, xo_54, xo_67_4, xo_64_3, xo_67_5, xo_64_4, zk_L_law_820, zk_L_law_825, zk_L_law_837, xo_62, xo_15_4i, xo_15_4r, xo_15_4n, z0, hv', cmpl_s, if_true, if_false, eq_self]
  · have z0 : (nI k = 0) = False := eq_false (nI_ne0 (by omega) (by omega))
    simp (disch := first | assumption | omega | exact Nat.le_of_ble_eq_true rfl | decide) only [xo_73, xo_39i, xo_39r, xo_65_1, xk_v, xk_n, xo_12_1i, xo_12_1r, xo_12_1n, xo_12_2i, xo_12_2r, xo_12_2n, xo_5, xo_75, xo_12_3i, xo_12_3r, xo_12_3n, xo_11_4i, xo_11_4r, xo_11_4n, xo_55, xo_1_4, xo_2_0, xo_36, xo_6, xo_21, xo_46, xo_32, xo_23, xo_56, xo_2_1, xo_20, xo_64_6, xo_2_2, xo_42, xo_72a, xo_72b, xo_2_3, xo_67_3, xo_11_5i, xo_11_5r, xo_11_5n, xo_64_2, xo_11_6i, xo_11_6r, xo_11_6n, xo_64_1, xo_1_5, xo_49, xo_37, xo_1_6, xo_57, xo_60, xo_48, xo_54, xo_67_4, xo_64_3, xo_67_5, xo_64_4, zk_L_law_820, zk_L_law_837, xo_62, xo_15_4i, xo_15_4r, xo_15_4n, z0, if_false]
theorem law_job {G G1 : zG} {M M1 M2 : zM} {t len k : Nat} {b : Int32} {w5 w6 : Value} {x1 x2 : Int32} (hx1 : M 1 (6 * t + 1) = x1) (hx2 : M 1 (6 * t + 2) = x2) (s1 : (z_kd G 1).1 = 1) (s2 : (z_kd G 1).2 = len) (hi : 6 * t + 6 ≤ len) (hl : len ≤ 3072) (e1 : z_call 113 [.ref 32, .int x1, .int x2, .ref 472] G M = some (.inl (some (.int (nI k))), G1, M1)) (g1 : (z_kd G1 1).1 = 1) (g2 : (z_kd G1 1).2 = len) (m1 : M1 1 = M 1) (km : z_kd G1 455 = (0, 7)) (e2 : z_call 225 [.ref 455, .int x1, .int x2] G1 M1 = some (.inl (some (.int b)), G1, M2)) (e3 : M2 455 0 = nI k) (o1 : (z_kd G1 472).1 = 2) (o2 : (z_kd G1 472).2 = 1) (hv : k = 0 → z_lg G1 472 0 = b.toInt64) (hk : k ≤ 2) : z_ex 248 (z_blk 248 840) [.ref 1, .ref 32, .ref 455, .ref 472, .int (nI (6 * t)), w5, w6] [] G M = z_ex 248 (z_blk 248 1784) [.ref 1, .ref 32, .ref 455, .ref 472, .int (nI (6 * t)), .int (nI k), .int b] [] G1 M2 := by
  have km' : z_kd G1 455 = (0, z_rc 225) := km
  have km2 : z_kd G1 455 = (0, z_rc 157) := km
  have ct := c_M_thrown km M2
  rw [e3] at ct
  have l1 : 6 * t + 1 < (z_kd G 1).2 := by omega
  have n1 : 6 * t + 1 < (z_kd G1 1).2 := by omega
  have l2 : 6 * t + 2 < (z_kd G 1).2 := by omega
  have n2 : 6 * t + 2 < (z_kd G1 1).2 := by omega
  have oo : 0 < (z_kd G1 472).2 := by omega
  have e0 : z_ex 248 (z_blk 248 840) [.ref 1, .ref 32, .ref 455, .ref 472, .int (nI (6 * t)), w5, w6] [] G M = z_ex 248 (z_blk 248 888) [.ref 1, .ref 32, .ref 455, .ref 472, .int (nI (6 * t)), .int (nI k), .int b] [] G1 M2 := by
    simp (disch := first | assumption | omega | exact Nat.le_of_ble_eq_true rfl | decide) only [xo_73, xo_39i, xo_39r, xo_65_1, xk_v, xk_n, xo_12_1i, xo_12_1r, xo_12_1n, xo_12_2i, xo_12_2r, xo_12_2n, xo_5, xo_75, xo_12_3i, xo_12_3r, xo_12_3n, xo_11_4i, xo_11_4r, xo_11_4n, xo_55, xo_1_4, xo_2_0, xo_36, xo_6, xo_21, xo_46, xo_32, xo_23, xo_56, xo_2_1, xo_20, xo_64_6, xo_2_2, xo_42, xo_72a, xo_72b, xo_2_3, xo_67_3, xo_11_5i, xo_11_5r, xo_11_5n, xo_64_2, xo_11_6i, xo_11_6r, xo_11_6n, xo_64_1, xo_1_5, xo_49, xo_37, xo_1_6, xo_57, xo_60, xo_48, xo_54, xo_67_4, xo_64_3, xo_67_5, xo_64_4, zk_L_law_840, xo_62, xo_15_4i, xo_15_4r, xo_15_4n, nI_add, e1, m1, e2, ct, hx1, hx2, if_true]
  rw [e0]
  by_cases h0 : k = 0
  · subst h0
    have z0 : (nI 0 = 0) = True := zer0
    have hv' := hv rfl
    simp (disch := first | assumption | omega | exact Nat.le_of_ble_eq_true rfl | decide) only [xo_73, xo_39i, xo_39r, xo_65_1, xk_v, xk_n, xo_12_1i, xo_12_1r, xo_12_1n, xo_12_2i, xo_12_2r, xo_12_2n, xo_5, xo_75, xo_12_3i, xo_12_3r, xo_12_3n, xo_11_4i, xo_11_4r, xo_11_4n, xo_55, xo_1_4, xo_2_0, xo_36, xo_6, xo_21, xo_46, xo_32, xo_23, xo_56, xo_2_1, xo_20, xo_64_6, xo_2_2, xo_42, xo_72a, xo_72b, xo_2_3, xo_67_3, xo_11_5i, xo_11_5r, xo_11_5n, xo_64_2, xo_11_6i, xo_11_6r, xo_11_6n, xo_64_1, xo_1_5, xo_49, xo_37, xo_1_6, xo_57, xo_60, xo_48, xo_54, xo_67_4, xo_64_3, xo_67_5, xo_64_4, zk_L_law_888, zk_L_law_893, zk_L_law_905, xo_62, xo_15_4i, xo_15_4r, xo_15_4n, z0, hv', cmpl_s, if_true, if_false, eq_self]
  · have z0 : (nI k = 0) = False := eq_false (nI_ne0 (by omega) (by omega))
    simp (disch := first | assumption | omega | exact Nat.le_of_ble_eq_true rfl | decide) only [xo_73, xo_39i, xo_39r, xo_65_1, xk_v, xk_n, xo_12_1i, xo_12_1r, xo_12_1n, xo_12_2i, xo_12_2r, xo_12_2n, xo_5, xo_75, xo_12_3i, xo_12_3r, xo_12_3n, xo_11_4i, xo_11_4r, xo_11_4n, xo_55, xo_1_4, xo_2_0, xo_36, xo_6, xo_21, xo_46, xo_32, xo_23, xo_56, xo_2_1, xo_20, xo_64_6, xo_2_2, xo_42, xo_72a, xo_72b, xo_2_3, xo_67_3, xo_11_5i, xo_11_5r, xo_11_5n, xo_64_2, xo_11_6i, xo_11_6r, xo_11_6n, xo_64_1, xo_1_5, xo_49, xo_37, xo_1_6, xo_57, xo_60, xo_48, xo_54, xo_67_4, xo_64_3, xo_67_5, xo_64_4, zk_L_law_888, zk_L_law_905, xo_62, xo_15_4i, xo_15_4r, xo_15_4n, z0, if_false]
theorem law_link {G G1 : zG} {M M1 M2 : zM} {t len k : Nat} {b : Int32} {w5 w6 : Value} {x1 x2 : Int32} (hx1 : M 1 (6 * t + 1) = x1) (hx2 : M 1 (6 * t + 2) = x2) (s1 : (z_kd G 1).1 = 1) (s2 : (z_kd G 1).2 = len) (hi : 6 * t + 6 ≤ len) (hl : len ≤ 3072) (e1 : z_call 116 [.ref 32, .int x1, .int x2, .ref 472] G M = some (.inl (some (.int (nI k))), G1, M1)) (g1 : (z_kd G1 1).1 = 1) (g2 : (z_kd G1 1).2 = len) (m1 : M1 1 = M 1) (km : z_kd G1 455 = (0, 7)) (e2 : z_call 227 [.ref 455, .int x1, .int x2] G1 M1 = some (.inl (some (.int b)), G1, M2)) (e3 : M2 455 0 = nI k) (o1 : (z_kd G1 472).1 = 2) (o2 : (z_kd G1 472).2 = 1) (hb : b = nI 0 ∨ b = nI 1) (hv : k = 0 → z_lg G1 472 0 = if b = nI 0 then Int64.ofNat 0 else Int64.ofNat 1) (hk : k ≤ 2) : z_ex 248 (z_blk 248 908) [.ref 1, .ref 32, .ref 455, .ref 472, .int (nI (6 * t)), w5, w6] [] G M = z_ex 248 (z_blk 248 1784) [.ref 1, .ref 32, .ref 455, .ref 472, .int (nI (6 * t)), .int (nI k), .int b] [] G1 M2 := by
  have km' : z_kd G1 455 = (0, z_rc 227) := km
  have km2 : z_kd G1 455 = (0, z_rc 157) := km
  have ct := c_M_thrown km M2
  rw [e3] at ct
  have l1 : 6 * t + 1 < (z_kd G 1).2 := by omega
  have n1 : 6 * t + 1 < (z_kd G1 1).2 := by omega
  have l2 : 6 * t + 2 < (z_kd G 1).2 := by omega
  have n2 : 6 * t + 2 < (z_kd G1 1).2 := by omega
  have oo : 0 < (z_kd G1 472).2 := by omega
  have e0 : z_ex 248 (z_blk 248 908) [.ref 1, .ref 32, .ref 455, .ref 472, .int (nI (6 * t)), w5, w6] [] G M = z_ex 248 (z_blk 248 956) [.ref 1, .ref 32, .ref 455, .ref 472, .int (nI (6 * t)), .int (nI k), .int b] [] G1 M2 := by
    simp (disch := first | assumption | omega | exact Nat.le_of_ble_eq_true rfl | decide) only [xo_73, xo_39i, xo_39r, xo_65_1, xk_v, xk_n, xo_12_1i, xo_12_1r, xo_12_1n, xo_12_2i, xo_12_2r, xo_12_2n, xo_5, xo_75, xo_12_3i, xo_12_3r, xo_12_3n, xo_11_4i, xo_11_4r, xo_11_4n, xo_55, xo_1_4, xo_2_0, xo_36, xo_6, xo_21, xo_46, xo_32, xo_23, xo_56, xo_2_1, xo_20, xo_64_6, xo_2_2, xo_42, xo_72a, xo_72b, xo_2_3, xo_67_3, xo_11_5i, xo_11_5r, xo_11_5n, xo_64_2, xo_11_6i, xo_11_6r, xo_11_6n, xo_64_1, xo_1_5, xo_49, xo_37, xo_1_6, xo_57, xo_60, xo_48, xo_54, xo_67_4, xo_64_3, xo_67_5, xo_64_4, zk_L_law_908, xo_62, xo_15_4i, xo_15_4r, xo_15_4n, nI_add, e1, m1, e2, ct, hx1, hx2, if_true]
  rw [e0]
  by_cases h0 : k = 0
  · subst h0
    have z0 : (nI 0 = 0) = True := zer0
    have hv' := hv rfl
    rcases hb with hb | hb
    · subst hb
      rw [if_pos rfl] at hv'
      simp (disch := first | assumption | omega | exact Nat.le_of_ble_eq_true rfl | decide) only [xo_73, xo_39i, xo_39r, xo_65_1, xk_v, xk_n, xo_12_1i, xo_12_1r, xo_12_1n, xo_12_2i, xo_12_2r, xo_12_2n, xo_5, xo_75, xo_12_3i, xo_12_3r, xo_12_3n, xo_11_4i, xo_11_4r, xo_11_4n, xo_55, xo_1_4, xo_2_0, xo_36, xo_6, xo_21, xo_46, xo_32, xo_23, xo_56, xo_2_1, xo_20, xo_64_6, xo_2_2, xo_42, xo_72a, xo_72b, xo_2_3, xo_67_3, xo_11_5i, xo_11_5r, xo_11_5n, xo_64_2, xo_11_6i, xo_11_6r, xo_11_6n, xo_64_1, xo_1_5, xo_49, xo_37, xo_1_6, xo_57, xo_60, xo_48, xo_54, xo_67_4, xo_64_3, xo_67_5, xo_64_4, zk_L_law_956, zk_L_law_961, zk_L_law_969, xo_62, zk_L_law_973, zk_L_law_974, zk_L_law_978, zk_L_law_980, xo_15_4i, xo_15_4r, xo_15_4n, z0, hv', cmpl_s, if_true, if_false, eq_self]
    · subst hb
      rw [if_neg (by decide)] at hv'
      simp (disch := first | assumption | omega | exact Nat.le_of_ble_eq_true rfl | decide) only [xo_73, xo_39i, xo_39r, xo_65_1, xk_v, xk_n, xo_12_1i, xo_12_1r, xo_12_1n, xo_12_2i, xo_12_2r, xo_12_2n, xo_5, xo_75, xo_12_3i, xo_12_3r, xo_12_3n, xo_11_4i, xo_11_4r, xo_11_4n, xo_55, xo_1_4, xo_2_0, xo_36, xo_6, xo_21, xo_46, xo_32, xo_23, xo_56, xo_2_1, xo_20, xo_64_6, xo_2_2, xo_42, xo_72a, xo_72b, xo_2_3, xo_67_3, xo_11_5i, xo_11_5r, xo_11_5n, xo_64_2, xo_11_6i, xo_11_6r, xo_11_6n, xo_64_1, xo_1_5, xo_49, xo_37, xo_1_6, xo_57, xo_60, xo_48, xo_54, xo_67_4, xo_64_3, xo_67_5, xo_64_4, zk_L_law_956, zk_L_law_961, zk_L_law_969, xo_62, zk_L_law_973, zk_L_law_974, zk_L_law_978, zk_L_law_980, xo_15_4i, xo_15_4r, xo_15_4n, z0, one0, hv', cmpl_s, if_true, if_false, eq_self]
  · have z0 : (nI k = 0) = False := eq_false (nI_ne0 (by omega) (by omega))
    simp (disch := first | assumption | omega | exact Nat.le_of_ble_eq_true rfl | decide) only [xo_73, xo_39i, xo_39r, xo_65_1, xk_v, xk_n, xo_12_1i, xo_12_1r, xo_12_1n, xo_12_2i, xo_12_2r, xo_12_2n, xo_5, xo_75, xo_12_3i, xo_12_3r, xo_12_3n, xo_11_4i, xo_11_4r, xo_11_4n, xo_55, xo_1_4, xo_2_0, xo_36, xo_6, xo_21, xo_46, xo_32, xo_23, xo_56, xo_2_1, xo_20, xo_64_6, xo_2_2, xo_42, xo_72a, xo_72b, xo_2_3, xo_67_3, xo_11_5i, xo_11_5r, xo_11_5n, xo_64_2, xo_11_6i, xo_11_6r, xo_11_6n, xo_64_1, xo_1_5, xo_49, xo_37, xo_1_6, xo_57, xo_60, xo_48, xo_54, xo_67_4, xo_64_3, xo_67_5, xo_64_4, zk_L_law_956, xo_62, zk_L_law_980, xo_15_4i, xo_15_4r, xo_15_4n, z0, if_false]
theorem law_letter {G G1 : zG} {M M1 M2 : zM} {t len k : Nat} {b : Int32} {w5 w6 : Value} {x1 x2 : Int32} (hx1 : M 1 (6 * t + 1) = x1) (hx2 : M 1 (6 * t + 2) = x2) (s1 : (z_kd G 1).1 = 1) (s2 : (z_kd G 1).2 = len) (hi : 6 * t + 6 ≤ len) (hl : len ≤ 3072) (e1 : z_call 118 [.ref 32, .int x1, .int x2, .ref 472] G M = some (.inl (some (.int (nI k))), G1, M1)) (g1 : (z_kd G1 1).1 = 1) (g2 : (z_kd G1 1).2 = len) (m1 : M1 1 = M 1) (km : z_kd G1 455 = (0, 7)) (e2 : z_call 228 [.ref 455, .int x1, .int x2] G1 M1 = some (.inl (some (.int b)), G1, M2)) (e3 : M2 455 0 = nI k) (o1 : (z_kd G1 472).1 = 2) (o2 : (z_kd G1 472).2 = 1) (hv : k = 0 → z_lg G1 472 0 = b.toInt64) (hk : k ≤ 2) : z_ex 248 (z_blk 248 983) [.ref 1, .ref 32, .ref 455, .ref 472, .int (nI (6 * t)), w5, w6] [] G M = z_ex 248 (z_blk 248 1784) [.ref 1, .ref 32, .ref 455, .ref 472, .int (nI (6 * t)), .int (nI k), .int b] [] G1 M2 := by
  have km' : z_kd G1 455 = (0, z_rc 228) := km
  have km2 : z_kd G1 455 = (0, z_rc 157) := km
  have ct := c_M_thrown km M2
  rw [e3] at ct
  have l1 : 6 * t + 1 < (z_kd G 1).2 := by omega
  have n1 : 6 * t + 1 < (z_kd G1 1).2 := by omega
  have l2 : 6 * t + 2 < (z_kd G 1).2 := by omega
  have n2 : 6 * t + 2 < (z_kd G1 1).2 := by omega
  have oo : 0 < (z_kd G1 472).2 := by omega
  have e0 : z_ex 248 (z_blk 248 983) [.ref 1, .ref 32, .ref 455, .ref 472, .int (nI (6 * t)), w5, w6] [] G M = z_ex 248 (z_blk 248 1031) [.ref 1, .ref 32, .ref 455, .ref 472, .int (nI (6 * t)), .int (nI k), .int b] [] G1 M2 := by
    simp (disch := first | assumption | omega | exact Nat.le_of_ble_eq_true rfl | decide) only [xo_73, xo_39i, xo_39r, xo_65_1, xk_v, xk_n, xo_12_1i, xo_12_1r, xo_12_1n, xo_12_2i, xo_12_2r, xo_12_2n, xo_5, xo_75, xo_12_3i, xo_12_3r, xo_12_3n, xo_11_4i, xo_11_4r, xo_11_4n, xo_55, xo_1_4, xo_2_0, xo_36, xo_6, xo_21, xo_46, xo_32, xo_23, xo_56, xo_2_1, xo_20, xo_64_6, xo_2_2, xo_42, xo_72a, xo_72b, xo_2_3, xo_67_3, xo_11_5i, xo_11_5r, xo_11_5n, xo_64_2, xo_11_6i, xo_11_6r, xo_11_6n, xo_64_1, xo_1_5, xo_49, xo_37, xo_1_6, xo_57, xo_60, xo_48, xo_54, xo_67_4, xo_64_3, xo_67_5, xo_64_4, xo_62, zk_L_law_983, xo_15_4i, xo_15_4r, xo_15_4n, nI_add, e1, m1, e2, ct, hx1, hx2, if_true]
  rw [e0]
  by_cases h0 : k = 0
  · subst h0
    have z0 : (nI 0 = 0) = True := zer0
    have hv' := hv rfl
    simp (disch := first | assumption | omega | exact Nat.le_of_ble_eq_true rfl | decide) only [xo_73, xo_39i, xo_39r, xo_65_1, xk_v, xk_n, xo_12_1i, xo_12_1r, xo_12_1n, xo_12_2i, xo_12_2r, xo_12_2n, xo_5, xo_75, xo_12_3i, xo_12_3r, xo_12_3n, xo_11_4i, xo_11_4r, xo_11_4n, xo_55, xo_1_4, xo_2_0, xo_36, xo_6, xo_21, xo_46, xo_32, xo_23, xo_56, xo_2_1, xo_20, xo_64_6, xo_2_2, xo_42, xo_72a, xo_72b, xo_2_3, xo_67_3, xo_11_5i, xo_11_5r, xo_11_5n, xo_64_2, xo_11_6i, xo_11_6r, xo_11_6n, xo_64_1, xo_1_5, xo_49, xo_37, xo_1_6, xo_57, xo_60, xo_48, xo_54, xo_67_4, xo_64_3, xo_67_5, xo_64_4, xo_62, zk_L_law_1031, zk_L_law_1036, zk_L_law_1048, xo_15_4i, xo_15_4r, xo_15_4n, z0, hv', cmpl_s, if_true, if_false, eq_self]
  · have z0 : (nI k = 0) = False := eq_false (nI_ne0 (by omega) (by omega))
    simp (disch := first | assumption | omega | exact Nat.le_of_ble_eq_true rfl | decide) only [xo_73, xo_39i, xo_39r, xo_65_1, xk_v, xk_n, xo_12_1i, xo_12_1r, xo_12_1n, xo_12_2i, xo_12_2r, xo_12_2n, xo_5, xo_75, xo_12_3i, xo_12_3r, xo_12_3n, xo_11_4i, xo_11_4r, xo_11_4n, xo_55, xo_1_4, xo_2_0, xo_36, xo_6, xo_21, xo_46, xo_32, xo_23, xo_56, xo_2_1, xo_20, xo_64_6, xo_2_2, xo_42, xo_72a, xo_72b, xo_2_3, xo_67_3, xo_11_5i, xo_11_5r, xo_11_5n, xo_64_2, xo_11_6i, xo_11_6r, xo_11_6n, xo_64_1, xo_1_5, xo_49, xo_37, xo_1_6, xo_57, xo_60, xo_48, xo_54, xo_67_4, xo_64_3, xo_67_5, xo_64_4, xo_62, zk_L_law_1031, zk_L_law_1048, xo_15_4i, xo_15_4r, xo_15_4n, z0, if_false]
theorem law_sent {G G1 : zG} {M M1 M2 : zM} {t len k : Nat} {b : Int32} {w5 w6 : Value} {x1 x2 : Int32} (hx1 : M 1 (6 * t + 1) = x1) (hx2 : M 1 (6 * t + 2) = x2) (s1 : (z_kd G 1).1 = 1) (s2 : (z_kd G 1).2 = len) (hi : 6 * t + 6 ≤ len) (hl : len ≤ 3072) (e1 : z_call 120 [.ref 32, .int x1, .int x2, .ref 472] G M = some (.inl (some (.int (nI k))), G1, M1)) (g1 : (z_kd G1 1).1 = 1) (g2 : (z_kd G1 1).2 = len) (m1 : M1 1 = M 1) (km : z_kd G1 455 = (0, 7)) (e2 : z_call 229 [.ref 455, .int x1, .int x2] G1 M1 = some (.inl (some (.int b)), G1, M2)) (e3 : M2 455 0 = nI k) (o1 : (z_kd G1 472).1 = 2) (o2 : (z_kd G1 472).2 = 1) (hv : k = 0 → z_lg G1 472 0 = b.toInt64) (hk : k ≤ 2) : z_ex 248 (z_blk 248 1051) [.ref 1, .ref 32, .ref 455, .ref 472, .int (nI (6 * t)), w5, w6] [] G M = z_ex 248 (z_blk 248 1784) [.ref 1, .ref 32, .ref 455, .ref 472, .int (nI (6 * t)), .int (nI k), .int b] [] G1 M2 := by
  have km' : z_kd G1 455 = (0, z_rc 229) := km
  have km2 : z_kd G1 455 = (0, z_rc 157) := km
  have ct := c_M_thrown km M2
  rw [e3] at ct
  have l1 : 6 * t + 1 < (z_kd G 1).2 := by omega
  have n1 : 6 * t + 1 < (z_kd G1 1).2 := by omega
  have l2 : 6 * t + 2 < (z_kd G 1).2 := by omega
  have n2 : 6 * t + 2 < (z_kd G1 1).2 := by omega
  have oo : 0 < (z_kd G1 472).2 := by omega
  have e0 : z_ex 248 (z_blk 248 1051) [.ref 1, .ref 32, .ref 455, .ref 472, .int (nI (6 * t)), w5, w6] [] G M = z_ex 248 (z_blk 248 1099) [.ref 1, .ref 32, .ref 455, .ref 472, .int (nI (6 * t)), .int (nI k), .int b] [] G1 M2 := by
    simp (disch := first | assumption | omega | exact Nat.le_of_ble_eq_true rfl | decide) only [xo_73, xo_39i, xo_39r, xo_65_1, xk_v, xk_n, xo_12_1i, xo_12_1r, xo_12_1n, xo_12_2i, xo_12_2r, xo_12_2n, xo_5, xo_75, xo_12_3i, xo_12_3r, xo_12_3n, xo_11_4i, xo_11_4r, xo_11_4n, xo_55, xo_1_4, xo_2_0, xo_36, xo_6, xo_21, xo_46, xo_32, xo_23, xo_56, xo_2_1, xo_20, xo_64_6, xo_2_2, xo_42, xo_72a, xo_72b, xo_2_3, xo_67_3, xo_11_5i, xo_11_5r, xo_11_5n, xo_64_2, xo_11_6i, xo_11_6r, xo_11_6n, xo_64_1, xo_1_5, xo_49, xo_37, xo_1_6, xo_57, xo_60, xo_48, xo_54, xo_67_4, xo_64_3, xo_67_5, xo_64_4, xo_62, zk_L_law_1051, xo_15_4i, xo_15_4r, xo_15_4n, nI_add, e1, m1, e2, ct, hx1, hx2, if_true]
  rw [e0]
  by_cases h0 : k = 0
  · subst h0
    have z0 : (nI 0 = 0) = True := zer0
    have hv' := hv rfl
    simp (disch := first | assumption | omega | exact Nat.le_of_ble_eq_true rfl | decide) only [xo_73, xo_39i, xo_39r, xo_65_1, xk_v, xk_n, xo_12_1i, xo_12_1r, xo_12_1n, xo_12_2i, xo_12_2r, xo_12_2n, xo_5, xo_75, xo_12_3i, xo_12_3r, xo_12_3n, xo_11_4i, xo_11_4r, xo_11_4n, xo_55, xo_1_4, xo_2_0, xo_36, xo_6, xo_21, xo_46, xo_32, xo_23, xo_56, xo_2_1, xo_20, xo_64_6, xo_2_2, xo_42, xo_72a, xo_72b, xo_2_3, xo_67_3, xo_11_5i, xo_11_5r, xo_11_5n, xo_64_2, xo_11_6i, xo_11_6r, xo_11_6n, xo_64_1, xo_1_5, xo_49, xo_37, xo_1_6, xo_57, xo_60, xo_48, xo_54, xo_67_4, xo_64_3, xo_67_5, xo_64_4, xo_62, zk_L_law_1099, zk_L_law_1104, zk_L_law_1116, xo_15_4i, xo_15_4r, xo_15_4n, z0, hv', cmpl_s, if_true, if_false, eq_self]
  · have z0 : (nI k = 0) = False := eq_false (nI_ne0 (by omega) (by omega))
    simp (disch := first | assumption | omega | exact Nat.le_of_ble_eq_true rfl | decide) only [xo_73, xo_39i, xo_39r, xo_65_1, xk_v, xk_n, xo_12_1i, xo_12_1r, xo_12_1n, xo_12_2i, xo_12_2r, xo_12_2n, xo_5, xo_75, xo_12_3i, xo_12_3r, xo_12_3n, xo_11_4i, xo_11_4r, xo_11_4n, xo_55, xo_1_4, xo_2_0, xo_36, xo_6, xo_21, xo_46, xo_32, xo_23, xo_56, xo_2_1, xo_20, xo_64_6, xo_2_2, xo_42, xo_72a, xo_72b, xo_2_3, xo_67_3, xo_11_5i, xo_11_5r, xo_11_5n, xo_64_2, xo_11_6i, xo_11_6r, xo_11_6n, xo_64_1, xo_1_5, xo_49, xo_37, xo_1_6, xo_57, xo_60, xo_48, xo_54, xo_67_4, xo_64_3, xo_67_5, xo_64_4, xo_62, zk_L_law_1099, zk_L_law_1116, xo_15_4i, xo_15_4r, xo_15_4n, z0, if_false]
theorem law_tally {G G1 : zG} {M M1 M2 : zM} {t len k : Nat} {b : Int32} {w5 w6 : Value} {x1 x2 : Int32} (hx1 : M 1 (6 * t + 1) = x1) (hx2 : M 1 (6 * t + 2) = x2) (s1 : (z_kd G 1).1 = 1) (s2 : (z_kd G 1).2 = len) (hi : 6 * t + 6 ≤ len) (hl : len ≤ 3072) (e1 : z_call 122 [.ref 32, .int x1, .int x2, .ref 472] G M = some (.inl (some (.int (nI k))), G1, M1)) (g1 : (z_kd G1 1).1 = 1) (g2 : (z_kd G1 1).2 = len) (m1 : M1 1 = M 1) (km : z_kd G1 455 = (0, 7)) (e2 : z_call 230 [.ref 455, .int x1, .int x2] G1 M1 = some (.inl (some (.int b)), G1, M2)) (e3 : M2 455 0 = nI k) (o1 : (z_kd G1 472).1 = 2) (o2 : (z_kd G1 472).2 = 1) (hv : k = 0 → z_lg G1 472 0 = b.toInt64) (hk : k ≤ 2) : z_ex 248 (z_blk 248 1119) [.ref 1, .ref 32, .ref 455, .ref 472, .int (nI (6 * t)), w5, w6] [] G M = z_ex 248 (z_blk 248 1784) [.ref 1, .ref 32, .ref 455, .ref 472, .int (nI (6 * t)), .int (nI k), .int b] [] G1 M2 := by
  have km' : z_kd G1 455 = (0, z_rc 230) := km
  have km2 : z_kd G1 455 = (0, z_rc 157) := km
  have ct := c_M_thrown km M2
  rw [e3] at ct
  have l1 : 6 * t + 1 < (z_kd G 1).2 := by omega
  have n1 : 6 * t + 1 < (z_kd G1 1).2 := by omega
  have l2 : 6 * t + 2 < (z_kd G 1).2 := by omega
  have n2 : 6 * t + 2 < (z_kd G1 1).2 := by omega
  have oo : 0 < (z_kd G1 472).2 := by omega
  have e0 : z_ex 248 (z_blk 248 1119) [.ref 1, .ref 32, .ref 455, .ref 472, .int (nI (6 * t)), w5, w6] [] G M = z_ex 248 (z_blk 248 1167) [.ref 1, .ref 32, .ref 455, .ref 472, .int (nI (6 * t)), .int (nI k), .int b] [] G1 M2 := by
    simp (disch := first | assumption | omega | exact Nat.le_of_ble_eq_true rfl | decide) only [xo_73, xo_39i, xo_39r, xo_65_1, xk_v, xk_n, xo_12_1i, xo_12_1r, xo_12_1n, xo_12_2i, xo_12_2r, xo_12_2n, xo_5, xo_75, xo_12_3i, xo_12_3r, xo_12_3n, xo_11_4i, xo_11_4r, xo_11_4n, xo_55, xo_1_4, xo_2_0, xo_36, xo_6, xo_21, xo_46, xo_32, xo_23, xo_56, xo_2_1, xo_20, xo_64_6, xo_2_2, xo_42, xo_72a, xo_72b, xo_2_3, xo_67_3, xo_11_5i, xo_11_5r, xo_11_5n, xo_64_2, xo_11_6i, xo_11_6r, xo_11_6n, xo_64_1, xo_1_5, xo_49, xo_37, xo_1_6, xo_57, xo_60, xo_48, xo_54, xo_67_4, xo_64_3, xo_67_5, xo_64_4, xo_62, zk_L_law_1119, xo_15_4i, xo_15_4r, xo_15_4n, nI_add, e1, m1, e2, ct, hx1, hx2, if_true]
  rw [e0]
  by_cases h0 : k = 0
  · subst h0
    have z0 : (nI 0 = 0) = True := zer0
    have hv' := hv rfl
    simp (disch := first | assumption | omega | exact Nat.le_of_ble_eq_true rfl | decide) only [xo_73, xo_39i, xo_39r, xo_65_1, xk_v, xk_n, xo_12_1i, xo_12_1r, xo_12_1n, xo_12_2i, xo_12_2r, xo_12_2n, xo_5, xo_75, xo_12_3i, xo_12_3r, xo_12_3n, xo_11_4i, xo_11_4r, xo_11_4n, xo_55, xo_1_4, xo_2_0, xo_36, xo_6, xo_21, xo_46, xo_32, xo_23, xo_56, xo_2_1, xo_20, xo_64_6, xo_2_2, xo_42, xo_72a, xo_72b, xo_2_3, xo_67_3, xo_11_5i, xo_11_5r, xo_11_5n, xo_64_2, xo_11_6i, xo_11_6r, xo_11_6n, xo_64_1, xo_1_5, xo_49, xo_37, xo_1_6, xo_57, xo_60, xo_48, xo_54, xo_67_4, xo_64_3, xo_67_5, xo_64_4, xo_62, zk_L_law_1167, zk_L_law_1172, zk_L_law_1184, xo_15_4i, xo_15_4r, xo_15_4n, z0, hv', cmpl_s, if_true, if_false, eq_self]
  · have z0 : (nI k = 0) = False := eq_false (nI_ne0 (by omega) (by omega))
    simp (disch := first | assumption | omega | exact Nat.le_of_ble_eq_true rfl | decide) only [xo_73, xo_39i, xo_39r, xo_65_1, xk_v, xk_n, xo_12_1i, xo_12_1r, xo_12_1n, xo_12_2i, xo_12_2r, xo_12_2n, xo_5, xo_75, xo_12_3i, xo_12_3r, xo_12_3n, xo_11_4i, xo_11_4r, xo_11_4n, xo_55, xo_1_4, xo_2_0, xo_36, xo_6, xo_21, xo_46, xo_32, xo_23, xo_56, xo_2_1, xo_20, xo_64_6, xo_2_2, xo_42, xo_72a, xo_72b, xo_2_3, xo_67_3, xo_11_5i, xo_11_5r, xo_11_5n, xo_64_2, xo_11_6i, xo_11_6r, xo_11_6n, xo_64_1, xo_1_5, xo_49, xo_37, xo_1_6, xo_57, xo_60, xo_48, xo_54, xo_67_4, xo_64_3, xo_67_5, xo_64_4, xo_62, zk_L_law_1167, zk_L_law_1184, xo_15_4i, xo_15_4r, xo_15_4n, z0, if_false]
theorem law_change {G G1 : zG} {M M1 M2 : zM} {t len k : Nat} {b : Int32} {w5 w6 : Value} {x1 x2 : Int32} (hx1 : M 1 (6 * t + 1) = x1) (hx2 : M 1 (6 * t + 2) = x2) (s1 : (z_kd G 1).1 = 1) (s2 : (z_kd G 1).2 = len) (hi : 6 * t + 6 ≤ len) (hl : len ≤ 3072) (e1 : z_call 124 [.ref 32, .int x1, .int x2, .ref 472] G M = some (.inl (some (.int (nI k))), G1, M1)) (g1 : (z_kd G1 1).1 = 1) (g2 : (z_kd G1 1).2 = len) (m1 : M1 1 = M 1) (km : z_kd G1 455 = (0, 7)) (e2 : z_call 231 [.ref 455, .int x1, .int x2] G1 M1 = some (.inl (some (.int b)), G1, M2)) (e3 : M2 455 0 = nI k) (o1 : (z_kd G1 472).1 = 2) (o2 : (z_kd G1 472).2 = 1) (hv : k = 0 → z_lg G1 472 0 = b.toInt64) (hk : k ≤ 2) : z_ex 248 (z_blk 248 1187) [.ref 1, .ref 32, .ref 455, .ref 472, .int (nI (6 * t)), w5, w6] [] G M = z_ex 248 (z_blk 248 1784) [.ref 1, .ref 32, .ref 455, .ref 472, .int (nI (6 * t)), .int (nI k), .int b] [] G1 M2 := by
  have km' : z_kd G1 455 = (0, z_rc 231) := km
  have km2 : z_kd G1 455 = (0, z_rc 157) := km
  have ct := c_M_thrown km M2
  rw [e3] at ct
  have l1 : 6 * t + 1 < (z_kd G 1).2 := by omega
  have n1 : 6 * t + 1 < (z_kd G1 1).2 := by omega
  have l2 : 6 * t + 2 < (z_kd G 1).2 := by omega
  have n2 : 6 * t + 2 < (z_kd G1 1).2 := by omega
  have oo : 0 < (z_kd G1 472).2 := by omega
  have e0 : z_ex 248 (z_blk 248 1187) [.ref 1, .ref 32, .ref 455, .ref 472, .int (nI (6 * t)), w5, w6] [] G M = z_ex 248 (z_blk 248 1235) [.ref 1, .ref 32, .ref 455, .ref 472, .int (nI (6 * t)), .int (nI k), .int b] [] G1 M2 := by
    simp (disch := first | assumption | omega | exact Nat.le_of_ble_eq_true rfl | decide) only [xo_73, xo_39i, xo_39r, xo_65_1, xk_v, xk_n, xo_12_1i, xo_12_1r, xo_12_1n, xo_12_2i, xo_12_2r, xo_12_2n, xo_5, xo_75, xo_12_3i, xo_12_3r, xo_12_3n, xo_11_4i, xo_11_4r, xo_11_4n, xo_55, xo_1_4, xo_2_0, xo_36, xo_6, xo_21, xo_46, xo_32, xo_23, xo_56, xo_2_1, xo_20, xo_64_6, xo_2_2, xo_42, xo_72a, xo_72b, xo_2_3, xo_67_3, xo_11_5i, xo_11_5r, xo_11_5n, xo_64_2, xo_11_6i, xo_11_6r, xo_11_6n, xo_64_1, xo_1_5, xo_49, xo_37, xo_1_6, xo_57, xo_60, xo_48, xo_54, xo_67_4, xo_64_3, xo_67_5, xo_64_4, xo_62, zk_L_law_1187, xo_15_4i, xo_15_4r, xo_15_4n, nI_add, e1, m1, e2, ct, hx1, hx2, if_true]
  rw [e0]
  by_cases h0 : k = 0
  · subst h0
    have z0 : (nI 0 = 0) = True := zer0
    have hv' := hv rfl
    simp (disch := first | assumption | omega | exact Nat.le_of_ble_eq_true rfl | decide) only [xo_73, xo_39i, xo_39r, xo_65_1, xk_v, xk_n, xo_12_1i, xo_12_1r, xo_12_1n, xo_12_2i, xo_12_2r, xo_12_2n, xo_5, xo_75, xo_12_3i, xo_12_3r, xo_12_3n, xo_11_4i, xo_11_4r, xo_11_4n, xo_55, xo_1_4, xo_2_0, xo_36, xo_6, xo_21, xo_46, xo_32, xo_23, xo_56, xo_2_1, xo_20, xo_64_6, xo_2_2, xo_42, xo_72a, xo_72b, xo_2_3, xo_67_3, xo_11_5i, xo_11_5r, xo_11_5n, xo_64_2, xo_11_6i, xo_11_6r, xo_11_6n, xo_64_1, xo_1_5, xo_49, xo_37, xo_1_6, xo_57, xo_60, xo_48, xo_54, xo_67_4, xo_64_3, xo_67_5, xo_64_4, xo_62, zk_L_law_1235, zk_L_law_1240, zk_L_law_1252, xo_15_4i, xo_15_4r, xo_15_4n, z0, hv', cmpl_s, if_true, if_false, eq_self]
  · have z0 : (nI k = 0) = False := eq_false (nI_ne0 (by omega) (by omega))
    simp (disch := first | assumption | omega | exact Nat.le_of_ble_eq_true rfl | decide) only [xo_73, xo_39i, xo_39r, xo_65_1, xk_v, xk_n, xo_12_1i, xo_12_1r, xo_12_1n, xo_12_2i, xo_12_2r, xo_12_2n, xo_5, xo_75, xo_12_3i, xo_12_3r, xo_12_3n, xo_11_4i, xo_11_4r, xo_11_4n, xo_55, xo_1_4, xo_2_0, xo_36, xo_6, xo_21, xo_46, xo_32, xo_23, xo_56, xo_2_1, xo_20, xo_64_6, xo_2_2, xo_42, xo_72a, xo_72b, xo_2_3, xo_67_3, xo_11_5i, xo_11_5r, xo_11_5n, xo_64_2, xo_11_6i, xo_11_6r, xo_11_6n, xo_64_1, xo_1_5, xo_49, xo_37, xo_1_6, xo_57, xo_60, xo_48, xo_54, xo_67_4, xo_64_3, xo_67_5, xo_64_4, xo_62, zk_L_law_1235, zk_L_law_1252, xo_15_4i, xo_15_4r, xo_15_4n, z0, if_false]
theorem law_ranked {G G1 : zG} {M M1 M2 : zM} {t len k : Nat} {b : Int32} {w5 w6 : Value} {x1 x2 : Int32} (hx1 : M 1 (6 * t + 1) = x1) (hx2 : M 1 (6 * t + 2) = x2) (s1 : (z_kd G 1).1 = 1) (s2 : (z_kd G 1).2 = len) (hi : 6 * t + 6 ≤ len) (hl : len ≤ 3072) (e1 : z_call 127 [.ref 32, .int x1, .int x2, .ref 472] G M = some (.inl (some (.int (nI k))), G1, M1)) (g1 : (z_kd G1 1).1 = 1) (g2 : (z_kd G1 1).2 = len) (m1 : M1 1 = M 1) (km : z_kd G1 455 = (0, 7)) (e2 : z_call 233 [.ref 455, .int x1, .int x2] G1 M1 = some (.inl (some (.int b)), G1, M2)) (e3 : M2 455 0 = nI k) (o1 : (z_kd G1 472).1 = 2) (o2 : (z_kd G1 472).2 = 1) (hv : k = 0 → z_lg G1 472 0 = b.toInt64) (hk : k ≤ 2) : z_ex 248 (z_blk 248 1268) [.ref 1, .ref 32, .ref 455, .ref 472, .int (nI (6 * t)), w5, w6] [] G M = z_ex 248 (z_blk 248 1784) [.ref 1, .ref 32, .ref 455, .ref 472, .int (nI (6 * t)), .int (nI k), .int b] [] G1 M2 := by
  have km' : z_kd G1 455 = (0, z_rc 233) := km
  have km2 : z_kd G1 455 = (0, z_rc 157) := km
  have ct := c_M_thrown km M2
  rw [e3] at ct
  have l1 : 6 * t + 1 < (z_kd G 1).2 := by omega
  have n1 : 6 * t + 1 < (z_kd G1 1).2 := by omega
  have l2 : 6 * t + 2 < (z_kd G 1).2 := by omega
  have n2 : 6 * t + 2 < (z_kd G1 1).2 := by omega
  have oo : 0 < (z_kd G1 472).2 := by omega
  have e0 : z_ex 248 (z_blk 248 1268) [.ref 1, .ref 32, .ref 455, .ref 472, .int (nI (6 * t)), w5, w6] [] G M = z_ex 248 (z_blk 248 1316) [.ref 1, .ref 32, .ref 455, .ref 472, .int (nI (6 * t)), .int (nI k), .int b] [] G1 M2 := by
    simp (disch := first | assumption | omega | exact Nat.le_of_ble_eq_true rfl | decide) only [xo_73, xo_39i, xo_39r, xo_65_1, xk_v, xk_n, xo_12_1i, xo_12_1r, xo_12_1n, xo_12_2i, xo_12_2r, xo_12_2n, xo_5, xo_75, xo_12_3i, xo_12_3r, xo_12_3n, xo_11_4i, xo_11_4r, xo_11_4n, xo_55, xo_1_4, xo_2_0, xo_36, xo_6, xo_21, xo_46, xo_32, xo_23, xo_56, xo_2_1, xo_20, xo_64_6, xo_2_2, xo_42, xo_72a, xo_72b, xo_2_3, xo_67_3, xo_11_5i, xo_11_5r, xo_11_5n, xo_64_2, xo_11_6i, xo_11_6r, xo_11_6n, xo_64_1, xo_1_5, xo_49, xo_37, xo_1_6, xo_57, xo_60, xo_48, xo_54, xo_67_4, xo_64_3, xo_67_5, xo_64_4, xo_62, zk_L_law_1268, xo_15_4i, xo_15_4r, xo_15_4n, nI_add, e1, m1, e2, ct, hx1, hx2, if_true]
  rw [e0]
  by_cases h0 : k = 0
  · subst h0
    have z0 : (nI 0 = 0) = True := zer0
    have hv' := hv rfl
    simp (disch := first | assumption | omega | exact Nat.le_of_ble_eq_true rfl | decide) only [xo_73, xo_39i, xo_39r, xo_65_1, xk_v, xk_n, xo_12_1i, xo_12_1r, xo_12_1n, xo_12_2i, xo_12_2r, xo_12_2n, xo_5, xo_75, xo_12_3i, xo_12_3r, xo_12_3n, xo_11_4i, xo_11_4r, xo_11_4n, xo_55, xo_1_4, xo_2_0, xo_36, xo_6, xo_21, xo_46, xo_32, xo_23, xo_56, xo_2_1, xo_20, xo_64_6, xo_2_2, xo_42, xo_72a, xo_72b, xo_2_3, xo_67_3, xo_11_5i, xo_11_5r, xo_11_5n, xo_64_2, xo_11_6i, xo_11_6r, xo_11_6n, xo_64_1, xo_1_5, xo_49, xo_37, xo_1_6, xo_57, xo_60, xo_48, xo_54, xo_67_4, xo_64_3, xo_67_5, xo_64_4, xo_62, zk_L_law_1316, zk_L_law_1321, zk_L_law_1333, xo_15_4i, xo_15_4r, xo_15_4n, z0, hv', cmpl_s, if_true, if_false, eq_self]
  · have z0 : (nI k = 0) = False := eq_false (nI_ne0 (by omega) (by omega))
    simp (disch := first | assumption | omega | exact Nat.le_of_ble_eq_true rfl | decide) only [xo_73, xo_39i, xo_39r, xo_65_1, xk_v, xk_n, xo_12_1i, xo_12_1r, xo_12_1n, xo_12_2i, xo_12_2r, xo_12_2n, xo_5, xo_75, xo_12_3i, xo_12_3r, xo_12_3n, xo_11_4i, xo_11_4r, xo_11_4n, xo_55, xo_1_4, xo_2_0, xo_36, xo_6, xo_21, xo_46, xo_32, xo_23, xo_56, xo_2_1, xo_20, xo_64_6, xo_2_2, xo_42, xo_72a, xo_72b, xo_2_3, xo_67_3, xo_11_5i, xo_11_5r, xo_11_5n, xo_64_2, xo_11_6i, xo_11_6r, xo_11_6n, xo_64_1, xo_1_5, xo_49, xo_37, xo_1_6, xo_57, xo_60, xo_48, xo_54, xo_67_4, xo_64_3, xo_67_5, xo_64_4, xo_62, zk_L_law_1316, zk_L_law_1333, xo_15_4i, xo_15_4r, xo_15_4n, z0, if_false]
theorem law_untilBy {G G1 : zG} {M M1 M2 : zM} {t len k : Nat} {b : Int32} {w5 w6 : Value} {x1 : Int32} (hx1 : M 1 (6 * t + 1) = x1) (s1 : (z_kd G 1).1 = 1) (s2 : (z_kd G 1).2 = len) (hi : 6 * t + 6 ≤ len) (hl : len ≤ 3072) (e1 : z_call 130 [.ref 32, .int x1, .ref 472] G M = some (.inl (some (.int (nI k))), G1, M1)) (g1 : (z_kd G1 1).1 = 1) (g2 : (z_kd G1 1).2 = len) (m1 : M1 1 = M 1) (km : z_kd G1 455 = (0, 7)) (e2 : z_call 236 [.ref 455, .int x1] G1 M1 = some (.inl (some (.int b)), G1, M2)) (e3 : M2 455 0 = nI k) (o1 : (z_kd G1 472).1 = 2) (o2 : (z_kd G1 472).2 = 1) (hv : k = 0 → z_lg G1 472 0 = b.toInt64) (hk : k ≤ 2) : z_ex 248 (z_blk 248 1349) [.ref 1, .ref 32, .ref 455, .ref 472, .int (nI (6 * t)), w5, w6] [] G M = z_ex 248 (z_blk 248 1784) [.ref 1, .ref 32, .ref 455, .ref 472, .int (nI (6 * t)), .int (nI k), .int b] [] G1 M2 := by
  have km' : z_kd G1 455 = (0, z_rc 236) := km
  have km2 : z_kd G1 455 = (0, z_rc 157) := km
  have ct := c_M_thrown km M2
  rw [e3] at ct
  have l1 : 6 * t + 1 < (z_kd G 1).2 := by omega
  have n1 : 6 * t + 1 < (z_kd G1 1).2 := by omega
  have oo : 0 < (z_kd G1 472).2 := by omega
  have e0 : z_ex 248 (z_blk 248 1349) [.ref 1, .ref 32, .ref 455, .ref 472, .int (nI (6 * t)), w5, w6] [] G M = z_ex 248 (z_blk 248 1385) [.ref 1, .ref 32, .ref 455, .ref 472, .int (nI (6 * t)), .int (nI k), .int b] [] G1 M2 := by
    simp (disch := first | assumption | omega | exact Nat.le_of_ble_eq_true rfl | decide) only [xo_73, xo_39i, xo_39r, xo_65_1, xk_v, xk_n, xo_12_1i, xo_12_1r, xo_12_1n, xo_12_2i, xo_12_2r, xo_12_2n, xo_5, xo_75, xo_12_3i, xo_12_3r, xo_12_3n, xo_11_4i, xo_11_4r, xo_11_4n, xo_55, xo_1_4, xo_2_0, xo_36, xo_6, xo_21, xo_46, xo_32, xo_23, xo_56, xo_2_1, xo_20, xo_64_6, xo_2_2, xo_42, xo_72a, xo_72b, xo_2_3, xo_67_3, xo_11_5i, xo_11_5r, xo_11_5n, xo_64_2, xo_11_6i, xo_11_6r, xo_11_6n, xo_64_1, xo_1_5, xo_49, xo_37, xo_1_6, xo_57, xo_60, xo_48, xo_54, xo_67_4, xo_64_3, xo_67_5, xo_64_4, xo_62, zk_L_law_1349, xo_15_4i, xo_15_4r, xo_15_4n, nI_add, e1, m1, e2, ct, hx1, if_true]
  rw [e0]
  by_cases h0 : k = 0
  · subst h0
    have z0 : (nI 0 = 0) = True := zer0
    have hv' := hv rfl
    simp (disch := first | assumption | omega | exact Nat.le_of_ble_eq_true rfl | decide) only [xo_73, xo_39i, xo_39r, xo_65_1, xk_v, xk_n, xo_12_1i, xo_12_1r, xo_12_1n, xo_12_2i, xo_12_2r, xo_12_2n, xo_5, xo_75, xo_12_3i, xo_12_3r, xo_12_3n, xo_11_4i, xo_11_4r, xo_11_4n, xo_55, xo_1_4, xo_2_0, xo_36, xo_6, xo_21, xo_46, xo_32, xo_23, xo_56, xo_2_1, xo_20, xo_64_6, xo_2_2, xo_42, xo_72a, xo_72b, xo_2_3, xo_67_3, xo_11_5i, xo_11_5r, xo_11_5n, xo_64_2, xo_11_6i, xo_11_6r, xo_11_6n, xo_64_1, xo_1_5, xo_49, xo_37, xo_1_6, xo_57, xo_60, xo_48, xo_54, xo_67_4, xo_64_3, xo_67_5, xo_64_4, xo_62, zk_L_law_1385, zk_L_law_1390, zk_L_law_1402, xo_15_4i, xo_15_4r, xo_15_4n, z0, hv', cmpl_s, if_true, if_false, eq_self]
  · have z0 : (nI k = 0) = False := eq_false (nI_ne0 (by omega) (by omega))
    simp (disch := first | assumption | omega | exact Nat.le_of_ble_eq_true rfl | decide) only [xo_73, xo_39i, xo_39r, xo_65_1, xk_v, xk_n, xo_12_1i, xo_12_1r, xo_12_1n, xo_12_2i, xo_12_2r, xo_12_2n, xo_5, xo_75, xo_12_3i, xo_12_3r, xo_12_3n, xo_11_4i, xo_11_4r, xo_11_4n, xo_55, xo_1_4, xo_2_0, xo_36, xo_6, xo_21, xo_46, xo_32, xo_23, xo_56, xo_2_1, xo_20, xo_64_6, xo_2_2, xo_42, xo_72a, xo_72b, xo_2_3, xo_67_3, xo_11_5i, xo_11_5r, xo_11_5n, xo_64_2, xo_11_6i, xo_11_6r, xo_11_6n, xo_64_1, xo_1_5, xo_49, xo_37, xo_1_6, xo_57, xo_60, xo_48, xo_54, xo_67_4, xo_64_3, xo_67_5, xo_64_4, xo_62, zk_L_law_1385, zk_L_law_1402, xo_15_4i, xo_15_4r, xo_15_4n, z0, if_false]
theorem law_hardest {G G1 : zG} {M M1 M2 : zM} {t len k : Nat} {b : Int32} {w5 w6 : Value} {x1 : Int32} (hx1 : M 1 (6 * t + 1) = x1) (s1 : (z_kd G 1).1 = 1) (s2 : (z_kd G 1).2 = len) (hi : 6 * t + 6 ≤ len) (hl : len ≤ 3072) (e1 : z_call 133 [.ref 32, .int x1, .ref 472] G M = some (.inl (some (.int (nI k))), G1, M1)) (g1 : (z_kd G1 1).1 = 1) (g2 : (z_kd G1 1).2 = len) (m1 : M1 1 = M 1) (km : z_kd G1 455 = (0, 7)) (e2 : z_call 238 [.ref 455, .int x1] G1 M1 = some (.inl (some (.int b)), G1, M2)) (e3 : M2 455 0 = nI k) (o1 : (z_kd G1 472).1 = 2) (o2 : (z_kd G1 472).2 = 1) (hv : k = 0 → z_lg G1 472 0 = b.toInt64) (hk : k ≤ 2) : z_ex 248 (z_blk 248 1405) [.ref 1, .ref 32, .ref 455, .ref 472, .int (nI (6 * t)), w5, w6] [] G M = z_ex 248 (z_blk 248 1784) [.ref 1, .ref 32, .ref 455, .ref 472, .int (nI (6 * t)), .int (nI k), .int b] [] G1 M2 := by
  have km' : z_kd G1 455 = (0, z_rc 238) := km
  have km2 : z_kd G1 455 = (0, z_rc 157) := km
  have ct := c_M_thrown km M2
  rw [e3] at ct
  have l1 : 6 * t + 1 < (z_kd G 1).2 := by omega
  have n1 : 6 * t + 1 < (z_kd G1 1).2 := by omega
  have oo : 0 < (z_kd G1 472).2 := by omega
  have e0 : z_ex 248 (z_blk 248 1405) [.ref 1, .ref 32, .ref 455, .ref 472, .int (nI (6 * t)), w5, w6] [] G M = z_ex 248 (z_blk 248 1441) [.ref 1, .ref 32, .ref 455, .ref 472, .int (nI (6 * t)), .int (nI k), .int b] [] G1 M2 := by
    simp (disch := first | assumption | omega | exact Nat.le_of_ble_eq_true rfl | decide) only [xo_73, xo_39i, xo_39r, xo_65_1, xk_v, xk_n, xo_12_1i, xo_12_1r, xo_12_1n, xo_12_2i, xo_12_2r, xo_12_2n, xo_5, xo_75, xo_12_3i, xo_12_3r, xo_12_3n, xo_11_4i, xo_11_4r, xo_11_4n, xo_55, xo_1_4, xo_2_0, xo_36, xo_6, xo_21, xo_46, xo_32, xo_23, xo_56, xo_2_1, xo_20, xo_64_6, xo_2_2, xo_42, xo_72a, xo_72b, xo_2_3, xo_67_3, xo_11_5i, xo_11_5r, xo_11_5n, xo_64_2, xo_11_6i, xo_11_6r, xo_11_6n, xo_64_1, xo_1_5, xo_49, xo_37, xo_1_6, xo_57, xo_60, xo_48, xo_54, xo_67_4, xo_64_3, xo_67_5, xo_64_4, xo_62, zk_L_law_1405, xo_15_4i, xo_15_4r, xo_15_4n, nI_add, e1, m1, e2, ct, hx1, if_true]
  rw [e0]
  by_cases h0 : k = 0
  · subst h0
    have z0 : (nI 0 = 0) = True := zer0
    have hv' := hv rfl
    simp (disch := first | assumption | omega | exact Nat.le_of_ble_eq_true rfl | decide) only [xo_73, xo_39i, xo_39r, xo_65_1, xk_v, xk_n, xo_12_1i, xo_12_1r, xo_12_1n, xo_12_2i, xo_12_2r, xo_12_2n, xo_5, xo_75, xo_12_3i, xo_12_3r, xo_12_3n, xo_11_4i, xo_11_4r, xo_11_4n, xo_55, xo_1_4, xo_2_0, xo_36, xo_6, xo_21, xo_46, xo_32, xo_23, xo_56, xo_2_1, xo_20, xo_64_6, xo_2_2, xo_42, xo_72a, xo_72b, xo_2_3, xo_67_3, xo_11_5i, xo_11_5r, xo_11_5n, xo_64_2, xo_11_6i, xo_11_6r, xo_11_6n, xo_64_1, xo_1_5, xo_49, xo_37, xo_1_6, xo_57, xo_60, xo_48, xo_54, xo_67_4, xo_64_3, xo_67_5, xo_64_4, xo_62, zk_L_law_1441, zk_L_law_1446, zk_L_law_1458, xo_15_4i, xo_15_4r, xo_15_4n, z0, hv', cmpl_s, if_true, if_false, eq_self]
  · have z0 : (nI k = 0) = False := eq_false (nI_ne0 (by omega) (by omega))
    simp (disch := first | assumption | omega | exact Nat.le_of_ble_eq_true rfl | decide) only [xo_73, xo_39i, xo_39r, xo_65_1, xk_v, xk_n, xo_12_1i, xo_12_1r, xo_12_1n, xo_12_2i, xo_12_2r, xo_12_2n, xo_5, xo_75, xo_12_3i, xo_12_3r, xo_12_3n, xo_11_4i, xo_11_4r, xo_11_4n, xo_55, xo_1_4, xo_2_0, xo_36, xo_6, xo_21, xo_46, xo_32, xo_23, xo_56, xo_2_1, xo_20, xo_64_6, xo_2_2, xo_42, xo_72a, xo_72b, xo_2_3, xo_67_3, xo_11_5i, xo_11_5r, xo_11_5n, xo_64_2, xo_11_6i, xo_11_6r, xo_11_6n, xo_64_1, xo_1_5, xo_49, xo_37, xo_1_6, xo_57, xo_60, xo_48, xo_54, xo_67_4, xo_64_3, xo_67_5, xo_64_4, xo_62, zk_L_law_1441, zk_L_law_1458, xo_15_4i, xo_15_4r, xo_15_4n, z0, if_false]
theorem law_untilRule {G G1 : zG} {M M1 M2 : zM} {t len k : Nat} {b : Int32} {w5 w6 : Value} {x1 x2 : Int32} (hx1 : M 1 (6 * t + 1) = x1) (hx2 : M 1 (6 * t + 2) = x2) (s1 : (z_kd G 1).1 = 1) (s2 : (z_kd G 1).2 = len) (hi : 6 * t + 6 ≤ len) (hl : len ≤ 3072) (e1 : z_call 136 [.ref 32, .int x1, .int x2, .ref 472] G M = some (.inl (some (.int (nI k))), G1, M1)) (g1 : (z_kd G1 1).1 = 1) (g2 : (z_kd G1 1).2 = len) (m1 : M1 1 = M 1) (km : z_kd G1 455 = (0, 7)) (e2 : z_call 239 [.ref 455, .int x1, .int x2] G1 M1 = some (.inl (some (.int b)), G1, M2)) (e3 : M2 455 0 = nI k) (o1 : (z_kd G1 472).1 = 2) (o2 : (z_kd G1 472).2 = 1) (hv : k = 0 → z_lg G1 472 0 = b.toInt64) (hk : k ≤ 2) : z_ex 248 (z_blk 248 1461) [.ref 1, .ref 32, .ref 455, .ref 472, .int (nI (6 * t)), w5, w6] [] G M = z_ex 248 (z_blk 248 1784) [.ref 1, .ref 32, .ref 455, .ref 472, .int (nI (6 * t)), .int (nI k), .int b] [] G1 M2 := by
  have km' : z_kd G1 455 = (0, z_rc 239) := km
  have km2 : z_kd G1 455 = (0, z_rc 157) := km
  have ct := c_M_thrown km M2
  rw [e3] at ct
  have l1 : 6 * t + 1 < (z_kd G 1).2 := by omega
  have n1 : 6 * t + 1 < (z_kd G1 1).2 := by omega
  have l2 : 6 * t + 2 < (z_kd G 1).2 := by omega
  have n2 : 6 * t + 2 < (z_kd G1 1).2 := by omega
  have oo : 0 < (z_kd G1 472).2 := by omega
  have e0 : z_ex 248 (z_blk 248 1461) [.ref 1, .ref 32, .ref 455, .ref 472, .int (nI (6 * t)), w5, w6] [] G M = z_ex 248 (z_blk 248 1509) [.ref 1, .ref 32, .ref 455, .ref 472, .int (nI (6 * t)), .int (nI k), .int b] [] G1 M2 := by
    simp (disch := first | assumption | omega | exact Nat.le_of_ble_eq_true rfl | decide) only [xo_73, xo_39i, xo_39r, xo_65_1, xk_v, xk_n, xo_12_1i, xo_12_1r, xo_12_1n, xo_12_2i, xo_12_2r, xo_12_2n, xo_5, xo_75, xo_12_3i, xo_12_3r, xo_12_3n, xo_11_4i, xo_11_4r, xo_11_4n, xo_55, xo_1_4, xo_2_0, xo_36, xo_6, xo_21, xo_46, xo_32, xo_23, xo_56, xo_2_1, xo_20, xo_64_6, xo_2_2, xo_42, xo_72a, xo_72b, xo_2_3, xo_67_3, xo_11_5i, xo_11_5r, xo_11_5n, xo_64_2, xo_11_6i, xo_11_6r, xo_11_6n, xo_64_1, xo_1_5, xo_49, xo_37, xo_1_6, xo_57, xo_60, xo_48, xo_54, xo_67_4, xo_64_3, xo_67_5, xo_64_4, xo_62, zk_L_law_1461, xo_15_4i, xo_15_4r, xo_15_4n, nI_add, e1, m1, e2, ct, hx1, hx2, if_true]
  rw [e0]
  by_cases h0 : k = 0
  · subst h0
    have z0 : (nI 0 = 0) = True := zer0
    have hv' := hv rfl
    simp (disch := first | assumption | omega | exact Nat.le_of_ble_eq_true rfl | decide) only [xo_73, xo_39i, xo_39r, xo_65_1, xk_v, xk_n, xo_12_1i, xo_12_1r, xo_12_1n, xo_12_2i, xo_12_2r, xo_12_2n, xo_5, xo_75, xo_12_3i, xo_12_3r, xo_12_3n, xo_11_4i, xo_11_4r, xo_11_4n, xo_55, xo_1_4, xo_2_0, xo_36, xo_6, xo_21, xo_46, xo_32, xo_23, xo_56, xo_2_1, xo_20, xo_64_6, xo_2_2, xo_42, xo_72a, xo_72b, xo_2_3, xo_67_3, xo_11_5i, xo_11_5r, xo_11_5n, xo_64_2, xo_11_6i, xo_11_6r, xo_11_6n, xo_64_1, xo_1_5, xo_49, xo_37, xo_1_6, xo_57, xo_60, xo_48, xo_54, xo_67_4, xo_64_3, xo_67_5, xo_64_4, xo_62, zk_L_law_1509, zk_L_law_1514, zk_L_law_1526, xo_15_4i, xo_15_4r, xo_15_4n, z0, hv', cmpl_s, if_true, if_false, eq_self]
  · have z0 : (nI k = 0) = False := eq_false (nI_ne0 (by omega) (by omega))
    simp (disch := first | assumption | omega | exact Nat.le_of_ble_eq_true rfl | decide) only [xo_73, xo_39i, xo_39r, xo_65_1, xk_v, xk_n, xo_12_1i, xo_12_1r, xo_12_1n, xo_12_2i, xo_12_2r, xo_12_2n, xo_5, xo_75, xo_12_3i, xo_12_3r, xo_12_3n, xo_11_4i, xo_11_4r, xo_11_4n, xo_55, xo_1_4, xo_2_0, xo_36, xo_6, xo_21, xo_46, xo_32, xo_23, xo_56, xo_2_1, xo_20, xo_64_6, xo_2_2, xo_42, xo_72a, xo_72b, xo_2_3, xo_67_3, xo_11_5i, xo_11_5r, xo_11_5n, xo_64_2, xo_11_6i, xo_11_6r, xo_11_6n, xo_64_1, xo_1_5, xo_49, xo_37, xo_1_6, xo_57, xo_60, xo_48, xo_54, xo_67_4, xo_64_3, xo_67_5, xo_64_4, xo_62, zk_L_law_1509, zk_L_law_1526, xo_15_4i, xo_15_4r, xo_15_4n, z0, if_false]
theorem law_untilLinks {G G1 : zG} {M M1 M2 : zM} {t len k : Nat} {b : Int32} {w5 w6 : Value} {x1 x2 : Int32} (hx1 : M 1 (6 * t + 1) = x1) (hx2 : M 1 (6 * t + 2) = x2) (s1 : (z_kd G 1).1 = 1) (s2 : (z_kd G 1).2 = len) (hi : 6 * t + 6 ≤ len) (hl : len ≤ 3072) (e1 : z_call 138 [.ref 32, .int x1, .int x2, .ref 472] G M = some (.inl (some (.int (nI k))), G1, M1)) (g1 : (z_kd G1 1).1 = 1) (g2 : (z_kd G1 1).2 = len) (m1 : M1 1 = M 1) (km : z_kd G1 455 = (0, 7)) (e2 : z_call 240 [.ref 455, .int x1, .int x2] G1 M1 = some (.inl (some (.int b)), G1, M2)) (e3 : M2 455 0 = nI k) (o1 : (z_kd G1 472).1 = 2) (o2 : (z_kd G1 472).2 = 1) (hv : k = 0 → z_lg G1 472 0 = b.toInt64) (hk : k ≤ 2) : z_ex 248 (z_blk 248 1529) [.ref 1, .ref 32, .ref 455, .ref 472, .int (nI (6 * t)), w5, w6] [] G M = z_ex 248 (z_blk 248 1784) [.ref 1, .ref 32, .ref 455, .ref 472, .int (nI (6 * t)), .int (nI k), .int b] [] G1 M2 := by
  have km' : z_kd G1 455 = (0, z_rc 240) := km
  have km2 : z_kd G1 455 = (0, z_rc 157) := km
  have ct := c_M_thrown km M2
  rw [e3] at ct
  have l1 : 6 * t + 1 < (z_kd G 1).2 := by omega
  have n1 : 6 * t + 1 < (z_kd G1 1).2 := by omega
  have l2 : 6 * t + 2 < (z_kd G 1).2 := by omega
  have n2 : 6 * t + 2 < (z_kd G1 1).2 := by omega
  have oo : 0 < (z_kd G1 472).2 := by omega
  have e0 : z_ex 248 (z_blk 248 1529) [.ref 1, .ref 32, .ref 455, .ref 472, .int (nI (6 * t)), w5, w6] [] G M = z_ex 248 (z_blk 248 1577) [.ref 1, .ref 32, .ref 455, .ref 472, .int (nI (6 * t)), .int (nI k), .int b] [] G1 M2 := by
    simp (disch := first | assumption | omega | exact Nat.le_of_ble_eq_true rfl | decide) only [xo_73, xo_39i, xo_39r, xo_65_1, xk_v, xk_n, xo_12_1i, xo_12_1r, xo_12_1n, xo_12_2i, xo_12_2r, xo_12_2n, xo_5, xo_75, xo_12_3i, xo_12_3r, xo_12_3n, xo_11_4i, xo_11_4r, xo_11_4n, xo_55, xo_1_4, xo_2_0, xo_36, xo_6, xo_21, xo_46, xo_32, xo_23, xo_56, xo_2_1, xo_20, xo_64_6, xo_2_2, xo_42, xo_72a, xo_72b, xo_2_3, xo_67_3, xo_11_5i, xo_11_5r, xo_11_5n, xo_64_2, xo_11_6i, xo_11_6r, xo_11_6n, xo_64_1, xo_1_5, xo_49, xo_37, xo_1_6, xo_57, xo_60, xo_48, xo_54, xo_67_4, xo_64_3, xo_67_5, xo_64_4, xo_62, zk_L_law_1529, xo_15_4i, xo_15_4r, xo_15_4n, nI_add, e1, m1, e2, ct, hx1, hx2, if_true]
  rw [e0]
  by_cases h0 : k = 0
  · subst h0
    have z0 : (nI 0 = 0) = True := zer0
    have hv' := hv rfl
    simp (disch := first | assumption | omega | exact Nat.le_of_ble_eq_true rfl | decide) only [xo_73, xo_39i, xo_39r, xo_65_1, xk_v, xk_n, xo_12_1i, xo_12_1r, xo_12_1n, xo_12_2i, xo_12_2r, xo_12_2n, xo_5, xo_75, xo_12_3i, xo_12_3r, xo_12_3n, xo_11_4i, xo_11_4r, xo_11_4n, xo_55, xo_1_4, xo_2_0, xo_36, xo_6, xo_21, xo_46, xo_32, xo_23, xo_56, xo_2_1, xo_20, xo_64_6, xo_2_2, xo_42, xo_72a, xo_72b, xo_2_3, xo_67_3, xo_11_5i, xo_11_5r, xo_11_5n, xo_64_2, xo_11_6i, xo_11_6r, xo_11_6n, xo_64_1, xo_1_5, xo_49, xo_37, xo_1_6, xo_57, xo_60, xo_48, xo_54, xo_67_4, xo_64_3, xo_67_5, xo_64_4, xo_62, zk_L_law_1577, zk_L_law_1582, zk_L_law_1594, xo_15_4i, xo_15_4r, xo_15_4n, z0, hv', cmpl_s, if_true, if_false, eq_self]
  · have z0 : (nI k = 0) = False := eq_false (nI_ne0 (by omega) (by omega))
    simp (disch := first | assumption | omega | exact Nat.le_of_ble_eq_true rfl | decide) only [xo_73, xo_39i, xo_39r, xo_65_1, xk_v, xk_n, xo_12_1i, xo_12_1r, xo_12_1n, xo_12_2i, xo_12_2r, xo_12_2n, xo_5, xo_75, xo_12_3i, xo_12_3r, xo_12_3n, xo_11_4i, xo_11_4r, xo_11_4n, xo_55, xo_1_4, xo_2_0, xo_36, xo_6, xo_21, xo_46, xo_32, xo_23, xo_56, xo_2_1, xo_20, xo_64_6, xo_2_2, xo_42, xo_72a, xo_72b, xo_2_3, xo_67_3, xo_11_5i, xo_11_5r, xo_11_5n, xo_64_2, xo_11_6i, xo_11_6r, xo_11_6n, xo_64_1, xo_1_5, xo_49, xo_37, xo_1_6, xo_57, xo_60, xo_48, xo_54, xo_67_4, xo_64_3, xo_67_5, xo_64_4, xo_62, zk_L_law_1577, zk_L_law_1594, xo_15_4i, xo_15_4r, xo_15_4n, z0, if_false]
theorem law_ahead {G G1 : zG} {M M1 M2 : zM} {t len k : Nat} {b : Int32} {w5 w6 : Value} {x1 x2 : Int32} (hx1 : M 1 (6 * t + 1) = x1) (hx2 : M 1 (6 * t + 2) = x2) (s1 : (z_kd G 1).1 = 1) (s2 : (z_kd G 1).2 = len) (hi : 6 * t + 6 ≤ len) (hl : len ≤ 3072) (e1 : z_call 140 [.ref 32, .int x1, .int x2, .ref 472] G M = some (.inl (some (.int (nI k))), G1, M1)) (g1 : (z_kd G1 1).1 = 1) (g2 : (z_kd G1 1).2 = len) (m1 : M1 1 = M 1) (km : z_kd G1 455 = (0, 7)) (e2 : z_call 241 [.ref 455, .int x1, .int x2] G1 M1 = some (.inl (some (.int b)), G1, M2)) (e3 : M2 455 0 = nI k) (o1 : (z_kd G1 472).1 = 2) (o2 : (z_kd G1 472).2 = 1) (hv : k = 0 → z_lg G1 472 0 = b.toInt64) (hk : k ≤ 2) : z_ex 248 (z_blk 248 1597) [.ref 1, .ref 32, .ref 455, .ref 472, .int (nI (6 * t)), w5, w6] [] G M = z_ex 248 (z_blk 248 1784) [.ref 1, .ref 32, .ref 455, .ref 472, .int (nI (6 * t)), .int (nI k), .int b] [] G1 M2 := by
  have km' : z_kd G1 455 = (0, z_rc 241) := km
  have km2 : z_kd G1 455 = (0, z_rc 157) := km
  have ct := c_M_thrown km M2
  rw [e3] at ct
  have l1 : 6 * t + 1 < (z_kd G 1).2 := by omega
  have n1 : 6 * t + 1 < (z_kd G1 1).2 := by omega
  have l2 : 6 * t + 2 < (z_kd G 1).2 := by omega
  have n2 : 6 * t + 2 < (z_kd G1 1).2 := by omega
  have oo : 0 < (z_kd G1 472).2 := by omega
  have e0 : z_ex 248 (z_blk 248 1597) [.ref 1, .ref 32, .ref 455, .ref 472, .int (nI (6 * t)), w5, w6] [] G M = z_ex 248 (z_blk 248 1645) [.ref 1, .ref 32, .ref 455, .ref 472, .int (nI (6 * t)), .int (nI k), .int b] [] G1 M2 := by
    simp (disch := first | assumption | omega | exact Nat.le_of_ble_eq_true rfl | decide) only [xo_73, xo_39i, xo_39r, xo_65_1, xk_v, xk_n, xo_12_1i, xo_12_1r, xo_12_1n, xo_12_2i, xo_12_2r, xo_12_2n, xo_5, xo_75, xo_12_3i, xo_12_3r, xo_12_3n, xo_11_4i, xo_11_4r, xo_11_4n, xo_55, xo_1_4, xo_2_0, xo_36, xo_6, xo_21, xo_46, xo_32, xo_23, xo_56, xo_2_1, xo_20, xo_64_6, xo_2_2, xo_42, xo_72a, xo_72b, xo_2_3, xo_67_3, xo_11_5i, xo_11_5r, xo_11_5n, xo_64_2, xo_11_6i, xo_11_6r, xo_11_6n, xo_64_1, xo_1_5, xo_49, xo_37, xo_1_6, xo_57, xo_60, xo_48, xo_54, xo_67_4, xo_64_3, xo_67_5, xo_64_4, xo_62, zk_L_law_1597, xo_15_4i, xo_15_4r, xo_15_4n, nI_add, e1, m1, e2, ct, hx1, hx2, if_true]
  rw [e0]
  by_cases h0 : k = 0
  · subst h0
    have z0 : (nI 0 = 0) = True := zer0
    have hv' := hv rfl
    simp (disch := first | assumption | omega | exact Nat.le_of_ble_eq_true rfl | decide) only [xo_73, xo_39i, xo_39r, xo_65_1, xk_v, xk_n, xo_12_1i, xo_12_1r, xo_12_1n, xo_12_2i, xo_12_2r, xo_12_2n, xo_5, xo_75, xo_12_3i, xo_12_3r, xo_12_3n, xo_11_4i, xo_11_4r, xo_11_4n, xo_55, xo_1_4, xo_2_0, xo_36, xo_6, xo_21, xo_46, xo_32, xo_23, xo_56, xo_2_1, xo_20, xo_64_6, xo_2_2, xo_42, xo_72a, xo_72b, xo_2_3, xo_67_3, xo_11_5i, xo_11_5r, xo_11_5n, xo_64_2, xo_11_6i, xo_11_6r, xo_11_6n, xo_64_1, xo_1_5, xo_49, xo_37, xo_1_6, xo_57, xo_60, xo_48, xo_54, xo_67_4, xo_64_3, xo_67_5, xo_64_4, xo_62, zk_L_law_1645, zk_L_law_1650, zk_L_law_1662, xo_15_4i, xo_15_4r, xo_15_4n, z0, hv', cmpl_s, if_true, if_false, eq_self]
  · have z0 : (nI k = 0) = False := eq_false (nI_ne0 (by omega) (by omega))
    simp (disch := first | assumption | omega | exact Nat.le_of_ble_eq_true rfl | decide) only [xo_73, xo_39i, xo_39r, xo_65_1, xk_v, xk_n, xo_12_1i, xo_12_1r, xo_12_1n, xo_12_2i, xo_12_2r, xo_12_2n, xo_5, xo_75, xo_12_3i, xo_12_3r, xo_12_3n, xo_11_4i, xo_11_4r, xo_11_4n, xo_55, xo_1_4, xo_2_0, xo_36, xo_6, xo_21, xo_46, xo_32, xo_23, xo_56, xo_2_1, xo_20, xo_64_6, xo_2_2, xo_42, xo_72a, xo_72b, xo_2_3, xo_67_3, xo_11_5i, xo_11_5r, xo_11_5n, xo_64_2, xo_11_6i, xo_11_6r, xo_11_6n, xo_64_1, xo_1_5, xo_49, xo_37, xo_1_6, xo_57, xo_60, xo_48, xo_54, xo_67_4, xo_64_3, xo_67_5, xo_64_4, xo_62, zk_L_law_1645, zk_L_law_1662, xo_15_4i, xo_15_4r, xo_15_4n, z0, if_false]
theorem law_storms {G G1 : zG} {M M1 M2 : zM} {t len k : Nat} {b : Int32} {w5 w6 : Value} {x1 x2 x3 : Int32} (hx1 : M 1 (6 * t + 1) = x1) (hx2 : M 1 (6 * t + 2) = x2) (hx3 : M 1 (6 * t + 3) = x3) (s1 : (z_kd G 1).1 = 1) (s2 : (z_kd G 1).2 = len) (hi : 6 * t + 6 ≤ len) (hl : len ≤ 3072) (e1 : z_call 143 [.ref 32, .int x1, .int x2, .int x3, .ref 472] G M = some (.inl (some (.int (nI k))), G1, M1)) (g1 : (z_kd G1 1).1 = 1) (g2 : (z_kd G1 1).2 = len) (m1 : M1 1 = M 1) (km : z_kd G1 455 = (0, 7)) (e2 : z_call 243 [.ref 455, .int x1, .int x2, .int x3] G1 M1 = some (.inl (some (.int b)), G1, M2)) (e3 : M2 455 0 = nI k) (o1 : (z_kd G1 472).1 = 2) (o2 : (z_kd G1 472).2 = 1) (hv : k = 0 → z_lg G1 472 0 = b.toInt64) (hk : k ≤ 2) : z_ex 248 (z_blk 248 1665) [.ref 1, .ref 32, .ref 455, .ref 472, .int (nI (6 * t)), w5, w6] [] G M = z_ex 248 (z_blk 248 1784) [.ref 1, .ref 32, .ref 455, .ref 472, .int (nI (6 * t)), .int (nI k), .int b] [] G1 M2 := by
  have km' : z_kd G1 455 = (0, z_rc 243) := km
  have km2 : z_kd G1 455 = (0, z_rc 157) := km
  have ct := c_M_thrown km M2
  rw [e3] at ct
  have l1 : 6 * t + 1 < (z_kd G 1).2 := by omega
  have n1 : 6 * t + 1 < (z_kd G1 1).2 := by omega
  have l2 : 6 * t + 2 < (z_kd G 1).2 := by omega
  have n2 : 6 * t + 2 < (z_kd G1 1).2 := by omega
  have l3 : 6 * t + 3 < (z_kd G 1).2 := by omega
  have n3 : 6 * t + 3 < (z_kd G1 1).2 := by omega
  have oo : 0 < (z_kd G1 472).2 := by omega
  have e0 : z_ex 248 (z_blk 248 1665) [.ref 1, .ref 32, .ref 455, .ref 472, .int (nI (6 * t)), w5, w6] [] G M = z_ex 248 (z_blk 248 1725) [.ref 1, .ref 32, .ref 455, .ref 472, .int (nI (6 * t)), .int (nI k), .int b] [] G1 M2 := by
    simp (disch := first | assumption | omega | exact Nat.le_of_ble_eq_true rfl | decide) only [xo_73, xo_39i, xo_39r, xo_65_1, xk_v, xk_n, xo_12_1i, xo_12_1r, xo_12_1n, xo_12_2i, xo_12_2r, xo_12_2n, xo_5, xo_75, xo_12_3i, xo_12_3r, xo_12_3n, xo_11_4i, xo_11_4r, xo_11_4n, xo_55, xo_1_4, xo_2_0, xo_36, xo_6, xo_21, xo_46, xo_32, xo_23, xo_56, xo_2_1, xo_20, xo_64_6, xo_2_2, xo_42, xo_72a, xo_72b, xo_2_3, xo_67_3, xo_11_5i, xo_11_5r, xo_11_5n, xo_64_2, xo_11_6i, xo_11_6r, xo_11_6n, xo_64_1, xo_1_5, xo_49, xo_37, xo_1_6, xo_57, xo_60, xo_48, xo_54, xo_67_4, xo_64_3, xo_67_5, xo_64_4, xo_62, zk_L_law_1665, xo_15_4i, xo_15_4r, xo_15_4n, nI_add, e1, m1, e2, ct, hx1, hx2, hx3, if_true]
  rw [e0]
  by_cases h0 : k = 0
  · subst h0
    have z0 : (nI 0 = 0) = True := zer0
    have hv' := hv rfl
    simp (disch := first | assumption | omega | exact Nat.le_of_ble_eq_true rfl | decide) only [xo_73, xo_39i, xo_39r, xo_65_1, xk_v, xk_n, xo_12_1i, xo_12_1r, xo_12_1n, xo_12_2i, xo_12_2r, xo_12_2n, xo_5, xo_75, xo_12_3i, xo_12_3r, xo_12_3n, xo_11_4i, xo_11_4r, xo_11_4n, xo_55, xo_1_4, xo_2_0, xo_36, xo_6, xo_21, xo_46, xo_32, xo_23, xo_56, xo_2_1, xo_20, xo_64_6, xo_2_2, xo_42, xo_72a, xo_72b, xo_2_3, xo_67_3, xo_11_5i, xo_11_5r, xo_11_5n, xo_64_2, xo_11_6i, xo_11_6r, xo_11_6n, xo_64_1, xo_1_5, xo_49, xo_37, xo_1_6, xo_57, xo_60, xo_48, xo_54, xo_67_4, xo_64_3, xo_67_5, xo_64_4, xo_62, zk_L_law_1725, zk_L_law_1730, zk_L_law_1742, xo_15_4i, xo_15_4r, xo_15_4n, z0, hv', cmpl_s, if_true, if_false, eq_self]
  · have z0 : (nI k = 0) = False := eq_false (nI_ne0 (by omega) (by omega))
    simp (disch := first | assumption | omega | exact Nat.le_of_ble_eq_true rfl | decide) only [xo_73, xo_39i, xo_39r, xo_65_1, xk_v, xk_n, xo_12_1i, xo_12_1r, xo_12_1n, xo_12_2i, xo_12_2r, xo_12_2n, xo_5, xo_75, xo_12_3i, xo_12_3r, xo_12_3n, xo_11_4i, xo_11_4r, xo_11_4n, xo_55, xo_1_4, xo_2_0, xo_36, xo_6, xo_21, xo_46, xo_32, xo_23, xo_56, xo_2_1, xo_20, xo_64_6, xo_2_2, xo_42, xo_72a, xo_72b, xo_2_3, xo_67_3, xo_11_5i, xo_11_5r, xo_11_5n, xo_64_2, xo_11_6i, xo_11_6r, xo_11_6n, xo_64_1, xo_1_5, xo_49, xo_37, xo_1_6, xo_57, xo_60, xo_48, xo_54, xo_67_4, xo_64_3, xo_67_5, xo_64_4, xo_62, zk_L_law_1725, zk_L_law_1742, xo_15_4i, xo_15_4r, xo_15_4n, z0, if_false]
theorem law_feed {G G1 : zG} {M M1 M2 : zM} {t len : Nat} {v : Int32} {w5 w6 : Value} {x1 x2 x3 x4 x5 : Int32} (hx1 : M 1 (6 * t + 1) = x1) (hx2 : M 1 (6 * t + 2) = x2) (hx3 : M 1 (6 * t + 3) = x3) (hx4 : M 1 (6 * t + 4) = x4) (hx5 : M 1 (6 * t + 5) = x5) (s1 : (z_kd G 1).1 = 1) (s2 : (z_kd G 1).2 = len) (hi : 6 * t + 6 ≤ len) (hl : len ≤ 3072) (k32 : z_kd G 32 = (0, 6)) (e1 : z_call 20 [.ref 32, .int x1, .int x2, .int x3, .int x4, .int x5] G M = some (.inl (some (.int v)), G1, M1)) (g1 : (z_kd G1 1).1 = 1) (g2 : (z_kd G1 1).2 = len) (m1 : M1 1 = M 1) (km : z_kd G1 455 = (0, 7)) (e2 : z_call 158 [.ref 455, .int x1, .int x2, .int x3, .int x4, .int x5] G1 M1 = some (.inl (some (.int v)), G1, M2)) : z_ex 248 (z_blk 248 176) [.ref 1, .ref 32, .ref 455, .ref 472, .int (nI (6 * t)), w5, w6] [] G M = z_ex 248 (z_blk 248 1784) [.ref 1, .ref 32, .ref 455, .ref 472, .int (nI (6 * t)), w5, w6] [] G1 M2 := by
  have k32' : z_kd G 32 = (0, z_rc 20) := k32
  have km' : z_kd G1 455 = (0, z_rc 158) := km
  have l1 : 6 * t + 1 < (z_kd G 1).2 := by omega
  have n1 : 6 * t + 1 < (z_kd G1 1).2 := by omega
  have l2 : 6 * t + 2 < (z_kd G 1).2 := by omega
  have n2 : 6 * t + 2 < (z_kd G1 1).2 := by omega
  have l3 : 6 * t + 3 < (z_kd G 1).2 := by omega
  have n3 : 6 * t + 3 < (z_kd G1 1).2 := by omega
  have l4 : 6 * t + 4 < (z_kd G 1).2 := by omega
  have n4 : 6 * t + 4 < (z_kd G1 1).2 := by omega
  have l5 : 6 * t + 5 < (z_kd G 1).2 := by omega
  have n5 : 6 * t + 5 < (z_kd G1 1).2 := by omega
  simp (disch := first | assumption | omega | exact Nat.le_of_ble_eq_true rfl | decide) only [xo_73, xo_39i, xo_39r, xo_65_1, xk_v, xk_n, xo_12_1i, xo_12_1r, xo_12_1n, xo_12_2i, xo_12_2r, xo_12_2n, xo_5, xo_75, xo_12_3i, xo_12_3r, xo_12_3n, xo_11_4i, xo_11_4r, xo_11_4n, xo_55, xo_1_4, xo_2_0, xo_36, xo_6, xo_21, xo_46, xo_32, xo_23, xo_56, zk_L_law_176, xo_2_1, xo_20, xo_64_6, xo_2_2, xo_42, xo_72a, xo_72b, xo_2_3, xo_67_3, xo_11_5i, xo_11_5r, xo_11_5n, xo_64_2, xo_11_6i, xo_11_6r, xo_11_6n, xo_64_1, xo_1_5, xo_49, xo_37, xo_1_6, xo_57, xo_60, xo_48, xo_54, xo_67_4, xo_64_3, xo_67_5, xo_64_4, xo_62, xo_15_4i, xo_15_4r, xo_15_4n, nI_add, e1, m1, e2, hx1, hx2, hx3, hx4, hx5, cmpl_s, if_true, eq_self]
theorem law_fault {G G1 : zG} {M M1 M2 : zM} {t len : Nat} {v : Int32} {w5 w6 : Value} (s1 : (z_kd G 1).1 = 1) (s2 : (z_kd G 1).2 = len) (hi : 6 * t + 6 ≤ len) (hl : len ≤ 3072) (k32 : z_kd G 32 = (0, 6)) (e1 : z_call 22 [.ref 32] G M = some (.inl (some (.int v)), G1, M1)) (g1 : (z_kd G1 1).1 = 1) (g2 : (z_kd G1 1).2 = len) (m1 : M1 1 = M 1) (km : z_kd G1 455 = (0, 7)) (e2 : z_call 175 [.ref 455] G1 M1 = some (.inl (some (.int v)), G1, M2)) : z_ex 248 (z_blk 248 305) [.ref 1, .ref 32, .ref 455, .ref 472, .int (nI (6 * t)), w5, w6] [] G M = z_ex 248 (z_blk 248 1784) [.ref 1, .ref 32, .ref 455, .ref 472, .int (nI (6 * t)), w5, w6] [] G1 M2 := by
  have k32' : z_kd G 32 = (0, z_rc 22) := k32
  have km' : z_kd G1 455 = (0, z_rc 175) := km
  simp (disch := first | assumption | omega | exact Nat.le_of_ble_eq_true rfl | decide) only [xo_73, xo_39i, xo_39r, xo_65_1, xk_v, xk_n, xo_12_1i, xo_12_1r, xo_12_1n, xo_12_2i, xo_12_2r, xo_12_2n, xo_5, xo_75, xo_12_3i, xo_12_3r, xo_12_3n, xo_11_4i, xo_11_4r, xo_11_4n, xo_55, xo_1_4, xo_2_0, xo_36, xo_6, xo_21, xo_46, xo_32, xo_23, xo_56, xo_2_1, xo_20, xo_64_6, xo_2_2, xo_42, xo_72a, xo_72b, xo_2_3, xo_67_3, xo_11_5i, xo_11_5r, xo_11_5n, xo_64_2, xo_11_6i, xo_11_6r, xo_11_6n, xo_64_1, xo_1_5, xo_49, xo_37, xo_1_6, xo_57, xo_60, xo_48, xo_54, zk_L_law_305, xo_67_4, xo_64_3, xo_67_5, xo_64_4, xo_62, xo_15_4i, xo_15_4r, xo_15_4n, nI_add, e1, m1, e2, cmpl_s, if_true, eq_self]
theorem law_heal {G G1 : zG} {M M1 M2 : zM} {t len : Nat} {v : Int32} {w5 w6 : Value} (s1 : (z_kd G 1).1 = 1) (s2 : (z_kd G 1).2 = len) (hi : 6 * t + 6 ≤ len) (hl : len ≤ 3072) (k32 : z_kd G 32 = (0, 6)) (e1 : z_call 23 [.ref 32] G M = some (.inl (some (.int v)), G1, M1)) (g1 : (z_kd G1 1).1 = 1) (g2 : (z_kd G1 1).2 = len) (m1 : M1 1 = M 1) (km : z_kd G1 455 = (0, 7)) (e2 : z_call 202 [.ref 455] G1 M1 = some (.inl (some (.int v)), G1, M2)) : z_ex 248 (z_blk 248 430) [.ref 1, .ref 32, .ref 455, .ref 472, .int (nI (6 * t)), w5, w6] [] G M = z_ex 248 (z_blk 248 1784) [.ref 1, .ref 32, .ref 455, .ref 472, .int (nI (6 * t)), w5, w6] [] G1 M2 := by
  have k32' : z_kd G 32 = (0, z_rc 23) := k32
  have km' : z_kd G1 455 = (0, z_rc 202) := km
  simp (disch := first | assumption | omega | exact Nat.le_of_ble_eq_true rfl | decide) only [xo_73, xo_39i, xo_39r, xo_65_1, xk_v, xk_n, xo_12_1i, xo_12_1r, xo_12_1n, xo_12_2i, xo_12_2r, xo_12_2n, xo_5, xo_75, xo_12_3i, xo_12_3r, xo_12_3n, xo_11_4i, xo_11_4r, xo_11_4n, xo_55, xo_1_4, xo_2_0, xo_36, xo_6, xo_21, xo_46, xo_32, xo_23, xo_56, xo_2_1, xo_20, xo_64_6, xo_2_2, xo_42, xo_72a, xo_72b, xo_2_3, xo_67_3, xo_11_5i, xo_11_5r, xo_11_5n, xo_64_2, xo_11_6i, xo_11_6r, xo_11_6n, xo_64_1, xo_1_5, xo_49, xo_37, xo_1_6, xo_57, xo_60, xo_48, xo_54, zk_L_law_430, xo_67_4, xo_64_3, xo_67_5, xo_64_4, xo_62, xo_15_4i, xo_15_4r, xo_15_4n, nI_add, e1, m1, e2, cmpl_s, if_true, eq_self]
theorem law_undo {G G1 : zG} {M M1 M2 : zM} {t len : Nat} {v : Int32} {w5 w6 : Value} (s1 : (z_kd G 1).1 = 1) (s2 : (z_kd G 1).2 = len) (hi : 6 * t + 6 ≤ len) (hl : len ≤ 3072) (k32 : z_kd G 32 = (0, 6)) (e1 : z_call 28 [.ref 32] G M = some (.inl (some (.int v)), G1, M1)) (g1 : (z_kd G1 1).1 = 1) (g2 : (z_kd G1 1).2 = len) (m1 : M1 1 = M 1) (km : z_kd G1 455 = (0, 7)) (e2 : z_call 176 [.ref 455] G1 M1 = some (.inl (some (.int v)), G1, M2)) : z_ex 248 (z_blk 248 623) [.ref 1, .ref 32, .ref 455, .ref 472, .int (nI (6 * t)), w5, w6] [] G M = z_ex 248 (z_blk 248 1784) [.ref 1, .ref 32, .ref 455, .ref 472, .int (nI (6 * t)), w5, w6] [] G1 M2 := by
  have k32' : z_kd G 32 = (0, z_rc 28) := k32
  have km' : z_kd G1 455 = (0, z_rc 176) := km
  simp (disch := first | assumption | omega | exact Nat.le_of_ble_eq_true rfl | decide) only [xo_73, xo_39i, xo_39r, xo_65_1, xk_v, xk_n, xo_12_1i, xo_12_1r, xo_12_1n, xo_12_2i, xo_12_2r, xo_12_2n, xo_5, xo_75, xo_12_3i, xo_12_3r, xo_12_3n, xo_11_4i, xo_11_4r, xo_11_4n, xo_55, xo_1_4, xo_2_0, xo_36, xo_6, xo_21, xo_46, xo_32, xo_23, xo_56, xo_2_1, xo_20, xo_64_6, xo_2_2, xo_42, xo_72a, xo_72b, xo_2_3, xo_67_3, xo_11_5i, xo_11_5r, xo_11_5n, xo_64_2, xo_11_6i, xo_11_6r, xo_11_6n, xo_64_1, xo_1_5, xo_49, xo_37, xo_1_6, xo_57, xo_60, xo_48, xo_54, xo_67_4, xo_64_3, zk_L_law_623, xo_67_5, xo_64_4, xo_62, xo_15_4i, xo_15_4r, xo_15_4n, nI_add, e1, m1, e2, cmpl_s, if_true, eq_self]
theorem law_chiefs {G G1 : zG} {M M1 M2 : zM} {t len : Nat} {v : Int32} {w5 w6 : Value} (s1 : (z_kd G 1).1 = 1) (s2 : (z_kd G 1).2 = len) (hi : 6 * t + 6 ≤ len) (hl : len ≤ 3072) (k32 : z_kd G 32 = (0, 6)) (e1 : z_call 29 [.ref 32] G M = some (.inl (some (.int v)), G1, M1)) (g1 : (z_kd G1 1).1 = 1) (g2 : (z_kd G1 1).2 = len) (m1 : M1 1 = M 1) (km : z_kd G1 455 = (0, 7)) (e2 : z_call 232 [.ref 455] G1 M1 = some (.inl (some (.int v)), G1, M2)) : z_ex 248 (z_blk 248 1255) [.ref 1, .ref 32, .ref 455, .ref 472, .int (nI (6 * t)), w5, w6] [] G M = z_ex 248 (z_blk 248 1784) [.ref 1, .ref 32, .ref 455, .ref 472, .int (nI (6 * t)), w5, w6] [] G1 M2 := by
  have k32' : z_kd G 32 = (0, z_rc 29) := k32
  have km' : z_kd G1 455 = (0, z_rc 232) := km
  simp (disch := first | assumption | omega | exact Nat.le_of_ble_eq_true rfl | decide) only [xo_73, xo_39i, xo_39r, xo_65_1, xk_v, xk_n, xo_12_1i, xo_12_1r, xo_12_1n, xo_12_2i, xo_12_2r, xo_12_2n, xo_5, xo_75, xo_12_3i, xo_12_3r, xo_12_3n, xo_11_4i, xo_11_4r, xo_11_4n, xo_55, xo_1_4, xo_2_0, xo_36, xo_6, xo_21, xo_46, xo_32, xo_23, xo_56, xo_2_1, xo_20, xo_64_6, xo_2_2, xo_42, xo_72a, xo_72b, xo_2_3, xo_67_3, xo_11_5i, xo_11_5r, xo_11_5n, xo_64_2, xo_11_6i, xo_11_6r, xo_11_6n, xo_64_1, xo_1_5, xo_49, xo_37, xo_1_6, xo_57, xo_60, xo_48, xo_54, xo_67_4, xo_64_3, xo_67_5, xo_64_4, xo_62, zk_L_law_1255, xo_15_4i, xo_15_4r, xo_15_4n, nI_add, e1, m1, e2, cmpl_s, if_true, eq_self]
theorem law_until {G G1 : zG} {M M1 M2 : zM} {t len : Nat} {v : Int32} {w5 w6 : Value} (s1 : (z_kd G 1).1 = 1) (s2 : (z_kd G 1).2 = len) (hi : 6 * t + 6 ≤ len) (hl : len ≤ 3072) (k32 : z_kd G 32 = (0, 6)) (e1 : z_call 32 [.ref 32] G M = some (.inl (some (.int v)), G1, M1)) (g1 : (z_kd G1 1).1 = 1) (g2 : (z_kd G1 1).2 = len) (m1 : M1 1 = M 1) (km : z_kd G1 455 = (0, 7)) (e2 : z_call 234 [.ref 455] G1 M1 = some (.inl (some (.int v)), G1, M2)) : z_ex 248 (z_blk 248 1336) [.ref 1, .ref 32, .ref 455, .ref 472, .int (nI (6 * t)), w5, w6] [] G M = z_ex 248 (z_blk 248 1784) [.ref 1, .ref 32, .ref 455, .ref 472, .int (nI (6 * t)), w5, w6] [] G1 M2 := by
  have k32' : z_kd G 32 = (0, z_rc 32) := k32
  have km' : z_kd G1 455 = (0, z_rc 234) := km
  simp (disch := first | assumption | omega | exact Nat.le_of_ble_eq_true rfl | decide) only [xo_73, xo_39i, xo_39r, xo_65_1, xk_v, xk_n, xo_12_1i, xo_12_1r, xo_12_1n, xo_12_2i, xo_12_2r, xo_12_2n, xo_5, xo_75, xo_12_3i, xo_12_3r, xo_12_3n, xo_11_4i, xo_11_4r, xo_11_4n, xo_55, xo_1_4, xo_2_0, xo_36, xo_6, xo_21, xo_46, xo_32, xo_23, xo_56, xo_2_1, xo_20, xo_64_6, xo_2_2, xo_42, xo_72a, xo_72b, xo_2_3, xo_67_3, xo_11_5i, xo_11_5r, xo_11_5n, xo_64_2, xo_11_6i, xo_11_6r, xo_11_6n, xo_64_1, xo_1_5, xo_49, xo_37, xo_1_6, xo_57, xo_60, xo_48, xo_54, xo_67_4, xo_64_3, xo_67_5, xo_64_4, xo_62, zk_L_law_1336, xo_15_4i, xo_15_4r, xo_15_4n, nI_add, e1, m1, e2, cmpl_s, if_true, eq_self]
theorem law_print {G G1 : zG} {M M1 M2 : zM} {t len : Nat} {v : Int64} {w5 w6 : Value} (s1 : (z_kd G 1).1 = 1) (s2 : (z_kd G 1).2 = len) (hi : 6 * t + 6 ≤ len) (hl : len ≤ 3072) (k32 : z_kd G 32 = (0, 6)) (e1 : z_call 56 [.ref 32] G M = some (.inl (some (.long v)), G1, M1)) (g1 : (z_kd G1 1).1 = 1) (g2 : (z_kd G1 1).2 = len) (m1 : M1 1 = M 1) (km : z_kd G1 455 = (0, 7)) (e2 : z_call 246 [.ref 455] G1 M1 = some (.inl (some (.long v)), G1, M2)) : z_ex 248 (z_blk 248 1745) [.ref 1, .ref 32, .ref 455, .ref 472, .int (nI (6 * t)), w5, w6] [] G M = z_ex 248 (z_blk 248 1784) [.ref 1, .ref 32, .ref 455, .ref 472, .int (nI (6 * t)), w5, w6] [] G1 M2 := by
  have k32' : z_kd G 32 = (0, z_rc 56) := k32
  have km' : z_kd G1 455 = (0, z_rc 246) := km
  simp (disch := first | assumption | omega | exact Nat.le_of_ble_eq_true rfl | decide) only [xo_73, xo_39i, xo_39r, xo_65_1, xk_v, xk_n, xo_12_1i, xo_12_1r, xo_12_1n, xo_12_2i, xo_12_2r, xo_12_2n, xo_5, xo_75, xo_12_3i, xo_12_3r, xo_12_3n, xo_11_4i, xo_11_4r, xo_11_4n, xo_55, xo_1_4, xo_2_0, xo_36, xo_6, xo_21, xo_46, xo_32, xo_23, xo_56, xo_2_1, xo_20, xo_64_6, xo_2_2, xo_42, xo_72a, xo_72b, xo_2_3, xo_67_3, xo_11_5i, xo_11_5r, xo_11_5n, xo_64_2, xo_11_6i, xo_11_6r, xo_11_6n, xo_64_1, xo_1_5, xo_49, xo_37, xo_1_6, xo_57, xo_60, xo_48, xo_54, xo_67_4, xo_64_3, xo_67_5, xo_64_4, xo_62, zk_L_law_1745, xo_15_4i, xo_15_4r, xo_15_4n, nI_add, e1, m1, e2, cmpl_s, if_true, eq_self]
theorem law_status {G G1 : zG} {M M1 M2 : zM} {t len : Nat} {v : Int32} {w5 w6 : Value} {x1 : Int32} (hx1 : M 1 (6 * t + 1) = x1) (s1 : (z_kd G 1).1 = 1) (s2 : (z_kd G 1).2 = len) (hi : 6 * t + 6 ≤ len) (hl : len ≤ 3072) (k32 : z_kd G 32 = (0, 6)) (e1 : z_call 57 [.ref 32, .int x1] G M = some (.inl (some (.int v)), G1, M1)) (g1 : (z_kd G1 1).1 = 1) (g2 : (z_kd G1 1).2 = len) (m1 : M1 1 = M 1) (km : z_kd G1 455 = (0, 7)) (e2 : z_call 247 [.ref 455, .int x1] G1 M1 = some (.inl (some (.int v)), G1, M2)) : z_ex 248 (z_blk 248 1759) [.ref 1, .ref 32, .ref 455, .ref 472, .int (nI (6 * t)), w5, w6] [] G M = z_ex 248 (z_blk 248 1784) [.ref 1, .ref 32, .ref 455, .ref 472, .int (nI (6 * t)), w5, w6] [] G1 M2 := by
  have k32' : z_kd G 32 = (0, z_rc 57) := k32
  have km' : z_kd G1 455 = (0, z_rc 247) := km
  have l1 : 6 * t + 1 < (z_kd G 1).2 := by omega
  have n1 : 6 * t + 1 < (z_kd G1 1).2 := by omega
  simp (disch := first | assumption | omega | exact Nat.le_of_ble_eq_true rfl | decide) only [xo_73, xo_39i, xo_39r, xo_65_1, xk_v, xk_n, xo_12_1i, xo_12_1r, xo_12_1n, xo_12_2i, xo_12_2r, xo_12_2n, xo_5, xo_75, xo_12_3i, xo_12_3r, xo_12_3n, xo_11_4i, xo_11_4r, xo_11_4n, xo_55, xo_1_4, xo_2_0, xo_36, xo_6, xo_21, xo_46, xo_32, xo_23, xo_56, xo_2_1, xo_20, xo_64_6, xo_2_2, xo_42, xo_72a, xo_72b, xo_2_3, xo_67_3, xo_11_5i, xo_11_5r, xo_11_5n, xo_64_2, xo_11_6i, xo_11_6r, xo_11_6n, xo_64_1, xo_1_5, xo_49, xo_37, xo_1_6, xo_57, xo_60, xo_48, xo_54, xo_67_4, xo_64_3, xo_67_5, xo_64_4, xo_62, zk_L_law_1759, xo_15_4i, xo_15_4r, xo_15_4n, nI_add, e1, m1, e2, hx1, cmpl_s, if_true, eq_self]
