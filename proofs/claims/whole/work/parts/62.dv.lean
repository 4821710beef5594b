/-! ===== a draw lies below its bound ===== -/
theorem nI_ofI (a : Nat) : nI a = Int32.ofInt (a : Int) := by
  first | rfl | exact (Int32.ofInt_natCast a).symm | simp [nI]
theorem nI_divN {y k : Nat} (hy : y < 65536) (hk : k ≤ 256) : nI y / nI k = nI (y / k) := by
  rw [nI_ofI y, nI_ofI k, ← Int32.ofInt_tdiv (by rw [show Int32.minValue.toInt = -2147483648 by decide]; omega) (by rw [show Int32.maxValue.toInt = 2147483647 by decide]; omega) (by rw [show Int32.minValue.toInt = -2147483648 by decide]; omega) (by rw [show Int32.maxValue.toInt = 2147483647 by decide]; omega), ← Int.ofNat_tdiv, ← nI_ofI]
theorem nI_remN {y k : Nat} (hy : y < 65536) (hk : k ≤ 256) : nI y - nI y / nI k * nI k = nI (y % k) := by
  have e : y = y % k + y / k * k := by rw [Nat.mul_comm]; exact (Nat.mod_add_div y k).symm
  have e2 : nI y = nI (y % k) + nI (y / k) * nI k := by rw [pk_mul, nI_add, ← e]
  rw [nI_divN hy hk]
  conv => lhs; lhs; rw [e2]
  rw [Int32.add_sub_cancel]
theorem z_ushrN (x : Int32) : ∃ y, y < 65536 ∧ z_ushr x (nI 16) = nI y := by
  refine ⟨(x.toUInt32 >>> 16).toNat, ?_, ?_⟩
  · rw [UInt32.toNat_shiftRight]
    have := x.toUInt32.toNat_lt
    rw [Nat.shiftRight_eq_div_pow, show (16 : UInt32).toNat % 32 = 16 by decide]
    omega
  · have e : z_ushr x (nI 16) = (x.toUInt32 >>> 16).toInt32 := by
      unfold z_ushr
      rw [show (nI 16).toUInt32 &&& Int32.toUInt32 31 = 16 by decide]
    rw [e]
    generalize x.toUInt32 >>> 16 = u
    conv => lhs; rw [← UInt32.ofNat_toNat (x := u)]
    rw [UInt32.toInt32_ofNat']
    first | rfl | simp [nI]
theorem f_dvN (x : Int32) {k : Nat} (h1 : 1 ≤ k) (hk : k ≤ 256) : ∃ d, d < k ∧ f_dv x (nI k) = nI d := by
  obtain ⟨y, y1, y2⟩ := z_ushrN x
  refine ⟨y % k, Nat.mod_lt _ h1, ?_⟩
  unfold f_dv
  rw [y2]
  exact nI_remN y1 hk
