/-! ===== printed by program (wip/whole/genxv.py): operations on another world's cells ===== -/
theorem xv_16w {G : zG} {b d : Nat} (hW : z_HW G b) (hD : z_HW G d) (dj : d + 41 ≤ b ∨ b + 41 ≤ d) (M V : zM) (m c pc : Nat) (ops : List zO) (ls st : List Value) (f : Nat) : z_ex m ((16, 5, f, c, pc) :: ops) ls (.ref d :: st) G (wr M b V) = z_ex m ops ls (.int (M d f) :: st) G (wr M b V) := by
  have ho : d < b ∨ b + 41 ≤ d := by omega
  obtain ⟨hb, w0, ⟨w3, w4, w5, w6, w7⟩, ⟨x1, x2⟩, ⟨x3, x4⟩, ⟨x5, x6⟩, a0, ⟨a1, a2, a3⟩, ⟨x7, x8⟩, ⟨x9, x10⟩, ⟨x11, x12⟩, ⟨x13, x14⟩, hmem⟩ := hD
  rw [xo_16 _ _ _ _ _ _ _ _ _ _ _ w0 (hb), wr_o _ _ _ _ ho]
theorem xv_16a {G : zG} {b d : Nat} (hW : z_HW G b) (hD : z_HW G d) (dj : d + 41 ≤ b ∨ b + 41 ≤ d) (M V : zM) (m c pc : Nat) (ops : List zO) (ls st : List Value) (f : Nat) : z_ex m ((16, 1, f, c, pc) :: ops) ls (.ref (d + 4) :: st) G (wr M b V) = z_ex m ops ls (.int (M (d + 4) f) :: st) G (wr M b V) := by
  have ho : (d + 4) < b ∨ b + 41 ≤ (d + 4) := by omega
  obtain ⟨hb, w0, ⟨w3, w4, w5, w6, w7⟩, ⟨x1, x2⟩, ⟨x3, x4⟩, ⟨x5, x6⟩, a0, ⟨a1, a2, a3⟩, ⟨x7, x8⟩, ⟨x9, x10⟩, ⟨x11, x12⟩, ⟨x13, x14⟩, hmem⟩ := hD
  rw [xo_16 _ _ _ _ _ _ _ _ _ _ _ a0 (Nat.le_trans hb (Nat.le_add_right d _)), wr_o _ _ _ _ ho]
theorem xv_16b {G : zG} {b d : Nat} (hW : z_HW G b) (hD : z_HW G d) (dj : d + 41 ≤ b ∨ b + 41 ≤ d) (M V : zM) (m c pc : Nat) (ops : List zO) (ls st : List Value) (i : Nat) (hi : i < 8) (f : Nat) : z_ex m ((16, 2, f, c, pc) :: ops) ls (.ref (d + (9 + 4 * i)) :: st) G (wr M b V) = z_ex m ops ls (.int (M (d + (9 + 4 * i)) f) :: st) G (wr M b V) := by
  have ho : (d + (9 + 4 * i)) < b ∨ b + 41 ≤ (d + (9 + 4 * i)) := by omega
  obtain ⟨hb, w0, ⟨w3, w4, w5, w6, w7⟩, ⟨x1, x2⟩, ⟨x3, x4⟩, ⟨x5, x6⟩, a0, ⟨a1, a2, a3⟩, ⟨x7, x8⟩, ⟨x9, x10⟩, ⟨x11, x12⟩, ⟨x13, x14⟩, hmem⟩ := hD; obtain ⟨m0, m1, ⟨m2, m3, m4⟩, ⟨y1, y2⟩, ⟨y3, y4⟩, ⟨y5, y6⟩⟩ := hmem i hi
  rw [xo_16 _ _ _ _ _ _ _ _ _ _ _ m1 (Nat.le_trans hb (Nat.le_add_right d _)), wr_o _ _ _ _ ho]
theorem xv_17w_3 {G : zG} {b d : Nat} (hW : z_HW G b) (hD : z_HW G d) (dj : d + 41 ≤ b ∨ b + 41 ≤ d) (M V : zM) (m c pc : Nat) (ops : List zO) (ls st : List Value) : z_ex m ((17, 5, 3, c, pc) :: ops) ls (.ref d :: st) G (wr M b V) = z_ex m ops ls (.ref (d + 1) :: st) G (wr M b V) := by
  obtain ⟨hb, w0, ⟨w3, w4, w5, w6, w7⟩, ⟨x1, x2⟩, ⟨x3, x4⟩, ⟨x5, x6⟩, a0, ⟨a1, a2, a3⟩, ⟨x7, x8⟩, ⟨x9, x10⟩, ⟨x11, x12⟩, ⟨x13, x14⟩, hmem⟩ := hD
  rw [xo_17 _ _ _ _ _ _ _ _ _ _ _ w0 (hb) (by rw [w3]; exact Nat.ne_of_gt (Nat.lt_of_lt_of_le (Nat.lt_of_lt_of_le (by decide) hb) (Nat.le_add_right d _))), w3]
theorem xv_17w_4 {G : zG} {b d : Nat} (hW : z_HW G b) (hD : z_HW G d) (dj : d + 41 ≤ b ∨ b + 41 ≤ d) (M V : zM) (m c pc : Nat) (ops : List zO) (ls st : List Value) : z_ex m ((17, 5, 4, c, pc) :: ops) ls (.ref d :: st) G (wr M b V) = z_ex m ops ls (.ref (d + 2) :: st) G (wr M b V) := by
  obtain ⟨hb, w0, ⟨w3, w4, w5, w6, w7⟩, ⟨x1, x2⟩, ⟨x3, x4⟩, ⟨x5, x6⟩, a0, ⟨a1, a2, a3⟩, ⟨x7, x8⟩, ⟨x9, x10⟩, ⟨x11, x12⟩, ⟨x13, x14⟩, hmem⟩ := hD
  rw [xo_17 _ _ _ _ _ _ _ _ _ _ _ w0 (hb) (by rw [w4]; exact Nat.ne_of_gt (Nat.lt_of_lt_of_le (Nat.lt_of_lt_of_le (by decide) hb) (Nat.le_add_right d _))), w4]
theorem xv_17w_5 {G : zG} {b d : Nat} (hW : z_HW G b) (hD : z_HW G d) (dj : d + 41 ≤ b ∨ b + 41 ≤ d) (M V : zM) (m c pc : Nat) (ops : List zO) (ls st : List Value) : z_ex m ((17, 5, 5, c, pc) :: ops) ls (.ref d :: st) G (wr M b V) = z_ex m ops ls (.ref (d + 3) :: st) G (wr M b V) := by
  obtain ⟨hb, w0, ⟨w3, w4, w5, w6, w7⟩, ⟨x1, x2⟩, ⟨x3, x4⟩, ⟨x5, x6⟩, a0, ⟨a1, a2, a3⟩, ⟨x7, x8⟩, ⟨x9, x10⟩, ⟨x11, x12⟩, ⟨x13, x14⟩, hmem⟩ := hD
  rw [xo_17 _ _ _ _ _ _ _ _ _ _ _ w0 (hb) (by rw [w5]; exact Nat.ne_of_gt (Nat.lt_of_lt_of_le (Nat.lt_of_lt_of_le (by decide) hb) (Nat.le_add_right d _))), w5]
theorem xv_17w_6 {G : zG} {b d : Nat} (hW : z_HW G b) (hD : z_HW G d) (dj : d + 41 ≤ b ∨ b + 41 ≤ d) (M V : zM) (m c pc : Nat) (ops : List zO) (ls st : List Value) : z_ex m ((17, 5, 6, c, pc) :: ops) ls (.ref d :: st) G (wr M b V) = z_ex m ops ls (.ref (d + 4) :: st) G (wr M b V) := by
  obtain ⟨hb, w0, ⟨w3, w4, w5, w6, w7⟩, ⟨x1, x2⟩, ⟨x3, x4⟩, ⟨x5, x6⟩, a0, ⟨a1, a2, a3⟩, ⟨x7, x8⟩, ⟨x9, x10⟩, ⟨x11, x12⟩, ⟨x13, x14⟩, hmem⟩ := hD
  rw [xo_17 _ _ _ _ _ _ _ _ _ _ _ w0 (hb) (by rw [w6]; exact Nat.ne_of_gt (Nat.lt_of_lt_of_le (Nat.lt_of_lt_of_le (by decide) hb) (Nat.le_add_right d _))), w6]
theorem xv_17w_7 {G : zG} {b d : Nat} (hW : z_HW G b) (hD : z_HW G d) (dj : d + 41 ≤ b ∨ b + 41 ≤ d) (M V : zM) (m c pc : Nat) (ops : List zO) (ls st : List Value) : z_ex m ((17, 5, 7, c, pc) :: ops) ls (.ref d :: st) G (wr M b V) = z_ex m ops ls (.ref (d + 8) :: st) G (wr M b V) := by
  obtain ⟨hb, w0, ⟨w3, w4, w5, w6, w7⟩, ⟨x1, x2⟩, ⟨x3, x4⟩, ⟨x5, x6⟩, a0, ⟨a1, a2, a3⟩, ⟨x7, x8⟩, ⟨x9, x10⟩, ⟨x11, x12⟩, ⟨x13, x14⟩, hmem⟩ := hD
  rw [xo_17 _ _ _ _ _ _ _ _ _ _ _ w0 (hb) (by rw [w7]; exact Nat.ne_of_gt (Nat.lt_of_lt_of_le (Nat.lt_of_lt_of_le (by decide) hb) (Nat.le_add_right d _))), w7]
theorem xv_17a_0 {G : zG} {b d : Nat} (hW : z_HW G b) (hD : z_HW G d) (dj : d + 41 ≤ b ∨ b + 41 ≤ d) (M V : zM) (m c pc : Nat) (ops : List zO) (ls st : List Value) : z_ex m ((17, 1, 0, c, pc) :: ops) ls (.ref (d + 4) :: st) G (wr M b V) = z_ex m ops ls (.ref (d + 5) :: st) G (wr M b V) := by
  obtain ⟨hb, w0, ⟨w3, w4, w5, w6, w7⟩, ⟨x1, x2⟩, ⟨x3, x4⟩, ⟨x5, x6⟩, a0, ⟨a1, a2, a3⟩, ⟨x7, x8⟩, ⟨x9, x10⟩, ⟨x11, x12⟩, ⟨x13, x14⟩, hmem⟩ := hD
  rw [xo_17 _ _ _ _ _ _ _ _ _ _ _ a0 (Nat.le_trans hb (Nat.le_add_right d _)) (by rw [a1]; exact Nat.ne_of_gt (Nat.lt_of_lt_of_le (Nat.lt_of_lt_of_le (by decide) hb) (Nat.le_add_right d _))), a1]
theorem xv_17a_4 {G : zG} {b d : Nat} (hW : z_HW G b) (hD : z_HW G d) (dj : d + 41 ≤ b ∨ b + 41 ≤ d) (M V : zM) (m c pc : Nat) (ops : List zO) (ls st : List Value) : z_ex m ((17, 1, 4, c, pc) :: ops) ls (.ref (d + 4) :: st) G (wr M b V) = z_ex m ops ls (.ref (d + 6) :: st) G (wr M b V) := by
  obtain ⟨hb, w0, ⟨w3, w4, w5, w6, w7⟩, ⟨x1, x2⟩, ⟨x3, x4⟩, ⟨x5, x6⟩, a0, ⟨a1, a2, a3⟩, ⟨x7, x8⟩, ⟨x9, x10⟩, ⟨x11, x12⟩, ⟨x13, x14⟩, hmem⟩ := hD
  rw [xo_17 _ _ _ _ _ _ _ _ _ _ _ a0 (Nat.le_trans hb (Nat.le_add_right d _)) (by rw [a2]; exact Nat.ne_of_gt (Nat.lt_of_lt_of_le (Nat.lt_of_lt_of_le (by decide) hb) (Nat.le_add_right d _))), a2]
theorem xv_17a_5 {G : zG} {b d : Nat} (hW : z_HW G b) (hD : z_HW G d) (dj : d + 41 ≤ b ∨ b + 41 ≤ d) (M V : zM) (m c pc : Nat) (ops : List zO) (ls st : List Value) : z_ex m ((17, 1, 5, c, pc) :: ops) ls (.ref (d + 4) :: st) G (wr M b V) = z_ex m ops ls (.ref (d + 7) :: st) G (wr M b V) := by
  obtain ⟨hb, w0, ⟨w3, w4, w5, w6, w7⟩, ⟨x1, x2⟩, ⟨x3, x4⟩, ⟨x5, x6⟩, a0, ⟨a1, a2, a3⟩, ⟨x7, x8⟩, ⟨x9, x10⟩, ⟨x11, x12⟩, ⟨x13, x14⟩, hmem⟩ := hD
  rw [xo_17 _ _ _ _ _ _ _ _ _ _ _ a0 (Nat.le_trans hb (Nat.le_add_right d _)) (by rw [a3]; exact Nat.ne_of_gt (Nat.lt_of_lt_of_le (Nat.lt_of_lt_of_le (by decide) hb) (Nat.le_add_right d _))), a3]
theorem xv_17b_12 {G : zG} {b d : Nat} (hW : z_HW G b) (hD : z_HW G d) (dj : d + 41 ≤ b ∨ b + 41 ≤ d) (M V : zM) (m c pc : Nat) (ops : List zO) (ls st : List Value) (i : Nat) (hi : i < 8) : z_ex m ((17, 2, 12, c, pc) :: ops) ls (.ref (d + (9 + 4 * i)) :: st) G (wr M b V) = z_ex m ops ls (.ref (d + (10 + 4 * i)) :: st) G (wr M b V) := by
  obtain ⟨hb, w0, ⟨w3, w4, w5, w6, w7⟩, ⟨x1, x2⟩, ⟨x3, x4⟩, ⟨x5, x6⟩, a0, ⟨a1, a2, a3⟩, ⟨x7, x8⟩, ⟨x9, x10⟩, ⟨x11, x12⟩, ⟨x13, x14⟩, hmem⟩ := hD; obtain ⟨m0, m1, ⟨m2, m3, m4⟩, ⟨y1, y2⟩, ⟨y3, y4⟩, ⟨y5, y6⟩⟩ := hmem i hi
  rw [xo_17 _ _ _ _ _ _ _ _ _ _ _ m1 (Nat.le_trans hb (Nat.le_add_right d _)) (by rw [m2]; exact Nat.ne_of_gt (Nat.lt_of_lt_of_le (Nat.lt_of_lt_of_le (by decide) hb) (Nat.le_add_right d _))), m2]
theorem xv_17b_13 {G : zG} {b d : Nat} (hW : z_HW G b) (hD : z_HW G d) (dj : d + 41 ≤ b ∨ b + 41 ≤ d) (M V : zM) (m c pc : Nat) (ops : List zO) (ls st : List Value) (i : Nat) (hi : i < 8) : z_ex m ((17, 2, 13, c, pc) :: ops) ls (.ref (d + (9 + 4 * i)) :: st) G (wr M b V) = z_ex m ops ls (.ref (d + (11 + 4 * i)) :: st) G (wr M b V) := by
  obtain ⟨hb, w0, ⟨w3, w4, w5, w6, w7⟩, ⟨x1, x2⟩, ⟨x3, x4⟩, ⟨x5, x6⟩, a0, ⟨a1, a2, a3⟩, ⟨x7, x8⟩, ⟨x9, x10⟩, ⟨x11, x12⟩, ⟨x13, x14⟩, hmem⟩ := hD; obtain ⟨m0, m1, ⟨m2, m3, m4⟩, ⟨y1, y2⟩, ⟨y3, y4⟩, ⟨y5, y6⟩⟩ := hmem i hi
  rw [xo_17 _ _ _ _ _ _ _ _ _ _ _ m1 (Nat.le_trans hb (Nat.le_add_right d _)) (by rw [m3]; exact Nat.ne_of_gt (Nat.lt_of_lt_of_le (Nat.lt_of_lt_of_le (by decide) hb) (Nat.le_add_right d _))), m3]
theorem xv_17b_14 {G : zG} {b d : Nat} (hW : z_HW G b) (hD : z_HW G d) (dj : d + 41 ≤ b ∨ b + 41 ≤ d) (M V : zM) (m c pc : Nat) (ops : List zO) (ls st : List Value) (i : Nat) (hi : i < 8) : z_ex m ((17, 2, 14, c, pc) :: ops) ls (.ref (d + (9 + 4 * i)) :: st) G (wr M b V) = z_ex m ops ls (.ref (d + (12 + 4 * i)) :: st) G (wr M b V) := by
  obtain ⟨hb, w0, ⟨w3, w4, w5, w6, w7⟩, ⟨x1, x2⟩, ⟨x3, x4⟩, ⟨x5, x6⟩, a0, ⟨a1, a2, a3⟩, ⟨x7, x8⟩, ⟨x9, x10⟩, ⟨x11, x12⟩, ⟨x13, x14⟩, hmem⟩ := hD; obtain ⟨m0, m1, ⟨m2, m3, m4⟩, ⟨y1, y2⟩, ⟨y3, y4⟩, ⟨y5, y6⟩⟩ := hmem i hi
  rw [xo_17 _ _ _ _ _ _ _ _ _ _ _ m1 (Nat.le_trans hb (Nat.le_add_right d _)) (by rw [m4]; exact Nat.ne_of_gt (Nat.lt_of_lt_of_le (Nat.lt_of_lt_of_le (by decide) hb) (Nat.le_add_right d _))), m4]
theorem xv_80_1 {G : zG} {b d : Nat} (hW : z_HW G b) (hD : z_HW G d) (dj : d + 41 ≤ b ∨ b + 41 ≤ d) (M V : zM) (m c pc : Nat) (ops : List zO) (ls : List Value) (n : Nat) (hn : n ≤ 4) : z_ex m ((80, 0, 0, c, pc) :: ops) ls [.int (nI n), .int (nI 0), .ref (b + 1), .int (nI 0), .ref (d + 1)] G (wr M b V) = z_ex m ops ls [] G (wr M b (z_sA V 1 (va_cpy (M (d + 1)) (V 1) 0 0 n))) := by
  have ho : d + 1 < b ∨ b + 41 ≤ d + 1 := by omega
  have hc : 1 < 41 := by omega
  have h31 : n < 2 ^ 31 := by omega
  have h00 : (0 : Nat) < 2 ^ 31 := by decide
  obtain ⟨hb, w0, ⟨w3, w4, w5, w6, w7⟩, ⟨x1, x2⟩, ⟨x3, x4⟩, ⟨x5, x6⟩, a0, ⟨a1, a2, a3⟩, ⟨x7, x8⟩, ⟨x9, x10⟩, ⟨x11, x12⟩, ⟨x13, x14⟩, hmem⟩ := hW; obtain ⟨hb', w0', ⟨w3', w4', w5', w6', w7'⟩, ⟨x1', x2'⟩, ⟨x3', x4'⟩, ⟨x5', x6'⟩, a0', ⟨a1', a2', a3'⟩, ⟨x7', x8'⟩, ⟨x9', x10'⟩, ⟨x11', x12'⟩, ⟨x13', x14'⟩, hmem'⟩ := hD
  rw [xo_80 _ _ _ _ _ _ _ _ _ _ _ _ _ _ x1' (Nat.le_trans hb' (Nat.le_add_right d _)) x1 (Nat.le_trans hb (Nat.le_add_right b _)) (by rw [x2', Nat.zero_add]; exact hn) (by rw [x2, Nat.zero_add]; exact hn) h00 h00 h31, wr_k _ _ _ 1 hc, wr_o _ _ _ (d + 1) ho, wr_uk _ _ _ 1 _ hc]
theorem xv_80_2 {G : zG} {b d : Nat} (hW : z_HW G b) (hD : z_HW G d) (dj : d + 41 ≤ b ∨ b + 41 ≤ d) (M V : zM) (m c pc : Nat) (ops : List zO) (ls : List Value) (n : Nat) (hn : n ≤ 8) : z_ex m ((80, 0, 0, c, pc) :: ops) ls [.int (nI n), .int (nI 0), .ref (b + 2), .int (nI 0), .ref (d + 2)] G (wr M b V) = z_ex m ops ls [] G (wr M b (z_sA V 2 (va_cpy (M (d + 2)) (V 2) 0 0 n))) := by
  have ho : d + 2 < b ∨ b + 41 ≤ d + 2 := by omega
  have hc : 2 < 41 := by omega
  have h31 : n < 2 ^ 31 := by omega
  have h00 : (0 : Nat) < 2 ^ 31 := by decide
  obtain ⟨hb, w0, ⟨w3, w4, w5, w6, w7⟩, ⟨x1, x2⟩, ⟨x3, x4⟩, ⟨x5, x6⟩, a0, ⟨a1, a2, a3⟩, ⟨x7, x8⟩, ⟨x9, x10⟩, ⟨x11, x12⟩, ⟨x13, x14⟩, hmem⟩ := hW; obtain ⟨hb', w0', ⟨w3', w4', w5', w6', w7'⟩, ⟨x1', x2'⟩, ⟨x3', x4'⟩, ⟨x5', x6'⟩, a0', ⟨a1', a2', a3'⟩, ⟨x7', x8'⟩, ⟨x9', x10'⟩, ⟨x11', x12'⟩, ⟨x13', x14'⟩, hmem'⟩ := hD
  rw [xo_80 _ _ _ _ _ _ _ _ _ _ _ _ _ _ x3' (Nat.le_trans hb' (Nat.le_add_right d _)) x3 (Nat.le_trans hb (Nat.le_add_right b _)) (by rw [x4', Nat.zero_add]; exact hn) (by rw [x4, Nat.zero_add]; exact hn) h00 h00 h31, wr_k _ _ _ 2 hc, wr_o _ _ _ (d + 2) ho, wr_uk _ _ _ 2 _ hc]
theorem xv_80_5 {G : zG} {b d : Nat} (hW : z_HW G b) (hD : z_HW G d) (dj : d + 41 ≤ b ∨ b + 41 ≤ d) (M V : zM) (m c pc : Nat) (ops : List zO) (ls : List Value) (n : Nat) (hn : n ≤ 7200) : z_ex m ((80, 0, 0, c, pc) :: ops) ls [.int (nI n), .int (nI 0), .ref (b + 5), .int (nI 0), .ref (d + 5)] G (wr M b V) = z_ex m ops ls [] G (wr M b (z_sA V 5 (va_cpy (M (d + 5)) (V 5) 0 0 n))) := by
  have ho : d + 5 < b ∨ b + 41 ≤ d + 5 := by omega
  have hc : 5 < 41 := by omega
  have h31 : n < 2 ^ 31 := by omega
  have h00 : (0 : Nat) < 2 ^ 31 := by decide
  obtain ⟨hb, w0, ⟨w3, w4, w5, w6, w7⟩, ⟨x1, x2⟩, ⟨x3, x4⟩, ⟨x5, x6⟩, a0, ⟨a1, a2, a3⟩, ⟨x7, x8⟩, ⟨x9, x10⟩, ⟨x11, x12⟩, ⟨x13, x14⟩, hmem⟩ := hW; obtain ⟨hb', w0', ⟨w3', w4', w5', w6', w7'⟩, ⟨x1', x2'⟩, ⟨x3', x4'⟩, ⟨x5', x6'⟩, a0', ⟨a1', a2', a3'⟩, ⟨x7', x8'⟩, ⟨x9', x10'⟩, ⟨x11', x12'⟩, ⟨x13', x14'⟩, hmem'⟩ := hD
  rw [xo_80 _ _ _ _ _ _ _ _ _ _ _ _ _ _ x7' (Nat.le_trans hb' (Nat.le_add_right d _)) x7 (Nat.le_trans hb (Nat.le_add_right b _)) (by rw [x8', Nat.zero_add]; exact hn) (by rw [x8, Nat.zero_add]; exact hn) h00 h00 h31, wr_k _ _ _ 5 hc, wr_o _ _ _ (d + 5) ho, wr_uk _ _ _ 5 _ hc]
theorem xv_80_6 {G : zG} {b d : Nat} (hW : z_HW G b) (hD : z_HW G d) (dj : d + 41 ≤ b ∨ b + 41 ≤ d) (M V : zM) (m c pc : Nat) (ops : List zO) (ls : List Value) (n : Nat) (hn : n ≤ 8) : z_ex m ((80, 0, 0, c, pc) :: ops) ls [.int (nI n), .int (nI 0), .ref (b + 6), .int (nI 0), .ref (d + 6)] G (wr M b V) = z_ex m ops ls [] G (wr M b (z_sA V 6 (va_cpy (M (d + 6)) (V 6) 0 0 n))) := by
  have ho : d + 6 < b ∨ b + 41 ≤ d + 6 := by omega
  have hc : 6 < 41 := by omega
  have h31 : n < 2 ^ 31 := by omega
  have h00 : (0 : Nat) < 2 ^ 31 := by decide
  obtain ⟨hb, w0, ⟨w3, w4, w5, w6, w7⟩, ⟨x1, x2⟩, ⟨x3, x4⟩, ⟨x5, x6⟩, a0, ⟨a1, a2, a3⟩, ⟨x7, x8⟩, ⟨x9, x10⟩, ⟨x11, x12⟩, ⟨x13, x14⟩, hmem⟩ := hW; obtain ⟨hb', w0', ⟨w3', w4', w5', w6', w7'⟩, ⟨x1', x2'⟩, ⟨x3', x4'⟩, ⟨x5', x6'⟩, a0', ⟨a1', a2', a3'⟩, ⟨x7', x8'⟩, ⟨x9', x10'⟩, ⟨x11', x12'⟩, ⟨x13', x14'⟩, hmem'⟩ := hD
  rw [xo_80 _ _ _ _ _ _ _ _ _ _ _ _ _ _ x9' (Nat.le_trans hb' (Nat.le_add_right d _)) x9 (Nat.le_trans hb (Nat.le_add_right b _)) (by rw [x10', Nat.zero_add]; exact hn) (by rw [x10, Nat.zero_add]; exact hn) h00 h00 h31, wr_k _ _ _ 6 hc, wr_o _ _ _ (d + 6) ho, wr_uk _ _ _ 6 _ hc]
theorem xv_80_7 {G : zG} {b d : Nat} (hW : z_HW G b) (hD : z_HW G d) (dj : d + 41 ≤ b ∨ b + 41 ≤ d) (M V : zM) (m c pc : Nat) (ops : List zO) (ls : List Value) (n : Nat) (hn : n ≤ 8) : z_ex m ((80, 0, 0, c, pc) :: ops) ls [.int (nI n), .int (nI 0), .ref (b + 7), .int (nI 0), .ref (d + 7)] G (wr M b V) = z_ex m ops ls [] G (wr M b (z_sA V 7 (va_cpy (M (d + 7)) (V 7) 0 0 n))) := by
  have ho : d + 7 < b ∨ b + 41 ≤ d + 7 := by omega
  have hc : 7 < 41 := by omega
  have h31 : n < 2 ^ 31 := by omega
  have h00 : (0 : Nat) < 2 ^ 31 := by decide
  obtain ⟨hb, w0, ⟨w3, w4, w5, w6, w7⟩, ⟨x1, x2⟩, ⟨x3, x4⟩, ⟨x5, x6⟩, a0, ⟨a1, a2, a3⟩, ⟨x7, x8⟩, ⟨x9, x10⟩, ⟨x11, x12⟩, ⟨x13, x14⟩, hmem⟩ := hW; obtain ⟨hb', w0', ⟨w3', w4', w5', w6', w7'⟩, ⟨x1', x2'⟩, ⟨x3', x4'⟩, ⟨x5', x6'⟩, a0', ⟨a1', a2', a3'⟩, ⟨x7', x8'⟩, ⟨x9', x10'⟩, ⟨x11', x12'⟩, ⟨x13', x14'⟩, hmem'⟩ := hD
  rw [xo_80 _ _ _ _ _ _ _ _ _ _ _ _ _ _ x11' (Nat.le_trans hb' (Nat.le_add_right d _)) x11 (Nat.le_trans hb (Nat.le_add_right b _)) (by rw [x12', Nat.zero_add]; exact hn) (by rw [x12, Nat.zero_add]; exact hn) h00 h00 h31, wr_k _ _ _ 7 hc, wr_o _ _ _ (d + 7) ho, wr_uk _ _ _ 7 _ hc]
theorem xv_80_8 {G : zG} {b d : Nat} (hW : z_HW G b) (hD : z_HW G d) (dj : d + 41 ≤ b ∨ b + 41 ≤ d) (M V : zM) (m c pc : Nat) (ops : List zO) (ls : List Value) (n : Nat) (hn : n ≤ 160) : z_ex m ((80, 0, 0, c, pc) :: ops) ls [.int (nI n), .int (nI 0), .ref (b + 8), .int (nI 0), .ref (d + 8)] G (wr M b V) = z_ex m ops ls [] G (wr M b (z_sA V 8 (va_cpy (M (d + 8)) (V 8) 0 0 n))) := by
  have ho : d + 8 < b ∨ b + 41 ≤ d + 8 := by omega
  have hc : 8 < 41 := by omega
  have h31 : n < 2 ^ 31 := by omega
  have h00 : (0 : Nat) < 2 ^ 31 := by decide
  obtain ⟨hb, w0, ⟨w3, w4, w5, w6, w7⟩, ⟨x1, x2⟩, ⟨x3, x4⟩, ⟨x5, x6⟩, a0, ⟨a1, a2, a3⟩, ⟨x7, x8⟩, ⟨x9, x10⟩, ⟨x11, x12⟩, ⟨x13, x14⟩, hmem⟩ := hW; obtain ⟨hb', w0', ⟨w3', w4', w5', w6', w7'⟩, ⟨x1', x2'⟩, ⟨x3', x4'⟩, ⟨x5', x6'⟩, a0', ⟨a1', a2', a3'⟩, ⟨x7', x8'⟩, ⟨x9', x10'⟩, ⟨x11', x12'⟩, ⟨x13', x14'⟩, hmem'⟩ := hD
  rw [xo_80 _ _ _ _ _ _ _ _ _ _ _ _ _ _ x13' (Nat.le_trans hb' (Nat.le_add_right d _)) x13 (Nat.le_trans hb (Nat.le_add_right b _)) (by rw [x14', Nat.zero_add]; exact hn) (by rw [x14, Nat.zero_add]; exact hn) h00 h00 h31, wr_k _ _ _ 8 hc, wr_o _ _ _ (d + 8) ho, wr_uk _ _ _ 8 _ hc]
theorem xv_80_l {G : zG} {b d : Nat} (hW : z_HW G b) (hD : z_HW G d) (dj : d + 41 ≤ b ∨ b + 41 ≤ d) (M V : zM) (m c pc : Nat) (ops : List zO) (ls : List Value) (i : Nat) (hi : i < 8) (n : Nat) (hn : n ≤ 6) : z_ex m ((80, 0, 0, c, pc) :: ops) ls [.int (nI n), .int (nI 0), .ref (b + (10 + 4 * i)), .int (nI 0), .ref (d + (10 + 4 * i))] G (wr M b V) = z_ex m ops ls [] G (wr M b (z_sA V (10 + 4 * i) (va_cpy (M (d + (10 + 4 * i))) (V (10 + 4 * i)) 0 0 n))) := by
  have ho : d + (10 + 4 * i) < b ∨ b + 41 ≤ d + (10 + 4 * i) := by omega
  have hc : (10 + 4 * i) < 41 := by omega
  have h31 : n < 2 ^ 31 := by omega
  have h00 : (0 : Nat) < 2 ^ 31 := by decide
  obtain ⟨hb, w0, ⟨w3, w4, w5, w6, w7⟩, ⟨x1, x2⟩, ⟨x3, x4⟩, ⟨x5, x6⟩, a0, ⟨a1, a2, a3⟩, ⟨x7, x8⟩, ⟨x9, x10⟩, ⟨x11, x12⟩, ⟨x13, x14⟩, hmem⟩ := hW; obtain ⟨m0, m1, ⟨m2, m3, m4⟩, ⟨y1, y2⟩, ⟨y3, y4⟩, ⟨y5, y6⟩⟩ := hmem i hi; obtain ⟨hb', w0', ⟨w3', w4', w5', w6', w7'⟩, ⟨x1', x2'⟩, ⟨x3', x4'⟩, ⟨x5', x6'⟩, a0', ⟨a1', a2', a3'⟩, ⟨x7', x8'⟩, ⟨x9', x10'⟩, ⟨x11', x12'⟩, ⟨x13', x14'⟩, hmem'⟩ := hD; obtain ⟨m0', m1', ⟨m2', m3', m4'⟩, ⟨y1', y2'⟩, ⟨y3', y4'⟩, ⟨y5', y6'⟩⟩ := hmem' i hi
  rw [xo_80 _ _ _ _ _ _ _ _ _ _ _ _ _ _ y1' (Nat.le_trans hb' (Nat.le_add_right d _)) y1 (Nat.le_trans hb (Nat.le_add_right b _)) (by rw [y2', Nat.zero_add]; exact hn) (by rw [y2, Nat.zero_add]; exact hn) h00 h00 h31, wr_k _ _ _ (10 + 4 * i) hc, wr_o _ _ _ (d + (10 + 4 * i)) ho, wr_uk _ _ _ (10 + 4 * i) _ hc]
theorem xv_80_k {G : zG} {b d : Nat} (hW : z_HW G b) (hD : z_HW G d) (dj : d + 41 ≤ b ∨ b + 41 ≤ d) (M V : zM) (m c pc : Nat) (ops : List zO) (ls : List Value) (i : Nat) (hi : i < 8) (n : Nat) (hn : n ≤ 6) : z_ex m ((80, 0, 0, c, pc) :: ops) ls [.int (nI n), .int (nI 0), .ref (b + (11 + 4 * i)), .int (nI 0), .ref (d + (11 + 4 * i))] G (wr M b V) = z_ex m ops ls [] G (wr M b (z_sA V (11 + 4 * i) (va_cpy (M (d + (11 + 4 * i))) (V (11 + 4 * i)) 0 0 n))) := by
  have ho : d + (11 + 4 * i) < b ∨ b + 41 ≤ d + (11 + 4 * i) := by omega
  have hc : (11 + 4 * i) < 41 := by omega
  have h31 : n < 2 ^ 31 := by omega
  have h00 : (0 : Nat) < 2 ^ 31 := by decide
  obtain ⟨hb, w0, ⟨w3, w4, w5, w6, w7⟩, ⟨x1, x2⟩, ⟨x3, x4⟩, ⟨x5, x6⟩, a0, ⟨a1, a2, a3⟩, ⟨x7, x8⟩, ⟨x9, x10⟩, ⟨x11, x12⟩, ⟨x13, x14⟩, hmem⟩ := hW; obtain ⟨m0, m1, ⟨m2, m3, m4⟩, ⟨y1, y2⟩, ⟨y3, y4⟩, ⟨y5, y6⟩⟩ := hmem i hi; obtain ⟨hb', w0', ⟨w3', w4', w5', w6', w7'⟩, ⟨x1', x2'⟩, ⟨x3', x4'⟩, ⟨x5', x6'⟩, a0', ⟨a1', a2', a3'⟩, ⟨x7', x8'⟩, ⟨x9', x10'⟩, ⟨x11', x12'⟩, ⟨x13', x14'⟩, hmem'⟩ := hD; obtain ⟨m0', m1', ⟨m2', m3', m4'⟩, ⟨y1', y2'⟩, ⟨y3', y4'⟩, ⟨y5', y6'⟩⟩ := hmem' i hi
  rw [xo_80 _ _ _ _ _ _ _ _ _ _ _ _ _ _ y3' (Nat.le_trans hb' (Nat.le_add_right d _)) y3 (Nat.le_trans hb (Nat.le_add_right b _)) (by rw [y4', Nat.zero_add]; exact hn) (by rw [y4, Nat.zero_add]; exact hn) h00 h00 h31, wr_k _ _ _ (11 + 4 * i) hc, wr_o _ _ _ (d + (11 + 4 * i)) ho, wr_uk _ _ _ (11 + 4 * i) _ hc]
theorem xv_80_t {G : zG} {b d : Nat} (hW : z_HW G b) (hD : z_HW G d) (dj : d + 41 ≤ b ∨ b + 41 ≤ d) (M V : zM) (m c pc : Nat) (ops : List zO) (ls : List Value) (i : Nat) (hi : i < 8) (n : Nat) (hn : n ≤ 7) : z_ex m ((80, 0, 0, c, pc) :: ops) ls [.int (nI n), .int (nI 0), .ref (b + (12 + 4 * i)), .int (nI 0), .ref (d + (12 + 4 * i))] G (wr M b V) = z_ex m ops ls [] G (wr M b (z_sA V (12 + 4 * i) (va_cpy (M (d + (12 + 4 * i))) (V (12 + 4 * i)) 0 0 n))) := by
  have ho : d + (12 + 4 * i) < b ∨ b + 41 ≤ d + (12 + 4 * i) := by omega
  have hc : (12 + 4 * i) < 41 := by omega
  have h31 : n < 2 ^ 31 := by omega
  have h00 : (0 : Nat) < 2 ^ 31 := by decide
  obtain ⟨hb, w0, ⟨w3, w4, w5, w6, w7⟩, ⟨x1, x2⟩, ⟨x3, x4⟩, ⟨x5, x6⟩, a0, ⟨a1, a2, a3⟩, ⟨x7, x8⟩, ⟨x9, x10⟩, ⟨x11, x12⟩, ⟨x13, x14⟩, hmem⟩ := hW; obtain ⟨m0, m1, ⟨m2, m3, m4⟩, ⟨y1, y2⟩, ⟨y3, y4⟩, ⟨y5, y6⟩⟩ := hmem i hi; obtain ⟨hb', w0', ⟨w3', w4', w5', w6', w7'⟩, ⟨x1', x2'⟩, ⟨x3', x4'⟩, ⟨x5', x6'⟩, a0', ⟨a1', a2', a3'⟩, ⟨x7', x8'⟩, ⟨x9', x10'⟩, ⟨x11', x12'⟩, ⟨x13', x14'⟩, hmem'⟩ := hD; obtain ⟨m0', m1', ⟨m2', m3', m4'⟩, ⟨y1', y2'⟩, ⟨y3', y4'⟩, ⟨y5', y6'⟩⟩ := hmem' i hi
  rw [xo_80 _ _ _ _ _ _ _ _ _ _ _ _ _ _ y5' (Nat.le_trans hb' (Nat.le_add_right d _)) y5 (Nat.le_trans hb (Nat.le_add_right b _)) (by rw [y6', Nat.zero_add]; exact hn) (by rw [y6, Nat.zero_add]; exact hn) h00 h00 h31, wr_k _ _ _ (12 + 4 * i) hc, wr_o _ _ _ (d + (12 + 4 * i)) ho, wr_uk _ _ _ (12 + 4 * i) _ hc]
theorem xv_34 {G : zG} {b d : Nat} (hW : z_HW G b) (hD : z_HW G d) (dj : d + 41 ≤ b ∨ b + 41 ≤ d) (M V : zM) (m c pc : Nat) (ops : List zO) (ls st : List Value) (i : Nat) (hi : i < 8) : z_ex m ((34, 0, 0, c, pc) :: ops) ls (.int (nI i) :: .ref (d + 3) :: st) G (wr M b V) = z_ex m ops ls (.ref (d + (9 + 4 * i)) :: st) G (wr M b V) := by
  have h31 : i < 2 ^ 31 := by omega
  obtain ⟨hb, w0, ⟨w3, w4, w5, w6, w7⟩, ⟨x1, x2⟩, ⟨x3, x4⟩, ⟨x5, x6⟩, a0, ⟨a1, a2, a3⟩, ⟨x7, x8⟩, ⟨x9, x10⟩, ⟨x11, x12⟩, ⟨x13, x14⟩, hmem⟩ := hD; obtain ⟨m0, m1, ⟨m2, m3, m4⟩, ⟨y1, y2⟩, ⟨y3, y4⟩, ⟨y5, y6⟩⟩ := hmem i hi
  rw [xo_34 _ _ _ _ _ _ _ _ _ _ _ _ (by rw [x5]; decide) (by rw [x5]; decide) (Nat.le_trans hb (Nat.le_add_right d _)) (by rw [x6]; exact hi) h31 (by rw [m0]; exact Nat.ne_of_gt (Nat.lt_of_lt_of_le (Nat.lt_of_lt_of_le (by decide) hb) (Nat.le_add_right d _))), m0]
