/-! ===== printed by program (wip/whole/genxw.py): operations on a world's cells ===== -/
theorem xw_16w {G : zG} {b : Nat} (hW : z_HW G b) (M V : zM) (m c pc : Nat) (ops : List zO) (ls st : List Value) (f : Nat) : z_ex m ((16, 5, f, c, pc) :: ops) ls (.ref b :: st) G (wr M b V) = z_ex m ops ls (.int (V 0 f) :: st) G (wr M b V) := by
  obtain ⟨hb, w0, ⟨w3, w4, w5, w6, w7⟩, ⟨x1, x2⟩, ⟨x3, x4⟩, ⟨x5, x6⟩, a0, ⟨a1, a2, a3⟩, ⟨x7, x8⟩, ⟨x9, x10⟩, ⟨x11, x12⟩, ⟨x13, x14⟩, hmem⟩ := hW
  rw [xo_16 _ _ _ _ _ _ _ _ _ _ _ w0 (hb), wr_0]
theorem xw_18w {G : zG} {b : Nat} (hW : z_HW G b) (M V : zM) (m c pc : Nat) (ops : List zO) (ls st : List Value) (f : Nat) (x : Int32) : z_ex m ((18, 5, f, c, pc) :: ops) ls (.int x :: .ref b :: st) G (wr M b V) = z_ex m ops ls st G (wr M b (z_w V 0 f x)) := by
  obtain ⟨hb, w0, ⟨w3, w4, w5, w6, w7⟩, ⟨x1, x2⟩, ⟨x3, x4⟩, ⟨x5, x6⟩, a0, ⟨a1, a2, a3⟩, ⟨x7, x8⟩, ⟨x9, x10⟩, ⟨x11, x12⟩, ⟨x13, x14⟩, hmem⟩ := hW
  rw [xo_18 _ _ _ _ _ _ _ _ _ _ _ _ w0 (hb), wr_0, wr_u0]
  rfl
theorem xw_64w_1 {G : zG} {b : Nat} (hW : z_HW G b) (M V : zM) (m c pc : Nat) (ops : List zO) (ls st : List Value) (a : Nat) (hr : z_rc a = 5) (hc : z_cat st ≤ 8) (hv : z_cat [.ref b] ≤ 1) : z_ex m ((64, a, 1, c, pc) :: ops) ls (.ref b :: st) G (wr M b V) = z_k 64 m ops ls st (z_call a [.ref b] G (wr M b V)) := by
  obtain ⟨hb, w0, ⟨w3, w4, w5, w6, w7⟩, ⟨x1, x2⟩, ⟨x3, x4⟩, ⟨x5, x6⟩, a0, ⟨a1, a2, a3⟩, ⟨x7, x8⟩, ⟨x9, x10⟩, ⟨x11, x12⟩, ⟨x13, x14⟩, hmem⟩ := hW
  exact xo_64_1 _ _ _ _ _ _ _ _ _ _ (by rw [hr]; exact w0) (hb) hc hv
theorem xw_64w_2 {G : zG} {b : Nat} (hW : z_HW G b) (M V : zM) (m c pc : Nat) (ops : List zO) (ls st : List Value) (a : Nat) (w1 : Value) (hr : z_rc a = 5) (hc : z_cat st ≤ 8) (hv : z_cat [.ref b, w1] ≤ 2) : z_ex m ((64, a, 2, c, pc) :: ops) ls (w1 :: .ref b :: st) G (wr M b V) = z_k 64 m ops ls st (z_call a [.ref b, w1] G (wr M b V)) := by
  obtain ⟨hb, w0, ⟨w3, w4, w5, w6, w7⟩, ⟨x1, x2⟩, ⟨x3, x4⟩, ⟨x5, x6⟩, a0, ⟨a1, a2, a3⟩, ⟨x7, x8⟩, ⟨x9, x10⟩, ⟨x11, x12⟩, ⟨x13, x14⟩, hmem⟩ := hW
  exact xo_64_2 _ _ _ _ _ _ _ _ _ _ _ (by rw [hr]; exact w0) (hb) hc hv
theorem xw_64w_3 {G : zG} {b : Nat} (hW : z_HW G b) (M V : zM) (m c pc : Nat) (ops : List zO) (ls st : List Value) (a : Nat) (w1 w2 : Value) (hr : z_rc a = 5) (hc : z_cat st ≤ 8) (hv : z_cat [.ref b, w1, w2] ≤ 3) : z_ex m ((64, a, 3, c, pc) :: ops) ls (w2 :: w1 :: .ref b :: st) G (wr M b V) = z_k 64 m ops ls st (z_call a [.ref b, w1, w2] G (wr M b V)) := by
  obtain ⟨hb, w0, ⟨w3, w4, w5, w6, w7⟩, ⟨x1, x2⟩, ⟨x3, x4⟩, ⟨x5, x6⟩, a0, ⟨a1, a2, a3⟩, ⟨x7, x8⟩, ⟨x9, x10⟩, ⟨x11, x12⟩, ⟨x13, x14⟩, hmem⟩ := hW
  exact xo_64_3 _ _ _ _ _ _ _ _ _ _ _ _ (by rw [hr]; exact w0) (hb) hc hv
theorem xw_64w_4 {G : zG} {b : Nat} (hW : z_HW G b) (M V : zM) (m c pc : Nat) (ops : List zO) (ls st : List Value) (a : Nat) (w1 w2 w3 : Value) (hr : z_rc a = 5) (hc : z_cat st ≤ 8) (hv : z_cat [.ref b, w1, w2, w3] ≤ 4) : z_ex m ((64, a, 4, c, pc) :: ops) ls (w3 :: w2 :: w1 :: .ref b :: st) G (wr M b V) = z_k 64 m ops ls st (z_call a [.ref b, w1, w2, w3] G (wr M b V)) := by
  obtain ⟨hb, w0, ⟨w3, w4, w5, w6, w7⟩, ⟨x1, x2⟩, ⟨x3, x4⟩, ⟨x5, x6⟩, a0, ⟨a1, a2, a3⟩, ⟨x7, x8⟩, ⟨x9, x10⟩, ⟨x11, x12⟩, ⟨x13, x14⟩, hmem⟩ := hW
  exact xo_64_4 _ _ _ _ _ _ _ _ _ _ _ _ _ (by rw [hr]; exact w0) (hb) hc hv
theorem xw_64w_5 {G : zG} {b : Nat} (hW : z_HW G b) (M V : zM) (m c pc : Nat) (ops : List zO) (ls st : List Value) (a : Nat) (w1 w2 w3 w4 : Value) (hr : z_rc a = 5) (hc : z_cat st ≤ 8) (hv : z_cat [.ref b, w1, w2, w3, w4] ≤ 5) : z_ex m ((64, a, 5, c, pc) :: ops) ls (w4 :: w3 :: w2 :: w1 :: .ref b :: st) G (wr M b V) = z_k 64 m ops ls st (z_call a [.ref b, w1, w2, w3, w4] G (wr M b V)) := by
  obtain ⟨hb, w0, ⟨w3, w4, w5, w6, w7⟩, ⟨x1, x2⟩, ⟨x3, x4⟩, ⟨x5, x6⟩, a0, ⟨a1, a2, a3⟩, ⟨x7, x8⟩, ⟨x9, x10⟩, ⟨x11, x12⟩, ⟨x13, x14⟩, hmem⟩ := hW
  exact xo_64_5 _ _ _ _ _ _ _ _ _ _ _ _ _ _ (by rw [hr]; exact w0) (hb) hc hv
theorem xw_64w_6 {G : zG} {b : Nat} (hW : z_HW G b) (M V : zM) (m c pc : Nat) (ops : List zO) (ls st : List Value) (a : Nat) (w1 w2 w3 w4 w5 : Value) (hr : z_rc a = 5) (hc : z_cat st ≤ 8) (hv : z_cat [.ref b, w1, w2, w3, w4, w5] ≤ 6) : z_ex m ((64, a, 6, c, pc) :: ops) ls (w5 :: w4 :: w3 :: w2 :: w1 :: .ref b :: st) G (wr M b V) = z_k 64 m ops ls st (z_call a [.ref b, w1, w2, w3, w4, w5] G (wr M b V)) := by
  obtain ⟨hb, w0, ⟨w3, w4, w5, w6, w7⟩, ⟨x1, x2⟩, ⟨x3, x4⟩, ⟨x5, x6⟩, a0, ⟨a1, a2, a3⟩, ⟨x7, x8⟩, ⟨x9, x10⟩, ⟨x11, x12⟩, ⟨x13, x14⟩, hmem⟩ := hW
  exact xo_64_6 _ _ _ _ _ _ _ _ _ _ _ _ _ _ _ (by rw [hr]; exact w0) (hb) hc hv
theorem xw_64w_7 {G : zG} {b : Nat} (hW : z_HW G b) (M V : zM) (m c pc : Nat) (ops : List zO) (ls st : List Value) (a : Nat) (w1 w2 w3 w4 w5 w6 : Value) (hr : z_rc a = 5) (hc : z_cat st ≤ 8) (hv : z_cat [.ref b, w1, w2, w3, w4, w5, w6] ≤ 7) : z_ex m ((64, a, 7, c, pc) :: ops) ls (w6 :: w5 :: w4 :: w3 :: w2 :: w1 :: .ref b :: st) G (wr M b V) = z_k 64 m ops ls st (z_call a [.ref b, w1, w2, w3, w4, w5, w6] G (wr M b V)) := by
  obtain ⟨hb, w0, ⟨w3, w4, w5, w6, w7⟩, ⟨x1, x2⟩, ⟨x3, x4⟩, ⟨x5, x6⟩, a0, ⟨a1, a2, a3⟩, ⟨x7, x8⟩, ⟨x9, x10⟩, ⟨x11, x12⟩, ⟨x13, x14⟩, hmem⟩ := hW
  exact xo_64_7 _ _ _ _ _ _ _ _ _ _ _ _ _ _ _ _ (by rw [hr]; exact w0) (hb) hc hv
theorem xw_16a {G : zG} {b : Nat} (hW : z_HW G b) (M V : zM) (m c pc : Nat) (ops : List zO) (ls st : List Value) (f : Nat) : z_ex m ((16, 1, f, c, pc) :: ops) ls (.ref (b + 4) :: st) G (wr M b V) = z_ex m ops ls (.int (V 4 f) :: st) G (wr M b V) := by
  obtain ⟨hb, w0, ⟨w3, w4, w5, w6, w7⟩, ⟨x1, x2⟩, ⟨x3, x4⟩, ⟨x5, x6⟩, a0, ⟨a1, a2, a3⟩, ⟨x7, x8⟩, ⟨x9, x10⟩, ⟨x11, x12⟩, ⟨x13, x14⟩, hmem⟩ := hW
  rw [xo_16 _ _ _ _ _ _ _ _ _ _ _ a0 (Nat.le_trans hb (Nat.le_add_right b _)), wr_k _ _ _ 4 (by omega)]
theorem xw_18a {G : zG} {b : Nat} (hW : z_HW G b) (M V : zM) (m c pc : Nat) (ops : List zO) (ls st : List Value) (f : Nat) (x : Int32) : z_ex m ((18, 1, f, c, pc) :: ops) ls (.int x :: .ref (b + 4) :: st) G (wr M b V) = z_ex m ops ls st G (wr M b (z_w V 4 f x)) := by
  obtain ⟨hb, w0, ⟨w3, w4, w5, w6, w7⟩, ⟨x1, x2⟩, ⟨x3, x4⟩, ⟨x5, x6⟩, a0, ⟨a1, a2, a3⟩, ⟨x7, x8⟩, ⟨x9, x10⟩, ⟨x11, x12⟩, ⟨x13, x14⟩, hmem⟩ := hW
  rw [xo_18 _ _ _ _ _ _ _ _ _ _ _ _ a0 (Nat.le_trans hb (Nat.le_add_right b _)), wr_k _ _ _ 4 (by omega), wr_uk _ _ _ 4 _ (by omega)]
  rfl
theorem xw_64a_1 {G : zG} {b : Nat} (hW : z_HW G b) (M V : zM) (m c pc : Nat) (ops : List zO) (ls st : List Value) (a : Nat) (hr : z_rc a = 1) (hc : z_cat st ≤ 8) (hv : z_cat [.ref (b + 4)] ≤ 1) : z_ex m ((64, a, 1, c, pc) :: ops) ls (.ref (b + 4) :: st) G (wr M b V) = z_k 64 m ops ls st (z_call a [.ref (b + 4)] G (wr M b V)) := by
  obtain ⟨hb, w0, ⟨w3, w4, w5, w6, w7⟩, ⟨x1, x2⟩, ⟨x3, x4⟩, ⟨x5, x6⟩, a0, ⟨a1, a2, a3⟩, ⟨x7, x8⟩, ⟨x9, x10⟩, ⟨x11, x12⟩, ⟨x13, x14⟩, hmem⟩ := hW
  exact xo_64_1 _ _ _ _ _ _ _ _ _ _ (by rw [hr]; exact a0) (Nat.le_trans hb (Nat.le_add_right b _)) hc hv
theorem xw_64a_2 {G : zG} {b : Nat} (hW : z_HW G b) (M V : zM) (m c pc : Nat) (ops : List zO) (ls st : List Value) (a : Nat) (w1 : Value) (hr : z_rc a = 1) (hc : z_cat st ≤ 8) (hv : z_cat [.ref (b + 4), w1] ≤ 2) : z_ex m ((64, a, 2, c, pc) :: ops) ls (w1 :: .ref (b + 4) :: st) G (wr M b V) = z_k 64 m ops ls st (z_call a [.ref (b + 4), w1] G (wr M b V)) := by
  obtain ⟨hb, w0, ⟨w3, w4, w5, w6, w7⟩, ⟨x1, x2⟩, ⟨x3, x4⟩, ⟨x5, x6⟩, a0, ⟨a1, a2, a3⟩, ⟨x7, x8⟩, ⟨x9, x10⟩, ⟨x11, x12⟩, ⟨x13, x14⟩, hmem⟩ := hW
  exact xo_64_2 _ _ _ _ _ _ _ _ _ _ _ (by rw [hr]; exact a0) (Nat.le_trans hb (Nat.le_add_right b _)) hc hv
theorem xw_64a_3 {G : zG} {b : Nat} (hW : z_HW G b) (M V : zM) (m c pc : Nat) (ops : List zO) (ls st : List Value) (a : Nat) (w1 w2 : Value) (hr : z_rc a = 1) (hc : z_cat st ≤ 8) (hv : z_cat [.ref (b + 4), w1, w2] ≤ 3) : z_ex m ((64, a, 3, c, pc) :: ops) ls (w2 :: w1 :: .ref (b + 4) :: st) G (wr M b V) = z_k 64 m ops ls st (z_call a [.ref (b + 4), w1, w2] G (wr M b V)) := by
  obtain ⟨hb, w0, ⟨w3, w4, w5, w6, w7⟩, ⟨x1, x2⟩, ⟨x3, x4⟩, ⟨x5, x6⟩, a0, ⟨a1, a2, a3⟩, ⟨x7, x8⟩, ⟨x9, x10⟩, ⟨x11, x12⟩, ⟨x13, x14⟩, hmem⟩ := hW
  exact xo_64_3 _ _ _ _ _ _ _ _ _ _ _ _ (by rw [hr]; exact a0) (Nat.le_trans hb (Nat.le_add_right b _)) hc hv
theorem xw_64a_4 {G : zG} {b : Nat} (hW : z_HW G b) (M V : zM) (m c pc : Nat) (ops : List zO) (ls st : List Value) (a : Nat) (w1 w2 w3 : Value) (hr : z_rc a = 1) (hc : z_cat st ≤ 8) (hv : z_cat [.ref (b + 4), w1, w2, w3] ≤ 4) : z_ex m ((64, a, 4, c, pc) :: ops) ls (w3 :: w2 :: w1 :: .ref (b + 4) :: st) G (wr M b V) = z_k 64 m ops ls st (z_call a [.ref (b + 4), w1, w2, w3] G (wr M b V)) := by
  obtain ⟨hb, w0, ⟨w3, w4, w5, w6, w7⟩, ⟨x1, x2⟩, ⟨x3, x4⟩, ⟨x5, x6⟩, a0, ⟨a1, a2, a3⟩, ⟨x7, x8⟩, ⟨x9, x10⟩, ⟨x11, x12⟩, ⟨x13, x14⟩, hmem⟩ := hW
  exact xo_64_4 _ _ _ _ _ _ _ _ _ _ _ _ _ (by rw [hr]; exact a0) (Nat.le_trans hb (Nat.le_add_right b _)) hc hv
theorem xw_64a_5 {G : zG} {b : Nat} (hW : z_HW G b) (M V : zM) (m c pc : Nat) (ops : List zO) (ls st : List Value) (a : Nat) (w1 w2 w3 w4 : Value) (hr : z_rc a = 1) (hc : z_cat st ≤ 8) (hv : z_cat [.ref (b + 4), w1, w2, w3, w4] ≤ 5) : z_ex m ((64, a, 5, c, pc) :: ops) ls (w4 :: w3 :: w2 :: w1 :: .ref (b + 4) :: st) G (wr M b V) = z_k 64 m ops ls st (z_call a [.ref (b + 4), w1, w2, w3, w4] G (wr M b V)) := by
  obtain ⟨hb, w0, ⟨w3, w4, w5, w6, w7⟩, ⟨x1, x2⟩, ⟨x3, x4⟩, ⟨x5, x6⟩, a0, ⟨a1, a2, a3⟩, ⟨x7, x8⟩, ⟨x9, x10⟩, ⟨x11, x12⟩, ⟨x13, x14⟩, hmem⟩ := hW
  exact xo_64_5 _ _ _ _ _ _ _ _ _ _ _ _ _ _ (by rw [hr]; exact a0) (Nat.le_trans hb (Nat.le_add_right b _)) hc hv
theorem xw_64a_6 {G : zG} {b : Nat} (hW : z_HW G b) (M V : zM) (m c pc : Nat) (ops : List zO) (ls st : List Value) (a : Nat) (w1 w2 w3 w4 w5 : Value) (hr : z_rc a = 1) (hc : z_cat st ≤ 8) (hv : z_cat [.ref (b + 4), w1, w2, w3, w4, w5] ≤ 6) : z_ex m ((64, a, 6, c, pc) :: ops) ls (w5 :: w4 :: w3 :: w2 :: w1 :: .ref (b + 4) :: st) G (wr M b V) = z_k 64 m ops ls st (z_call a [.ref (b + 4), w1, w2, w3, w4, w5] G (wr M b V)) := by
  obtain ⟨hb, w0, ⟨w3, w4, w5, w6, w7⟩, ⟨x1, x2⟩, ⟨x3, x4⟩, ⟨x5, x6⟩, a0, ⟨a1, a2, a3⟩, ⟨x7, x8⟩, ⟨x9, x10⟩, ⟨x11, x12⟩, ⟨x13, x14⟩, hmem⟩ := hW
  exact xo_64_6 _ _ _ _ _ _ _ _ _ _ _ _ _ _ _ (by rw [hr]; exact a0) (Nat.le_trans hb (Nat.le_add_right b _)) hc hv
theorem xw_64a_7 {G : zG} {b : Nat} (hW : z_HW G b) (M V : zM) (m c pc : Nat) (ops : List zO) (ls st : List Value) (a : Nat) (w1 w2 w3 w4 w5 w6 : Value) (hr : z_rc a = 1) (hc : z_cat st ≤ 8) (hv : z_cat [.ref (b + 4), w1, w2, w3, w4, w5, w6] ≤ 7) : z_ex m ((64, a, 7, c, pc) :: ops) ls (w6 :: w5 :: w4 :: w3 :: w2 :: w1 :: .ref (b + 4) :: st) G (wr M b V) = z_k 64 m ops ls st (z_call a [.ref (b + 4), w1, w2, w3, w4, w5, w6] G (wr M b V)) := by
  obtain ⟨hb, w0, ⟨w3, w4, w5, w6, w7⟩, ⟨x1, x2⟩, ⟨x3, x4⟩, ⟨x5, x6⟩, a0, ⟨a1, a2, a3⟩, ⟨x7, x8⟩, ⟨x9, x10⟩, ⟨x11, x12⟩, ⟨x13, x14⟩, hmem⟩ := hW
  exact xo_64_7 _ _ _ _ _ _ _ _ _ _ _ _ _ _ _ _ (by rw [hr]; exact a0) (Nat.le_trans hb (Nat.le_add_right b _)) hc hv
theorem xw_16b {G : zG} {b : Nat} (hW : z_HW G b) (M V : zM) (m c pc : Nat) (ops : List zO) (ls st : List Value) (i : Nat) (hi : i < 8) (f : Nat) : z_ex m ((16, 2, f, c, pc) :: ops) ls (.ref (b + (9 + 4 * i)) :: st) G (wr M b V) = z_ex m ops ls (.int (V (9 + 4 * i) f) :: st) G (wr M b V) := by
  obtain ⟨hb, w0, ⟨w3, w4, w5, w6, w7⟩, ⟨x1, x2⟩, ⟨x3, x4⟩, ⟨x5, x6⟩, a0, ⟨a1, a2, a3⟩, ⟨x7, x8⟩, ⟨x9, x10⟩, ⟨x11, x12⟩, ⟨x13, x14⟩, hmem⟩ := hW; obtain ⟨m0, m1, ⟨m2, m3, m4⟩, ⟨y1, y2⟩, ⟨y3, y4⟩, ⟨y5, y6⟩⟩ := hmem i hi
  rw [xo_16 _ _ _ _ _ _ _ _ _ _ _ m1 (Nat.le_trans hb (Nat.le_add_right b _)), wr_k _ _ _ (9 + 4 * i) (by omega)]
theorem xw_18b {G : zG} {b : Nat} (hW : z_HW G b) (M V : zM) (m c pc : Nat) (ops : List zO) (ls st : List Value) (i : Nat) (hi : i < 8) (f : Nat) (x : Int32) : z_ex m ((18, 2, f, c, pc) :: ops) ls (.int x :: .ref (b + (9 + 4 * i)) :: st) G (wr M b V) = z_ex m ops ls st G (wr M b (z_w V (9 + 4 * i) f x)) := by
  obtain ⟨hb, w0, ⟨w3, w4, w5, w6, w7⟩, ⟨x1, x2⟩, ⟨x3, x4⟩, ⟨x5, x6⟩, a0, ⟨a1, a2, a3⟩, ⟨x7, x8⟩, ⟨x9, x10⟩, ⟨x11, x12⟩, ⟨x13, x14⟩, hmem⟩ := hW; obtain ⟨m0, m1, ⟨m2, m3, m4⟩, ⟨y1, y2⟩, ⟨y3, y4⟩, ⟨y5, y6⟩⟩ := hmem i hi
  rw [xo_18 _ _ _ _ _ _ _ _ _ _ _ _ m1 (Nat.le_trans hb (Nat.le_add_right b _)), wr_k _ _ _ (9 + 4 * i) (by omega), wr_uk _ _ _ (9 + 4 * i) _ (by omega)]
  rfl
theorem xw_64b_1 {G : zG} {b : Nat} (hW : z_HW G b) (M V : zM) (m c pc : Nat) (ops : List zO) (ls st : List Value) (i : Nat) (hi : i < 8) (a : Nat) (hr : z_rc a = 2) (hc : z_cat st ≤ 8) (hv : z_cat [.ref (b + (9 + 4 * i))] ≤ 1) : z_ex m ((64, a, 1, c, pc) :: ops) ls (.ref (b + (9 + 4 * i)) :: st) G (wr M b V) = z_k 64 m ops ls st (z_call a [.ref (b + (9 + 4 * i))] G (wr M b V)) := by
  obtain ⟨hb, w0, ⟨w3, w4, w5, w6, w7⟩, ⟨x1, x2⟩, ⟨x3, x4⟩, ⟨x5, x6⟩, a0, ⟨a1, a2, a3⟩, ⟨x7, x8⟩, ⟨x9, x10⟩, ⟨x11, x12⟩, ⟨x13, x14⟩, hmem⟩ := hW; obtain ⟨m0, m1, ⟨m2, m3, m4⟩, ⟨y1, y2⟩, ⟨y3, y4⟩, ⟨y5, y6⟩⟩ := hmem i hi
  exact xo_64_1 _ _ _ _ _ _ _ _ _ _ (by rw [hr]; exact m1) (Nat.le_trans hb (Nat.le_add_right b _)) hc hv
theorem xw_64b_2 {G : zG} {b : Nat} (hW : z_HW G b) (M V : zM) (m c pc : Nat) (ops : List zO) (ls st : List Value) (i : Nat) (hi : i < 8) (a : Nat) (w1 : Value) (hr : z_rc a = 2) (hc : z_cat st ≤ 8) (hv : z_cat [.ref (b + (9 + 4 * i)), w1] ≤ 2) : z_ex m ((64, a, 2, c, pc) :: ops) ls (w1 :: .ref (b + (9 + 4 * i)) :: st) G (wr M b V) = z_k 64 m ops ls st (z_call a [.ref (b + (9 + 4 * i)), w1] G (wr M b V)) := by
  obtain ⟨hb, w0, ⟨w3, w4, w5, w6, w7⟩, ⟨x1, x2⟩, ⟨x3, x4⟩, ⟨x5, x6⟩, a0, ⟨a1, a2, a3⟩, ⟨x7, x8⟩, ⟨x9, x10⟩, ⟨x11, x12⟩, ⟨x13, x14⟩, hmem⟩ := hW; obtain ⟨m0, m1, ⟨m2, m3, m4⟩, ⟨y1, y2⟩, ⟨y3, y4⟩, ⟨y5, y6⟩⟩ := hmem i hi
  exact xo_64_2 _ _ _ _ _ _ _ _ _ _ _ (by rw [hr]; exact m1) (Nat.le_trans hb (Nat.le_add_right b _)) hc hv
theorem xw_64b_3 {G : zG} {b : Nat} (hW : z_HW G b) (M V : zM) (m c pc : Nat) (ops : List zO) (ls st : List Value) (i : Nat) (hi : i < 8) (a : Nat) (w1 w2 : Value) (hr : z_rc a = 2) (hc : z_cat st ≤ 8) (hv : z_cat [.ref (b + (9 + 4 * i)), w1, w2] ≤ 3) : z_ex m ((64, a, 3, c, pc) :: ops) ls (w2 :: w1 :: .ref (b + (9 + 4 * i)) :: st) G (wr M b V) = z_k 64 m ops ls st (z_call a [.ref (b + (9 + 4 * i)), w1, w2] G (wr M b V)) := by
  obtain ⟨hb, w0, ⟨w3, w4, w5, w6, w7⟩, ⟨x1, x2⟩, ⟨x3, x4⟩, ⟨x5, x6⟩, a0, ⟨a1, a2, a3⟩, ⟨x7, x8⟩, ⟨x9, x10⟩, ⟨x11, x12⟩, ⟨x13, x14⟩, hmem⟩ := hW; obtain ⟨m0, m1, ⟨m2, m3, m4⟩, ⟨y1, y2⟩, ⟨y3, y4⟩, ⟨y5, y6⟩⟩ := hmem i hi
  exact xo_64_3 _ _ _ _ _ _ _ _ _ _ _ _ (by rw [hr]; exact m1) (Nat.le_trans hb (Nat.le_add_right b _)) hc hv
theorem xw_64b_4 {G : zG} {b : Nat} (hW : z_HW G b) (M V : zM) (m c pc : Nat) (ops : List zO) (ls st : List Value) (i : Nat) (hi : i < 8) (a : Nat) (w1 w2 w3 : Value) (hr : z_rc a = 2) (hc : z_cat st ≤ 8) (hv : z_cat [.ref (b + (9 + 4 * i)), w1, w2, w3] ≤ 4) : z_ex m ((64, a, 4, c, pc) :: ops) ls (w3 :: w2 :: w1 :: .ref (b + (9 + 4 * i)) :: st) G (wr M b V) = z_k 64 m ops ls st (z_call a [.ref (b + (9 + 4 * i)), w1, w2, w3] G (wr M b V)) := by
  obtain ⟨hb, w0, ⟨w3, w4, w5, w6, w7⟩, ⟨x1, x2⟩, ⟨x3, x4⟩, ⟨x5, x6⟩, a0, ⟨a1, a2, a3⟩, ⟨x7, x8⟩, ⟨x9, x10⟩, ⟨x11, x12⟩, ⟨x13, x14⟩, hmem⟩ := hW; obtain ⟨m0, m1, ⟨m2, m3, m4⟩, ⟨y1, y2⟩, ⟨y3, y4⟩, ⟨y5, y6⟩⟩ := hmem i hi
  exact xo_64_4 _ _ _ _ _ _ _ _ _ _ _ _ _ (by rw [hr]; exact m1) (Nat.le_trans hb (Nat.le_add_right b _)) hc hv
theorem xw_64b_5 {G : zG} {b : Nat} (hW : z_HW G b) (M V : zM) (m c pc : Nat) (ops : List zO) (ls st : List Value) (i : Nat) (hi : i < 8) (a : Nat) (w1 w2 w3 w4 : Value) (hr : z_rc a = 2) (hc : z_cat st ≤ 8) (hv : z_cat [.ref (b + (9 + 4 * i)), w1, w2, w3, w4] ≤ 5) : z_ex m ((64, a, 5, c, pc) :: ops) ls (w4 :: w3 :: w2 :: w1 :: .ref (b + (9 + 4 * i)) :: st) G (wr M b V) = z_k 64 m ops ls st (z_call a [.ref (b + (9 + 4 * i)), w1, w2, w3, w4] G (wr M b V)) := by
  obtain ⟨hb, w0, ⟨w3, w4, w5, w6, w7⟩, ⟨x1, x2⟩, ⟨x3, x4⟩, ⟨x5, x6⟩, a0, ⟨a1, a2, a3⟩, ⟨x7, x8⟩, ⟨x9, x10⟩, ⟨x11, x12⟩, ⟨x13, x14⟩, hmem⟩ := hW; obtain ⟨m0, m1, ⟨m2, m3, m4⟩, ⟨y1, y2⟩, ⟨y3, y4⟩, ⟨y5, y6⟩⟩ := hmem i hi
  exact xo_64_5 _ _ _ _ _ _ _ _ _ _ _ _ _ _ (by rw [hr]; exact m1) (Nat.le_trans hb (Nat.le_add_right b _)) hc hv
theorem xw_64b_6 {G : zG} {b : Nat} (hW : z_HW G b) (M V : zM) (m c pc : Nat) (ops : List zO) (ls st : List Value) (i : Nat) (hi : i < 8) (a : Nat) (w1 w2 w3 w4 w5 : Value) (hr : z_rc a = 2) (hc : z_cat st ≤ 8) (hv : z_cat [.ref (b + (9 + 4 * i)), w1, w2, w3, w4, w5] ≤ 6) : z_ex m ((64, a, 6, c, pc) :: ops) ls (w5 :: w4 :: w3 :: w2 :: w1 :: .ref (b + (9 + 4 * i)) :: st) G (wr M b V) = z_k 64 m ops ls st (z_call a [.ref (b + (9 + 4 * i)), w1, w2, w3, w4, w5] G (wr M b V)) := by
  obtain ⟨hb, w0, ⟨w3, w4, w5, w6, w7⟩, ⟨x1, x2⟩, ⟨x3, x4⟩, ⟨x5, x6⟩, a0, ⟨a1, a2, a3⟩, ⟨x7, x8⟩, ⟨x9, x10⟩, ⟨x11, x12⟩, ⟨x13, x14⟩, hmem⟩ := hW; obtain ⟨m0, m1, ⟨m2, m3, m4⟩, ⟨y1, y2⟩, ⟨y3, y4⟩, ⟨y5, y6⟩⟩ := hmem i hi
  exact xo_64_6 _ _ _ _ _ _ _ _ _ _ _ _ _ _ _ (by rw [hr]; exact m1) (Nat.le_trans hb (Nat.le_add_right b _)) hc hv
theorem xw_64b_7 {G : zG} {b : Nat} (hW : z_HW G b) (M V : zM) (m c pc : Nat) (ops : List zO) (ls st : List Value) (i : Nat) (hi : i < 8) (a : Nat) (w1 w2 w3 w4 w5 w6 : Value) (hr : z_rc a = 2) (hc : z_cat st ≤ 8) (hv : z_cat [.ref (b + (9 + 4 * i)), w1, w2, w3, w4, w5, w6] ≤ 7) : z_ex m ((64, a, 7, c, pc) :: ops) ls (w6 :: w5 :: w4 :: w3 :: w2 :: w1 :: .ref (b + (9 + 4 * i)) :: st) G (wr M b V) = z_k 64 m ops ls st (z_call a [.ref (b + (9 + 4 * i)), w1, w2, w3, w4, w5, w6] G (wr M b V)) := by
  obtain ⟨hb, w0, ⟨w3, w4, w5, w6, w7⟩, ⟨x1, x2⟩, ⟨x3, x4⟩, ⟨x5, x6⟩, a0, ⟨a1, a2, a3⟩, ⟨x7, x8⟩, ⟨x9, x10⟩, ⟨x11, x12⟩, ⟨x13, x14⟩, hmem⟩ := hW; obtain ⟨m0, m1, ⟨m2, m3, m4⟩, ⟨y1, y2⟩, ⟨y3, y4⟩, ⟨y5, y6⟩⟩ := hmem i hi
  exact xo_64_7 _ _ _ _ _ _ _ _ _ _ _ _ _ _ _ _ (by rw [hr]; exact m1) (Nat.le_trans hb (Nat.le_add_right b _)) hc hv
theorem xw_17w_3 {G : zG} {b : Nat} (hW : z_HW G b) (M V : zM) (m c pc : Nat) (ops : List zO) (ls st : List Value) : z_ex m ((17, 5, 3, c, pc) :: ops) ls (.ref b :: st) G (wr M b V) = z_ex m ops ls (.ref (b + 1) :: st) G (wr M b V) := by
  obtain ⟨hb, w0, ⟨w3, w4, w5, w6, w7⟩, ⟨x1, x2⟩, ⟨x3, x4⟩, ⟨x5, x6⟩, a0, ⟨a1, a2, a3⟩, ⟨x7, x8⟩, ⟨x9, x10⟩, ⟨x11, x12⟩, ⟨x13, x14⟩, hmem⟩ := hW
  rw [xo_17 _ _ _ _ _ _ _ _ _ _ _ w0 (hb) (by rw [w3]; exact Nat.ne_of_gt (Nat.lt_of_lt_of_le (Nat.lt_of_lt_of_le (by decide) hb) (Nat.le_add_right b _))), w3]
theorem xw_17w_4 {G : zG} {b : Nat} (hW : z_HW G b) (M V : zM) (m c pc : Nat) (ops : List zO) (ls st : List Value) : z_ex m ((17, 5, 4, c, pc) :: ops) ls (.ref b :: st) G (wr M b V) = z_ex m ops ls (.ref (b + 2) :: st) G (wr M b V) := by
  obtain ⟨hb, w0, ⟨w3, w4, w5, w6, w7⟩, ⟨x1, x2⟩, ⟨x3, x4⟩, ⟨x5, x6⟩, a0, ⟨a1, a2, a3⟩, ⟨x7, x8⟩, ⟨x9, x10⟩, ⟨x11, x12⟩, ⟨x13, x14⟩, hmem⟩ := hW
  rw [xo_17 _ _ _ _ _ _ _ _ _ _ _ w0 (hb) (by rw [w4]; exact Nat.ne_of_gt (Nat.lt_of_lt_of_le (Nat.lt_of_lt_of_le (by decide) hb) (Nat.le_add_right b _))), w4]
theorem xw_17w_5 {G : zG} {b : Nat} (hW : z_HW G b) (M V : zM) (m c pc : Nat) (ops : List zO) (ls st : List Value) : z_ex m ((17, 5, 5, c, pc) :: ops) ls (.ref b :: st) G (wr M b V) = z_ex m ops ls (.ref (b + 3) :: st) G (wr M b V) := by
  obtain ⟨hb, w0, ⟨w3, w4, w5, w6, w7⟩, ⟨x1, x2⟩, ⟨x3, x4⟩, ⟨x5, x6⟩, a0, ⟨a1, a2, a3⟩, ⟨x7, x8⟩, ⟨x9, x10⟩, ⟨x11, x12⟩, ⟨x13, x14⟩, hmem⟩ := hW
  rw [xo_17 _ _ _ _ _ _ _ _ _ _ _ w0 (hb) (by rw [w5]; exact Nat.ne_of_gt (Nat.lt_of_lt_of_le (Nat.lt_of_lt_of_le (by decide) hb) (Nat.le_add_right b _))), w5]
theorem xw_17w_6 {G : zG} {b : Nat} (hW : z_HW G b) (M V : zM) (m c pc : Nat) (ops : List zO) (ls st : List Value) : z_ex m ((17, 5, 6, c, pc) :: ops) ls (.ref b :: st) G (wr M b V) = z_ex m ops ls (.ref (b + 4) :: st) G (wr M b V) := by
  obtain ⟨hb, w0, ⟨w3, w4, w5, w6, w7⟩, ⟨x1, x2⟩, ⟨x3, x4⟩, ⟨x5, x6⟩, a0, ⟨a1, a2, a3⟩, ⟨x7, x8⟩, ⟨x9, x10⟩, ⟨x11, x12⟩, ⟨x13, x14⟩, hmem⟩ := hW
  rw [xo_17 _ _ _ _ _ _ _ _ _ _ _ w0 (hb) (by rw [w6]; exact Nat.ne_of_gt (Nat.lt_of_lt_of_le (Nat.lt_of_lt_of_le (by decide) hb) (Nat.le_add_right b _))), w6]
theorem xw_17w_7 {G : zG} {b : Nat} (hW : z_HW G b) (M V : zM) (m c pc : Nat) (ops : List zO) (ls st : List Value) : z_ex m ((17, 5, 7, c, pc) :: ops) ls (.ref b :: st) G (wr M b V) = z_ex m ops ls (.ref (b + 8) :: st) G (wr M b V) := by
  obtain ⟨hb, w0, ⟨w3, w4, w5, w6, w7⟩, ⟨x1, x2⟩, ⟨x3, x4⟩, ⟨x5, x6⟩, a0, ⟨a1, a2, a3⟩, ⟨x7, x8⟩, ⟨x9, x10⟩, ⟨x11, x12⟩, ⟨x13, x14⟩, hmem⟩ := hW
  rw [xo_17 _ _ _ _ _ _ _ _ _ _ _ w0 (hb) (by rw [w7]; exact Nat.ne_of_gt (Nat.lt_of_lt_of_le (Nat.lt_of_lt_of_le (by decide) hb) (Nat.le_add_right b _))), w7]
theorem xw_17a_0 {G : zG} {b : Nat} (hW : z_HW G b) (M V : zM) (m c pc : Nat) (ops : List zO) (ls st : List Value) : z_ex m ((17, 1, 0, c, pc) :: ops) ls (.ref (b + 4) :: st) G (wr M b V) = z_ex m ops ls (.ref (b + 5) :: st) G (wr M b V) := by
  obtain ⟨hb, w0, ⟨w3, w4, w5, w6, w7⟩, ⟨x1, x2⟩, ⟨x3, x4⟩, ⟨x5, x6⟩, a0, ⟨a1, a2, a3⟩, ⟨x7, x8⟩, ⟨x9, x10⟩, ⟨x11, x12⟩, ⟨x13, x14⟩, hmem⟩ := hW
  rw [xo_17 _ _ _ _ _ _ _ _ _ _ _ a0 (Nat.le_trans hb (Nat.le_add_right b _)) (by rw [a1]; exact Nat.ne_of_gt (Nat.lt_of_lt_of_le (Nat.lt_of_lt_of_le (by decide) hb) (Nat.le_add_right b _))), a1]
theorem xw_17a_4 {G : zG} {b : Nat} (hW : z_HW G b) (M V : zM) (m c pc : Nat) (ops : List zO) (ls st : List Value) : z_ex m ((17, 1, 4, c, pc) :: ops) ls (.ref (b + 4) :: st) G (wr M b V) = z_ex m ops ls (.ref (b + 6) :: st) G (wr M b V) := by
  obtain ⟨hb, w0, ⟨w3, w4, w5, w6, w7⟩, ⟨x1, x2⟩, ⟨x3, x4⟩, ⟨x5, x6⟩, a0, ⟨a1, a2, a3⟩, ⟨x7, x8⟩, ⟨x9, x10⟩, ⟨x11, x12⟩, ⟨x13, x14⟩, hmem⟩ := hW
  rw [xo_17 _ _ _ _ _ _ _ _ _ _ _ a0 (Nat.le_trans hb (Nat.le_add_right b _)) (by rw [a2]; exact Nat.ne_of_gt (Nat.lt_of_lt_of_le (Nat.lt_of_lt_of_le (by decide) hb) (Nat.le_add_right b _))), a2]
theorem xw_17a_5 {G : zG} {b : Nat} (hW : z_HW G b) (M V : zM) (m c pc : Nat) (ops : List zO) (ls st : List Value) : z_ex m ((17, 1, 5, c, pc) :: ops) ls (.ref (b + 4) :: st) G (wr M b V) = z_ex m ops ls (.ref (b + 7) :: st) G (wr M b V) := by
  obtain ⟨hb, w0, ⟨w3, w4, w5, w6, w7⟩, ⟨x1, x2⟩, ⟨x3, x4⟩, ⟨x5, x6⟩, a0, ⟨a1, a2, a3⟩, ⟨x7, x8⟩, ⟨x9, x10⟩, ⟨x11, x12⟩, ⟨x13, x14⟩, hmem⟩ := hW
  rw [xo_17 _ _ _ _ _ _ _ _ _ _ _ a0 (Nat.le_trans hb (Nat.le_add_right b _)) (by rw [a3]; exact Nat.ne_of_gt (Nat.lt_of_lt_of_le (Nat.lt_of_lt_of_le (by decide) hb) (Nat.le_add_right b _))), a3]
theorem xw_17b_12 {G : zG} {b : Nat} (hW : z_HW G b) (M V : zM) (m c pc : Nat) (ops : List zO) (ls st : List Value) (i : Nat) (hi : i < 8) : z_ex m ((17, 2, 12, c, pc) :: ops) ls (.ref (b + (9 + 4 * i)) :: st) G (wr M b V) = z_ex m ops ls (.ref (b + (10 + 4 * i)) :: st) G (wr M b V) := by
  obtain ⟨hb, w0, ⟨w3, w4, w5, w6, w7⟩, ⟨x1, x2⟩, ⟨x3, x4⟩, ⟨x5, x6⟩, a0, ⟨a1, a2, a3⟩, ⟨x7, x8⟩, ⟨x9, x10⟩, ⟨x11, x12⟩, ⟨x13, x14⟩, hmem⟩ := hW; obtain ⟨m0, m1, ⟨m2, m3, m4⟩, ⟨y1, y2⟩, ⟨y3, y4⟩, ⟨y5, y6⟩⟩ := hmem i hi
  rw [xo_17 _ _ _ _ _ _ _ _ _ _ _ m1 (Nat.le_trans hb (Nat.le_add_right b _)) (by rw [m2]; exact Nat.ne_of_gt (Nat.lt_of_lt_of_le (Nat.lt_of_lt_of_le (by decide) hb) (Nat.le_add_right b _))), m2]
theorem xw_17b_13 {G : zG} {b : Nat} (hW : z_HW G b) (M V : zM) (m c pc : Nat) (ops : List zO) (ls st : List Value) (i : Nat) (hi : i < 8) : z_ex m ((17, 2, 13, c, pc) :: ops) ls (.ref (b + (9 + 4 * i)) :: st) G (wr M b V) = z_ex m ops ls (.ref (b + (11 + 4 * i)) :: st) G (wr M b V) := by
  obtain ⟨hb, w0, ⟨w3, w4, w5, w6, w7⟩, ⟨x1, x2⟩, ⟨x3, x4⟩, ⟨x5, x6⟩, a0, ⟨a1, a2, a3⟩, ⟨x7, x8⟩, ⟨x9, x10⟩, ⟨x11, x12⟩, ⟨x13, x14⟩, hmem⟩ := hW; obtain ⟨m0, m1, ⟨m2, m3, m4⟩, ⟨y1, y2⟩, ⟨y3, y4⟩, ⟨y5, y6⟩⟩ := hmem i hi
  rw [xo_17 _ _ _ _ _ _ _ _ _ _ _ m1 (Nat.le_trans hb (Nat.le_add_right b _)) (by rw [m3]; exact Nat.ne_of_gt (Nat.lt_of_lt_of_le (Nat.lt_of_lt_of_le (by decide) hb) (Nat.le_add_right b _))), m3]
theorem xw_17b_14 {G : zG} {b : Nat} (hW : z_HW G b) (M V : zM) (m c pc : Nat) (ops : List zO) (ls st : List Value) (i : Nat) (hi : i < 8) : z_ex m ((17, 2, 14, c, pc) :: ops) ls (.ref (b + (9 + 4 * i)) :: st) G (wr M b V) = z_ex m ops ls (.ref (b + (12 + 4 * i)) :: st) G (wr M b V) := by
  obtain ⟨hb, w0, ⟨w3, w4, w5, w6, w7⟩, ⟨x1, x2⟩, ⟨x3, x4⟩, ⟨x5, x6⟩, a0, ⟨a1, a2, a3⟩, ⟨x7, x8⟩, ⟨x9, x10⟩, ⟨x11, x12⟩, ⟨x13, x14⟩, hmem⟩ := hW; obtain ⟨m0, m1, ⟨m2, m3, m4⟩, ⟨y1, y2⟩, ⟨y3, y4⟩, ⟨y5, y6⟩⟩ := hmem i hi
  rw [xo_17 _ _ _ _ _ _ _ _ _ _ _ m1 (Nat.le_trans hb (Nat.le_add_right b _)) (by rw [m4]; exact Nat.ne_of_gt (Nat.lt_of_lt_of_le (Nat.lt_of_lt_of_le (by decide) hb) (Nat.le_add_right b _))), m4]
theorem xw_32_1 {G : zG} {b : Nat} (hW : z_HW G b) (M V : zM) (m c pc : Nat) (ops : List zO) (ls st : List Value) (j : Nat) (hj : j < 4) : z_ex m ((32, 0, 0, c, pc) :: ops) ls (.int (nI j) :: .ref (b + 1) :: st) G (wr M b V) = z_ex m ops ls (.int (V 1 j) :: st) G (wr M b V) := by
  obtain ⟨hb, w0, ⟨w3, w4, w5, w6, w7⟩, ⟨x1, x2⟩, ⟨x3, x4⟩, ⟨x5, x6⟩, a0, ⟨a1, a2, a3⟩, ⟨x7, x8⟩, ⟨x9, x10⟩, ⟨x11, x12⟩, ⟨x13, x14⟩, hmem⟩ := hW
  rw [xo_32 _ _ _ _ _ _ _ _ _ _ _ _ x1 (by rw [x2]; exact hj) (by omega), wr_k _ _ _ 1 (by omega)]
theorem xw_33_1 {G : zG} {b : Nat} (hW : z_HW G b) (M V : zM) (m c pc : Nat) (ops : List zO) (ls st : List Value) (j : Nat) (x : Int32) (hj : j < 4) : z_ex m ((33, 0, 0, c, pc) :: ops) ls (.int x :: .int (nI j) :: .ref (b + 1) :: st) G (wr M b V) = z_ex m ops ls st G (wr M b (z_w V 1 j x)) := by
  obtain ⟨hb, w0, ⟨w3, w4, w5, w6, w7⟩, ⟨x1, x2⟩, ⟨x3, x4⟩, ⟨x5, x6⟩, a0, ⟨a1, a2, a3⟩, ⟨x7, x8⟩, ⟨x9, x10⟩, ⟨x11, x12⟩, ⟨x13, x14⟩, hmem⟩ := hW
  rw [xo_33 _ _ _ _ _ _ _ _ _ _ _ _ _ x1 (Nat.le_trans hb (Nat.le_add_right b _)) (by rw [x2]; exact hj) (by omega), wr_k _ _ _ 1 (by omega), wr_uk _ _ _ 1 _ (by omega)]
  rfl
theorem xw_36_1 {G : zG} {b : Nat} (hW : z_HW G b) (M V : zM) (m c pc : Nat) (ops : List zO) (ls st : List Value) : z_ex m ((36, 0, 0, c, pc) :: ops) ls (.ref (b + 1) :: st) G (wr M b V) = z_ex m ops ls (.int (nI 4) :: st) G (wr M b V) := by
  obtain ⟨hb, w0, ⟨w3, w4, w5, w6, w7⟩, ⟨x1, x2⟩, ⟨x3, x4⟩, ⟨x5, x6⟩, a0, ⟨a1, a2, a3⟩, ⟨x7, x8⟩, ⟨x9, x10⟩, ⟨x11, x12⟩, ⟨x13, x14⟩, hmem⟩ := hW
  rw [xo_36 _ _ _ _ _ _ _ _ _ _ _ x1, x2]
theorem xw_32_2 {G : zG} {b : Nat} (hW : z_HW G b) (M V : zM) (m c pc : Nat) (ops : List zO) (ls st : List Value) (j : Nat) (hj : j < 8) : z_ex m ((32, 0, 0, c, pc) :: ops) ls (.int (nI j) :: .ref (b + 2) :: st) G (wr M b V) = z_ex m ops ls (.int (V 2 j) :: st) G (wr M b V) := by
  obtain ⟨hb, w0, ⟨w3, w4, w5, w6, w7⟩, ⟨x1, x2⟩, ⟨x3, x4⟩, ⟨x5, x6⟩, a0, ⟨a1, a2, a3⟩, ⟨x7, x8⟩, ⟨x9, x10⟩, ⟨x11, x12⟩, ⟨x13, x14⟩, hmem⟩ := hW
  rw [xo_32 _ _ _ _ _ _ _ _ _ _ _ _ x3 (by rw [x4]; exact hj) (by omega), wr_k _ _ _ 2 (by omega)]
theorem xw_33_2 {G : zG} {b : Nat} (hW : z_HW G b) (M V : zM) (m c pc : Nat) (ops : List zO) (ls st : List Value) (j : Nat) (x : Int32) (hj : j < 8) : z_ex m ((33, 0, 0, c, pc) :: ops) ls (.int x :: .int (nI j) :: .ref (b + 2) :: st) G (wr M b V) = z_ex m ops ls st G (wr M b (z_w V 2 j x)) := by
  obtain ⟨hb, w0, ⟨w3, w4, w5, w6, w7⟩, ⟨x1, x2⟩, ⟨x3, x4⟩, ⟨x5, x6⟩, a0, ⟨a1, a2, a3⟩, ⟨x7, x8⟩, ⟨x9, x10⟩, ⟨x11, x12⟩, ⟨x13, x14⟩, hmem⟩ := hW
  rw [xo_33 _ _ _ _ _ _ _ _ _ _ _ _ _ x3 (Nat.le_trans hb (Nat.le_add_right b _)) (by rw [x4]; exact hj) (by omega), wr_k _ _ _ 2 (by omega), wr_uk _ _ _ 2 _ (by omega)]
  rfl
theorem xw_36_2 {G : zG} {b : Nat} (hW : z_HW G b) (M V : zM) (m c pc : Nat) (ops : List zO) (ls st : List Value) : z_ex m ((36, 0, 0, c, pc) :: ops) ls (.ref (b + 2) :: st) G (wr M b V) = z_ex m ops ls (.int (nI 8) :: st) G (wr M b V) := by
  obtain ⟨hb, w0, ⟨w3, w4, w5, w6, w7⟩, ⟨x1, x2⟩, ⟨x3, x4⟩, ⟨x5, x6⟩, a0, ⟨a1, a2, a3⟩, ⟨x7, x8⟩, ⟨x9, x10⟩, ⟨x11, x12⟩, ⟨x13, x14⟩, hmem⟩ := hW
  rw [xo_36 _ _ _ _ _ _ _ _ _ _ _ x3, x4]
theorem xw_32_5 {G : zG} {b : Nat} (hW : z_HW G b) (M V : zM) (m c pc : Nat) (ops : List zO) (ls st : List Value) (j : Nat) (hj : j < 7200) : z_ex m ((32, 0, 0, c, pc) :: ops) ls (.int (nI j) :: .ref (b + 5) :: st) G (wr M b V) = z_ex m ops ls (.int (V 5 j) :: st) G (wr M b V) := by
  obtain ⟨hb, w0, ⟨w3, w4, w5, w6, w7⟩, ⟨x1, x2⟩, ⟨x3, x4⟩, ⟨x5, x6⟩, a0, ⟨a1, a2, a3⟩, ⟨x7, x8⟩, ⟨x9, x10⟩, ⟨x11, x12⟩, ⟨x13, x14⟩, hmem⟩ := hW
  rw [xo_32 _ _ _ _ _ _ _ _ _ _ _ _ x7 (by rw [x8]; exact hj) (by omega), wr_k _ _ _ 5 (by omega)]
theorem xw_33_5 {G : zG} {b : Nat} (hW : z_HW G b) (M V : zM) (m c pc : Nat) (ops : List zO) (ls st : List Value) (j : Nat) (x : Int32) (hj : j < 7200) : z_ex m ((33, 0, 0, c, pc) :: ops) ls (.int x :: .int (nI j) :: .ref (b + 5) :: st) G (wr M b V) = z_ex m ops ls st G (wr M b (z_w V 5 j x)) := by
  obtain ⟨hb, w0, ⟨w3, w4, w5, w6, w7⟩, ⟨x1, x2⟩, ⟨x3, x4⟩, ⟨x5, x6⟩, a0, ⟨a1, a2, a3⟩, ⟨x7, x8⟩, ⟨x9, x10⟩, ⟨x11, x12⟩, ⟨x13, x14⟩, hmem⟩ := hW
  rw [xo_33 _ _ _ _ _ _ _ _ _ _ _ _ _ x7 (Nat.le_trans hb (Nat.le_add_right b _)) (by rw [x8]; exact hj) (by omega), wr_k _ _ _ 5 (by omega), wr_uk _ _ _ 5 _ (by omega)]
  rfl
theorem xw_36_5 {G : zG} {b : Nat} (hW : z_HW G b) (M V : zM) (m c pc : Nat) (ops : List zO) (ls st : List Value) : z_ex m ((36, 0, 0, c, pc) :: ops) ls (.ref (b + 5) :: st) G (wr M b V) = z_ex m ops ls (.int (nI 7200) :: st) G (wr M b V) := by
  obtain ⟨hb, w0, ⟨w3, w4, w5, w6, w7⟩, ⟨x1, x2⟩, ⟨x3, x4⟩, ⟨x5, x6⟩, a0, ⟨a1, a2, a3⟩, ⟨x7, x8⟩, ⟨x9, x10⟩, ⟨x11, x12⟩, ⟨x13, x14⟩, hmem⟩ := hW
  rw [xo_36 _ _ _ _ _ _ _ _ _ _ _ x7, x8]
theorem xw_32_6 {G : zG} {b : Nat} (hW : z_HW G b) (M V : zM) (m c pc : Nat) (ops : List zO) (ls st : List Value) (j : Nat) (hj : j < 8) : z_ex m ((32, 0, 0, c, pc) :: ops) ls (.int (nI j) :: .ref (b + 6) :: st) G (wr M b V) = z_ex m ops ls (.int (V 6 j) :: st) G (wr M b V) := by
  obtain ⟨hb, w0, ⟨w3, w4, w5, w6, w7⟩, ⟨x1, x2⟩, ⟨x3, x4⟩, ⟨x5, x6⟩, a0, ⟨a1, a2, a3⟩, ⟨x7, x8⟩, ⟨x9, x10⟩, ⟨x11, x12⟩, ⟨x13, x14⟩, hmem⟩ := hW
  rw [xo_32 _ _ _ _ _ _ _ _ _ _ _ _ x9 (by rw [x10]; exact hj) (by omega), wr_k _ _ _ 6 (by omega)]
theorem xw_33_6 {G : zG} {b : Nat} (hW : z_HW G b) (M V : zM) (m c pc : Nat) (ops : List zO) (ls st : List Value) (j : Nat) (x : Int32) (hj : j < 8) : z_ex m ((33, 0, 0, c, pc) :: ops) ls (.int x :: .int (nI j) :: .ref (b + 6) :: st) G (wr M b V) = z_ex m ops ls st G (wr M b (z_w V 6 j x)) := by
  obtain ⟨hb, w0, ⟨w3, w4, w5, w6, w7⟩, ⟨x1, x2⟩, ⟨x3, x4⟩, ⟨x5, x6⟩, a0, ⟨a1, a2, a3⟩, ⟨x7, x8⟩, ⟨x9, x10⟩, ⟨x11, x12⟩, ⟨x13, x14⟩, hmem⟩ := hW
  rw [xo_33 _ _ _ _ _ _ _ _ _ _ _ _ _ x9 (Nat.le_trans hb (Nat.le_add_right b _)) (by rw [x10]; exact hj) (by omega), wr_k _ _ _ 6 (by omega), wr_uk _ _ _ 6 _ (by omega)]
  rfl
theorem xw_36_6 {G : zG} {b : Nat} (hW : z_HW G b) (M V : zM) (m c pc : Nat) (ops : List zO) (ls st : List Value) : z_ex m ((36, 0, 0, c, pc) :: ops) ls (.ref (b + 6) :: st) G (wr M b V) = z_ex m ops ls (.int (nI 8) :: st) G (wr M b V) := by
  obtain ⟨hb, w0, ⟨w3, w4, w5, w6, w7⟩, ⟨x1, x2⟩, ⟨x3, x4⟩, ⟨x5, x6⟩, a0, ⟨a1, a2, a3⟩, ⟨x7, x8⟩, ⟨x9, x10⟩, ⟨x11, x12⟩, ⟨x13, x14⟩, hmem⟩ := hW
  rw [xo_36 _ _ _ _ _ _ _ _ _ _ _ x9, x10]
theorem xw_32_7 {G : zG} {b : Nat} (hW : z_HW G b) (M V : zM) (m c pc : Nat) (ops : List zO) (ls st : List Value) (j : Nat) (hj : j < 8) : z_ex m ((32, 0, 0, c, pc) :: ops) ls (.int (nI j) :: .ref (b + 7) :: st) G (wr M b V) = z_ex m ops ls (.int (V 7 j) :: st) G (wr M b V) := by
  obtain ⟨hb, w0, ⟨w3, w4, w5, w6, w7⟩, ⟨x1, x2⟩, ⟨x3, x4⟩, ⟨x5, x6⟩, a0, ⟨a1, a2, a3⟩, ⟨x7, x8⟩, ⟨x9, x10⟩, ⟨x11, x12⟩, ⟨x13, x14⟩, hmem⟩ := hW
  rw [xo_32 _ _ _ _ _ _ _ _ _ _ _ _ x11 (by rw [x12]; exact hj) (by omega), wr_k _ _ _ 7 (by omega)]
theorem xw_33_7 {G : zG} {b : Nat} (hW : z_HW G b) (M V : zM) (m c pc : Nat) (ops : List zO) (ls st : List Value) (j : Nat) (x : Int32) (hj : j < 8) : z_ex m ((33, 0, 0, c, pc) :: ops) ls (.int x :: .int (nI j) :: .ref (b + 7) :: st) G (wr M b V) = z_ex m ops ls st G (wr M b (z_w V 7 j x)) := by
  obtain ⟨hb, w0, ⟨w3, w4, w5, w6, w7⟩, ⟨x1, x2⟩, ⟨x3, x4⟩, ⟨x5, x6⟩, a0, ⟨a1, a2, a3⟩, ⟨x7, x8⟩, ⟨x9, x10⟩, ⟨x11, x12⟩, ⟨x13, x14⟩, hmem⟩ := hW
  rw [xo_33 _ _ _ _ _ _ _ _ _ _ _ _ _ x11 (Nat.le_trans hb (Nat.le_add_right b _)) (by rw [x12]; exact hj) (by omega), wr_k _ _ _ 7 (by omega), wr_uk _ _ _ 7 _ (by omega)]
  rfl
theorem xw_36_7 {G : zG} {b : Nat} (hW : z_HW G b) (M V : zM) (m c pc : Nat) (ops : List zO) (ls st : List Value) : z_ex m ((36, 0, 0, c, pc) :: ops) ls (.ref (b + 7) :: st) G (wr M b V) = z_ex m ops ls (.int (nI 8) :: st) G (wr M b V) := by
  obtain ⟨hb, w0, ⟨w3, w4, w5, w6, w7⟩, ⟨x1, x2⟩, ⟨x3, x4⟩, ⟨x5, x6⟩, a0, ⟨a1, a2, a3⟩, ⟨x7, x8⟩, ⟨x9, x10⟩, ⟨x11, x12⟩, ⟨x13, x14⟩, hmem⟩ := hW
  rw [xo_36 _ _ _ _ _ _ _ _ _ _ _ x11, x12]
theorem xw_32_8 {G : zG} {b : Nat} (hW : z_HW G b) (M V : zM) (m c pc : Nat) (ops : List zO) (ls st : List Value) (j : Nat) (hj : j < 160) : z_ex m ((32, 0, 0, c, pc) :: ops) ls (.int (nI j) :: .ref (b + 8) :: st) G (wr M b V) = z_ex m ops ls (.int (V 8 j) :: st) G (wr M b V) := by
  obtain ⟨hb, w0, ⟨w3, w4, w5, w6, w7⟩, ⟨x1, x2⟩, ⟨x3, x4⟩, ⟨x5, x6⟩, a0, ⟨a1, a2, a3⟩, ⟨x7, x8⟩, ⟨x9, x10⟩, ⟨x11, x12⟩, ⟨x13, x14⟩, hmem⟩ := hW
  rw [xo_32 _ _ _ _ _ _ _ _ _ _ _ _ x13 (by rw [x14]; exact hj) (by omega), wr_k _ _ _ 8 (by omega)]
theorem xw_33_8 {G : zG} {b : Nat} (hW : z_HW G b) (M V : zM) (m c pc : Nat) (ops : List zO) (ls st : List Value) (j : Nat) (x : Int32) (hj : j < 160) : z_ex m ((33, 0, 0, c, pc) :: ops) ls (.int x :: .int (nI j) :: .ref (b + 8) :: st) G (wr M b V) = z_ex m ops ls st G (wr M b (z_w V 8 j x)) := by
  obtain ⟨hb, w0, ⟨w3, w4, w5, w6, w7⟩, ⟨x1, x2⟩, ⟨x3, x4⟩, ⟨x5, x6⟩, a0, ⟨a1, a2, a3⟩, ⟨x7, x8⟩, ⟨x9, x10⟩, ⟨x11, x12⟩, ⟨x13, x14⟩, hmem⟩ := hW
  rw [xo_33 _ _ _ _ _ _ _ _ _ _ _ _ _ x13 (Nat.le_trans hb (Nat.le_add_right b _)) (by rw [x14]; exact hj) (by omega), wr_k _ _ _ 8 (by omega), wr_uk _ _ _ 8 _ (by omega)]
  rfl
theorem xw_36_8 {G : zG} {b : Nat} (hW : z_HW G b) (M V : zM) (m c pc : Nat) (ops : List zO) (ls st : List Value) : z_ex m ((36, 0, 0, c, pc) :: ops) ls (.ref (b + 8) :: st) G (wr M b V) = z_ex m ops ls (.int (nI 160) :: st) G (wr M b V) := by
  obtain ⟨hb, w0, ⟨w3, w4, w5, w6, w7⟩, ⟨x1, x2⟩, ⟨x3, x4⟩, ⟨x5, x6⟩, a0, ⟨a1, a2, a3⟩, ⟨x7, x8⟩, ⟨x9, x10⟩, ⟨x11, x12⟩, ⟨x13, x14⟩, hmem⟩ := hW
  rw [xo_36 _ _ _ _ _ _ _ _ _ _ _ x13, x14]
theorem xw_32_l {G : zG} {b : Nat} (hW : z_HW G b) (M V : zM) (m c pc : Nat) (ops : List zO) (ls st : List Value) (i : Nat) (hi : i < 8) (j : Nat) (hj : j < 6) : z_ex m ((32, 0, 0, c, pc) :: ops) ls (.int (nI j) :: .ref (b + (10 + 4 * i)) :: st) G (wr M b V) = z_ex m ops ls (.int (V (10 + 4 * i) j) :: st) G (wr M b V) := by
  obtain ⟨hb, w0, ⟨w3, w4, w5, w6, w7⟩, ⟨x1, x2⟩, ⟨x3, x4⟩, ⟨x5, x6⟩, a0, ⟨a1, a2, a3⟩, ⟨x7, x8⟩, ⟨x9, x10⟩, ⟨x11, x12⟩, ⟨x13, x14⟩, hmem⟩ := hW; obtain ⟨m0, m1, ⟨m2, m3, m4⟩, ⟨y1, y2⟩, ⟨y3, y4⟩, ⟨y5, y6⟩⟩ := hmem i hi
  rw [xo_32 _ _ _ _ _ _ _ _ _ _ _ _ y1 (by rw [y2]; exact hj) (by omega), wr_k _ _ _ (10 + 4 * i) (by omega)]
theorem xw_33_l {G : zG} {b : Nat} (hW : z_HW G b) (M V : zM) (m c pc : Nat) (ops : List zO) (ls st : List Value) (i : Nat) (hi : i < 8) (j : Nat) (x : Int32) (hj : j < 6) : z_ex m ((33, 0, 0, c, pc) :: ops) ls (.int x :: .int (nI j) :: .ref (b + (10 + 4 * i)) :: st) G (wr M b V) = z_ex m ops ls st G (wr M b (z_w V (10 + 4 * i) j x)) := by
  obtain ⟨hb, w0, ⟨w3, w4, w5, w6, w7⟩, ⟨x1, x2⟩, ⟨x3, x4⟩, ⟨x5, x6⟩, a0, ⟨a1, a2, a3⟩, ⟨x7, x8⟩, ⟨x9, x10⟩, ⟨x11, x12⟩, ⟨x13, x14⟩, hmem⟩ := hW; obtain ⟨m0, m1, ⟨m2, m3, m4⟩, ⟨y1, y2⟩, ⟨y3, y4⟩, ⟨y5, y6⟩⟩ := hmem i hi
  rw [xo_33 _ _ _ _ _ _ _ _ _ _ _ _ _ y1 (Nat.le_trans hb (Nat.le_add_right b _)) (by rw [y2]; exact hj) (by omega), wr_k _ _ _ (10 + 4 * i) (by omega), wr_uk _ _ _ (10 + 4 * i) _ (by omega)]
  rfl
theorem xw_36_l {G : zG} {b : Nat} (hW : z_HW G b) (M V : zM) (m c pc : Nat) (ops : List zO) (ls st : List Value) (i : Nat) (hi : i < 8) : z_ex m ((36, 0, 0, c, pc) :: ops) ls (.ref (b + (10 + 4 * i)) :: st) G (wr M b V) = z_ex m ops ls (.int (nI 6) :: st) G (wr M b V) := by
  obtain ⟨hb, w0, ⟨w3, w4, w5, w6, w7⟩, ⟨x1, x2⟩, ⟨x3, x4⟩, ⟨x5, x6⟩, a0, ⟨a1, a2, a3⟩, ⟨x7, x8⟩, ⟨x9, x10⟩, ⟨x11, x12⟩, ⟨x13, x14⟩, hmem⟩ := hW; obtain ⟨m0, m1, ⟨m2, m3, m4⟩, ⟨y1, y2⟩, ⟨y3, y4⟩, ⟨y5, y6⟩⟩ := hmem i hi
  rw [xo_36 _ _ _ _ _ _ _ _ _ _ _ y1, y2]
theorem xw_32_k {G : zG} {b : Nat} (hW : z_HW G b) (M V : zM) (m c pc : Nat) (ops : List zO) (ls st : List Value) (i : Nat) (hi : i < 8) (j : Nat) (hj : j < 6) : z_ex m ((32, 0, 0, c, pc) :: ops) ls (.int (nI j) :: .ref (b + (11 + 4 * i)) :: st) G (wr M b V) = z_ex m ops ls (.int (V (11 + 4 * i) j) :: st) G (wr M b V) := by
  obtain ⟨hb, w0, ⟨w3, w4, w5, w6, w7⟩, ⟨x1, x2⟩, ⟨x3, x4⟩, ⟨x5, x6⟩, a0, ⟨a1, a2, a3⟩, ⟨x7, x8⟩, ⟨x9, x10⟩, ⟨x11, x12⟩, ⟨x13, x14⟩, hmem⟩ := hW; obtain ⟨m0, m1, ⟨m2, m3, m4⟩, ⟨y1, y2⟩, ⟨y3, y4⟩, ⟨y5, y6⟩⟩ := hmem i hi
  rw [xo_32 _ _ _ _ _ _ _ _ _ _ _ _ y3 (by rw [y4]; exact hj) (by omega), wr_k _ _ _ (11 + 4 * i) (by omega)]
theorem xw_33_k {G : zG} {b : Nat} (hW : z_HW G b) (M V : zM) (m c pc : Nat) (ops : List zO) (ls st : List Value) (i : Nat) (hi : i < 8) (j : Nat) (x : Int32) (hj : j < 6) : z_ex m ((33, 0, 0, c, pc) :: ops) ls (.int x :: .int (nI j) :: .ref (b + (11 + 4 * i)) :: st) G (wr M b V) = z_ex m ops ls st G (wr M b (z_w V (11 + 4 * i) j x)) := by
  obtain ⟨hb, w0, ⟨w3, w4, w5, w6, w7⟩, ⟨x1, x2⟩, ⟨x3, x4⟩, ⟨x5, x6⟩, a0, ⟨a1, a2, a3⟩, ⟨x7, x8⟩, ⟨x9, x10⟩, ⟨x11, x12⟩, ⟨x13, x14⟩, hmem⟩ := hW; obtain ⟨m0, m1, ⟨m2, m3, m4⟩, ⟨y1, y2⟩, ⟨y3, y4⟩, ⟨y5, y6⟩⟩ := hmem i hi
  rw [xo_33 _ _ _ _ _ _ _ _ _ _ _ _ _ y3 (Nat.le_trans hb (Nat.le_add_right b _)) (by rw [y4]; exact hj) (by omega), wr_k _ _ _ (11 + 4 * i) (by omega), wr_uk _ _ _ (11 + 4 * i) _ (by omega)]
  rfl
theorem xw_36_k {G : zG} {b : Nat} (hW : z_HW G b) (M V : zM) (m c pc : Nat) (ops : List zO) (ls st : List Value) (i : Nat) (hi : i < 8) : z_ex m ((36, 0, 0, c, pc) :: ops) ls (.ref (b + (11 + 4 * i)) :: st) G (wr M b V) = z_ex m ops ls (.int (nI 6) :: st) G (wr M b V) := by
  obtain ⟨hb, w0, ⟨w3, w4, w5, w6, w7⟩, ⟨x1, x2⟩, ⟨x3, x4⟩, ⟨x5, x6⟩, a0, ⟨a1, a2, a3⟩, ⟨x7, x8⟩, ⟨x9, x10⟩, ⟨x11, x12⟩, ⟨x13, x14⟩, hmem⟩ := hW; obtain ⟨m0, m1, ⟨m2, m3, m4⟩, ⟨y1, y2⟩, ⟨y3, y4⟩, ⟨y5, y6⟩⟩ := hmem i hi
  rw [xo_36 _ _ _ _ _ _ _ _ _ _ _ y3, y4]
theorem xw_32_t {G : zG} {b : Nat} (hW : z_HW G b) (M V : zM) (m c pc : Nat) (ops : List zO) (ls st : List Value) (i : Nat) (hi : i < 8) (j : Nat) (hj : j < 7) : z_ex m ((32, 0, 0, c, pc) :: ops) ls (.int (nI j) :: .ref (b + (12 + 4 * i)) :: st) G (wr M b V) = z_ex m ops ls (.int (V (12 + 4 * i) j) :: st) G (wr M b V) := by
  obtain ⟨hb, w0, ⟨w3, w4, w5, w6, w7⟩, ⟨x1, x2⟩, ⟨x3, x4⟩, ⟨x5, x6⟩, a0, ⟨a1, a2, a3⟩, ⟨x7, x8⟩, ⟨x9, x10⟩, ⟨x11, x12⟩, ⟨x13, x14⟩, hmem⟩ := hW; obtain ⟨m0, m1, ⟨m2, m3, m4⟩, ⟨y1, y2⟩, ⟨y3, y4⟩, ⟨y5, y6⟩⟩ := hmem i hi
  rw [xo_32 _ _ _ _ _ _ _ _ _ _ _ _ y5 (by rw [y6]; exact hj) (by omega), wr_k _ _ _ (12 + 4 * i) (by omega)]
theorem xw_33_t {G : zG} {b : Nat} (hW : z_HW G b) (M V : zM) (m c pc : Nat) (ops : List zO) (ls st : List Value) (i : Nat) (hi : i < 8) (j : Nat) (x : Int32) (hj : j < 7) : z_ex m ((33, 0, 0, c, pc) :: ops) ls (.int x :: .int (nI j) :: .ref (b + (12 + 4 * i)) :: st) G (wr M b V) = z_ex m ops ls st G (wr M b (z_w V (12 + 4 * i) j x)) := by
  obtain ⟨hb, w0, ⟨w3, w4, w5, w6, w7⟩, ⟨x1, x2⟩, ⟨x3, x4⟩, ⟨x5, x6⟩, a0, ⟨a1, a2, a3⟩, ⟨x7, x8⟩, ⟨x9, x10⟩, ⟨x11, x12⟩, ⟨x13, x14⟩, hmem⟩ := hW; obtain ⟨m0, m1, ⟨m2, m3, m4⟩, ⟨y1, y2⟩, ⟨y3, y4⟩, ⟨y5, y6⟩⟩ := hmem i hi
  rw [xo_33 _ _ _ _ _ _ _ _ _ _ _ _ _ y5 (Nat.le_trans hb (Nat.le_add_right b _)) (by rw [y6]; exact hj) (by omega), wr_k _ _ _ (12 + 4 * i) (by omega), wr_uk _ _ _ (12 + 4 * i) _ (by omega)]
  rfl
theorem xw_36_t {G : zG} {b : Nat} (hW : z_HW G b) (M V : zM) (m c pc : Nat) (ops : List zO) (ls st : List Value) (i : Nat) (hi : i < 8) : z_ex m ((36, 0, 0, c, pc) :: ops) ls (.ref (b + (12 + 4 * i)) :: st) G (wr M b V) = z_ex m ops ls (.int (nI 7) :: st) G (wr M b V) := by
  obtain ⟨hb, w0, ⟨w3, w4, w5, w6, w7⟩, ⟨x1, x2⟩, ⟨x3, x4⟩, ⟨x5, x6⟩, a0, ⟨a1, a2, a3⟩, ⟨x7, x8⟩, ⟨x9, x10⟩, ⟨x11, x12⟩, ⟨x13, x14⟩, hmem⟩ := hW; obtain ⟨m0, m1, ⟨m2, m3, m4⟩, ⟨y1, y2⟩, ⟨y3, y4⟩, ⟨y5, y6⟩⟩ := hmem i hi
  rw [xo_36 _ _ _ _ _ _ _ _ _ _ _ y5, y6]
theorem xw_34 {G : zG} {b : Nat} (hW : z_HW G b) (M V : zM) (m c pc : Nat) (ops : List zO) (ls st : List Value) (i : Nat) (hi : i < 8) : z_ex m ((34, 0, 0, c, pc) :: ops) ls (.int (nI i) :: .ref (b + 3) :: st) G (wr M b V) = z_ex m ops ls (.ref (b + (9 + 4 * i)) :: st) G (wr M b V) := by
  obtain ⟨hb, w0, ⟨w3, w4, w5, w6, w7⟩, ⟨x1, x2⟩, ⟨x3, x4⟩, ⟨x5, x6⟩, a0, ⟨a1, a2, a3⟩, ⟨x7, x8⟩, ⟨x9, x10⟩, ⟨x11, x12⟩, ⟨x13, x14⟩, hmem⟩ := hW; obtain ⟨m0, m1, ⟨m2, m3, m4⟩, ⟨y1, y2⟩, ⟨y3, y4⟩, ⟨y5, y6⟩⟩ := hmem i hi
  rw [xo_34 _ _ _ _ _ _ _ _ _ _ _ _ (by rw [x5]; omega) (by rw [x5]; omega) (Nat.le_trans hb (Nat.le_add_right b _)) (by rw [x6]; exact hi) (by omega) (by rw [m0]; exact Nat.ne_of_gt (Nat.lt_of_lt_of_le (Nat.lt_of_lt_of_le (by decide) hb) (Nat.le_add_right b _))), m0]
