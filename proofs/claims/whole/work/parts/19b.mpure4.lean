theorem wk_min3 {m : Int32} (h : m ≤ 3) : (if 3 ≤ m then (3 : Int32) else m) = m := by
  split
  · rename_i hq
    apply Int32.toInt_inj.mp
    rw [Int32.le_iff_toInt_le] at h hq
    omega
  · rfl
