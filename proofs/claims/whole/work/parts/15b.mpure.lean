theorem wk_lo01 {r : Nat} (h : r < 2) (σ : wk_St) (k : Nat) (n : Int32) : wk_loHeed r σ k n = wk_soulHeed σ k n := by
  rcases (show r = 0 ∨ r = 1 by omega) with rfl | rfl <;> rfl
theorem wk_in2 {n : Int32} (h : wk_in 2 n) : wa_B n 10001 := by
  have e : wk_bound 2 = 200 := by decide
  obtain ⟨h1, h2⟩ := h
  rw [e] at h2
  rw [Int32.le_iff_toInt_le] at h1 h2
  have e0 : (0 : Int32).toInt = 0 := by decide
  have e2 : (200 : Int32).toInt = 200 := by decide
  exact ⟨by omega, by omega⟩
theorem wk_in3 {d n : Int32} (h0 : ¬ d = 0) (h1 : ¬ d = 1) (h2 : ¬ d = 2) (h : wk_in d n) : wa_B n 10000 := by
  have e : wk_bound d = 9999 := by unfold wk_bound; rw [if_neg h0, if_neg h1, if_neg h2]
  obtain ⟨h3, h4⟩ := h
  rw [e] at h4
  rw [Int32.le_iff_toInt_le] at h3 h4
  have e0 : (0 : Int32).toInt = 0 := by decide
  have e2 : (9999 : Int32).toInt = 9999 := by decide
  exact ⟨by omega, by omega⟩
noncomputable def wk_begin (d : Int32) (σ : wk_St) (k n : Int32) : Int64 × wk_St := wk_if (wk_ok σ k ∧ wk_in d n) ((wk_do d (wk_fg σ) k.toNatClampNeg n).1, wk_gain d k.toNatClampNeg (wk_do d (wk_fg σ) k.toNatClampNeg n)) (-1000000, σ)
theorem wk_begin0 (σ : wk_St) (k n : Int32) : wk_begin 0 σ k n = wk_toil σ k n := by
  unfold wk_begin wk_toil wk_gain wk_do
  rw [if_pos rfl, if_neg (by decide)]
  rfl
theorem wk_begin1 (σ : wk_St) (k n : Int32) : wk_begin 1 σ k n = wk_pay σ k n := by
  unfold wk_begin wk_pay wk_do
  rw [if_neg (by decide), if_pos rfl]
  rfl
theorem wk_begin2 (σ : wk_St) (k n : Int32) : (wk_begin 2 σ k n).1.toInt32 = (wk_climb σ k n).1 ∧ (wk_begin 2 σ k n).2 = (wk_climb σ k n).2 := by
  unfold wk_begin wk_climb wk_gain wk_do
  rcases Classical.em (wk_ok σ k ∧ wk_in 2 n) with h | h
  · rw [wk_ifT h, wk_ifT h, if_neg (by decide), if_neg (by decide), if_pos rfl, if_neg (by decide)]
    exact ⟨Int32.toInt32_toInt64 _, rfl⟩
  · rw [wk_ifF h, wk_ifF h]
    exact ⟨(by decide : (-1000000 : Int64).toInt32 = -1000000), rfl⟩
theorem wk_begin3 (σ : wk_St) (k n : Int32) : (wk_begin 3 σ k n).1.toInt32 = (wk_heed σ k n).1 ∧ (wk_begin 3 σ k n).2 = (wk_heed σ k n).2 := by
  unfold wk_begin wk_heed wk_gain wk_do
  rcases Classical.em (wk_ok σ k ∧ wk_in 3 n) with h | h
  · rw [wk_ifT h, wk_ifT h, if_neg (by decide), if_neg (by decide), if_neg (by decide), if_neg (by decide)]
    exact ⟨Int32.toInt32_toInt64 _, rfl⟩
  · rw [wk_ifF h, wk_ifF h]
    exact ⟨(by decide : (-1000000 : Int64).toInt32 = -1000000), rfl⟩
theorem wk_postC {P : Int32 × wk_St} {v : Int32} {S : wk_St} {r : Int64} (hE : P = (v, S)) (h : r = v.toInt64) : r = P.1.toInt64 ∧ S = P.2 := by subst hE; exact ⟨h, rfl⟩
