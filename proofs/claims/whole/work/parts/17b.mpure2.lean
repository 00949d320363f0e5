theorem wk_G.ld {σ τ : wk_St} {a : Nat} (h : wk_G σ τ a) : wk_ld τ = wk_ld σ := h.1.2.2.2.1
theorem wk_G.ln {σ τ : wk_St} {a : Nat} (h : wk_G σ τ a) : wk_ln τ = wk_ln σ := h.1.2.2.2.2.1
theorem wk_G.ll {σ τ : wk_St} {a : Nat} (h : wk_G σ τ a) : wk_ll τ = wk_ll σ := h.1.2.2.2.2.2.1
theorem wk_G.lh {σ τ : wk_St} {a : Nat} (h : wk_G σ τ a) : wk_lh τ = wk_lh σ := h.1.2.2.2.2.2.2
/-- each line is empty, or a duty within its bound -/
def wk_L (σ : wk_St) : Prop := ∀ i, i < 8 → wk_ld σ i = -1 ∨ ((0 ≤ wk_ld σ i ∧ wk_ld σ i ≤ 3) ∧ wk_in (wk_ld σ i) (wk_ln σ i))
theorem wk_G.L {σ τ : wk_St} {a : Nat} (h : wk_G σ τ a) (hL : wk_L σ) : wk_L τ := by
  intro i hi
  rw [h.ld, h.ln]
  exact hL i hi
def wk_wk (d : Int32) (σ : wk_St) (k : Nat) (n b : Int32) : wk_St := if b = 0 then (wk_do d σ k n).2 else wk_gain d k (wk_do d σ k n)
theorem wk_wk0 (d : Int32) (σ : wk_St) (k : Nat) (n : Int32) : wk_wk d σ k n 0 = (wk_do d σ k n).2 := if_pos rfl
theorem wk_wk1 (d : Int32) (σ : wk_St) (k : Nat) (n : Int32) : wk_wk d σ k n 1 = wk_gain d k (wk_do d σ k n) := if_neg (by decide)
theorem wk_g_wk (d : Int32) (σ : wk_St) (k : Nat) (n b : Int32) (hn : wk_n σ ≤ 12) : wk_G σ (wk_wk d σ k n b) 28 := by
  unfold wk_wk
  split
  · exact wk_g_do d σ k n hn
  · exact (wk_g_do d σ k n hn).trans (wk_g_gain d k _)
theorem wk_do2 (σ : wk_St) (k : Nat) (n : Int32) : wk_do 2 σ k n = ((wk_climbR (wk_rk σ k) σ k n).1.toInt64, (wk_climbR (wk_rk σ k) σ k n).2) := by
  unfold wk_do
  rw [if_neg (by decide), if_neg (by decide), if_pos rfl]
theorem wk_do1 (σ : wk_St) (k : Nat) (n : Int32) : wk_do 1 σ k n = wk_payR (wk_rk σ k) σ k n := by
  unfold wk_do
  rw [if_neg (by decide), if_pos rfl]
theorem wk_do0 (σ : wk_St) (k : Nat) (n : Int32) : wk_do 0 σ k n = wk_toilR (wk_rk σ k) σ k n := by
  unfold wk_do
  rw [if_pos rfl]
