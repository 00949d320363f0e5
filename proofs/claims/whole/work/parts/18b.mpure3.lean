def wk_sSk (σ : wk_St) (f : Nat → Int32) : wk_St := (wk_n σ, wk_rk σ, f, wk_we σ, wk_pu σ, wk_ld σ, wk_ln σ, wk_ll σ, wk_lh σ, wk_kp σ, wk_nt σ)
def wk_sN (σ : wk_St) (c : Nat) : wk_St := (c, wk_rk σ, wk_sk σ, wk_we σ, wk_pu σ, wk_ld σ, wk_ln σ, wk_ll σ, wk_lh σ, wk_kp σ, wk_nt σ)
theorem wm_sSk {cI cJ : ClassId} {am : Nat → Nat} {σ : wk_St} (f : Nat → Int32) : (wm_W cI cJ am σ).set 2 (am 2, .inl (cI, 12, .inl f)) = wm_W cI cJ am (wk_sSk σ f) := rfl
theorem wm_sN {cI cJ : ClassId} {am : Nat → Nat} {σ : wk_St} (c : Nat) : (wm_W cI cJ am σ).set 0 (am 0, .inr (11, [.int (nI c), .ref (am 1), .ref (am 2), .ref (am 3), .ref (am 4), .ref (am 5), .ref (am 6), .ref (am 7), .ref (am 8), .ref (am 9), .int (nI (wk_nt σ))])) = wm_W cI cJ am (wk_sN σ c) := rfl
theorem wa_t32 (x : Int64) : (x + 0).toInt32 = x.toInt32 := by rw [Int64.add_zero]
