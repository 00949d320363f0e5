/-! the reference's cells, by place -/
section MPIC
variable {cI cJ : ClassId} {am : Nat → Nat} {σ : wk_St}
theorem wm_e0 : (wm_W cI cJ am σ)[0]? = some (am 0, .inr (11, [.int (nI (wk_n σ)), .ref (am 1), .ref (am 2), .ref (am 3), .ref (am 4), .ref (am 5), .ref (am 6), .ref (am 7), .ref (am 8), .ref (am 9), .int (nI (wk_nt σ))])) := rfl
theorem wm_e1 : (wm_W cI cJ am σ)[1]? = some (am 1, .inl (cI, 12, .inl (fun j => nI (wk_rk σ j)))) := rfl
theorem wm_e2 : (wm_W cI cJ am σ)[2]? = some (am 2, .inl (cI, 12, .inl (wk_sk σ))) := rfl
theorem wm_e3 : (wm_W cI cJ am σ)[3]? = some (am 3, .inl (cI, 12, .inl (wk_we σ))) := rfl
theorem wm_e4 : (wm_W cI cJ am σ)[4]? = some (am 4, .inl (cJ, 12, .inr (.inl (wk_pu σ)))) := rfl
theorem wm_e5 : (wm_W cI cJ am σ)[5]? = some (am 5, .inl (cI, 8, .inl (wk_ld σ))) := rfl
theorem wm_e6 : (wm_W cI cJ am σ)[6]? = some (am 6, .inl (cI, 8, .inl (wk_ln σ))) := rfl
theorem wm_e7 : (wm_W cI cJ am σ)[7]? = some (am 7, .inl (cI, 8, .inl (wk_ll σ))) := rfl
theorem wm_e8 : (wm_W cI cJ am σ)[8]? = some (am 8, .inl (cI, 8, .inl (wk_lh σ))) := rfl
theorem wm_e9 : (wm_W cI cJ am σ)[9]? = some (am 9, .inl (cI, 64, .inl (wk_kp σ))) := rfl
theorem wm_sNt (c : Nat) : (wm_W cI cJ am σ).set 0 (am 0, .inr (11, [.int (nI (wk_n σ)), .ref (am 1), .ref (am 2), .ref (am 3), .ref (am 4), .ref (am 5), .ref (am 6), .ref (am 7), .ref (am 8), .ref (am 9), .int (nI c)])) = wm_W cI cJ am (wk_sNt σ c) := rfl
theorem wm_sWe (f : Nat → Int32) : (wm_W cI cJ am σ).set 3 (am 3, .inl (cI, 12, .inl f)) = wm_W cI cJ am (wk_sWe σ f) := rfl
theorem wm_sPu (f : Nat → Int64) : (wm_W cI cJ am σ).set 4 (am 4, .inl (cJ, 12, .inr (.inl f))) = wm_W cI cJ am (wk_sPu σ f) := rfl
theorem wm_sLd (f : Nat → Int32) : (wm_W cI cJ am σ).set 5 (am 5, .inl (cI, 8, .inl f)) = wm_W cI cJ am (wk_sLd σ f) := rfl
theorem wm_sLn (f : Nat → Int32) : (wm_W cI cJ am σ).set 6 (am 6, .inl (cI, 8, .inl f)) = wm_W cI cJ am (wk_sLn σ f) := rfl
theorem wm_sLl (f : Nat → Int32) : (wm_W cI cJ am σ).set 7 (am 7, .inl (cI, 8, .inl f)) = wm_W cI cJ am (wk_sLl σ f) := rfl
theorem wm_sLh (f : Nat → Int32) : (wm_W cI cJ am σ).set 8 (am 8, .inl (cI, 8, .inl f)) = wm_W cI cJ am (wk_sLh σ f) := rfl
theorem wm_sKp (f : Nat → Int32) : (wm_W cI cJ am σ).set 9 (am 9, .inl (cI, 64, .inl f)) = wm_W cI cJ am (wk_sKp σ f) := rfl
theorem wm_sRk (k q : Nat) : (wm_W cI cJ am σ).set 1 (am 1, .inl (cI, 12, .inl (upd (fun j => nI (wk_rk σ j)) k (nI q)))) = wm_W cI cJ am (wk_sRk σ (va_up (wk_rk σ) k q)) := by
  have e : upd (fun j => nI (wk_rk σ j)) k (nI q) = fun j => nI (va_up (wk_rk σ) k q j) := by
    funext j
    unfold upd va_up
    split <;> rfl
  rw [e]
  rfl
end MPIC
