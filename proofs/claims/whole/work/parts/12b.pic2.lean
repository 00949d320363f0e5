theorem wk_set_self {w : va_W} {i : Nat} {e0 e : Nat × va_E} (h : w[i]? = some e0) : (w.set i e)[i]? = some e := by
  have hl := (List.getElem?_eq_some_iff.mp h).1
  simp [List.getElem?_set, hl]
theorem wx_sRk {cI cS : ClassId} {ad : Nat → Nat} {σ : wk_St} {k : Nat} (hk : k < wk_n σ) (q : Nat) : ((wx_W cI cS ad σ).set (16 + k) (ad (16 + k), .inr (6, [.int (nI k), .int (wk_sk σ k), .int (nI q), .ref (ad (8 + wk_rk σ k)), .int (wk_we σ k), .long (wk_pu σ k), va_rf (wx_mp ad (wk_n σ) (k + 1))]))).set (16 + k) (ad (16 + k), .inr (6, [.int (nI k), .int (wk_sk σ k), .int (nI q), .ref (ad (8 + q)), .int (wk_we σ k), .long (wk_pu σ k), va_rf (wx_mp ad (wk_n σ) (k + 1))])) = wx_W cI cS ad (wk_sRk σ (va_up (wk_rk σ) k q)) := by
  rw [List.set_set]
  refine Eq.trans ?_ (wx_setG (F := wx_F cI cS ad σ) (f := wx_mem ad σ) (g := wx_mem ad (wk_sRk σ (va_up (wk_rk σ) k q))) wx_F_len hk (fun i _ hi => ?_))
  · show _ = (wx_W cI cS ad σ).set (16 + k) _
    congr 1
    show _ = wx_mem ad (wk_sRk σ (va_up (wk_rk σ) k q)) k
    simp only [wx_mem, wk_sRk, wk_we, wk_sk, wk_rk, wk_pu, wk_n, va_up, if_pos]
  · simp only [wx_mem, wk_sRk, wk_we, wk_sk, wk_rk, wk_pu, wk_n, va_up, if_neg hi]
