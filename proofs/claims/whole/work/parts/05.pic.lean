/-! THE TWO PICTURES: the class's cells (wx_W) and the reference's (wm_W), of one state -/
abbrev wk_tys (cI cJ cS : ClassId) : List (ClassId × FieldType) := [(cI, .int), (cJ, .long), (cS, .object RX8)]
def wx_mp (ad : Nat → Nat) (n i : Nat) : Option Nat := if i < n then some (ad (16 + i)) else none
def wx_lp (ad : Nat → Nat) (n : Nat) : Option Nat := if n = 0 then none else some (ad (16 + (n - 1)))
def wx_rks (ad : Nat → Nat) : Nat → Option Nat := fun r => if r < 8 then some (ad (8 + r)) else none
def wx_mem (ad : Nat → Nat) (σ : wk_St) (i : Nat) : Nat × va_E := (ad (16 + i), .inr (6, [.int (nI i), .int (wk_sk σ i), .int (nI (wk_rk σ i)), .ref (ad (8 + wk_rk σ i)), .int (wk_we σ i), .long (wk_pu σ i), va_rf (wx_mp ad (wk_n σ) (i + 1))]))
def wx_F (cI cS : ClassId) (ad : Nat → Nat) (σ : wk_St) : va_W :=
  [(ad 0, .inr (10, [.ref (ad 1), .ref (ad 2), .ref (ad 3), .ref (ad 4), .ref (ad 5), .ref (ad 6)])),
   (ad 1, .inr (2, [va_rf (wx_mp ad (wk_n σ) 0), va_rf (wx_lp ad (wk_n σ)), .int (nI (wk_n σ)), .ref (ad 7), .int (nI (wk_nt σ))])),
   (ad 2, .inl (cS, 8, .inr (.inr (.inr (.inr (wx_rks ad)))))),
   (ad 3, .inl (cI, 8, .inl (wk_ld σ))), (ad 4, .inl (cI, 8, .inl (wk_ln σ))), (ad 5, .inl (cI, 8, .inl (wk_ll σ))), (ad 6, .inl (cI, 8, .inl (wk_lh σ))), (ad 7, .inl (cI, 64, .inl (wk_kp σ))),
   (ad 8, .inr (3, [])), (ad 9, .inr (7, [])), (ad 10, .inr (9, [])), (ad 11, .inr (0, [])), (ad 12, .inr (5, [])), (ad 13, .inr (4, [])), (ad 14, .inr (1, [])), (ad 15, .inr (8, []))]
def wx_W (cI cS : ClassId) (ad : Nat → Nat) (σ : wk_St) : va_W := wx_F cI cS ad σ ++ (List.range (wk_n σ)).map (wx_mem ad σ)
def wx_ci (r : Nat) : Nat := match r with
  | 0 => 3
  | 1 => 7
  | 2 => 9
  | 3 => 0
  | 4 => 5
  | 5 => 4
  | 6 => 1
  | _ => 8
section PIC
variable {cI cJ cS : ClassId} {ad : Nat → Nat} {σ : wk_St}
theorem wx_e0 : (wx_W cI cS ad σ)[0]? = some (ad 0, .inr (10, [.ref (ad 1), .ref (ad 2), .ref (ad 3), .ref (ad 4), .ref (ad 5), .ref (ad 6)])) := rfl
theorem wx_e1 : (wx_W cI cS ad σ)[1]? = some (ad 1, .inr (2, [va_rf (wx_mp ad (wk_n σ) 0), va_rf (wx_lp ad (wk_n σ)), .int (nI (wk_n σ)), .ref (ad 7), .int (nI (wk_nt σ))])) := rfl
theorem wx_e2 : (wx_W cI cS ad σ)[2]? = some (ad 2, .inl (cS, 8, .inr (.inr (.inr (.inr (wx_rks ad)))))) := rfl
theorem wx_e3 : (wx_W cI cS ad σ)[3]? = some (ad 3, .inl (cI, 8, .inl (wk_ld σ))) := rfl
theorem wx_e4 : (wx_W cI cS ad σ)[4]? = some (ad 4, .inl (cI, 8, .inl (wk_ln σ))) := rfl
theorem wx_e5 : (wx_W cI cS ad σ)[5]? = some (ad 5, .inl (cI, 8, .inl (wk_ll σ))) := rfl
theorem wx_e6 : (wx_W cI cS ad σ)[6]? = some (ad 6, .inl (cI, 8, .inl (wk_lh σ))) := rfl
theorem wx_e7 : (wx_W cI cS ad σ)[7]? = some (ad 7, .inl (cI, 64, .inl (wk_kp σ))) := rfl
theorem wx_er {r : Nat} (h : r < 8) : (wx_W cI cS ad σ)[8 + r]? = some (ad (8 + r), .inr (wx_ci r, [])) := by
  rcases (show r = 0 ∨ r = 1 ∨ r = 2 ∨ r = 3 ∨ r = 4 ∨ r = 5 ∨ r = 6 ∨ r = 7 by omega) with rfl | rfl | rfl | rfl | rfl | rfl | rfl | rfl <;> rfl
theorem wx_F_len : (wx_F cI cS ad σ).length = 16 := rfl
theorem wx_em {k : Nat} (h : k < wk_n σ) : (wx_W cI cS ad σ)[16 + k]? = some (ad (16 + k), .inr (6, [.int (nI k), .int (wk_sk σ k), .int (nI (wk_rk σ k)), .ref (ad (8 + wk_rk σ k)), .int (wk_we σ k), .long (wk_pu σ k), va_rf (wx_mp ad (wk_n σ) (k + 1))])) := by
  show (wx_F cI cS ad σ ++ (List.range (wk_n σ)).map (wx_mem ad σ))[16 + k]? = _
  rw [List.getElem?_append_right (by rw [wx_F_len]; omega), wx_F_len, Nat.add_sub_cancel_left, List.getElem?_map, List.getElem?_range h]
  rfl
theorem wx_setG {F : va_W} {f g : Nat → Nat × va_E} {n k : Nat} (hF : F.length = 16) (hk : k < n) (h : ∀ i, i < n → i ≠ k → f i = g i) : (F ++ (List.range n).map f).set (16 + k) (g k) = F ++ (List.range n).map g := by
  rw [List.set_append_right _ _ (by omega), hF, Nat.add_sub_cancel_left]
  congr 1
  apply List.ext_getElem?
  intro i
  rw [List.getElem?_set]
  by_cases hi : k = i
  · subst hi
    simp [hk]
  · rw [if_neg hi, List.getElem?_map, List.getElem?_map]
    by_cases hn : i < n
    · rw [List.getElem?_range hn]
      exact congrArg some (h i hn (Ne.symm hi))
    · rw [List.getElem?_eq_none (by simp; omega)]
      rfl
theorem wx_sNt (c : Nat) : (wx_W cI cS ad σ).set 1 (ad 1, .inr (2, [va_rf (wx_mp ad (wk_n σ) 0), va_rf (wx_lp ad (wk_n σ)), .int (nI (wk_n σ)), .ref (ad 7), .int (nI c)])) = wx_W cI cS ad (wk_sNt σ c) := rfl
theorem wx_sKp (f : Nat → Int32) : (wx_W cI cS ad σ).set 7 (ad 7, .inl (cI, 64, .inl f)) = wx_W cI cS ad (wk_sKp σ f) := rfl
theorem wx_sLd (f : Nat → Int32) : (wx_W cI cS ad σ).set 3 (ad 3, .inl (cI, 8, .inl f)) = wx_W cI cS ad (wk_sLd σ f) := rfl
theorem wx_sLn (f : Nat → Int32) : (wx_W cI cS ad σ).set 4 (ad 4, .inl (cI, 8, .inl f)) = wx_W cI cS ad (wk_sLn σ f) := rfl
theorem wx_sLl (f : Nat → Int32) : (wx_W cI cS ad σ).set 5 (ad 5, .inl (cI, 8, .inl f)) = wx_W cI cS ad (wk_sLl σ f) := rfl
theorem wx_sLh (f : Nat → Int32) : (wx_W cI cS ad σ).set 6 (ad 6, .inl (cI, 8, .inl f)) = wx_W cI cS ad (wk_sLh σ f) := rfl
theorem wx_sWe {k : Nat} (hk : k < wk_n σ) (x : Int32) : (wx_W cI cS ad σ).set (16 + k) (ad (16 + k), .inr (6, [.int (nI k), .int (wk_sk σ k), .int (nI (wk_rk σ k)), .ref (ad (8 + wk_rk σ k)), .int x, .long (wk_pu σ k), va_rf (wx_mp ad (wk_n σ) (k + 1))])) = wx_W cI cS ad (wk_sWe σ (upd (wk_we σ) k x)) := by
  refine Eq.trans ?_ (wx_setG (F := wx_F cI cS ad σ) (f := wx_mem ad σ) (g := wx_mem ad (wk_sWe σ (upd (wk_we σ) k x))) wx_F_len hk (fun i _ hi => ?_))
  · show _ = (wx_W cI cS ad σ).set (16 + k) _
    congr 1
    show _ = wx_mem ad (wk_sWe σ (upd (wk_we σ) k x)) k
    simp only [wx_mem, wk_sWe, wk_we, wk_sk, wk_rk, wk_pu, wk_n, upd, if_pos]
  · simp only [wx_mem, wk_sWe, wk_we, wk_sk, wk_rk, wk_pu, wk_n, upd, if_neg hi]
theorem wx_sPu {k : Nat} (hk : k < wk_n σ) (x : Int64) : (wx_W cI cS ad σ).set (16 + k) (ad (16 + k), .inr (6, [.int (nI k), .int (wk_sk σ k), .int (nI (wk_rk σ k)), .ref (ad (8 + wk_rk σ k)), .int (wk_we σ k), .long x, va_rf (wx_mp ad (wk_n σ) (k + 1))])) = wx_W cI cS ad (wk_sPu σ (vp_updL (wk_pu σ) k x)) := by
  refine Eq.trans ?_ (wx_setG (F := wx_F cI cS ad σ) (f := wx_mem ad σ) (g := wx_mem ad (wk_sPu σ (vp_updL (wk_pu σ) k x))) wx_F_len hk (fun i _ hi => ?_))
  · show _ = (wx_W cI cS ad σ).set (16 + k) _
    congr 1
    show _ = wx_mem ad (wk_sPu σ (vp_updL (wk_pu σ) k x)) k
    simp only [wx_mem, wk_sPu, wk_we, wk_sk, wk_rk, wk_pu, wk_n, vp_updL, if_pos]
  · simp only [wx_mem, wk_sPu, wk_we, wk_sk, wk_rk, wk_pu, wk_n, vp_updL, if_neg hi]
end PIC
def wm_W (cI cJ : ClassId) (am : Nat → Nat) (σ : wk_St) : va_W :=
  [(am 0, .inr (11, [.int (nI (wk_n σ)), .ref (am 1), .ref (am 2), .ref (am 3), .ref (am 4), .ref (am 5), .ref (am 6), .ref (am 7), .ref (am 8), .ref (am 9), .int (nI (wk_nt σ))])),
   (am 1, .inl (cI, 12, .inl (fun j => nI (wk_rk σ j)))), (am 2, .inl (cI, 12, .inl (wk_sk σ))), (am 3, .inl (cI, 12, .inl (wk_we σ))), (am 4, .inl (cJ, 12, .inr (.inl (wk_pu σ)))),
   (am 5, .inl (cI, 8, .inl (wk_ld σ))), (am 6, .inl (cI, 8, .inl (wk_ln σ))), (am 7, .inl (cI, 8, .inl (wk_ll σ))), (am 8, .inl (cI, 8, .inl (wk_lh σ))), (am 9, .inl (cI, 64, .inl (wk_kp σ)))]
