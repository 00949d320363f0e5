theorem wk_ld_0 : (fun _ : Nat => (0 : Int32)) = fun j => if j < 0 then -1 else 0 := by
  funext j
  rw [if_neg (Nat.not_lt_zero j)]
theorem wk_ld_s (i : Nat) : upd (fun j => if j < i then (-1 : Int32) else 0) i (-1) = fun j => if j < i + 1 then -1 else 0 := by
  funext j
  unfold upd
  by_cases h : j = i
  · rw [if_pos h, if_pos (by omega)]
  · rw [if_neg h]
    dsimp only
    by_cases h2 : j < i
    · rw [if_pos h2, if_pos (by omega)]
    · rw [if_neg h2, if_neg (by omega)]
def wx_ad (l : List Nat) : Nat → Nat := fun i => l.getD i 0
theorem wx_rks_of (a0 a1 a2 a3 a4 a5 a6 a7 r0 r1 r2 r3 r4 r5 r6 r7 : Nat) : va_up (va_up (va_up (va_up (va_up (va_up (va_up (va_up (fun _ => none) 0 (some r0)) 1 (some r1)) 2 (some r2)) 3 (some r3)) 4 (some r4)) 5 (some r5)) 6 (some r6)) 7 (some r7) = wx_rks (wx_ad [a0, a1, a2, a3, a4, a5, a6, a7, r0, r1, r2, r3, r4, r5, r6, r7]) := by
  funext r
  match r with
  | 0 => rfl
  | 1 => rfl
  | 2 => rfl
  | 3 => rfl
  | 4 => rfl
  | 5 => rfl
  | 6 => rfl
  | 7 => rfl
  | r + 8 => simp [va_up, wx_rks]
