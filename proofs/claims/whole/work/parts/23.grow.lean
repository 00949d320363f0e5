/-! A NEW MEMBER: the world grows by a cell -/
theorem wk_cwC {args : Array Value} {s : State} {R : Room} {Ts : List Cond} {own : String} {index nL : Nat} {y : MethodName} {bytes : ByteArray} {rm : Room} (n : Nat) (ht : ∀ w ∈ Ts, w.before args s = true) (hb : ∀ w ∈ wk_T, w ∈ Ts) (h1 : Cond.methodLink own index y ∈ wk_T) (h2 : Cond.instanceMethod y ∈ wk_T) (h4 : Cond.initialized y.cls ∈ wk_T) (h5 : Cond.code y bytes nL none ∈ wk_T) (hy1 : y.name = "<init>")
    (hd : y.cls ≠ "java/lang/invoke/MethodHandle" ∧ y.cls ≠ "java/lang/invoke/VarHandle" ∧ (parseMethodDescriptor y.desc).map (fun d => d.parameters.length) = some n) (hR : rm.frames + 1 ≤ R.frames ∧ 8 + (nL + 11) + rm.locals ≤ R.locals) : CallB R s args own index y bytes nL none (wk_M y bytes nL none) rm rm.cells rm.slots n ∧ y.name = "<init>" ∧ (Cond.instanceMethod y).before args s = true :=
  ⟨callB_of n ht (wk_good hb h5) rfl rfl rfl (ht _ (hb _ h4)) (ht _ (hb _ h1)) hd hR, hy1, ht _ (hb _ h2)⟩
theorem wk_mapset {f g : Nat → Nat × va_E} {n k : Nat} (hk : k < n) (h : ∀ i, i < n → i ≠ k → f i = g i) : ((List.range n).map f).set k (g k) = (List.range n).map g := by
  apply List.ext_getElem?
  intro i
  rw [List.getElem?_set]
  by_cases hi : k = i
  · subst hi
    simp [hk]
  · rw [if_neg hi, List.getElem?_map, List.getElem?_map]
    by_cases hn : i < n
    · rw [List.getElem?_range hn]
      exact congrArg some (h i hn (Ne.symm hi))
    · rw [List.getElem?_eq_none (by simp; omega)]
      rfl
theorem wx_app {cI cS : ClassId} {ad : Nat → Nat} {σ : wk_St} {w2 : va_W} {k : Nat} {e : Nat × va_E} (h : (wx_W cI cS ad σ)[k]? = some e) : (wx_W cI cS ad σ ++ w2)[k]? = some e := by
  rw [List.getElem?_append_left (List.getElem?_eq_some_iff.mp h).1]
  exact h
/-- the state with one member more -/
def wk_addQ (σ : wk_St) (q : Nat) (s : Int32) : wk_St := (wk_n σ + 1, va_up (wk_rk σ) (wk_n σ) q, upd (wk_sk σ) (wk_n σ) s, upd (wk_we σ) (wk_n σ) 0, vp_updL (wk_pu σ) (wk_n σ) 0, wk_ld σ, wk_ln σ, wk_ll σ, wk_lh σ, wk_kp σ, wk_nt σ)
theorem wx_ad_lt {ad : Nat → Nat} {n q i : Nat} (h : i < 16 + n) : va_up ad (16 + n) q i = ad i := if_neg (by omega)
theorem wx_ad_eq {ad : Nat → Nat} {n q : Nat} : va_up ad (16 + n) q (16 + n) = q := if_pos rfl
theorem wx_Fg {cI cS : ClassId} {ad : Nat → Nat} {σ : wk_St} (q q9 : Nat) (s9 : Int32) : wx_F cI cS (va_up ad (16 + wk_n σ) q) (wk_addQ σ q9 s9) = (wx_F cI cS ad σ).set 1 (ad 1, .inr (2, [va_rf (wx_mp (va_up ad (16 + wk_n σ) q) (wk_n σ + 1) 0), .ref q, .int (nI (wk_n σ + 1)), .ref (ad 7), .int (nI (wk_nt σ))])) := by
  have hr : wx_rks (va_up ad (16 + wk_n σ) q) = wx_rks ad := by
    funext r
    unfold wx_rks
    by_cases h : r < 8
    · rw [if_pos h, if_pos h, wx_ad_lt (by omega)]
    · rw [if_neg h, if_neg h]
  have hl : wx_lp (va_up ad (16 + wk_n σ) q) (wk_n σ + 1) = some q := by
    unfold wx_lp
    rw [if_neg (by omega), Nat.add_sub_cancel, wx_ad_eq]
  unfold wx_F
  rw [hr, show wk_n (wk_addQ σ q9 s9) = wk_n σ + 1 from rfl, hl, wx_ad_lt (i := 0) (by omega), wx_ad_lt (i := 1) (by omega), wx_ad_lt (i := 2) (by omega), wx_ad_lt (i := 3) (by omega), wx_ad_lt (i := 4) (by omega), wx_ad_lt (i := 5) (by omega), wx_ad_lt (i := 6) (by omega), wx_ad_lt (i := 7) (by omega), wx_ad_lt (i := 8) (by omega), wx_ad_lt (i := 9) (by omega), wx_ad_lt (i := 10) (by omega), wx_ad_lt (i := 11) (by omega), wx_ad_lt (i := 12) (by omega), wx_ad_lt (i := 13) (by omega), wx_ad_lt (i := 14) (by omega), wx_ad_lt (i := 15) (by omega)]
  rfl
theorem wx_new_mem {ad : Nat → Nat} {σ : wk_St} {q q9 : Nat} (hq : q9 < 8) (s9 : Int32) : wx_mem (va_up ad (16 + wk_n σ) q) (wk_addQ σ q9 s9) (wk_n σ) = (q, .inr (6, [.int (nI (wk_n σ)), .int s9, .int (nI q9), .ref (ad (8 + q9)), .int 0, .long 0, .null])) := by
  have e1 : wk_sk (wk_addQ σ q9 s9) (wk_n σ) = s9 := if_pos rfl
  have e2 : wk_rk (wk_addQ σ q9 s9) (wk_n σ) = q9 := if_pos rfl
  have e3 : wk_we (wk_addQ σ q9 s9) (wk_n σ) = 0 := if_pos rfl
  have e4 : wk_pu (wk_addQ σ q9 s9) (wk_n σ) = 0 := if_pos rfl
  have e5 : wx_mp (va_up ad (16 + wk_n σ) q) (wk_n (wk_addQ σ q9 s9)) (wk_n σ + 1) = none := if_neg (Nat.lt_irrefl _)
  unfold wx_mem
  rw [e1, e2, e3, e4, e5, wx_ad_eq, wx_ad_lt (by omega)]
  rfl
theorem wx_old_mem {ad : Nat → Nat} {σ : wk_St} {q q9 i : Nat} (hV : wk_V σ) (hi : i < wk_n σ) (s9 : Int32) : wx_mem (va_up ad (16 + wk_n σ) q) (wk_addQ σ q9 s9) i = (ad (16 + i), .inr (6, [.int (nI i), .int (wk_sk σ i), .int (nI (wk_rk σ i)), .ref (ad (8 + wk_rk σ i)), .int (wk_we σ i), .long (wk_pu σ i), va_rf (if i + 1 < wk_n σ then some (ad (16 + (i + 1))) else some q)])) := by
  have hr := hV.2 i hi
  have e1 : wk_sk (wk_addQ σ q9 s9) i = wk_sk σ i := if_neg (by omega)
  have e2 : wk_rk (wk_addQ σ q9 s9) i = wk_rk σ i := if_neg (by omega)
  have e3 : wk_we (wk_addQ σ q9 s9) i = wk_we σ i := if_neg (by omega)
  have e4 : wk_pu (wk_addQ σ q9 s9) i = wk_pu σ i := if_neg (by omega)
  have e5 : wx_mp (va_up ad (16 + wk_n σ) q) (wk_n (wk_addQ σ q9 s9)) (i + 1) = (if i + 1 < wk_n σ then some (ad (16 + (i + 1))) else some q) := by
    unfold wx_mp
    rw [if_pos (show i + 1 < wk_n (wk_addQ σ q9 s9) from Nat.succ_lt_succ hi)]
    by_cases h : i + 1 < wk_n σ
    · rw [if_pos h, wx_ad_lt (by omega)]
    · rw [if_neg h, show i + 1 = wk_n σ by omega, wx_ad_eq]
  unfold wx_mem
  rw [e1, e2, e3, e4, e5, wx_ad_lt (i := 16 + i) (by omega), wx_ad_lt (by omega)]
theorem wx_Wg {cI cS : ClassId} {ad : Nat → Nat} {σ : wk_St} {q q9 : Nat} (hq : q9 < 8) (s9 : Int32) : wx_W cI cS (va_up ad (16 + wk_n σ) q) (wk_addQ σ q9 s9) = (wx_F cI cS ad σ).set 1 (ad 1, .inr (2, [va_rf (wx_mp (va_up ad (16 + wk_n σ) q) (wk_n σ + 1) 0), .ref q, .int (nI (wk_n σ + 1)), .ref (ad 7), .int (nI (wk_nt σ))])) ++ ((List.range (wk_n σ)).map (wx_mem (va_up ad (16 + wk_n σ) q) (wk_addQ σ q9 s9)) ++ [(q, .inr (6, [.int (nI (wk_n σ)), .int s9, .int (nI q9), .ref (ad (8 + q9)), .int 0, .long 0, .null]))]) := by
  unfold wx_W
  rw [wx_Fg, show wk_n (wk_addQ σ q9 s9) = wk_n σ + 1 from rfl, List.range_succ, List.map_append, ← wx_new_mem hq s9]
  rfl
theorem wx_set1 {cI cS : ClassId} {ad : Nat → Nat} {σ : wk_St} {X : va_W} {e : Nat × va_E} : (wx_F cI cS ad σ ++ X).set 1 e = (wx_F cI cS ad σ).set 1 e ++ X := rfl
theorem wx_grow0 {cI cS : ClassId} {ad : Nat → Nat} {σ : wk_St} {q q9 : Nat} (hq : q9 < 8) (s9 : Int32) (h0 : wk_n σ = 0) : (wx_W cI cS ad σ ++ ([(q, .inr (6, [.int (nI (wk_n σ)), .int s9, .int (nI q9), .ref (ad (8 + q9)), .int 0, .long 0, .null]))] : va_W)).set 1 (ad 1, .inr (2, [.ref q, .ref q, .int (nI (wk_n σ + 1)), .ref (ad 7), .int (nI (wk_nt σ))])) = wx_W cI cS (va_up ad (16 + wk_n σ) q) (wk_addQ σ q9 s9) := by
  have e5 : wx_mp (va_up ad (16 + wk_n σ) q) (wk_n σ + 1) 0 = some q := by
    unfold wx_mp
    rw [if_pos (by omega), show 16 + 0 = 16 + wk_n σ by omega, wx_ad_eq]
  rw [wx_Wg hq s9, e5]
  unfold wx_W
  rw [List.append_assoc, wx_set1]
  congr 1
  rw [h0]
  rfl
theorem wx_growS {cI cS : ClassId} {ad : Nat → Nat} {σ : wk_St} {q q9 : Nat} (hV : wk_V σ) (hq : q9 < 8) (s9 : Int32) (h0 : 0 < wk_n σ) : ((wx_W cI cS ad σ ++ ([(q, .inr (6, [.int (nI (wk_n σ)), .int s9, .int (nI q9), .ref (ad (8 + q9)), .int 0, .long 0, .null]))] : va_W)).set (16 + (wk_n σ - 1)) (ad (16 + (wk_n σ - 1)), .inr (6, [.int (nI (wk_n σ - 1)), .int (wk_sk σ (wk_n σ - 1)), .int (nI (wk_rk σ (wk_n σ - 1))), .ref (ad (8 + wk_rk σ (wk_n σ - 1))), .int (wk_we σ (wk_n σ - 1)), .long (wk_pu σ (wk_n σ - 1)), .ref q]))).set 1 (ad 1, .inr (2, [va_rf (wx_mp ad (wk_n σ) 0), .ref q, .int (nI (wk_n σ + 1)), .ref (ad 7), .int (nI (wk_nt σ))])) = wx_W cI cS (va_up ad (16 + wk_n σ) q) (wk_addQ σ q9 s9) := by
  have e5 : wx_mp (va_up ad (16 + wk_n σ) q) (wk_n σ + 1) 0 = wx_mp ad (wk_n σ) 0 := by
    unfold wx_mp
    rw [if_pos (by omega), if_pos h0, wx_ad_lt (by omega)]
  have eM : (ad (16 + (wk_n σ - 1)), (.inr (6, [.int (nI (wk_n σ - 1)), .int (wk_sk σ (wk_n σ - 1)), .int (nI (wk_rk σ (wk_n σ - 1))), .ref (ad (8 + wk_rk σ (wk_n σ - 1))), .int (wk_we σ (wk_n σ - 1)), .long (wk_pu σ (wk_n σ - 1)), .ref q]) : va_E)) = wx_mem (va_up ad (16 + wk_n σ) q) (wk_addQ σ q9 s9) (wk_n σ - 1) := by
    rw [wx_old_mem hV (by omega), if_neg (by omega)]
    rfl
  rw [wx_Wg hq s9, e5, eM]
  unfold wx_W
  have hms : ((List.range (wk_n σ)).map (wx_mem ad σ)).set (wk_n σ - 1) (wx_mem (va_up ad (16 + wk_n σ) q) (wk_addQ σ q9 s9) (wk_n σ - 1)) = (List.range (wk_n σ)).map (wx_mem (va_up ad (16 + wk_n σ) q) (wk_addQ σ q9 s9)) := by
    refine wk_mapset (by omega) (fun i hi hne => ?_)
    rw [wx_old_mem hV hi, if_pos (by omega)]
    unfold wx_mem wx_mp
    rw [if_pos (show i + 1 < wk_n σ by omega)]
  have hs : ((List.range (wk_n σ)).map (wx_mem ad σ) ++ ([(q, .inr (6, [.int (nI (wk_n σ)), .int s9, .int (nI q9), .ref (ad (8 + q9)), .int 0, .long 0, .null]))] : va_W)).set (wk_n σ - 1) (wx_mem (va_up ad (16 + wk_n σ) q) (wk_addQ σ q9 s9) (wk_n σ - 1)) = (List.range (wk_n σ)).map (wx_mem (va_up ad (16 + wk_n σ) q) (wk_addQ σ q9 s9)) ++ [(q, .inr (6, [.int (nI (wk_n σ)), .int s9, .int (nI q9), .ref (ad (8 + q9)), .int 0, .long 0, .null]))] := by
    rw [List.set_append_left _ _ (by rw [List.length_map, List.length_range]; omega), hms]
  rw [List.append_assoc, List.set_append_right _ _ (by rw [wx_F_len]; omega), wx_F_len, Nat.add_sub_cancel_left, hs, wx_set1]
theorem wx_newat {cI cS : ClassId} {ad : Nat → Nat} {σ : wk_St} {q q9 : Nat} (hq : q9 < 8) (s9 : Int32) : (wx_W cI cS (va_up ad (16 + wk_n σ) q) (wk_addQ σ q9 s9))[16 + wk_n σ]? = some (q, .inr (6, [.int (nI (wk_n σ)), .int s9, .int (nI q9), .ref (ad (8 + q9)), .int 0, .long 0, .null])) := by
  have h : wk_n σ < wk_n (wk_addQ σ q9 s9) := Nat.lt_succ_self _
  rw [← wx_new_mem hq s9]
  exact wx_em h
