set_option maxHeartbeats 4000000 in
set_option maxRecDepth 100000 in
theorem c_X12_howMany (l : Launch) (D : va_G) (cI cJ cS : ClassId) (am : Nat → Nat) (σ : wk_St)  (hV : wk_V σ) : wk_Ci l D (wk_tys cI cJ cS) yX12_howMany (wk_M yX12_howMany cX12_howMany 5 (some .int)) ({ frames := 0, cells := 0, slots := 0, locals := 0 }) [.ref (am 0), .int 0, .int 2] (wm_W cI cJ am σ) (wm_W cI cJ am) (fun r0 u0 => r0 = ((nI (wk_cnt σ (wk_n σ)), σ)).1 ∧ u0 = ((nI (wk_cnt σ (wk_n σ)), σ)).2) := by
  intro sz
  refine Met.ofW (cc := cX12_howMany) (maxL := 5) (ret := (some .int)) (by decide) rfl ?_
  intro p e s m args below meth c s₁ B hml hv
  obtain ⟨rfl, hsz, hP, hK, hD0, hN⟩ := hv
  have hx := B.exec
  have hb := B.bytes
  have hr := B.returns
  have hts := atoms_spec (ws := wk_M yX12_howMany cX12_howMany 5 (some .int)) B.pre
  have hown : s.vm.findClass RX12 = some m.cls := findClass_of_methodNamed B.named
  have hlk := B.notSynchronized
  subst hsz
  have hI : wk_I D (va_A (wm_W cI cJ am σ) s.heap.size) s.heap s.heap [] (wm_W cI cJ am σ) := ⟨hP, hD0.self, va_S.rf⟩
  have hA : ∀ q : Nat, s.heap.size ≤ q → (va_A (wm_W cI cJ am σ) s.heap.size) q := fun q h => Or.inr h
  clear hP hD0
  generalize va_A (wm_W cI cJ am σ) s.heap.size = A at hI hA ⊢
  have hl := lv_entry ([.ref (am 0), .int 0, .int 2]) (n := 5) (Nat.le_of_ble_eq_true rfl)
  rw [lg_entry_eq]
  generalize (lg_sl ([.ref (am 0), .int 0, .int 2]) ++ List.replicate (5 - (lg_sl ([.ref (am 0), .int 0, .int 2])).length) Slot.unset).toArray = ls at hl ⊢
  have hl : lv_has ls 5 [(0, .ref (am 0)), (1, .int 0), (2, .int 2)] := hl
  refine lv_iconst (v := 0) hx hb dX12_howMany_0 (by decide) ?_
  refine lv_istore_n (lv' := [(3, .int 0), (0, .ref (am 0)), (1, .int 0), (2, .int 2)]) hx hb dX12_howMany_1 rfl hl (by decide) rfl (fun ls hl => ?_)
  refine lv_iconst (v := 0) hx hb dX12_howMany_2 (by decide) ?_
  refine lv_istore (lv' := [(4, .int 0), (3, .int 0), (0, .ref (am 0)), (1, .int 0), (2, .int 2)]) hx hb dX12_howMany_3 hl (by decide) rfl (fun ls hl => ?_)
  have hN_2 : wk_n σ ≤ 12 := hV.1
  refine wk_loop (fun i H locs ls => wk_I D A s.heap H locs (wm_W cI cJ am σ) ∧ lv_has ls 5 [(0, .ref (am 0)), (1, .int 0), (2, .int 2), (3, .int (nI (wk_cnt σ i))), (4, .int (nI i))]) (wk_n σ) ?_ ?_ (wk_n σ) 0 _ _ _ (Nat.zero_add _) ⟨hI, lv_sub hl [2, 3, 4, 1, 0] rfl⟩
  · intro H locs ls hinv
    obtain ⟨hI, hl⟩ := hinv
    refine lv_iload hx hb dX12_howMany_5 (lv_at hl 4 rfl) ?_
    refine lv_aload_n hx hb dX12_howMany_7 rfl (lv_at hl 0 rfl) ?_
    refine wk_get (v := .int (nI (wk_n σ))) hx hb hts (fun w h => wk_in_M w (lay_X12 w h)) hown hK hI (0) wm_e0 rfl 0 (by decide) (hts _ (wk_in_M _ mw_494)) rfl rfl dX12_howMany_8 ?_
    refine lv_icmp_ge (tgt := 45) hx hb dX12_howMany_11 (by decide) (fun c_3 => ?_) (fun c_3 => ?_)
    · refine lv_iload_n hx hb dX12_howMany_45 rfl (lv_at hl 3 rfl) ?_
      exact wk_ri σ hx hb hr hlk hK hI rfl (wk_post (by first | rfl | (simp only [if_pos c_3]; done) | (simp only [if_pos c_3]; rfl))) dX12_howMany_46
    · exact absurd (by rw [show wk_n σ = wk_n σ from rfl]; exact nI_le (Nat.le_refl _) (by omega)) c_3
  · intro i_1 H locs ls hi_i_1 hinv ih_i_1
    obtain ⟨hI, hl⟩ := hinv
    have hs_i_1 : i_1 < wk_n σ := hi_i_1
    refine lv_iload hx hb dX12_howMany_5 (lv_at hl 4 rfl) ?_
    refine lv_aload_n hx hb dX12_howMany_7 rfl (lv_at hl 0 rfl) ?_
    refine wk_get (v := .int (nI (wk_n σ))) hx hb hts (fun w h => wk_in_M w (lay_X12 w h)) hown hK hI (0) wm_e0 rfl 0 (by decide) (hts _ (wk_in_M _ mw_494)) rfl rfl dX12_howMany_8 ?_
    refine lv_icmp_ge (tgt := 45) hx hb dX12_howMany_11 (by decide) (fun c_4 => ?_) (fun c_4 => ?_)
    · exact absurd c_4 (by rw [show wk_n σ = wk_n σ from rfl]; exact nI_ge hi_i_1 (by omega))
    · refine lv_aload_n hx hb dX12_howMany_14 rfl (lv_at hl 0 rfl) ?_
      refine wk_get (v := .ref (am 1)) hx hb hts (fun w h => wk_in_M w (lay_X12 w h)) hown hK hI (0) wm_e0 rfl 1 (by decide) (hts _ (wk_in_M _ mw_495)) rfl rfl dX12_howMany_15 ?_
      refine lv_iload hx hb dX12_howMany_18 (lv_at hl 4 rfl) ?_
      refine wk_iald (v := (nI (wk_rk σ i_1))) (j := i_1) hx hb hK hI 1 0 wm_e1 rfl rfl (by omega) (by decide) rfl dX12_howMany_20 ?_
      refine lv_iload_n hx hb dX12_howMany_21 rfl (lv_at hl 1 rfl) ?_
      refine lv_icmp_lt (tgt := 39) hx hb dX12_howMany_22 (by decide) (fun c_5 => ?_) (fun c_5 => ?_)
      · refine lv_iinc (v := nI (i_1 + 1)) (lv' := [(4, .int (nI (i_1 + 1))), (0, .ref (am 0)), (1, .int 0), (2, .int 2), (3, .int (nI (wk_cnt σ i_1)))]) hx hb dX12_howMany_39 hl (k := 4) rfl (nI_1 _) (by decide) rfl (fun ls hl => ?_)
        refine lv_goto (tgt := 5) hx hb dX12_howMany_42 (by decide) ?_
        exact absurd c_5 (by have hq := hV.rk hi_i_1; simp only [Int32.lt_iff_toInt_lt, Int32.le_iff_toInt_le, nI_toInt (show wk_rk σ i_1 < 2 ^ 31 by omega), wk_lit0, wk_lit1, wk_lit2, wk_lit3, wk_lit5, wk_lit6, wk_lit7, wk_lit8, wk_lit64, wk_lit4, wk_lit12, wk_lit20, wk_lit99, wk_lit1000]; omega)
      · refine lv_aload_n hx hb dX12_howMany_25 rfl (lv_at hl 0 rfl) ?_
        refine wk_get (v := .ref (am 1)) hx hb hts (fun w h => wk_in_M w (lay_X12 w h)) hown hK hI (0) wm_e0 rfl 1 (by decide) (hts _ (wk_in_M _ mw_495)) rfl rfl dX12_howMany_26 ?_
        refine lv_iload hx hb dX12_howMany_29 (lv_at hl 4 rfl) ?_
        refine wk_iald (v := (nI (wk_rk σ i_1))) (j := i_1) hx hb hK hI 1 0 wm_e1 rfl rfl (by omega) (by decide) rfl dX12_howMany_31 ?_
        refine lv_iload_n hx hb dX12_howMany_32 rfl (lv_at hl 2 rfl) ?_
        refine lv_icmp_gt (tgt := 39) hx hb dX12_howMany_33 (by decide) (fun c_6 => ?_) (fun c_6 => ?_)
        · refine lv_iinc (v := nI (i_1 + 1)) (lv' := [(4, .int (nI (i_1 + 1))), (0, .ref (am 0)), (1, .int 0), (2, .int 2), (3, .int (nI (wk_cnt σ i_1)))]) hx hb dX12_howMany_39 hl (k := 4) rfl (nI_1 _) (by decide) rfl (fun ls hl => ?_)
          refine lv_goto (tgt := 5) hx hb dX12_howMany_42 (by decide) ?_
          have hR : ¬ wk_rk σ i_1 ≤ 2 := by have hq := hV.rk hi_i_1; have hq2 := c_6; simp only [Int32.lt_iff_toInt_lt, Int32.le_iff_toInt_le, nI_toInt (show wk_rk σ i_1 < 2 ^ 31 by omega), wk_lit0, wk_lit1, wk_lit2, wk_lit3, wk_lit5, wk_lit6, wk_lit7, wk_lit8, wk_lit64, wk_lit4, wk_lit12, wk_lit20, wk_lit99, wk_lit1000] at hq2; omega
          have e1 : wk_cnt σ (i_1 + 1) = wk_cnt σ i_1 := by rw [wk_cnt, if_neg hR]
          exact ih_i_1 _ _ _ ⟨hI, by rw [e1]; exact lv_sub hl [1, 2, 3, 4, 0] rfl⟩
        · refine lv_iinc (v := nI ((wk_cnt σ i_1) + 1)) (lv' := [(3, .int (nI ((wk_cnt σ i_1) + 1))), (0, .ref (am 0)), (1, .int 0), (2, .int 2), (4, .int (nI i_1))]) hx hb dX12_howMany_36 hl (k := 3) rfl (nI_1 _) (by decide) rfl (fun ls hl => ?_)
          refine lv_iinc (v := nI (i_1 + 1)) (lv' := [(4, .int (nI (i_1 + 1))), (3, .int (nI ((wk_cnt σ i_1) + 1))), (0, .ref (am 0)), (1, .int 0), (2, .int 2)]) hx hb dX12_howMany_39 hl (k := 4) rfl (nI_1 _) (by decide) rfl (fun ls hl => ?_)
          refine lv_goto (tgt := 5) hx hb dX12_howMany_42 (by decide) ?_
          have hR : wk_rk σ i_1 ≤ 2 := by have hq := hV.rk hi_i_1; have hq2 := c_6; simp only [Int32.lt_iff_toInt_lt, Int32.le_iff_toInt_le, nI_toInt (show wk_rk σ i_1 < 2 ^ 31 by omega), wk_lit0, wk_lit1, wk_lit2, wk_lit3, wk_lit5, wk_lit6, wk_lit7, wk_lit8, wk_lit64, wk_lit4, wk_lit12, wk_lit20, wk_lit99, wk_lit1000] at hq2; omega
          have e1 : wk_cnt σ (i_1 + 1) = wk_cnt σ i_1 + 1 := by rw [wk_cnt, if_pos hR]
          exact ih_i_1 _ _ _ ⟨hI, by rw [e1]; exact lv_sub hl [2, 3, 4, 1, 0] rfl⟩
set_option maxHeartbeats 4000000 in
set_option maxRecDepth 100000 in
theorem c_X12_bosunIsPaid (l : Launch) (D : va_G) (cI cJ cS : ClassId) (am : Nat → Nat) (σ : wk_St) (k : Nat) (n : Int32) (hV : wk_V σ) (hk : k < wk_n σ) (hc : wk_nt σ + 2 < 2147483648) : wk_Cl l D (wk_tys cI cJ cS) yX12_bosunIsPaid (wk_M yX12_bosunIsPaid cX12_bosunIsPaid 5 (some .long)) ({ frames := 2, cells := 0, slots := 0, locals := 43 }) [.ref (am 0), .int (nI k), .int n] (wm_W cI cJ am σ) (wm_W cI cJ am) (fun r0 u0 => r0 = (wk_bosunPay σ k n).1 ∧ u0 = (wk_bosunPay σ k n).2) := by
  intro sz
  refine Met.ofW (cc := cX12_bosunIsPaid) (maxL := 5) (ret := (some .long)) (by decide) rfl ?_
  intro p e s m args below meth c s₁ B hml hv
  obtain ⟨rfl, hsz, hP, hK, hD0, hN⟩ := hv
  have hx := B.exec
  have hb := B.bytes
  have hr := B.returns
  have hts := atoms_spec (ws := wk_M yX12_bosunIsPaid cX12_bosunIsPaid 5 (some .long)) B.pre
  have hown : s.vm.findClass RX12 = some m.cls := findClass_of_methodNamed B.named
  have hlk := B.notSynchronized
  subst hsz
  have hI : wk_I D (va_A (wm_W cI cJ am σ) s.heap.size) s.heap s.heap [] (wm_W cI cJ am σ) := ⟨hP, hD0.self, va_S.rf⟩
  have hA : ∀ q : Nat, s.heap.size ≤ q → (va_A (wm_W cI cJ am σ) s.heap.size) q := fun q h => Or.inr h
  clear hP hD0
  generalize va_A (wm_W cI cJ am σ) s.heap.size = A at hI hA ⊢
  have hl := lv_entry ([.ref (am 0), .int (nI k), .int n]) (n := 5) (Nat.le_of_ble_eq_true rfl)
  rw [lg_entry_eq]
  generalize (lg_sl ([.ref (am 0), .int (nI k), .int n]) ++ List.replicate (5 - (lg_sl ([.ref (am 0), .int (nI k), .int n])).length) Slot.unset).toArray = ls at hl ⊢
  have hl : lv_has ls 5 [(0, .ref (am 0)), (1, .int (nI k)), (2, .int n)] := hl
  have hk12 : k < 12 := by have hq := hV.1; omega
  refine lv_aload_n hx hb dX12_bosunIsPaid_0 rfl (lv_at hl 0 rfl) ?_
  refine lv_bipush (v := 31) hx hb dX12_bosunIsPaid_1 (by decide) ?_
  refine wk_kV hI hA (va_runV (As := [.int 31]) (rest := []) ⟨hx, hb, hml, hown, hts⟩ (c_X12_mark l D cI cJ cS am σ 31 (by have hq12 := hV.1; omega) _) (wk_cwV 1 hts wk_in_M mw_584 mw_586 mw_10 mw_45 mw_587 hdX12_mark ⟨(Nat.le_of_ble_eq_true rfl), (Nat.le_of_ble_eq_true rfl)⟩) (wk_preV hN hK hI (ci := 11) rfl wm_e0) rfl rfl hl.1 rfl (lv_room (Nat.le_of_ble_eq_true rfl)) dX12_bosunIsPaid_3 ⟨(Nat.le_of_ble_eq_true rfl), (Nat.le_of_ble_eq_true rfl)⟩) (fun u H locs hw hI => ?_)
  obtain rfl := hw
  have hG_1 : wk_G σ (wk_note σ 31) 1 := wk_g_note σ 31
  refine lv_aload_n hx hb dX12_bosunIsPaid_6 rfl (lv_at hl 0 rfl) ?_
  refine lv_iload_n hx hb dX12_bosunIsPaid_7 rfl (lv_at hl 1 rfl) ?_
  refine lv_iload_n hx hb dX12_bosunIsPaid_8 rfl (lv_at hl 2 rfl) ?_
  refine wk_kL hI hA (va_runV (As := [.int (nI k), .int n]) (rest := []) ⟨hx, hb, hml, hown, hts⟩ (c_X12_handIsPaid l D cI cJ cS am (wk_note σ 31) k n (hG_1.V hV) (hG_1.lt hk) (by have hq := hG_1.nt; have hq12 := hV.1; omega) _) (wk_cwV 2 hts wk_in_M mw_618 mw_620 mw_18 mw_45 mw_621 hdX12_handIsPaid ⟨(Nat.le_of_ble_eq_true rfl), (Nat.le_of_ble_eq_true rfl)⟩) (wk_preV hN hK hI (ci := 11) rfl wm_e0) rfl rfl hl.1 rfl (lv_room (Nat.le_of_ble_eq_true rfl)) dX12_bosunIsPaid_9 ⟨(Nat.le_of_ble_eq_true rfl), (Nat.le_of_ble_eq_true rfl)⟩) (fun r u H locs hw hI => ?_)
  obtain ⟨rfl, rfl⟩ := hw
  have hG_2 : wk_G σ ((wk_handPay (wk_note σ 31) k n).2) 2 := hG_1.trans (wk_g_handPay (wk_note σ 31) k n)
  refine lv_lstore_n (lv' := [(3, .long ((wk_handPay (wk_note σ 31) k n).1)), (0, .ref (am 0)), (1, .int (nI k)), (2, .int n)]) hx hb dX12_bosunIsPaid_12 rfl hl (by decide) rfl (fun ls hl => ?_)
  refine lv_lload_n hx hb dX12_bosunIsPaid_13 rfl (lv_at hl 0 rfl) ?_
  refine lv_ldc2 hx hb hown (hts _ (wk_in_M _ mw_622)) dX12_bosunIsPaid_14 ?_
  refine lv_iload_n hx hb dX12_bosunIsPaid_17 rfl (lv_at hl 3 rfl) ?_
  refine lv_i2l hx hb dX12_bosunIsPaid_18 rfl ?_
  refine lv_lmul hx hb dX12_bosunIsPaid_19 ?_
  refine lv_ladd hx hb dX12_bosunIsPaid_20 ?_
  refine lv_iload_n hx hb dX12_bosunIsPaid_21 rfl (lv_at hl 3 rfl) ?_
  refine lv_i2l hx hb dX12_bosunIsPaid_22 rfl ?_
  refine lv_aload_n hx hb dX12_bosunIsPaid_23 rfl (lv_at hl 1 rfl) ?_
  refine lv_iconst (v := 0) hx hb dX12_bosunIsPaid_24 (by decide) ?_
  refine lv_iconst (v := 2) hx hb dX12_bosunIsPaid_25 (by decide) ?_
  refine wk_kI hI hA (va_runV (As := [.int 0, .int 2]) (rest := [.long (n.toInt64), .long (((wk_handPay (wk_note σ 31) k n).1) + (2 * (n.toInt64)))]) ⟨hx, hb, hml, hown, hts⟩ (c_X12_howMany l D cI cJ cS am ((wk_handPay (wk_note σ 31) k n).2) (hG_2.V hV) _) (wk_cwV 2 hts wk_in_M mw_623 mw_625 mw_19 mw_45 mw_626 hdX12_howMany ⟨(Nat.le_of_ble_eq_true rfl), (Nat.le_of_ble_eq_true rfl)⟩) (wk_preV hN hK hI (ci := 11) rfl wm_e0) rfl rfl hl.1 rfl (lv_room (Nat.le_of_ble_eq_true rfl)) dX12_bosunIsPaid_26 ⟨(Nat.le_of_ble_eq_true rfl), (Nat.le_of_ble_eq_true rfl)⟩) (fun r u H locs hw hI => ?_)
  obtain ⟨rfl, hw⟩ := hw
  rw [hw] at hI
  refine lv_i2l hx hb dX12_bosunIsPaid_29 rfl ?_
  refine lv_lmul hx hb dX12_bosunIsPaid_30 ?_
  refine lv_ladd hx hb dX12_bosunIsPaid_31 ?_
  have h31 : wk_cnt (wk_handPay (wk_note σ 31) k n).2 (wk_n (wk_handPay (wk_note σ 31) k n).2) < 2 ^ 31 := by have hq := wk_cnt_le (wk_handPay (wk_note σ 31) k n).2 (wk_n (wk_handPay (wk_note σ 31) k n).2); have hq2 : wk_n (wk_handPay (wk_note σ 31) k n).2 ≤ 12 := hV.1; omega
  exact wk_rl ((wk_handPay (wk_note σ 31) k n).2) hx hb hr hlk hK hI rfl (wk_post (by unfold wk_bosunPay wk_bosunPay1; rw [wk_addN_cnt, nI_l h31])) dX12_bosunIsPaid_32
set_option maxHeartbeats 4000000 in
set_option maxRecDepth 100000 in
theorem c_X12_masterIsPaid (l : Launch) (D : va_G) (cI cJ cS : ClassId) (am : Nat → Nat) (σ : wk_St) (k : Nat) (n : Int32) (hV : wk_V σ) (hk : k < wk_n σ) (hc : wk_nt σ + 3 < 2147483648) : wk_Cl l D (wk_tys cI cJ cS) yX12_masterIsPaid (wk_M yX12_masterIsPaid cX12_masterIsPaid 5 (some .long)) ({ frames := 3, cells := 0, slots := 0, locals := 67 }) [.ref (am 0), .int (nI k), .int n] (wm_W cI cJ am σ) (wm_W cI cJ am) (fun r0 u0 => r0 = (wk_masterPay σ k n).1 ∧ u0 = (wk_masterPay σ k n).2) := by
  intro sz
  refine Met.ofW (cc := cX12_masterIsPaid) (maxL := 5) (ret := (some .long)) (by decide) rfl ?_
  intro p e s m args below meth c s₁ B hml hv
  obtain ⟨rfl, hsz, hP, hK, hD0, hN⟩ := hv
  have hx := B.exec
  have hb := B.bytes
  have hr := B.returns
  have hts := atoms_spec (ws := wk_M yX12_masterIsPaid cX12_masterIsPaid 5 (some .long)) B.pre
  have hown : s.vm.findClass RX12 = some m.cls := findClass_of_methodNamed B.named
  have hlk := B.notSynchronized
  subst hsz
  have hI : wk_I D (va_A (wm_W cI cJ am σ) s.heap.size) s.heap s.heap [] (wm_W cI cJ am σ) := ⟨hP, hD0.self, va_S.rf⟩
  have hA : ∀ q : Nat, s.heap.size ≤ q → (va_A (wm_W cI cJ am σ) s.heap.size) q := fun q h => Or.inr h
  clear hP hD0
  generalize va_A (wm_W cI cJ am σ) s.heap.size = A at hI hA ⊢
  have hl := lv_entry ([.ref (am 0), .int (nI k), .int n]) (n := 5) (Nat.le_of_ble_eq_true rfl)
  rw [lg_entry_eq]
  generalize (lg_sl ([.ref (am 0), .int (nI k), .int n]) ++ List.replicate (5 - (lg_sl ([.ref (am 0), .int (nI k), .int n])).length) Slot.unset).toArray = ls at hl ⊢
  have hl : lv_has ls 5 [(0, .ref (am 0)), (1, .int (nI k)), (2, .int n)] := hl
  have hk12 : k < 12 := by have hq := hV.1; omega
  refine lv_aload_n hx hb dX12_masterIsPaid_0 rfl (lv_at hl 0 rfl) ?_
  refine lv_bipush (v := 51) hx hb dX12_masterIsPaid_1 (by decide) ?_
  refine wk_kV hI hA (va_runV (As := [.int 51]) (rest := []) ⟨hx, hb, hml, hown, hts⟩ (c_X12_mark l D cI cJ cS am σ 51 (by have hq12 := hV.1; omega) _) (wk_cwV 1 hts wk_in_M mw_584 mw_586 mw_10 mw_45 mw_587 hdX12_mark ⟨(Nat.le_of_ble_eq_true rfl), (Nat.le_of_ble_eq_true rfl)⟩) (wk_preV hN hK hI (ci := 11) rfl wm_e0) rfl rfl hl.1 rfl (lv_room (Nat.le_of_ble_eq_true rfl)) dX12_masterIsPaid_3 ⟨(Nat.le_of_ble_eq_true rfl), (Nat.le_of_ble_eq_true rfl)⟩) (fun u H locs hw hI => ?_)
  obtain rfl := hw
  have hG_1 : wk_G σ (wk_note σ 51) 1 := wk_g_note σ 51
  refine lv_aload_n hx hb dX12_masterIsPaid_6 rfl (lv_at hl 0 rfl) ?_
  refine lv_iload_n hx hb dX12_masterIsPaid_7 rfl (lv_at hl 1 rfl) ?_
  refine lv_iload_n hx hb dX12_masterIsPaid_8 rfl (lv_at hl 2 rfl) ?_
  refine wk_kL hI hA (va_runV (As := [.int (nI k), .int n]) (rest := []) ⟨hx, hb, hml, hown, hts⟩ (c_X12_bosunIsPaid l D cI cJ cS am (wk_note σ 51) k n (hG_1.V hV) (hG_1.lt hk) (by have hq := hG_1.nt; have hq12 := hV.1; omega) _) (wk_cwV 2 hts wk_in_M mw_614 mw_616 mw_17 mw_45 mw_617 hdX12_bosunIsPaid ⟨(Nat.le_of_ble_eq_true rfl), (Nat.le_of_ble_eq_true rfl)⟩) (wk_preV hN hK hI (ci := 11) rfl wm_e0) rfl rfl hl.1 rfl (lv_room (Nat.le_of_ble_eq_true rfl)) dX12_masterIsPaid_9 ⟨(Nat.le_of_ble_eq_true rfl), (Nat.le_of_ble_eq_true rfl)⟩) (fun r u H locs hw hI => ?_)
  obtain ⟨rfl, rfl⟩ := hw
  have hG_2 : wk_G σ ((wk_bosunPay (wk_note σ 51) k n).2) 3 := hG_1.trans (wk_g_bosunPay (wk_note σ 51) k n)
  refine lv_lstore_n (lv' := [(3, .long ((wk_bosunPay (wk_note σ 51) k n).1)), (0, .ref (am 0)), (1, .int (nI k)), (2, .int n)]) hx hb dX12_masterIsPaid_12 rfl hl (by decide) rfl (fun ls hl => ?_)
  refine lv_aload_n hx hb dX12_masterIsPaid_13 rfl (lv_at hl 1 rfl) ?_
  refine wk_get (v := .ref (am 3)) hx hb hts (fun w h => wk_in_M w (lay_X12 w h)) hown hK hI (0) wm_e0 rfl 3 (by decide) (hts _ (wk_in_M _ mw_497)) rfl rfl dX12_masterIsPaid_14 ?_
  refine lv_iload_n hx hb dX12_masterIsPaid_17 rfl (lv_at hl 2 rfl) ?_
  refine wk_iald (v := (wk_we ((wk_bosunPay (wk_note σ 51) k n).2) k)) (j := k) hx hb hK hI 3 0 wm_e3 rfl rfl (by have hq12 := hV.1; omega) (by decide) rfl dX12_masterIsPaid_18 ?_
  refine lv_sipush (v := 300) hx hb dX12_masterIsPaid_19 (by decide) ?_
  refine lv_icmp_ge (tgt := 33) hx hb dX12_masterIsPaid_22 (by decide) (fun c_3 => ?_) (fun c_3 => ?_)
  · refine lv_lload_n hx hb dX12_masterIsPaid_33 rfl (lv_at hl 0 rfl) ?_
    exact wk_rl ((wk_bosunPay (wk_note σ 51) k n).2) hx hb hr hlk hK hI rfl (wk_post (by first | rfl | (simp only [wk_masterPay, wk_masterPay1, if_pos c_3]; done) | (simp only [wk_masterPay, wk_masterPay1, if_pos c_3]; rfl))) dX12_masterIsPaid_34
  · refine lv_ldc2 hx hb hown (hts _ (wk_in_M _ mw_622)) dX12_masterIsPaid_25 ?_
    refine lv_lload_n hx hb dX12_masterIsPaid_28 rfl (lv_at hl 0 rfl) ?_
    refine lv_lmul hx hb dX12_masterIsPaid_29 ?_
    refine lv_goto (tgt := 34) hx hb dX12_masterIsPaid_30 (by decide) ?_
    exact wk_rl ((wk_bosunPay (wk_note σ 51) k n).2) hx hb hr hlk hK hI rfl (wk_post (by first | rfl | (simp only [wk_masterPay, wk_masterPay1, if_neg c_3]; done) | (simp only [wk_masterPay, wk_masterPay1, if_neg c_3]; rfl))) dX12_masterIsPaid_34
set_option maxHeartbeats 4000000 in
set_option maxRecDepth 100000 in
theorem c_X12_surgeonIsPaid (l : Launch) (D : va_G) (cI cJ cS : ClassId) (am : Nat → Nat) (σ : wk_St) (k : Nat) (n : Int32) (hV : wk_V σ) (hk : k < wk_n σ) (hc : wk_nt σ + 2 < 2147483648) : wk_Cl l D (wk_tys cI cJ cS) yX12_surgeonIsPaid (wk_M yX12_surgeonIsPaid cX12_surgeonIsPaid 6 (some .long)) ({ frames := 2, cells := 0, slots := 0, locals := 43 }) [.ref (am 0), .int (nI k), .int n] (wm_W cI cJ am σ) (wm_W cI cJ am) (fun r0 u0 => r0 = (wk_surgPay σ k n).1 ∧ u0 = (wk_surgPay σ k n).2) := by
  intro sz
  refine Met.ofW (cc := cX12_surgeonIsPaid) (maxL := 6) (ret := (some .long)) (by decide) rfl ?_
  intro p e s m args below meth c s₁ B hml hv
  obtain ⟨rfl, hsz, hP, hK, hD0, hN⟩ := hv
  have hx := B.exec
  have hb := B.bytes
  have hr := B.returns
  have hts := atoms_spec (ws := wk_M yX12_surgeonIsPaid cX12_surgeonIsPaid 6 (some .long)) B.pre
  have hown : s.vm.findClass RX12 = some m.cls := findClass_of_methodNamed B.named
  have hlk := B.notSynchronized
  subst hsz
  have hI : wk_I D (va_A (wm_W cI cJ am σ) s.heap.size) s.heap s.heap [] (wm_W cI cJ am σ) := ⟨hP, hD0.self, va_S.rf⟩
  have hA : ∀ q : Nat, s.heap.size ≤ q → (va_A (wm_W cI cJ am σ) s.heap.size) q := fun q h => Or.inr h
  clear hP hD0
  generalize va_A (wm_W cI cJ am σ) s.heap.size = A at hI hA ⊢
  have hl := lv_entry ([.ref (am 0), .int (nI k), .int n]) (n := 6) (Nat.le_of_ble_eq_true rfl)
  rw [lg_entry_eq]
  generalize (lg_sl ([.ref (am 0), .int (nI k), .int n]) ++ List.replicate (6 - (lg_sl ([.ref (am 0), .int (nI k), .int n])).length) Slot.unset).toArray = ls at hl ⊢
  have hl : lv_has ls 6 [(0, .ref (am 0)), (1, .int (nI k)), (2, .int n)] := hl
  have hk12 : k < 12 := by have hq := hV.1; omega
  refine lv_aload_n hx hb dX12_surgeonIsPaid_0 rfl (lv_at hl 0 rfl) ?_
  refine lv_bipush (v := 71) hx hb dX12_surgeonIsPaid_1 (by decide) ?_
  refine wk_kV hI hA (va_runV (As := [.int 71]) (rest := []) ⟨hx, hb, hml, hown, hts⟩ (c_X12_mark l D cI cJ cS am σ 71 (by have hq12 := hV.1; omega) _) (wk_cwV 1 hts wk_in_M mw_584 mw_586 mw_10 mw_45 mw_587 hdX12_mark ⟨(Nat.le_of_ble_eq_true rfl), (Nat.le_of_ble_eq_true rfl)⟩) (wk_preV hN hK hI (ci := 11) rfl wm_e0) rfl rfl hl.1 rfl (lv_room (Nat.le_of_ble_eq_true rfl)) dX12_surgeonIsPaid_3 ⟨(Nat.le_of_ble_eq_true rfl), (Nat.le_of_ble_eq_true rfl)⟩) (fun u H locs hw hI => ?_)
  obtain rfl := hw
  have hG_1 : wk_G σ (wk_note σ 71) 1 := wk_g_note σ 71
  refine lv_aload_n hx hb dX12_surgeonIsPaid_6 rfl (lv_at hl 0 rfl) ?_
  refine lv_iload_n hx hb dX12_surgeonIsPaid_7 rfl (lv_at hl 1 rfl) ?_
  refine lv_iload_n hx hb dX12_surgeonIsPaid_8 rfl (lv_at hl 2 rfl) ?_
  refine wk_kL hI hA (va_runV (As := [.int (nI k), .int n]) (rest := []) ⟨hx, hb, hml, hown, hts⟩ (c_X12_handIsPaid l D cI cJ cS am (wk_note σ 71) k n (hG_1.V hV) (hG_1.lt hk) (by have hq := hG_1.nt; have hq12 := hV.1; omega) _) (wk_cwV 2 hts wk_in_M mw_618 mw_620 mw_18 mw_45 mw_621 hdX12_handIsPaid ⟨(Nat.le_of_ble_eq_true rfl), (Nat.le_of_ble_eq_true rfl)⟩) (wk_preV hN hK hI (ci := 11) rfl wm_e0) rfl rfl hl.1 rfl (lv_room (Nat.le_of_ble_eq_true rfl)) dX12_surgeonIsPaid_9 ⟨(Nat.le_of_ble_eq_true rfl), (Nat.le_of_ble_eq_true rfl)⟩) (fun r u H locs hw hI => ?_)
  obtain ⟨rfl, rfl⟩ := hw
  have hG_2 : wk_G σ ((wk_handPay (wk_note σ 71) k n).2) 2 := hG_1.trans (wk_g_handPay (wk_note σ 71) k n)
  refine lv_lstore_n (lv' := [(3, .long ((wk_handPay (wk_note σ 71) k n).1)), (0, .ref (am 0)), (1, .int (nI k)), (2, .int n)]) hx hb dX12_surgeonIsPaid_12 rfl hl (by decide) rfl (fun ls hl => ?_)
  refine lv_iconst (v := 0) hx hb dX12_surgeonIsPaid_13 (by decide) ?_
  refine lv_istore (lv' := [(5, .int 0), (3, .long ((wk_handPay (wk_note σ 71) k n).1)), (0, .ref (am 0)), (1, .int (nI k)), (2, .int n)]) hx hb dX12_surgeonIsPaid_14 hl (by decide) rfl (fun ls hl => ?_)
  have hN_4 : wk_n ((wk_handPay (wk_note σ 71) k n).2) ≤ 12 := by rw [hG_2.n]; exact hV.1
  refine wk_loop (fun i H locs ls => wk_I D A s.heap H locs (wm_W cI cJ am ((wk_handPay (wk_note σ 71) k n).2)) ∧ lv_has ls 6 [(0, .ref (am 0)), (1, .int (nI k)), (2, .int n), (3, .long (wk_add7 ((wk_handPay (wk_note σ 71) k n).2) ((wk_handPay (wk_note σ 71) k n).1) i)), (5, .int (nI i))]) (wk_n ((wk_handPay (wk_note σ 71) k n).2)) ?_ ?_ (wk_n ((wk_handPay (wk_note σ 71) k n).2)) 0 _ _ _ (Nat.zero_add _) ⟨hI, lv_sub hl [2, 3, 4, 1, 0] rfl⟩
  · intro H locs ls hinv
    obtain ⟨hI, hl⟩ := hinv
    refine lv_iload hx hb dX12_surgeonIsPaid_16 (lv_at hl 4 rfl) ?_
    refine lv_aload_n hx hb dX12_surgeonIsPaid_18 rfl (lv_at hl 0 rfl) ?_
    refine wk_get (v := .int (nI (wk_n ((wk_handPay (wk_note σ 71) k n).2)))) hx hb hts (fun w h => wk_in_M w (lay_X12 w h)) hown hK hI (0) wm_e0 rfl 0 (by decide) (hts _ (wk_in_M _ mw_494)) rfl rfl dX12_surgeonIsPaid_19 ?_
    refine lv_icmp_ge (tgt := 50) hx hb dX12_surgeonIsPaid_22 (by decide) (fun c_5 => ?_) (fun c_5 => ?_)
    · refine lv_lload_n hx hb dX12_surgeonIsPaid_50 rfl (lv_at hl 3 rfl) ?_
      exact wk_rl ((wk_handPay (wk_note σ 71) k n).2) hx hb hr hlk hK hI rfl (wk_post (by first | rfl | (simp only [wk_surgPay, wk_surgPay1, if_pos c_5]; done) | (simp only [wk_surgPay, wk_surgPay1, if_pos c_5]; rfl))) dX12_surgeonIsPaid_51
    · exact absurd (by rw [show wk_n ((wk_handPay (wk_note σ 71) k n).2) = wk_n ((wk_handPay (wk_note σ 71) k n).2) from rfl]; exact nI_le (Nat.le_refl _) (by omega)) c_5
  · intro i_3 H locs ls hi_i_3 hinv ih_i_3
    obtain ⟨hI, hl⟩ := hinv
    have hs_i_3 : i_3 < wk_n σ := by have hq := hG_2.n; omega
    refine lv_iload hx hb dX12_surgeonIsPaid_16 (lv_at hl 4 rfl) ?_
    refine lv_aload_n hx hb dX12_surgeonIsPaid_18 rfl (lv_at hl 0 rfl) ?_
    refine wk_get (v := .int (nI (wk_n ((wk_handPay (wk_note σ 71) k n).2)))) hx hb hts (fun w h => wk_in_M w (lay_X12 w h)) hown hK hI (0) wm_e0 rfl 0 (by decide) (hts _ (wk_in_M _ mw_494)) rfl rfl dX12_surgeonIsPaid_19 ?_
    refine lv_icmp_ge (tgt := 50) hx hb dX12_surgeonIsPaid_22 (by decide) (fun c_6 => ?_) (fun c_6 => ?_)
    · exact absurd c_6 (by rw [show wk_n ((wk_handPay (wk_note σ 71) k n).2) = wk_n ((wk_handPay (wk_note σ 71) k n).2) from rfl]; exact nI_ge hi_i_3 (by omega))
    · refine lv_aload_n hx hb dX12_surgeonIsPaid_25 rfl (lv_at hl 0 rfl) ?_
      refine wk_get (v := .ref (am 3)) hx hb hts (fun w h => wk_in_M w (lay_X12 w h)) hown hK hI (0) wm_e0 rfl 3 (by decide) (hts _ (wk_in_M _ mw_497)) rfl rfl dX12_surgeonIsPaid_26 ?_
      refine lv_iload hx hb dX12_surgeonIsPaid_29 (lv_at hl 4 rfl) ?_
      refine wk_iald (v := (wk_we ((wk_handPay (wk_note σ 71) k n).2) i_3)) (j := i_3) hx hb hK hI 3 0 wm_e3 rfl rfl (by omega) (by decide) rfl dX12_surgeonIsPaid_31 ?_
      refine lv_sipush (v := 500) hx hb dX12_surgeonIsPaid_32 (by decide) ?_
      refine lv_icmp_le (tgt := 44) hx hb dX12_surgeonIsPaid_35 (by decide) (fun c_7 => ?_) (fun c_7 => ?_)
      · refine lv_iinc (v := nI (i_3 + 1)) (lv' := [(5, .int (nI (i_3 + 1))), (0, .ref (am 0)), (1, .int (nI k)), (2, .int n), (3, .long (wk_add7 ((wk_handPay (wk_note σ 71) k n).2) ((wk_handPay (wk_note σ 71) k n).1) i_3))]) hx hb dX12_surgeonIsPaid_44 hl (k := 4) rfl (nI_1 _) (by decide) rfl (fun ls hl => ?_)
        refine lv_goto (tgt := 16) hx hb dX12_surgeonIsPaid_47 (by decide) ?_
        have e1 : wk_add7 ((wk_handPay (wk_note σ 71) k n).2) ((wk_handPay (wk_note σ 71) k n).1) (i_3 + 1) = wk_add7 ((wk_handPay (wk_note σ 71) k n).2) ((wk_handPay (wk_note σ 71) k n).1) i_3 := by simp only [wk_add7, if_pos c_7]
        rw [← e1] at hl
        exact ih_i_3 _ _ _ ⟨hI, lv_sub hl [1, 2, 3, 4, 0] rfl⟩
      · refine lv_lload_n hx hb dX12_surgeonIsPaid_38 rfl (lv_at hl 3 rfl) ?_
        refine lv_ldc2 hx hb hown (hts _ (wk_in_M _ mw_635)) dX12_surgeonIsPaid_39 ?_
        refine lv_ladd hx hb dX12_surgeonIsPaid_42 ?_
        refine lv_lstore_n (lv' := [(3, .long ((wk_add7 ((wk_handPay (wk_note σ 71) k n).2) ((wk_handPay (wk_note σ 71) k n).1) i_3) + 7)), (0, .ref (am 0)), (1, .int (nI k)), (2, .int n), (5, .int (nI i_3))]) hx hb dX12_surgeonIsPaid_43 rfl hl (by decide) rfl (fun ls hl => ?_)
        refine lv_iinc (v := nI (i_3 + 1)) (lv' := [(5, .int (nI (i_3 + 1))), (3, .long ((wk_add7 ((wk_handPay (wk_note σ 71) k n).2) ((wk_handPay (wk_note σ 71) k n).1) i_3) + 7)), (0, .ref (am 0)), (1, .int (nI k)), (2, .int n)]) hx hb dX12_surgeonIsPaid_44 hl (k := 4) rfl (nI_1 _) (by decide) rfl (fun ls hl => ?_)
        refine lv_goto (tgt := 16) hx hb dX12_surgeonIsPaid_47 (by decide) ?_
        have e1 : wk_add7 ((wk_handPay (wk_note σ 71) k n).2) ((wk_handPay (wk_note σ 71) k n).1) (i_3 + 1) = (wk_add7 ((wk_handPay (wk_note σ 71) k n).2) ((wk_handPay (wk_note σ 71) k n).1) i_3) + 7 := by simp only [wk_add7, if_neg c_7]
        rw [← e1] at hl
        exact ih_i_3 _ _ _ ⟨hI, lv_sub hl [2, 3, 4, 1, 0] rfl⟩
set_option maxHeartbeats 4000000 in
set_option maxRecDepth 100000 in
theorem c_X12_bosunHeeds (l : Launch) (D : va_G) (cI cJ cS : ClassId) (am : Nat → Nat) (σ : wk_St) (k : Nat) (n : Int32) (hV : wk_V σ) (hk : k < wk_n σ) (hc : wk_nt σ + 27 < 2147483648) (hn9 : wa_B n 10001) : wk_Cl l D (wk_tys cI cJ cS) yX12_bosunHeeds (wk_M yX12_bosunHeeds cX12_bosunHeeds 6 (some .long)) ({ frames := 3, cells := 0, slots := 0, locals := 65 }) [.ref (am 0), .int (nI k), .int n] (wm_W cI cJ am σ) (wm_W cI cJ am) (fun r0 u0 => r0 = (wk_bosunHeed σ k n).1.toInt64 ∧ u0 = (wk_bosunHeed σ k n).2) := by
  intro sz
  refine Met.ofW (cc := cX12_bosunHeeds) (maxL := 6) (ret := (some .long)) (by decide) rfl ?_
  intro p e s m args below meth c s₁ B hml hv
  obtain ⟨rfl, hsz, hP, hK, hD0, hN⟩ := hv
  have hx := B.exec
  have hb := B.bytes
  have hr := B.returns
  have hts := atoms_spec (ws := wk_M yX12_bosunHeeds cX12_bosunHeeds 6 (some .long)) B.pre
  have hown : s.vm.findClass RX12 = some m.cls := findClass_of_methodNamed B.named
  have hlk := B.notSynchronized
  subst hsz
  have hI : wk_I D (va_A (wm_W cI cJ am σ) s.heap.size) s.heap s.heap [] (wm_W cI cJ am σ) := ⟨hP, hD0.self, va_S.rf⟩
  have hA : ∀ q : Nat, s.heap.size ≤ q → (va_A (wm_W cI cJ am σ) s.heap.size) q := fun q h => Or.inr h
  clear hP hD0
  generalize va_A (wm_W cI cJ am σ) s.heap.size = A at hI hA ⊢
  have hl := lv_entry ([.ref (am 0), .int (nI k), .int n]) (n := 6) (Nat.le_of_ble_eq_true rfl)
  rw [lg_entry_eq]
  generalize (lg_sl ([.ref (am 0), .int (nI k), .int n]) ++ List.replicate (6 - (lg_sl ([.ref (am 0), .int (nI k), .int n])).length) Slot.unset).toArray = ls at hl ⊢
  have hl : lv_has ls 6 [(0, .ref (am 0)), (1, .int (nI k)), (2, .int n)] := hl
  have hk12 : k < 12 := by have hq := hV.1; omega
  refine lv_aload_n hx hb dX12_bosunHeeds_0 rfl (lv_at hl 0 rfl) ?_
  refine lv_bipush (v := 33) hx hb dX12_bosunHeeds_1 (by decide) ?_
  refine wk_kV hI hA (va_runV (As := [.int 33]) (rest := []) ⟨hx, hb, hml, hown, hts⟩ (c_X12_mark l D cI cJ cS am σ 33 (by have hq12 := hV.1; omega) _) (wk_cwV 1 hts wk_in_M mw_584 mw_586 mw_10 mw_45 mw_587 hdX12_mark ⟨(Nat.le_of_ble_eq_true rfl), (Nat.le_of_ble_eq_true rfl)⟩) (wk_preV hN hK hI (ci := 11) rfl wm_e0) rfl rfl hl.1 rfl (lv_room (Nat.le_of_ble_eq_true rfl)) dX12_bosunHeeds_3 ⟨(Nat.le_of_ble_eq_true rfl), (Nat.le_of_ble_eq_true rfl)⟩) (fun u H locs hw hI => ?_)
  obtain rfl := hw
  have hG_1 : wk_G σ (wk_note σ 33) 1 := wk_g_note σ 33
  refine lv_aload_n hx hb dX12_bosunHeeds_6 rfl (lv_at hl 0 rfl) ?_
  refine lv_iload_n hx hb dX12_bosunHeeds_7 rfl (lv_at hl 1 rfl) ?_
  refine lv_iload_n hx hb dX12_bosunHeeds_8 rfl (lv_at hl 2 rfl) ?_
  refine wk_kL hI hA (va_runV (As := [.int (nI k), .int n]) (rest := []) ⟨hx, hb, hml, hown, hts⟩ (c_X12_topmanHeeds l D cI cJ cS am (wk_note σ 33) k n (hG_1.V hV) (hG_1.lt hk) (by have hq := hG_1.nt; have hq12 := hV.1; omega) hn9 _) (wk_cwV 2 hts wk_in_M mw_667 mw_669 mw_29 mw_45 mw_670 hdX12_topmanHeeds ⟨(Nat.le_of_ble_eq_true rfl), (Nat.le_of_ble_eq_true rfl)⟩) (wk_preV hN hK hI (ci := 11) rfl wm_e0) rfl rfl hl.1 rfl (lv_room (Nat.le_of_ble_eq_true rfl)) dX12_bosunHeeds_9 ⟨(Nat.le_of_ble_eq_true rfl), (Nat.le_of_ble_eq_true rfl)⟩) (fun r u H locs hw hI => ?_)
  obtain ⟨rfl, rfl⟩ := hw
  have hG_2 : wk_G σ ((wk_topHeed (wk_note σ 33) k n).2) 3 := hG_1.trans (wk_g_topHeed (wk_note σ 33) k n)
  refine lv_lstore_n (lv' := [(3, .long ((wk_topHeed (wk_note σ 33) k n).1.toInt64)), (0, .ref (am 0)), (1, .int (nI k)), (2, .int n)]) hx hb dX12_bosunHeeds_12 rfl hl (by decide) rfl (fun ls hl => ?_)
  refine lv_iconst (v := 0) hx hb dX12_bosunHeeds_13 (by decide) ?_
  refine lv_istore (lv' := [(5, .int 0), (3, .long ((wk_topHeed (wk_note σ 33) k n).1.toInt64)), (0, .ref (am 0)), (1, .int (nI k)), (2, .int n)]) hx hb dX12_bosunHeeds_14 hl (by decide) rfl (fun ls hl => ?_)
  have hq9 := wa_topHeed hn9 hk12 (wk_note σ 33)
  have hN_4 : wk_n ((wk_topHeed (wk_note σ 33) k n).2) ≤ 12 := by rw [hG_2.n]; exact hV.1
  refine wk_loop (fun i H locs ls => wk_I D A s.heap H locs (wm_W cI cJ am ((wk_heedL n (wk_topHeed (wk_note σ 33) k n) i).2)) ∧ lv_has ls 6 [(0, .ref (am 0)), (1, .int (nI k)), (2, .int n), (3, .long ((wk_heedL n (wk_topHeed (wk_note σ 33) k n) i).1.toInt64)), (5, .int (nI i))]) (wk_n ((wk_topHeed (wk_note σ 33) k n).2)) ?_ ?_ (wk_n ((wk_topHeed (wk_note σ 33) k n).2)) 0 _ _ _ (Nat.zero_add _) ⟨hI, lv_sub hl [2, 3, 4, 1, 0] rfl⟩
  · intro H locs ls hinv
    obtain ⟨hI, hl⟩ := hinv
    have hG_5 : wk_G σ ((wk_heedL n (wk_topHeed (wk_note σ 33) k n) (wk_n ((wk_topHeed (wk_note σ 33) k n).2))).2) (3 + (2 * (wk_n ((wk_topHeed (wk_note σ 33) k n).2)))) := hG_2.trans (wk_g_heedL n (wk_topHeed (wk_note σ 33) k n) (wk_n ((wk_topHeed (wk_note σ 33) k n).2)))
    refine lv_iload hx hb dX12_bosunHeeds_16 (lv_at hl 4 rfl) ?_
    refine lv_aload_n hx hb dX12_bosunHeeds_18 rfl (lv_at hl 0 rfl) ?_
    refine wk_get (v := .int (nI (wk_n ((wk_heedL n (wk_topHeed (wk_note σ 33) k n) (wk_n ((wk_topHeed (wk_note σ 33) k n).2))).2)))) hx hb hts (fun w h => wk_in_M w (lay_X12 w h)) hown hK hI (0) wm_e0 rfl 0 (by decide) (hts _ (wk_in_M _ mw_494)) rfl rfl dX12_bosunHeeds_19 ?_
    refine lv_icmp_ge (tgt := 76) hx hb dX12_bosunHeeds_22 (by decide) (fun c_6 => ?_) (fun c_6 => ?_)
    · refine lv_lload_n hx hb dX12_bosunHeeds_76 rfl (lv_at hl 3 rfl) ?_
      exact wk_rl ((wk_heedL n (wk_topHeed (wk_note σ 33) k n) (wk_n ((wk_topHeed (wk_note σ 33) k n).2))).2) hx hb hr hlk hK hI rfl ⟨by rw [hG_2.n]; rfl, by rw [hG_2.n]; rfl⟩ dX12_bosunHeeds_77
    · exact absurd (by rw [show wk_n ((wk_heedL n (wk_topHeed (wk_note σ 33) k n) (wk_n ((wk_topHeed (wk_note σ 33) k n).2))).2) = wk_n ((wk_topHeed (wk_note σ 33) k n).2) from (hG_5.n.trans hG_2.n.symm)]; exact nI_le (Nat.le_refl _) (by omega)) c_6
  · intro i_3 H locs ls hi_i_3 hinv ih_i_3
    obtain ⟨hI, hl⟩ := hinv
    have hs_i_3 : i_3 < wk_n σ := by have hq := hG_2.n; omega
    have hG_7 : wk_G σ ((wk_heedL n (wk_topHeed (wk_note σ 33) k n) i_3).2) (3 + (2 * i_3)) := hG_2.trans (wk_g_heedL n (wk_topHeed (wk_note σ 33) k n) i_3)
    refine lv_iload hx hb dX12_bosunHeeds_16 (lv_at hl 4 rfl) ?_
    refine lv_aload_n hx hb dX12_bosunHeeds_18 rfl (lv_at hl 0 rfl) ?_
    refine wk_get (v := .int (nI (wk_n ((wk_heedL n (wk_topHeed (wk_note σ 33) k n) i_3).2)))) hx hb hts (fun w h => wk_in_M w (lay_X12 w h)) hown hK hI (0) wm_e0 rfl 0 (by decide) (hts _ (wk_in_M _ mw_494)) rfl rfl dX12_bosunHeeds_19 ?_
    refine lv_icmp_ge (tgt := 76) hx hb dX12_bosunHeeds_22 (by decide) (fun c_8 => ?_) (fun c_8 => ?_)
    · exact absurd c_8 (by rw [show wk_n ((wk_heedL n (wk_topHeed (wk_note σ 33) k n) i_3).2) = wk_n ((wk_topHeed (wk_note σ 33) k n).2) from (hG_7.n.trans hG_2.n.symm)]; exact nI_ge hi_i_3 (by omega))
    · refine lv_aload_n hx hb dX12_bosunHeeds_25 rfl (lv_at hl 0 rfl) ?_
      refine wk_get (v := .ref (am 1)) hx hb hts (fun w h => wk_in_M w (lay_X12 w h)) hown hK hI (0) wm_e0 rfl 1 (by decide) (hts _ (wk_in_M _ mw_495)) rfl rfl dX12_bosunHeeds_26 ?_
      refine lv_iload hx hb dX12_bosunHeeds_29 (lv_at hl 4 rfl) ?_
      refine wk_iald (v := (nI (wk_rk ((wk_heedL n (wk_topHeed (wk_note σ 33) k n) i_3).2) i_3))) (j := i_3) hx hb hK hI 1 0 wm_e1 rfl rfl (by omega) (by decide) rfl dX12_bosunHeeds_31 ?_
      refine lv_iconst (v := 2) hx hb dX12_bosunHeeds_32 (by decide) ?_
      refine lv_icmp_ge (tgt := 49) hx hb dX12_bosunHeeds_33 (by decide) (fun c_9 => ?_) (fun c_9 => ?_)
      · refine lv_aload_n hx hb dX12_bosunHeeds_49 rfl (lv_at hl 0 rfl) ?_
        refine wk_get (v := .ref (am 1)) hx hb hts (fun w h => wk_in_M w (lay_X12 w h)) hown hK hI (0) wm_e0 rfl 1 (by decide) (hts _ (wk_in_M _ mw_495)) rfl rfl dX12_bosunHeeds_50 ?_
        refine lv_iload hx hb dX12_bosunHeeds_53 (lv_at hl 4 rfl) ?_
        refine wk_iald (v := (nI (wk_rk ((wk_heedL n (wk_topHeed (wk_note σ 33) k n) i_3).2) i_3))) (j := i_3) hx hb hK hI 1 0 wm_e1 rfl rfl (by omega) (by decide) rfl dX12_bosunHeeds_55 ?_
        refine lv_iconst (v := 2) hx hb dX12_bosunHeeds_56 (by decide) ?_
        refine lv_icmp_ne (tgt := 70) hx hb dX12_bosunHeeds_57 (by decide) (fun c_10 => ?_) (fun c_10 => ?_)
        · refine lv_iinc (v := nI (i_3 + 1)) (lv' := [(5, .int (nI (i_3 + 1))), (0, .ref (am 0)), (1, .int (nI k)), (2, .int n), (3, .long ((wk_heedL n (wk_topHeed (wk_note σ 33) k n) i_3).1.toInt64))]) hx hb dX12_bosunHeeds_70 hl (k := 4) rfl (nI_1 _) (by decide) rfl (fun ls hl => ?_)
          refine lv_goto (tgt := 16) hx hb dX12_bosunHeeds_73 (by decide) ?_
          have h8 : wk_rk (wk_heedL n (wk_topHeed (wk_note σ 33) k n) i_3).2 i_3 < 8 := (hG_7.V hV).rk (hG_7.lt hs_i_3)
          have h2 : wk_rk (wk_heedL n (wk_topHeed (wk_note σ 33) k n) i_3).2 i_3 ≠ 2 := fun hq => c_10 (by rw [hq]; rfl)
          have hR : ¬ wk_rk (wk_heedL n (wk_topHeed (wk_note σ 33) k n) i_3).2 i_3 ≤ 2 := by have hq2 := c_9; simp only [Int32.lt_iff_toInt_lt, Int32.le_iff_toInt_le, nI_toInt (show wk_rk (wk_heedL n (wk_topHeed (wk_note σ 33) k n) i_3).2 i_3 < 2 ^ 31 by omega), wk_lit0, wk_lit1, wk_lit2, wk_lit3, wk_lit5, wk_lit6, wk_lit7, wk_lit8, wk_lit64, wk_lit4, wk_lit12, wk_lit20, wk_lit99, wk_lit1000] at hq2; omega
          have e1 : wk_heedL n (wk_topHeed (wk_note σ 33) k n) (i_3 + 1) = wk_heedL n (wk_topHeed (wk_note σ 33) k n) i_3 := by rw [wk_heedL]; rw [if_neg hR]
          exact ih_i_3 _ _ _ (by rw [e1]; exact ⟨hI, lv_sub hl [1, 2, 3, 4, 0] rfl⟩)
        · refine lv_lload_n hx hb dX12_bosunHeeds_60 rfl (lv_at hl 3 rfl) ?_
          refine lv_aload_n hx hb dX12_bosunHeeds_61 rfl (lv_at hl 0 rfl) ?_
          refine lv_iload hx hb dX12_bosunHeeds_62 (lv_at hl 4 rfl) ?_
          refine lv_iload_n hx hb dX12_bosunHeeds_64 rfl (lv_at hl 2 rfl) ?_
          refine wk_kL hI hA (va_runV (As := [.int (nI i_3), .int n]) (rest := [.long ((wk_heedL n (wk_topHeed (wk_note σ 33) k n) i_3).1.toInt64)]) ⟨hx, hb, hml, hown, hts⟩ (c_X12_topmanHeeds l D cI cJ cS am ((wk_heedL n (wk_topHeed (wk_note σ 33) k n) i_3).2) i_3 n (hG_7.V hV) (hG_7.lt hs_i_3) (by have hq := hG_7.nt; have hq12 := hV.1; omega) hn9 _) (wk_cwV 2 hts wk_in_M mw_667 mw_669 mw_29 mw_45 mw_670 hdX12_topmanHeeds ⟨(Nat.le_of_ble_eq_true rfl), (Nat.le_of_ble_eq_true rfl)⟩) (wk_preV hN hK hI (ci := 11) rfl wm_e0) rfl rfl hl.1 rfl (lv_room (Nat.le_of_ble_eq_true rfl)) dX12_bosunHeeds_65 ⟨(Nat.le_of_ble_eq_true rfl), (Nat.le_of_ble_eq_true rfl)⟩) (fun r u H locs hw hI => ?_)
          obtain ⟨rfl, rfl⟩ := hw
          have hG_11 : wk_G σ ((wk_topHeed ((wk_heedL n (wk_topHeed (wk_note σ 33) k n) i_3).2) i_3 n).2) ((3 + (2 * i_3)) + 2) := hG_7.trans (wk_g_topHeed ((wk_heedL n (wk_topHeed (wk_note σ 33) k n) i_3).2) i_3 n)
          refine lv_ladd hx hb dX12_bosunHeeds_68 ?_
          refine lv_lstore_n (lv' := [(3, .long (((wk_heedL n (wk_topHeed (wk_note σ 33) k n) i_3).1.toInt64) + ((wk_topHeed ((wk_heedL n (wk_topHeed (wk_note σ 33) k n) i_3).2) i_3 n).1.toInt64))), (0, .ref (am 0)), (1, .int (nI k)), (2, .int n), (5, .int (nI i_3))]) hx hb dX12_bosunHeeds_69 rfl hl (by decide) rfl (fun ls hl => ?_)
          refine lv_iinc (v := nI (i_3 + 1)) (lv' := [(5, .int (nI (i_3 + 1))), (3, .long (((wk_heedL n (wk_topHeed (wk_note σ 33) k n) i_3).1.toInt64) + ((wk_topHeed ((wk_heedL n (wk_topHeed (wk_note σ 33) k n) i_3).2) i_3 n).1.toInt64))), (0, .ref (am 0)), (1, .int (nI k)), (2, .int n)]) hx hb dX12_bosunHeeds_70 hl (k := 4) rfl (nI_1 _) (by decide) rfl (fun ls hl => ?_)
          refine lv_goto (tgt := 16) hx hb dX12_bosunHeeds_73 (by decide) ?_
          have h8 : wk_rk (wk_heedL n (wk_topHeed (wk_note σ 33) k n) i_3).2 i_3 < 8 := (hG_7.V hV).rk (hG_7.lt hs_i_3)
          have hR : wk_rk (wk_heedL n (wk_topHeed (wk_note σ 33) k n) i_3).2 i_3 = 2 := (nI_eq (b := 2) (by omega) (by decide)).mp c_10
          have e1 : wk_heedL n (wk_topHeed (wk_note σ 33) k n) (i_3 + 1) = ((wk_heedL n (wk_topHeed (wk_note σ 33) k n) i_3).1 + (wk_topHeed (wk_heedL n (wk_topHeed (wk_note σ 33) k n) i_3).2 i_3 n).1, (wk_topHeed (wk_heedL n (wk_topHeed (wk_note σ 33) k n) i_3).2 i_3 n).2) := by rw [wk_heedL]; rw [if_pos (by omega), hR]; rfl
          have e2 := wa_heedS hn9 (wk_topHeed (wk_note σ 33) k n) hq9 (i := i_3) (by omega) 2 (wk_heedL n (wk_topHeed (wk_note σ 33) k n) i_3).2
          exact ih_i_3 _ _ _ (by rw [e1]; dsimp only; rw [show (wk_topHeed (wk_heedL n (wk_topHeed (wk_note σ 33) k n) i_3).2 i_3 n) = wk_loHeed 2 (wk_heedL n (wk_topHeed (wk_note σ 33) k n) i_3).2 i_3 n from rfl, e2]; exact ⟨hI, lv_sub hl [2, 3, 4, 1, 0] rfl⟩)
      · refine lv_lload_n hx hb dX12_bosunHeeds_36 rfl (lv_at hl 3 rfl) ?_
        refine lv_aload_n hx hb dX12_bosunHeeds_37 rfl (lv_at hl 0 rfl) ?_
        refine lv_iload hx hb dX12_bosunHeeds_38 (lv_at hl 4 rfl) ?_
        refine lv_iload_n hx hb dX12_bosunHeeds_40 rfl (lv_at hl 2 rfl) ?_
        refine wk_kL hI hA (va_runV (As := [.int (nI i_3), .int n]) (rest := [.long ((wk_heedL n (wk_topHeed (wk_note σ 33) k n) i_3).1.toInt64)]) ⟨hx, hb, hml, hown, hts⟩ (c_X12_soulHeeds l D cI cJ cS am ((wk_heedL n (wk_topHeed (wk_note σ 33) k n) i_3).2) i_3 n (hG_7.V hV) (hG_7.lt hs_i_3) (by have hq := hG_7.nt; have hq12 := hV.1; omega) hn9 _) (wk_cwV 2 hts wk_in_M mw_661 mw_663 mw_28 mw_45 mw_664 hdX12_soulHeeds ⟨(Nat.le_of_ble_eq_true rfl), (Nat.le_of_ble_eq_true rfl)⟩) (wk_preV hN hK hI (ci := 11) rfl wm_e0) rfl rfl hl.1 rfl (lv_room (Nat.le_of_ble_eq_true rfl)) dX12_bosunHeeds_41 ⟨(Nat.le_of_ble_eq_true rfl), (Nat.le_of_ble_eq_true rfl)⟩) (fun r u H locs hw hI => ?_)
        obtain ⟨rfl, rfl⟩ := hw
        have hG_12 : wk_G σ ((wk_soulHeed ((wk_heedL n (wk_topHeed (wk_note σ 33) k n) i_3).2) i_3 n).2) ((3 + (2 * i_3)) + 1) := hG_7.trans (wk_g_soulHeed ((wk_heedL n (wk_topHeed (wk_note σ 33) k n) i_3).2) i_3 n)
        refine lv_ladd hx hb dX12_bosunHeeds_44 ?_
        refine lv_lstore_n (lv' := [(3, .long (((wk_heedL n (wk_topHeed (wk_note σ 33) k n) i_3).1.toInt64) + ((wk_soulHeed ((wk_heedL n (wk_topHeed (wk_note σ 33) k n) i_3).2) i_3 n).1.toInt64))), (0, .ref (am 0)), (1, .int (nI k)), (2, .int n), (5, .int (nI i_3))]) hx hb dX12_bosunHeeds_45 rfl hl (by decide) rfl (fun ls hl => ?_)
        refine lv_goto (tgt := 70) hx hb dX12_bosunHeeds_46 (by decide) ?_
        refine lv_iinc (v := nI (i_3 + 1)) (lv' := [(5, .int (nI (i_3 + 1))), (3, .long (((wk_heedL n (wk_topHeed (wk_note σ 33) k n) i_3).1.toInt64) + ((wk_soulHeed ((wk_heedL n (wk_topHeed (wk_note σ 33) k n) i_3).2) i_3 n).1.toInt64))), (0, .ref (am 0)), (1, .int (nI k)), (2, .int n)]) hx hb dX12_bosunHeeds_70 hl (k := 4) rfl (nI_1 _) (by decide) rfl (fun ls hl => ?_)
        refine lv_goto (tgt := 16) hx hb dX12_bosunHeeds_73 (by decide) ?_
        have h8 : wk_rk (wk_heedL n (wk_topHeed (wk_note σ 33) k n) i_3).2 i_3 < 8 := (hG_7.V hV).rk (hG_7.lt hs_i_3)
        have hR : wk_rk (wk_heedL n (wk_topHeed (wk_note σ 33) k n) i_3).2 i_3 < 2 := by have hq2 := c_9; simp only [Int32.lt_iff_toInt_lt, Int32.le_iff_toInt_le, nI_toInt (show wk_rk (wk_heedL n (wk_topHeed (wk_note σ 33) k n) i_3).2 i_3 < 2 ^ 31 by omega), wk_lit0, wk_lit1, wk_lit2, wk_lit3, wk_lit5, wk_lit6, wk_lit7, wk_lit8, wk_lit64, wk_lit4, wk_lit12, wk_lit20, wk_lit99, wk_lit1000] at hq2; omega
        have e1 : wk_heedL n (wk_topHeed (wk_note σ 33) k n) (i_3 + 1) = ((wk_heedL n (wk_topHeed (wk_note σ 33) k n) i_3).1 + (wk_soulHeed (wk_heedL n (wk_topHeed (wk_note σ 33) k n) i_3).2 i_3 n).1, (wk_soulHeed (wk_heedL n (wk_topHeed (wk_note σ 33) k n) i_3).2 i_3 n).2) := by rw [wk_heedL]; rw [if_pos (by omega), wk_lo01 hR]
        have e2 := wa_heedS hn9 (wk_topHeed (wk_note σ 33) k n) hq9 (i := i_3) (by omega) (wk_rk (wk_heedL n (wk_topHeed (wk_note σ 33) k n) i_3).2 i_3) (wk_heedL n (wk_topHeed (wk_note σ 33) k n) i_3).2
        rw [wk_lo01 hR] at e2
        exact ih_i_3 _ _ _ (by rw [e1]; dsimp only; rw [e2]; exact ⟨hI, lv_sub hl [2, 3, 4, 1, 0] rfl⟩)
set_option maxHeartbeats 4000000 in
set_option maxRecDepth 100000 in
theorem c_X12_masterHeeds (l : Launch) (D : va_G) (cI cJ cS : ClassId) (am : Nat → Nat) (σ : wk_St) (k : Nat) (n : Int32) (hV : wk_V σ) (hk : k < wk_n σ) (hc : wk_nt σ + 28 < 2147483648) (hn9 : wa_B n 10000) : wk_Cl l D (wk_tys cI cJ cS) yX12_masterHeeds (wk_M yX12_masterHeeds cX12_masterHeeds 3 (some .long)) ({ frames := 4, cells := 0, slots := 0, locals := 90 }) [.ref (am 0), .int (nI k), .int n] (wm_W cI cJ am σ) (wm_W cI cJ am) (fun r0 u0 => r0 = (wk_masterHeed σ k n).1.toInt64 ∧ u0 = (wk_masterHeed σ k n).2) := by
  intro sz
  refine Met.ofW (cc := cX12_masterHeeds) (maxL := 3) (ret := (some .long)) (by decide) rfl ?_
  intro p e s m args below meth c s₁ B hml hv
  obtain ⟨rfl, hsz, hP, hK, hD0, hN⟩ := hv
  have hx := B.exec
  have hb := B.bytes
  have hr := B.returns
  have hts := atoms_spec (ws := wk_M yX12_masterHeeds cX12_masterHeeds 3 (some .long)) B.pre
  have hown : s.vm.findClass RX12 = some m.cls := findClass_of_methodNamed B.named
  have hlk := B.notSynchronized
  subst hsz
  have hI : wk_I D (va_A (wm_W cI cJ am σ) s.heap.size) s.heap s.heap [] (wm_W cI cJ am σ) := ⟨hP, hD0.self, va_S.rf⟩
  have hA : ∀ q : Nat, s.heap.size ≤ q → (va_A (wm_W cI cJ am σ) s.heap.size) q := fun q h => Or.inr h
  clear hP hD0
  generalize va_A (wm_W cI cJ am σ) s.heap.size = A at hI hA ⊢
  have hl := lv_entry ([.ref (am 0), .int (nI k), .int n]) (n := 3) (Nat.le_of_ble_eq_true rfl)
  rw [lg_entry_eq]
  generalize (lg_sl ([.ref (am 0), .int (nI k), .int n]) ++ List.replicate (3 - (lg_sl ([.ref (am 0), .int (nI k), .int n])).length) Slot.unset).toArray = ls at hl ⊢
  have hl : lv_has ls 3 [(0, .ref (am 0)), (1, .int (nI k)), (2, .int n)] := hl
  have hk12 : k < 12 := by have hq := hV.1; omega
  refine lv_aload_n hx hb dX12_masterHeeds_0 rfl (lv_at hl 0 rfl) ?_
  refine lv_bipush (v := 53) hx hb dX12_masterHeeds_1 (by decide) ?_
  refine wk_kV hI hA (va_runV (As := [.int 53]) (rest := []) ⟨hx, hb, hml, hown, hts⟩ (c_X12_mark l D cI cJ cS am σ 53 (by have hq12 := hV.1; omega) _) (wk_cwV 1 hts wk_in_M mw_584 mw_586 mw_10 mw_45 mw_587 hdX12_mark ⟨(Nat.le_of_ble_eq_true rfl), (Nat.le_of_ble_eq_true rfl)⟩) (wk_preV hN hK hI (ci := 11) rfl wm_e0) rfl rfl hl.1 rfl (lv_room (Nat.le_of_ble_eq_true rfl)) dX12_masterHeeds_3 ⟨(Nat.le_of_ble_eq_true rfl), (Nat.le_of_ble_eq_true rfl)⟩) (fun u H locs hw hI => ?_)
  obtain rfl := hw
  have hG_1 : wk_G σ (wk_note σ 53) 1 := wk_g_note σ 53
  refine lv_aload_n hx hb dX12_masterHeeds_6 rfl (lv_at hl 0 rfl) ?_
  refine wk_get (v := .ref (am 3)) hx hb hts (fun w h => wk_in_M w (lay_X12 w h)) hown hK hI (0) wm_e0 rfl 3 (by decide) (hts _ (wk_in_M _ mw_497)) rfl rfl dX12_masterHeeds_7 ?_
  refine lv_iload_n hx hb dX12_masterHeeds_10 rfl (lv_at hl 1 rfl) ?_
  refine wk_iald (v := (wk_we (wk_note σ 53) k)) (j := k) hx hb hK hI 3 0 wm_e3 rfl rfl (by have hq12 := hV.1; omega) (by decide) rfl dX12_masterHeeds_11 ?_
  refine lv_sipush (v := 700) hx hb dX12_masterHeeds_12 (by decide) ?_
  refine lv_icmp_lt (tgt := 24) hx hb dX12_masterHeeds_15 (by decide) (fun c_2 => ?_) (fun c_2 => ?_)
  · refine lv_aload_n hx hb dX12_masterHeeds_24 rfl (lv_at hl 0 rfl) ?_
    refine lv_iload_n hx hb dX12_masterHeeds_25 rfl (lv_at hl 1 rfl) ?_
    refine lv_iload_n hx hb dX12_masterHeeds_26 rfl (lv_at hl 2 rfl) ?_
    refine lv_iconst (v := 1) hx hb dX12_masterHeeds_27 (by decide) ?_
    refine lv_iadd hx hb dX12_masterHeeds_28 ?_
    refine wk_kL hI hA (va_runV (As := [.int (nI k), .int (n + 1)]) (rest := []) ⟨hx, hb, hml, hown, hts⟩ (c_X12_bosunHeeds l D cI cJ cS am (wk_note σ 53) k (n + 1) (hG_1.V hV) (hG_1.lt hk) (by have hq := hG_1.nt; have hq12 := hV.1; omega) (wa_succ hn9 (by decide)) _) (wk_cwV 2 hts wk_in_M mw_671 mw_673 mw_30 mw_45 mw_674 hdX12_bosunHeeds ⟨(Nat.le_of_ble_eq_true rfl), (Nat.le_of_ble_eq_true rfl)⟩) (wk_preV hN hK hI (ci := 11) rfl wm_e0) rfl rfl hl.1 rfl (lv_room (Nat.le_of_ble_eq_true rfl)) dX12_masterHeeds_29 ⟨(Nat.le_of_ble_eq_true rfl), (Nat.le_of_ble_eq_true rfl)⟩) (fun r u H locs hw hI => ?_)
    obtain ⟨rfl, rfl⟩ := hw
    have hG_3 : wk_G σ ((wk_bosunHeed (wk_note σ 53) k (n + 1)).2) 28 := hG_1.trans (wk_g_bosunHeed (wk_note σ 53) k (n + 1) (hG_1.V hV).1)
    have hE : wk_masterHeed σ k n = ((wk_bosunHeed (wk_note σ 53) k (n + 1)).1, (wk_bosunHeed (wk_note σ 53) k (n + 1)).2) := by first | rfl | (simp only [wk_masterHeed, wk_masterHeed1, if_pos c_2]; done) | (simp only [wk_masterHeed, wk_masterHeed1, if_pos c_2]; rfl)
    exact wk_rl ((wk_bosunHeed (wk_note σ 53) k (n + 1)).2) hx hb hr hlk hK hI rfl (wk_postC hE rfl) dX12_masterHeeds_32
  · refine lv_ldc2 hx hb hown (hts _ (wk_in_M _ mw_679)) dX12_masterHeeds_18 ?_
    refine lv_goto (tgt := 32) hx hb dX12_masterHeeds_21 (by decide) ?_
    have hE : wk_masterHeed σ k n = (-5, wk_note σ 53) := by first | rfl | (simp only [wk_masterHeed, wk_masterHeed1, if_neg c_2]; done) | (simp only [wk_masterHeed, wk_masterHeed1, if_neg c_2]; rfl)
    exact wk_rl (wk_note σ 53) hx hb hr hlk hK hI rfl (wk_postC hE (by decide)) dX12_masterHeeds_32
set_option maxHeartbeats 4000000 in
set_option maxRecDepth 100000 in
theorem c_X12_toils (l : Launch) (D : va_G) (cI cJ cS : ClassId) (am : Nat → Nat) (σ : wk_St) (k : Nat) (n : Int32) (hV : wk_V σ) (hk : k < wk_n σ) (hc : wk_nt σ + 6 < 2147483648) : wk_Cl l D (wk_tys cI cJ cS) yX12_toils (wk_M yX12_toils cX12_toils 3 (some .long)) ({ frames := 5, cells := 0, slots := 0, locals := 115 }) [.ref (am 0), .int (nI k), .int n] (wm_W cI cJ am σ) (wm_W cI cJ am) (fun r0 u0 => r0 = (wk_toilR (wk_rk σ k) σ k n).1 ∧ u0 = (wk_toilR (wk_rk σ k) σ k n).2) := by
  intro sz
  refine Met.ofW (cc := cX12_toils) (maxL := 3) (ret := (some .long)) (by decide) rfl ?_
  intro p e s m args below meth c s₁ B hml hv
  obtain ⟨rfl, hsz, hP, hK, hD0, hN⟩ := hv
  have hx := B.exec
  have hb := B.bytes
  have hr := B.returns
  have hts := atoms_spec (ws := wk_M yX12_toils cX12_toils 3 (some .long)) B.pre
  have hown : s.vm.findClass RX12 = some m.cls := findClass_of_methodNamed B.named
  have hlk := B.notSynchronized
  subst hsz
  have hI : wk_I D (va_A (wm_W cI cJ am σ) s.heap.size) s.heap s.heap [] (wm_W cI cJ am σ) := ⟨hP, hD0.self, va_S.rf⟩
  have hA : ∀ q : Nat, s.heap.size ≤ q → (va_A (wm_W cI cJ am σ) s.heap.size) q := fun q h => Or.inr h
  clear hP hD0
  generalize va_A (wm_W cI cJ am σ) s.heap.size = A at hI hA ⊢
  have hl := lv_entry ([.ref (am 0), .int (nI k), .int n]) (n := 3) (Nat.le_of_ble_eq_true rfl)
  rw [lg_entry_eq]
  generalize (lg_sl ([.ref (am 0), .int (nI k), .int n]) ++ List.replicate (3 - (lg_sl ([.ref (am 0), .int (nI k), .int n])).length) Slot.unset).toArray = ls at hl ⊢
  have hl : lv_has ls 3 [(0, .ref (am 0)), (1, .int (nI k)), (2, .int n)] := hl
  have hk12 : k < 12 := by have hq := hV.1; omega
  refine lv_aload_n hx hb dX12_toils_0 rfl (lv_at hl 0 rfl) ?_
  refine wk_get (v := .ref (am 1)) hx hb hts (fun w h => wk_in_M w (lay_X12 w h)) hown hK hI (0) wm_e0 rfl 1 (by decide) (hts _ (wk_in_M _ mw_495)) rfl rfl dX12_toils_1 ?_
  refine lv_iload_n hx hb dX12_toils_4 rfl (lv_at hl 1 rfl) ?_
  refine wk_iald (v := (nI (wk_rk σ k))) (j := k) hx hb hK hI 1 0 wm_e1 rfl rfl (by have hq12 := hV.1; omega) (by decide) rfl dX12_toils_5 ?_
  by_cases hs_1 : (nI (wk_rk σ k)) = 0
  · refine lv_tableIn (tgt := 44) (off := 38) hx hb dX12_toils_6 (by rw [hs_1]; decide) (by rw [hs_1]; decide) (by rw [hs_1]; rfl) (by decide) ?_
    refine lv_aload_n hx hb dX12_toils_44 rfl (lv_at hl 0 rfl) ?_
    refine lv_iload_n hx hb dX12_toils_45 rfl (lv_at hl 1 rfl) ?_
    refine lv_iload_n hx hb dX12_toils_46 rfl (lv_at hl 2 rfl) ?_
    refine wk_kL hI hA (va_runV (As := [.int (nI k), .int n]) (rest := []) ⟨hx, hb, hml, hown, hts⟩ (c_X12_soulToils l D cI cJ cS am σ k n hV hk (by have hq12 := hV.1; omega) _) (wk_cwV 2 hts wk_in_M mw_580 mw_582 mw_9 mw_45 mw_583 hdX12_soulToils ⟨(Nat.le_of_ble_eq_true rfl), (Nat.le_of_ble_eq_true rfl)⟩) (wk_preV hN hK hI (ci := 11) rfl wm_e0) rfl rfl hl.1 rfl (lv_room (Nat.le_of_ble_eq_true rfl)) dX12_toils_47 ⟨(Nat.le_of_ble_eq_true rfl), (Nat.le_of_ble_eq_true rfl)⟩) (fun r u H locs hw hI => ?_)
    obtain ⟨rfl, rfl⟩ := hw
    have hG_2 : wk_G σ ((wk_soulToil σ k n).2) 1 := wk_g_soulToil σ k n
    have h8 := hV.rk hk
    have eR : wk_rk σ k = 0 := (nI_eq (b := 0) (by omega) (by decide)).mp hs_1
    exact wk_rl ((wk_soulToil σ k n).2) hx hb hr hlk hK hI rfl (wk_post (by (rw [eR]; rfl))) dX12_toils_50
  by_cases hs_3 : (nI (wk_rk σ k)) = 1
  · refine lv_tableIn (tgt := 44) (off := 38) hx hb dX12_toils_6 (by rw [hs_3]; decide) (by rw [hs_3]; decide) (by rw [hs_3]; rfl) (by decide) ?_
    refine lv_aload_n hx hb dX12_toils_44 rfl (lv_at hl 0 rfl) ?_
    refine lv_iload_n hx hb dX12_toils_45 rfl (lv_at hl 1 rfl) ?_
    refine lv_iload_n hx hb dX12_toils_46 rfl (lv_at hl 2 rfl) ?_
    refine wk_kL hI hA (va_runV (As := [.int (nI k), .int n]) (rest := []) ⟨hx, hb, hml, hown, hts⟩ (c_X12_soulToils l D cI cJ cS am σ k n hV hk (by have hq12 := hV.1; omega) _) (wk_cwV 2 hts wk_in_M mw_580 mw_582 mw_9 mw_45 mw_583 hdX12_soulToils ⟨(Nat.le_of_ble_eq_true rfl), (Nat.le_of_ble_eq_true rfl)⟩) (wk_preV hN hK hI (ci := 11) rfl wm_e0) rfl rfl hl.1 rfl (lv_room (Nat.le_of_ble_eq_true rfl)) dX12_toils_47 ⟨(Nat.le_of_ble_eq_true rfl), (Nat.le_of_ble_eq_true rfl)⟩) (fun r u H locs hw hI => ?_)
    obtain ⟨rfl, rfl⟩ := hw
    have hG_4 : wk_G σ ((wk_soulToil σ k n).2) 1 := wk_g_soulToil σ k n
    have h8 := hV.rk hk
    have eR : wk_rk σ k = 1 := (nI_eq (b := 1) (by omega) (by decide)).mp hs_3
    exact wk_rl ((wk_soulToil σ k n).2) hx hb hr hlk hK hI rfl (wk_post (by (rw [eR]; rfl))) dX12_toils_50
  by_cases hs_5 : (nI (wk_rk σ k)) = 2
  · refine lv_tableIn (tgt := 51) (off := 45) hx hb dX12_toils_6 (by rw [hs_5]; decide) (by rw [hs_5]; decide) (by rw [hs_5]; rfl) (by decide) ?_
    refine lv_aload_n hx hb dX12_toils_51 rfl (lv_at hl 0 rfl) ?_
    refine lv_iload_n hx hb dX12_toils_52 rfl (lv_at hl 1 rfl) ?_
    refine lv_iload_n hx hb dX12_toils_53 rfl (lv_at hl 2 rfl) ?_
    refine wk_kL hI hA (va_runV (As := [.int (nI k), .int n]) (rest := []) ⟨hx, hb, hml, hown, hts⟩ (c_X12_topmanToils l D cI cJ cS am σ k n hV hk (by have hq12 := hV.1; omega) _) (wk_cwV 2 hts wk_in_M mw_592 mw_594 mw_12 mw_45 mw_595 hdX12_topmanToils ⟨(Nat.le_of_ble_eq_true rfl), (Nat.le_of_ble_eq_true rfl)⟩) (wk_preV hN hK hI (ci := 11) rfl wm_e0) rfl rfl hl.1 rfl (lv_room (Nat.le_of_ble_eq_true rfl)) dX12_toils_54 ⟨(Nat.le_of_ble_eq_true rfl), (Nat.le_of_ble_eq_true rfl)⟩) (fun r u H locs hw hI => ?_)
    obtain ⟨rfl, rfl⟩ := hw
    have hG_6 : wk_G σ ((wk_topToil σ k n).2) 2 := wk_g_topToil σ k n
    have h8 := hV.rk hk
    have eR : wk_rk σ k = 2 := (nI_eq (b := 2) (by omega) (by decide)).mp hs_5
    exact wk_rl ((wk_topToil σ k n).2) hx hb hr hlk hK hI rfl (wk_post (by (rw [eR]; rfl))) dX12_toils_57
  by_cases hs_7 : (nI (wk_rk σ k)) = 3
  · refine lv_tableIn (tgt := 51) (off := 45) hx hb dX12_toils_6 (by rw [hs_7]; decide) (by rw [hs_7]; decide) (by rw [hs_7]; rfl) (by decide) ?_
    refine lv_aload_n hx hb dX12_toils_51 rfl (lv_at hl 0 rfl) ?_
    refine lv_iload_n hx hb dX12_toils_52 rfl (lv_at hl 1 rfl) ?_
    refine lv_iload_n hx hb dX12_toils_53 rfl (lv_at hl 2 rfl) ?_
    refine wk_kL hI hA (va_runV (As := [.int (nI k), .int n]) (rest := []) ⟨hx, hb, hml, hown, hts⟩ (c_X12_topmanToils l D cI cJ cS am σ k n hV hk (by have hq12 := hV.1; omega) _) (wk_cwV 2 hts wk_in_M mw_592 mw_594 mw_12 mw_45 mw_595 hdX12_topmanToils ⟨(Nat.le_of_ble_eq_true rfl), (Nat.le_of_ble_eq_true rfl)⟩) (wk_preV hN hK hI (ci := 11) rfl wm_e0) rfl rfl hl.1 rfl (lv_room (Nat.le_of_ble_eq_true rfl)) dX12_toils_54 ⟨(Nat.le_of_ble_eq_true rfl), (Nat.le_of_ble_eq_true rfl)⟩) (fun r u H locs hw hI => ?_)
    obtain ⟨rfl, rfl⟩ := hw
    have hG_8 : wk_G σ ((wk_topToil σ k n).2) 2 := wk_g_topToil σ k n
    have h8 := hV.rk hk
    have eR : wk_rk σ k = 3 := (nI_eq (b := 3) (by omega) (by decide)).mp hs_7
    exact wk_rl ((wk_topToil σ k n).2) hx hb hr hlk hK hI rfl (wk_post (by (rw [eR]; rfl))) dX12_toils_57
  by_cases hs_9 : (nI (wk_rk σ k)) = 4
  · refine lv_tableIn (tgt := 58) (off := 52) hx hb dX12_toils_6 (by rw [hs_9]; decide) (by rw [hs_9]; decide) (by rw [hs_9]; rfl) (by decide) ?_
    refine lv_aload_n hx hb dX12_toils_58 rfl (lv_at hl 0 rfl) ?_
    refine lv_iload_n hx hb dX12_toils_59 rfl (lv_at hl 1 rfl) ?_
    refine lv_iload_n hx hb dX12_toils_60 rfl (lv_at hl 2 rfl) ?_
    refine wk_kL hI hA (va_runV (As := [.int (nI k), .int n]) (rest := []) ⟨hx, hb, hml, hown, hts⟩ (c_X12_mateToils l D cI cJ cS am σ k n hV hk (by have hq12 := hV.1; omega) _) (wk_cwV 2 hts wk_in_M mw_597 mw_599 mw_13 mw_45 mw_600 hdX12_mateToils ⟨(Nat.le_of_ble_eq_true rfl), (Nat.le_of_ble_eq_true rfl)⟩) (wk_preV hN hK hI (ci := 11) rfl wm_e0) rfl rfl hl.1 rfl (lv_room (Nat.le_of_ble_eq_true rfl)) dX12_toils_61 ⟨(Nat.le_of_ble_eq_true rfl), (Nat.le_of_ble_eq_true rfl)⟩) (fun r u H locs hw hI => ?_)
    obtain ⟨rfl, rfl⟩ := hw
    have hG_10 : wk_G σ ((wk_mateToil σ k n).2) 5 := wk_g_mateToil σ k n
    have h8 := hV.rk hk
    have eR : wk_rk σ k = 4 := (nI_eq (b := 4) (by omega) (by decide)).mp hs_9
    exact wk_rl ((wk_mateToil σ k n).2) hx hb hr hlk hK hI rfl (wk_post (by (rw [eR]; rfl))) dX12_toils_64
  by_cases hs_11 : (nI (wk_rk σ k)) = 5
  · refine lv_tableIn (tgt := 65) (off := 59) hx hb dX12_toils_6 (by rw [hs_11]; decide) (by rw [hs_11]; decide) (by rw [hs_11]; rfl) (by decide) ?_
    refine lv_aload_n hx hb dX12_toils_65 rfl (lv_at hl 0 rfl) ?_
    refine lv_iload_n hx hb dX12_toils_66 rfl (lv_at hl 1 rfl) ?_
    refine lv_iload_n hx hb dX12_toils_67 rfl (lv_at hl 2 rfl) ?_
    refine wk_kL hI hA (va_runV (As := [.int (nI k), .int n]) (rest := []) ⟨hx, hb, hml, hown, hts⟩ (c_X12_masterToils l D cI cJ cS am σ k n hV hk (by have hq12 := hV.1; omega) _) (wk_cwV 2 hts wk_in_M mw_601 mw_603 mw_14 mw_45 mw_604 hdX12_masterToils ⟨(Nat.le_of_ble_eq_true rfl), (Nat.le_of_ble_eq_true rfl)⟩) (wk_preV hN hK hI (ci := 11) rfl wm_e0) rfl rfl hl.1 rfl (lv_room (Nat.le_of_ble_eq_true rfl)) dX12_toils_68 ⟨(Nat.le_of_ble_eq_true rfl), (Nat.le_of_ble_eq_true rfl)⟩) (fun r u H locs hw hI => ?_)
    obtain ⟨rfl, rfl⟩ := hw
    have hG_12 : wk_G σ ((wk_masterToil σ k n).2) 6 := wk_g_masterToil σ k n
    have h8 := hV.rk hk
    have eR : wk_rk σ k = 5 := (nI_eq (b := 5) (by omega) (by decide)).mp hs_11
    exact wk_rl ((wk_masterToil σ k n).2) hx hb hr hlk hK hI rfl (wk_post (by (rw [eR]; rfl))) dX12_toils_71
  refine lv_tableOut (tgt := 72) hx hb dX12_toils_6 (by have q0 := lv_neT hs_1 wk_lit0; have q1 := lv_neT hs_3 wk_lit1; have q2 := lv_neT hs_5 wk_lit2; have q3 := lv_neT hs_7 wk_lit3; have q4 := lv_neT hs_9 wk_lit4; have q5 := lv_neT hs_11 wk_lit5; omega) (by decide) ?_
  refine lv_aload_n hx hb dX12_toils_72 rfl (lv_at hl 0 rfl) ?_
  refine lv_iload_n hx hb dX12_toils_73 rfl (lv_at hl 1 rfl) ?_
  refine lv_iload_n hx hb dX12_toils_74 rfl (lv_at hl 2 rfl) ?_
  refine wk_kL hI hA (va_runV (As := [.int (nI k), .int n]) (rest := []) ⟨hx, hb, hml, hown, hts⟩ (c_X12_cookToils l D cI cJ cS am σ k n hV hk (by have hq12 := hV.1; omega) _) (wk_cwV 2 hts wk_in_M mw_606 mw_608 mw_15 mw_45 mw_609 hdX12_cookToils ⟨(Nat.le_of_ble_eq_true rfl), (Nat.le_of_ble_eq_true rfl)⟩) (wk_preV hN hK hI (ci := 11) rfl wm_e0) rfl rfl hl.1 rfl (lv_room (Nat.le_of_ble_eq_true rfl)) dX12_toils_75 ⟨(Nat.le_of_ble_eq_true rfl), (Nat.le_of_ble_eq_true rfl)⟩) (fun r u H locs hw hI => ?_)
  obtain ⟨rfl, rfl⟩ := hw
  have hG_13 : wk_G σ ((wk_cookToil σ k n).2) 2 := wk_g_cookToil σ k n
  have h8 := hV.rk hk
  have n0 : wk_rk σ k ≠ 0 := fun hq => hs_1 (by rw [hq]; rfl)
  have n1 : wk_rk σ k ≠ 1 := fun hq => hs_3 (by rw [hq]; rfl)
  have n2 : wk_rk σ k ≠ 2 := fun hq => hs_5 (by rw [hq]; rfl)
  have n3 : wk_rk σ k ≠ 3 := fun hq => hs_7 (by rw [hq]; rfl)
  have n4 : wk_rk σ k ≠ 4 := fun hq => hs_9 (by rw [hq]; rfl)
  have n5 : wk_rk σ k ≠ 5 := fun hq => hs_11 (by rw [hq]; rfl)
  exact wk_rl ((wk_cookToil σ k n).2) hx hb hr hlk hK hI rfl (wk_post (by rcases (show wk_rk σ k = 6 ∨ wk_rk σ k = 7 by omega) with eR | eR <;> (rw [eR]; rfl))) dX12_toils_78
set_option maxHeartbeats 4000000 in
set_option maxRecDepth 100000 in
theorem c_X12_isPaid (l : Launch) (D : va_G) (cI cJ cS : ClassId) (am : Nat → Nat) (σ : wk_St) (k : Nat) (n : Int32) (hV : wk_V σ) (hk : k < wk_n σ) (hc : wk_nt σ + 3 < 2147483648) : wk_Cl l D (wk_tys cI cJ cS) yX12_isPaid (wk_M yX12_isPaid cX12_isPaid 3 (some .long)) ({ frames := 4, cells := 0, slots := 0, locals := 91 }) [.ref (am 0), .int (nI k), .int n] (wm_W cI cJ am σ) (wm_W cI cJ am) (fun r0 u0 => r0 = (wk_payR (wk_rk σ k) σ k n).1 ∧ u0 = (wk_payR (wk_rk σ k) σ k n).2) := by
  intro sz
  refine Met.ofW (cc := cX12_isPaid) (maxL := 3) (ret := (some .long)) (by decide) rfl ?_
  intro p e s m args below meth c s₁ B hml hv
  obtain ⟨rfl, hsz, hP, hK, hD0, hN⟩ := hv
  have hx := B.exec
  have hb := B.bytes
  have hr := B.returns
  have hts := atoms_spec (ws := wk_M yX12_isPaid cX12_isPaid 3 (some .long)) B.pre
  have hown : s.vm.findClass RX12 = some m.cls := findClass_of_methodNamed B.named
  have hlk := B.notSynchronized
  subst hsz
  have hI : wk_I D (va_A (wm_W cI cJ am σ) s.heap.size) s.heap s.heap [] (wm_W cI cJ am σ) := ⟨hP, hD0.self, va_S.rf⟩
  have hA : ∀ q : Nat, s.heap.size ≤ q → (va_A (wm_W cI cJ am σ) s.heap.size) q := fun q h => Or.inr h
  clear hP hD0
  generalize va_A (wm_W cI cJ am σ) s.heap.size = A at hI hA ⊢
  have hl := lv_entry ([.ref (am 0), .int (nI k), .int n]) (n := 3) (Nat.le_of_ble_eq_true rfl)
  rw [lg_entry_eq]
  generalize (lg_sl ([.ref (am 0), .int (nI k), .int n]) ++ List.replicate (3 - (lg_sl ([.ref (am 0), .int (nI k), .int n])).length) Slot.unset).toArray = ls at hl ⊢
  have hl : lv_has ls 3 [(0, .ref (am 0)), (1, .int (nI k)), (2, .int n)] := hl
  have hk12 : k < 12 := by have hq := hV.1; omega
  refine lv_aload_n hx hb dX12_isPaid_0 rfl (lv_at hl 0 rfl) ?_
  refine wk_get (v := .ref (am 1)) hx hb hts (fun w h => wk_in_M w (lay_X12 w h)) hown hK hI (0) wm_e0 rfl 1 (by decide) (hts _ (wk_in_M _ mw_495)) rfl rfl dX12_isPaid_1 ?_
  refine lv_iload_n hx hb dX12_isPaid_4 rfl (lv_at hl 1 rfl) ?_
  refine wk_iald (v := (nI (wk_rk σ k))) (j := k) hx hb hK hI 1 0 wm_e1 rfl rfl (by have hq12 := hV.1; omega) (by decide) rfl dX12_isPaid_5 ?_
  by_cases hs_1 : (nI (wk_rk σ k)) = 3
  · refine lv_tableIn (tgt := 40) (off := 34) hx hb dX12_isPaid_6 (by rw [hs_1]; decide) (by rw [hs_1]; decide) (by rw [hs_1]; rfl) (by decide) ?_
    refine lv_aload_n hx hb dX12_isPaid_40 rfl (lv_at hl 0 rfl) ?_
    refine lv_iload_n hx hb dX12_isPaid_41 rfl (lv_at hl 1 rfl) ?_
    refine lv_iload_n hx hb dX12_isPaid_42 rfl (lv_at hl 2 rfl) ?_
    refine wk_kL hI hA (va_runV (As := [.int (nI k), .int n]) (rest := []) ⟨hx, hb, hml, hown, hts⟩ (c_X12_bosunIsPaid l D cI cJ cS am σ k n hV hk (by have hq12 := hV.1; omega) _) (wk_cwV 2 hts wk_in_M mw_614 mw_616 mw_17 mw_45 mw_617 hdX12_bosunIsPaid ⟨(Nat.le_of_ble_eq_true rfl), (Nat.le_of_ble_eq_true rfl)⟩) (wk_preV hN hK hI (ci := 11) rfl wm_e0) rfl rfl hl.1 rfl (lv_room (Nat.le_of_ble_eq_true rfl)) dX12_isPaid_43 ⟨(Nat.le_of_ble_eq_true rfl), (Nat.le_of_ble_eq_true rfl)⟩) (fun r u H locs hw hI => ?_)
    obtain ⟨rfl, rfl⟩ := hw
    have hG_2 : wk_G σ ((wk_bosunPay σ k n).2) 2 := wk_g_bosunPay σ k n
    have h8 := hV.rk hk
    have eR : wk_rk σ k = 3 := (nI_eq (b := 3) (by omega) (by decide)).mp hs_1
    exact wk_rl ((wk_bosunPay σ k n).2) hx hb hr hlk hK hI rfl (wk_post (by (rw [eR]; rfl))) dX12_isPaid_46
  by_cases hs_3 : (nI (wk_rk σ k)) = 4
  · refine lv_tableIn (tgt := 40) (off := 34) hx hb dX12_isPaid_6 (by rw [hs_3]; decide) (by rw [hs_3]; decide) (by rw [hs_3]; rfl) (by decide) ?_
    refine lv_aload_n hx hb dX12_isPaid_40 rfl (lv_at hl 0 rfl) ?_
    refine lv_iload_n hx hb dX12_isPaid_41 rfl (lv_at hl 1 rfl) ?_
    refine lv_iload_n hx hb dX12_isPaid_42 rfl (lv_at hl 2 rfl) ?_
    refine wk_kL hI hA (va_runV (As := [.int (nI k), .int n]) (rest := []) ⟨hx, hb, hml, hown, hts⟩ (c_X12_bosunIsPaid l D cI cJ cS am σ k n hV hk (by have hq12 := hV.1; omega) _) (wk_cwV 2 hts wk_in_M mw_614 mw_616 mw_17 mw_45 mw_617 hdX12_bosunIsPaid ⟨(Nat.le_of_ble_eq_true rfl), (Nat.le_of_ble_eq_true rfl)⟩) (wk_preV hN hK hI (ci := 11) rfl wm_e0) rfl rfl hl.1 rfl (lv_room (Nat.le_of_ble_eq_true rfl)) dX12_isPaid_43 ⟨(Nat.le_of_ble_eq_true rfl), (Nat.le_of_ble_eq_true rfl)⟩) (fun r u H locs hw hI => ?_)
    obtain ⟨rfl, rfl⟩ := hw
    have hG_4 : wk_G σ ((wk_bosunPay σ k n).2) 2 := wk_g_bosunPay σ k n
    have h8 := hV.rk hk
    have eR : wk_rk σ k = 4 := (nI_eq (b := 4) (by omega) (by decide)).mp hs_3
    exact wk_rl ((wk_bosunPay σ k n).2) hx hb hr hlk hK hI rfl (wk_post (by (rw [eR]; rfl))) dX12_isPaid_46
  by_cases hs_5 : (nI (wk_rk σ k)) = 5
  · refine lv_tableIn (tgt := 47) (off := 41) hx hb dX12_isPaid_6 (by rw [hs_5]; decide) (by rw [hs_5]; decide) (by rw [hs_5]; rfl) (by decide) ?_
    refine lv_aload_n hx hb dX12_isPaid_47 rfl (lv_at hl 0 rfl) ?_
    refine lv_iload_n hx hb dX12_isPaid_48 rfl (lv_at hl 1 rfl) ?_
    refine lv_iload_n hx hb dX12_isPaid_49 rfl (lv_at hl 2 rfl) ?_
    refine wk_kL hI hA (va_runV (As := [.int (nI k), .int n]) (rest := []) ⟨hx, hb, hml, hown, hts⟩ (c_X12_masterIsPaid l D cI cJ cS am σ k n hV hk (by have hq12 := hV.1; omega) _) (wk_cwV 2 hts wk_in_M mw_627 mw_629 mw_20 mw_45 mw_630 hdX12_masterIsPaid ⟨(Nat.le_of_ble_eq_true rfl), (Nat.le_of_ble_eq_true rfl)⟩) (wk_preV hN hK hI (ci := 11) rfl wm_e0) rfl rfl hl.1 rfl (lv_room (Nat.le_of_ble_eq_true rfl)) dX12_isPaid_50 ⟨(Nat.le_of_ble_eq_true rfl), (Nat.le_of_ble_eq_true rfl)⟩) (fun r u H locs hw hI => ?_)
    obtain ⟨rfl, rfl⟩ := hw
    have hG_6 : wk_G σ ((wk_masterPay σ k n).2) 3 := wk_g_masterPay σ k n
    have h8 := hV.rk hk
    have eR : wk_rk σ k = 5 := (nI_eq (b := 5) (by omega) (by decide)).mp hs_5
    exact wk_rl ((wk_masterPay σ k n).2) hx hb hr hlk hK hI rfl (wk_post (by (rw [eR]; rfl))) dX12_isPaid_53
  by_cases hs_7 : (nI (wk_rk σ k)) = 6
  · refine lv_tableIn (tgt := 61) (off := 55) hx hb dX12_isPaid_6 (by rw [hs_7]; decide) (by rw [hs_7]; decide) (by rw [hs_7]; rfl) (by decide) ?_
    refine lv_aload_n hx hb dX12_isPaid_61 rfl (lv_at hl 0 rfl) ?_
    refine lv_iload_n hx hb dX12_isPaid_62 rfl (lv_at hl 1 rfl) ?_
    refine lv_iload_n hx hb dX12_isPaid_63 rfl (lv_at hl 2 rfl) ?_
    refine wk_kL hI hA (va_runV (As := [.int (nI k), .int n]) (rest := []) ⟨hx, hb, hml, hown, hts⟩ (c_X12_handIsPaid l D cI cJ cS am σ k n hV hk (by have hq12 := hV.1; omega) _) (wk_cwV 2 hts wk_in_M mw_618 mw_620 mw_18 mw_45 mw_621 hdX12_handIsPaid ⟨(Nat.le_of_ble_eq_true rfl), (Nat.le_of_ble_eq_true rfl)⟩) (wk_preV hN hK hI (ci := 11) rfl wm_e0) rfl rfl hl.1 rfl (lv_room (Nat.le_of_ble_eq_true rfl)) dX12_isPaid_64 ⟨(Nat.le_of_ble_eq_true rfl), (Nat.le_of_ble_eq_true rfl)⟩) (fun r u H locs hw hI => ?_)
    obtain ⟨rfl, rfl⟩ := hw
    have hG_8 : wk_G σ ((wk_handPay σ k n).2) 1 := wk_g_handPay σ k n
    have h8 := hV.rk hk
    have eR : wk_rk σ k = 6 := (nI_eq (b := 6) (by omega) (by decide)).mp hs_7
    exact wk_rl ((wk_handPay σ k n).2) hx hb hr hlk hK hI rfl (wk_post (by (rw [eR]; rfl))) dX12_isPaid_67
  by_cases hs_9 : (nI (wk_rk σ k)) = 7
  · refine lv_tableIn (tgt := 54) (off := 48) hx hb dX12_isPaid_6 (by rw [hs_9]; decide) (by rw [hs_9]; decide) (by rw [hs_9]; rfl) (by decide) ?_
    refine lv_aload_n hx hb dX12_isPaid_54 rfl (lv_at hl 0 rfl) ?_
    refine lv_iload_n hx hb dX12_isPaid_55 rfl (lv_at hl 1 rfl) ?_
    refine lv_iload_n hx hb dX12_isPaid_56 rfl (lv_at hl 2 rfl) ?_
    refine wk_kL hI hA (va_runV (As := [.int (nI k), .int n]) (rest := []) ⟨hx, hb, hml, hown, hts⟩ (c_X12_surgeonIsPaid l D cI cJ cS am σ k n hV hk (by have hq12 := hV.1; omega) _) (wk_cwV 2 hts wk_in_M mw_631 mw_633 mw_21 mw_45 mw_634 hdX12_surgeonIsPaid ⟨(Nat.le_of_ble_eq_true rfl), (Nat.le_of_ble_eq_true rfl)⟩) (wk_preV hN hK hI (ci := 11) rfl wm_e0) rfl rfl hl.1 rfl (lv_room (Nat.le_of_ble_eq_true rfl)) dX12_isPaid_57 ⟨(Nat.le_of_ble_eq_true rfl), (Nat.le_of_ble_eq_true rfl)⟩) (fun r u H locs hw hI => ?_)
    obtain ⟨rfl, rfl⟩ := hw
    have hG_10 : wk_G σ ((wk_surgPay σ k n).2) 2 := wk_g_surgPay σ k n
    have h8 := hV.rk hk
    have eR : wk_rk σ k = 7 := (nI_eq (b := 7) (by omega) (by decide)).mp hs_9
    exact wk_rl ((wk_surgPay σ k n).2) hx hb hr hlk hK hI rfl (wk_post (by (rw [eR]; rfl))) dX12_isPaid_60
  refine lv_tableOut (tgt := 61) hx hb dX12_isPaid_6 (by have q0 := lv_neT hs_1 wk_lit3; have q1 := lv_neT hs_3 wk_lit4; have q2 := lv_neT hs_5 wk_lit5; have q3 := lv_neT hs_7 wk_lit6; have q4 := lv_neT hs_9 wk_lit7; omega) (by decide) ?_
  refine lv_aload_n hx hb dX12_isPaid_61 rfl (lv_at hl 0 rfl) ?_
  refine lv_iload_n hx hb dX12_isPaid_62 rfl (lv_at hl 1 rfl) ?_
  refine lv_iload_n hx hb dX12_isPaid_63 rfl (lv_at hl 2 rfl) ?_
  refine wk_kL hI hA (va_runV (As := [.int (nI k), .int n]) (rest := []) ⟨hx, hb, hml, hown, hts⟩ (c_X12_handIsPaid l D cI cJ cS am σ k n hV hk (by have hq12 := hV.1; omega) _) (wk_cwV 2 hts wk_in_M mw_618 mw_620 mw_18 mw_45 mw_621 hdX12_handIsPaid ⟨(Nat.le_of_ble_eq_true rfl), (Nat.le_of_ble_eq_true rfl)⟩) (wk_preV hN hK hI (ci := 11) rfl wm_e0) rfl rfl hl.1 rfl (lv_room (Nat.le_of_ble_eq_true rfl)) dX12_isPaid_64 ⟨(Nat.le_of_ble_eq_true rfl), (Nat.le_of_ble_eq_true rfl)⟩) (fun r u H locs hw hI => ?_)
  obtain ⟨rfl, rfl⟩ := hw
  have hG_11 : wk_G σ ((wk_handPay σ k n).2) 1 := wk_g_handPay σ k n
  have h8 := hV.rk hk
  have n3 : wk_rk σ k ≠ 3 := fun hq => hs_1 (by rw [hq]; rfl)
  have n4 : wk_rk σ k ≠ 4 := fun hq => hs_3 (by rw [hq]; rfl)
  have n5 : wk_rk σ k ≠ 5 := fun hq => hs_5 (by rw [hq]; rfl)
  have n6 : wk_rk σ k ≠ 6 := fun hq => hs_7 (by rw [hq]; rfl)
  have n7 : wk_rk σ k ≠ 7 := fun hq => hs_9 (by rw [hq]; rfl)
  exact wk_rl ((wk_handPay σ k n).2) hx hb hr hlk hK hI rfl (wk_post (by rcases (show wk_rk σ k = 0 ∨ wk_rk σ k = 1 ∨ wk_rk σ k = 2 by omega) with eR | eR | eR <;> (rw [eR]; rfl))) dX12_isPaid_67
set_option maxHeartbeats 4000000 in
set_option maxRecDepth 100000 in
theorem c_X12_climbs (l : Launch) (D : va_G) (cI cJ cS : ClassId) (am : Nat → Nat) (σ : wk_St) (k : Nat) (n : Int32) (hV : wk_V σ) (hk : k < wk_n σ) (hc : wk_nt σ + 3 < 2147483648) (hn9 : wa_B n 10001) : wk_Cl l D (wk_tys cI cJ cS) yX12_climbs (wk_M yX12_climbs cX12_climbs 3 (some .long)) ({ frames := 4, cells := 0, slots := 0, locals := 91 }) [.ref (am 0), .int (nI k), .int n] (wm_W cI cJ am σ) (wm_W cI cJ am) (fun r0 u0 => r0 = (wk_climbR (wk_rk σ k) σ k n).1.toInt64 ∧ u0 = (wk_climbR (wk_rk σ k) σ k n).2) := by
  intro sz
  refine Met.ofW (cc := cX12_climbs) (maxL := 3) (ret := (some .long)) (by decide) rfl ?_
  intro p e s m args below meth c s₁ B hml hv
  obtain ⟨rfl, hsz, hP, hK, hD0, hN⟩ := hv
  have hx := B.exec
  have hb := B.bytes
  have hr := B.returns
  have hts := atoms_spec (ws := wk_M yX12_climbs cX12_climbs 3 (some .long)) B.pre
  have hown : s.vm.findClass RX12 = some m.cls := findClass_of_methodNamed B.named
  have hlk := B.notSynchronized
  subst hsz
  have hI : wk_I D (va_A (wm_W cI cJ am σ) s.heap.size) s.heap s.heap [] (wm_W cI cJ am σ) := ⟨hP, hD0.self, va_S.rf⟩
  have hA : ∀ q : Nat, s.heap.size ≤ q → (va_A (wm_W cI cJ am σ) s.heap.size) q := fun q h => Or.inr h
  clear hP hD0
  generalize va_A (wm_W cI cJ am σ) s.heap.size = A at hI hA ⊢
  have hl := lv_entry ([.ref (am 0), .int (nI k), .int n]) (n := 3) (Nat.le_of_ble_eq_true rfl)
  rw [lg_entry_eq]
  generalize (lg_sl ([.ref (am 0), .int (nI k), .int n]) ++ List.replicate (3 - (lg_sl ([.ref (am 0), .int (nI k), .int n])).length) Slot.unset).toArray = ls at hl ⊢
  have hl : lv_has ls 3 [(0, .ref (am 0)), (1, .int (nI k)), (2, .int n)] := hl
  have hk12 : k < 12 := by have hq := hV.1; omega
  refine lv_aload_n hx hb dX12_climbs_0 rfl (lv_at hl 0 rfl) ?_
  refine wk_get (v := .ref (am 1)) hx hb hts (fun w h => wk_in_M w (lay_X12 w h)) hown hK hI (0) wm_e0 rfl 1 (by decide) (hts _ (wk_in_M _ mw_495)) rfl rfl dX12_climbs_1 ?_
  refine lv_iload_n hx hb dX12_climbs_4 rfl (lv_at hl 1 rfl) ?_
  refine wk_iald (v := (nI (wk_rk σ k))) (j := k) hx hb hK hI 1 0 wm_e1 rfl rfl (by have hq12 := hV.1; omega) (by decide) rfl dX12_climbs_5 ?_
  by_cases hs_1 : (nI (wk_rk σ k)) = 1
  · refine lv_tableIn (tgt := 48) (off := 42) hx hb dX12_climbs_6 (by rw [hs_1]; decide) (by rw [hs_1]; decide) (by rw [hs_1]; rfl) (by decide) ?_
    refine lv_aload_n hx hb dX12_climbs_48 rfl (lv_at hl 0 rfl) ?_
    refine lv_iload_n hx hb dX12_climbs_49 rfl (lv_at hl 1 rfl) ?_
    refine lv_iload_n hx hb dX12_climbs_50 rfl (lv_at hl 2 rfl) ?_
    refine wk_kL hI hA (va_runV (As := [.int (nI k), .int n]) (rest := []) ⟨hx, hb, hml, hown, hts⟩ (c_X12_sailorClimbs l D cI cJ cS am σ k n hV hk (by have hq12 := hV.1; omega) hn9 _) (wk_cwV 2 hts wk_in_M mw_640 mw_642 mw_23 mw_45 mw_643 hdX12_sailorClimbs ⟨(Nat.le_of_ble_eq_true rfl), (Nat.le_of_ble_eq_true rfl)⟩) (wk_preV hN hK hI (ci := 11) rfl wm_e0) rfl rfl hl.1 rfl (lv_room (Nat.le_of_ble_eq_true rfl)) dX12_climbs_51 ⟨(Nat.le_of_ble_eq_true rfl), (Nat.le_of_ble_eq_true rfl)⟩) (fun r u H locs hw hI => ?_)
    obtain ⟨rfl, rfl⟩ := hw
    have hG_2 : wk_G σ ((wk_sailorClimb σ k n).2) 2 := wk_g_sailorClimb σ k n
    have h8 := hV.rk hk
    have eR : wk_rk σ k = 1 := (nI_eq (b := 1) (by omega) (by decide)).mp hs_1
    exact wk_rl ((wk_sailorClimb σ k n).2) hx hb hr hlk hK hI rfl ⟨by (rw [eR]; rfl), by (rw [eR]; rfl)⟩ dX12_climbs_54
  by_cases hs_3 : (nI (wk_rk σ k)) = 2
  · refine lv_tableIn (tgt := 48) (off := 42) hx hb dX12_climbs_6 (by rw [hs_3]; decide) (by rw [hs_3]; decide) (by rw [hs_3]; rfl) (by decide) ?_
    refine lv_aload_n hx hb dX12_climbs_48 rfl (lv_at hl 0 rfl) ?_
    refine lv_iload_n hx hb dX12_climbs_49 rfl (lv_at hl 1 rfl) ?_
    refine lv_iload_n hx hb dX12_climbs_50 rfl (lv_at hl 2 rfl) ?_
    refine wk_kL hI hA (va_runV (As := [.int (nI k), .int n]) (rest := []) ⟨hx, hb, hml, hown, hts⟩ (c_X12_sailorClimbs l D cI cJ cS am σ k n hV hk (by have hq12 := hV.1; omega) hn9 _) (wk_cwV 2 hts wk_in_M mw_640 mw_642 mw_23 mw_45 mw_643 hdX12_sailorClimbs ⟨(Nat.le_of_ble_eq_true rfl), (Nat.le_of_ble_eq_true rfl)⟩) (wk_preV hN hK hI (ci := 11) rfl wm_e0) rfl rfl hl.1 rfl (lv_room (Nat.le_of_ble_eq_true rfl)) dX12_climbs_51 ⟨(Nat.le_of_ble_eq_true rfl), (Nat.le_of_ble_eq_true rfl)⟩) (fun r u H locs hw hI => ?_)
    obtain ⟨rfl, rfl⟩ := hw
    have hG_4 : wk_G σ ((wk_sailorClimb σ k n).2) 2 := wk_g_sailorClimb σ k n
    have h8 := hV.rk hk
    have eR : wk_rk σ k = 2 := (nI_eq (b := 2) (by omega) (by decide)).mp hs_3
    exact wk_rl ((wk_sailorClimb σ k n).2) hx hb hr hlk hK hI rfl ⟨by (rw [eR]; rfl), by (rw [eR]; rfl)⟩ dX12_climbs_54
  by_cases hs_5 : (nI (wk_rk σ k)) = 3
  · refine lv_tableIn (tgt := 48) (off := 42) hx hb dX12_climbs_6 (by rw [hs_5]; decide) (by rw [hs_5]; decide) (by rw [hs_5]; rfl) (by decide) ?_
    refine lv_aload_n hx hb dX12_climbs_48 rfl (lv_at hl 0 rfl) ?_
    refine lv_iload_n hx hb dX12_climbs_49 rfl (lv_at hl 1 rfl) ?_
    refine lv_iload_n hx hb dX12_climbs_50 rfl (lv_at hl 2 rfl) ?_
    refine wk_kL hI hA (va_runV (As := [.int (nI k), .int n]) (rest := []) ⟨hx, hb, hml, hown, hts⟩ (c_X12_sailorClimbs l D cI cJ cS am σ k n hV hk (by have hq12 := hV.1; omega) hn9 _) (wk_cwV 2 hts wk_in_M mw_640 mw_642 mw_23 mw_45 mw_643 hdX12_sailorClimbs ⟨(Nat.le_of_ble_eq_true rfl), (Nat.le_of_ble_eq_true rfl)⟩) (wk_preV hN hK hI (ci := 11) rfl wm_e0) rfl rfl hl.1 rfl (lv_room (Nat.le_of_ble_eq_true rfl)) dX12_climbs_51 ⟨(Nat.le_of_ble_eq_true rfl), (Nat.le_of_ble_eq_true rfl)⟩) (fun r u H locs hw hI => ?_)
    obtain ⟨rfl, rfl⟩ := hw
    have hG_6 : wk_G σ ((wk_sailorClimb σ k n).2) 2 := wk_g_sailorClimb σ k n
    have h8 := hV.rk hk
    have eR : wk_rk σ k = 3 := (nI_eq (b := 3) (by omega) (by decide)).mp hs_5
    exact wk_rl ((wk_sailorClimb σ k n).2) hx hb hr hlk hK hI rfl ⟨by (rw [eR]; rfl), by (rw [eR]; rfl)⟩ dX12_climbs_54
  by_cases hs_7 : (nI (wk_rk σ k)) = 4
  · refine lv_tableIn (tgt := 55) (off := 49) hx hb dX12_climbs_6 (by rw [hs_7]; decide) (by rw [hs_7]; decide) (by rw [hs_7]; rfl) (by decide) ?_
    refine lv_aload_n hx hb dX12_climbs_55 rfl (lv_at hl 0 rfl) ?_
    refine lv_iload_n hx hb dX12_climbs_56 rfl (lv_at hl 1 rfl) ?_
    refine lv_iload_n hx hb dX12_climbs_57 rfl (lv_at hl 2 rfl) ?_
    refine wk_kL hI hA (va_runV (As := [.int (nI k), .int n]) (rest := []) ⟨hx, hb, hml, hown, hts⟩ (c_X12_mateClimbs l D cI cJ cS am σ k n hV hk (by have hq12 := hV.1; omega) hn9 _) (wk_cwV 2 hts wk_in_M mw_649 mw_651 mw_25 mw_45 mw_652 hdX12_mateClimbs ⟨(Nat.le_of_ble_eq_true rfl), (Nat.le_of_ble_eq_true rfl)⟩) (wk_preV hN hK hI (ci := 11) rfl wm_e0) rfl rfl hl.1 rfl (lv_room (Nat.le_of_ble_eq_true rfl)) dX12_climbs_58 ⟨(Nat.le_of_ble_eq_true rfl), (Nat.le_of_ble_eq_true rfl)⟩) (fun r u H locs hw hI => ?_)
    obtain ⟨rfl, rfl⟩ := hw
    have hG_8 : wk_G σ ((wk_mateClimb σ k n).2) 3 := wk_g_mateClimb σ k n
    have h8 := hV.rk hk
    have eR : wk_rk σ k = 4 := (nI_eq (b := 4) (by omega) (by decide)).mp hs_7
    exact wk_rl ((wk_mateClimb σ k n).2) hx hb hr hlk hK hI rfl ⟨by (rw [eR]; rfl), by (rw [eR]; rfl)⟩ dX12_climbs_61
  by_cases hs_9 : (nI (wk_rk σ k)) = 5
  · refine lv_tableIn (tgt := 55) (off := 49) hx hb dX12_climbs_6 (by rw [hs_9]; decide) (by rw [hs_9]; decide) (by rw [hs_9]; rfl) (by decide) ?_
    refine lv_aload_n hx hb dX12_climbs_55 rfl (lv_at hl 0 rfl) ?_
    refine lv_iload_n hx hb dX12_climbs_56 rfl (lv_at hl 1 rfl) ?_
    refine lv_iload_n hx hb dX12_climbs_57 rfl (lv_at hl 2 rfl) ?_
    refine wk_kL hI hA (va_runV (As := [.int (nI k), .int n]) (rest := []) ⟨hx, hb, hml, hown, hts⟩ (c_X12_mateClimbs l D cI cJ cS am σ k n hV hk (by have hq12 := hV.1; omega) hn9 _) (wk_cwV 2 hts wk_in_M mw_649 mw_651 mw_25 mw_45 mw_652 hdX12_mateClimbs ⟨(Nat.le_of_ble_eq_true rfl), (Nat.le_of_ble_eq_true rfl)⟩) (wk_preV hN hK hI (ci := 11) rfl wm_e0) rfl rfl hl.1 rfl (lv_room (Nat.le_of_ble_eq_true rfl)) dX12_climbs_58 ⟨(Nat.le_of_ble_eq_true rfl), (Nat.le_of_ble_eq_true rfl)⟩) (fun r u H locs hw hI => ?_)
    obtain ⟨rfl, rfl⟩ := hw
    have hG_10 : wk_G σ ((wk_mateClimb σ k n).2) 3 := wk_g_mateClimb σ k n
    have h8 := hV.rk hk
    have eR : wk_rk σ k = 5 := (nI_eq (b := 5) (by omega) (by decide)).mp hs_9
    exact wk_rl ((wk_mateClimb σ k n).2) hx hb hr hlk hK hI rfl ⟨by (rw [eR]; rfl), by (rw [eR]; rfl)⟩ dX12_climbs_61
  by_cases hs_11 : (nI (wk_rk σ k)) = 6
  · refine lv_tableIn (tgt := 69) (off := 63) hx hb dX12_climbs_6 (by rw [hs_11]; decide) (by rw [hs_11]; decide) (by rw [hs_11]; rfl) (by decide) ?_
    refine lv_aload_n hx hb dX12_climbs_69 rfl (lv_at hl 0 rfl) ?_
    refine lv_iload_n hx hb dX12_climbs_70 rfl (lv_at hl 1 rfl) ?_
    refine lv_iload_n hx hb dX12_climbs_71 rfl (lv_at hl 2 rfl) ?_
    refine wk_kL hI hA (va_runV (As := [.int (nI k), .int n]) (rest := []) ⟨hx, hb, hml, hown, hts⟩ (c_X12_soulClimbs l D cI cJ cS am σ k n hV hk (by have hq12 := hV.1; omega) hn9 _) (wk_cwV 2 hts wk_in_M mw_644 mw_646 mw_24 mw_45 mw_647 hdX12_soulClimbs ⟨(Nat.le_of_ble_eq_true rfl), (Nat.le_of_ble_eq_true rfl)⟩) (wk_preV hN hK hI (ci := 11) rfl wm_e0) rfl rfl hl.1 rfl (lv_room (Nat.le_of_ble_eq_true rfl)) dX12_climbs_72 ⟨(Nat.le_of_ble_eq_true rfl), (Nat.le_of_ble_eq_true rfl)⟩) (fun r u H locs hw hI => ?_)
    obtain ⟨rfl, rfl⟩ := hw
    have hG_12 : wk_G σ ((wk_soulClimb σ k n).2) 1 := wk_g_soulClimb σ k n
    have h8 := hV.rk hk
    have eR : wk_rk σ k = 6 := (nI_eq (b := 6) (by omega) (by decide)).mp hs_11
    exact wk_rl ((wk_soulClimb σ k n).2) hx hb hr hlk hK hI rfl ⟨by (rw [eR]; rfl), by (rw [eR]; rfl)⟩ dX12_climbs_75
  by_cases hs_13 : (nI (wk_rk σ k)) = 7
  · refine lv_tableIn (tgt := 62) (off := 56) hx hb dX12_climbs_6 (by rw [hs_13]; decide) (by rw [hs_13]; decide) (by rw [hs_13]; rfl) (by decide) ?_
    refine lv_aload_n hx hb dX12_climbs_62 rfl (lv_at hl 0 rfl) ?_
    refine lv_iload_n hx hb dX12_climbs_63 rfl (lv_at hl 1 rfl) ?_
    refine lv_iload_n hx hb dX12_climbs_64 rfl (lv_at hl 2 rfl) ?_
    refine wk_kL hI hA (va_runV (As := [.int (nI k), .int n]) (rest := []) ⟨hx, hb, hml, hown, hts⟩ (c_X12_surgeonClimbs l D cI cJ cS am σ k n hV hk (by have hq12 := hV.1; omega) hn9 _) (wk_cwV 2 hts wk_in_M mw_653 mw_655 mw_26 mw_45 mw_656 hdX12_surgeonClimbs ⟨(Nat.le_of_ble_eq_true rfl), (Nat.le_of_ble_eq_true rfl)⟩) (wk_preV hN hK hI (ci := 11) rfl wm_e0) rfl rfl hl.1 rfl (lv_room (Nat.le_of_ble_eq_true rfl)) dX12_climbs_65 ⟨(Nat.le_of_ble_eq_true rfl), (Nat.le_of_ble_eq_true rfl)⟩) (fun r u H locs hw hI => ?_)
    obtain ⟨rfl, rfl⟩ := hw
    have hG_14 : wk_G σ ((wk_surgClimb σ k n).2) 2 := wk_g_surgClimb σ k n
    have h8 := hV.rk hk
    have eR : wk_rk σ k = 7 := (nI_eq (b := 7) (by omega) (by decide)).mp hs_13
    exact wk_rl ((wk_surgClimb σ k n).2) hx hb hr hlk hK hI rfl ⟨by (rw [eR]; rfl), by (rw [eR]; rfl)⟩ dX12_climbs_68
  refine lv_tableOut (tgt := 69) hx hb dX12_climbs_6 (by have q0 := lv_neT hs_1 wk_lit1; have q1 := lv_neT hs_3 wk_lit2; have q2 := lv_neT hs_5 wk_lit3; have q3 := lv_neT hs_7 wk_lit4; have q4 := lv_neT hs_9 wk_lit5; have q5 := lv_neT hs_11 wk_lit6; have q6 := lv_neT hs_13 wk_lit7; omega) (by decide) ?_
  refine lv_aload_n hx hb dX12_climbs_69 rfl (lv_at hl 0 rfl) ?_
  refine lv_iload_n hx hb dX12_climbs_70 rfl (lv_at hl 1 rfl) ?_
  refine lv_iload_n hx hb dX12_climbs_71 rfl (lv_at hl 2 rfl) ?_
  refine wk_kL hI hA (va_runV (As := [.int (nI k), .int n]) (rest := []) ⟨hx, hb, hml, hown, hts⟩ (c_X12_soulClimbs l D cI cJ cS am σ k n hV hk (by have hq12 := hV.1; omega) hn9 _) (wk_cwV 2 hts wk_in_M mw_644 mw_646 mw_24 mw_45 mw_647 hdX12_soulClimbs ⟨(Nat.le_of_ble_eq_true rfl), (Nat.le_of_ble_eq_true rfl)⟩) (wk_preV hN hK hI (ci := 11) rfl wm_e0) rfl rfl hl.1 rfl (lv_room (Nat.le_of_ble_eq_true rfl)) dX12_climbs_72 ⟨(Nat.le_of_ble_eq_true rfl), (Nat.le_of_ble_eq_true rfl)⟩) (fun r u H locs hw hI => ?_)
  obtain ⟨rfl, rfl⟩ := hw
  have hG_15 : wk_G σ ((wk_soulClimb σ k n).2) 1 := wk_g_soulClimb σ k n
  have h8 := hV.rk hk
  have n1 : wk_rk σ k ≠ 1 := fun hq => hs_1 (by rw [hq]; rfl)
  have n2 : wk_rk σ k ≠ 2 := fun hq => hs_3 (by rw [hq]; rfl)
  have n3 : wk_rk σ k ≠ 3 := fun hq => hs_5 (by rw [hq]; rfl)
  have n4 : wk_rk σ k ≠ 4 := fun hq => hs_7 (by rw [hq]; rfl)
  have n5 : wk_rk σ k ≠ 5 := fun hq => hs_9 (by rw [hq]; rfl)
  have n6 : wk_rk σ k ≠ 6 := fun hq => hs_11 (by rw [hq]; rfl)
  have n7 : wk_rk σ k ≠ 7 := fun hq => hs_13 (by rw [hq]; rfl)
  exact wk_rl ((wk_soulClimb σ k n).2) hx hb hr hlk hK hI rfl ⟨by rcases (show wk_rk σ k = 0 by omega) with eR <;> (rw [eR]; rfl), by rcases (show wk_rk σ k = 0 by omega) with eR <;> (rw [eR]; rfl)⟩ dX12_climbs_75
set_option maxHeartbeats 4000000 in
set_option maxRecDepth 100000 in
theorem c_X12_heeds (l : Launch) (D : va_G) (cI cJ cS : ClassId) (am : Nat → Nat) (σ : wk_St) (k : Nat) (n : Int32) (hV : wk_V σ) (hk : k < wk_n σ) (hc : wk_nt σ + 28 < 2147483648) (hn9 : wa_B n 10000) : wk_Cl l D (wk_tys cI cJ cS) yX12_heeds (wk_M yX12_heeds cX12_heeds 3 (some .long)) ({ frames := 5, cells := 0, slots := 0, locals := 112 }) [.ref (am 0), .int (nI k), .int n] (wm_W cI cJ am σ) (wm_W cI cJ am) (fun r0 u0 => r0 = (wk_heedR (wk_rk σ k) σ k n).1.toInt64 ∧ u0 = (wk_heedR (wk_rk σ k) σ k n).2) := by
  intro sz
  refine Met.ofW (cc := cX12_heeds) (maxL := 3) (ret := (some .long)) (by decide) rfl ?_
  intro p e s m args below meth c s₁ B hml hv
  obtain ⟨rfl, hsz, hP, hK, hD0, hN⟩ := hv
  have hx := B.exec
  have hb := B.bytes
  have hr := B.returns
  have hts := atoms_spec (ws := wk_M yX12_heeds cX12_heeds 3 (some .long)) B.pre
  have hown : s.vm.findClass RX12 = some m.cls := findClass_of_methodNamed B.named
  have hlk := B.notSynchronized
  subst hsz
  have hI : wk_I D (va_A (wm_W cI cJ am σ) s.heap.size) s.heap s.heap [] (wm_W cI cJ am σ) := ⟨hP, hD0.self, va_S.rf⟩
  have hA : ∀ q : Nat, s.heap.size ≤ q → (va_A (wm_W cI cJ am σ) s.heap.size) q := fun q h => Or.inr h
  clear hP hD0
  generalize va_A (wm_W cI cJ am σ) s.heap.size = A at hI hA ⊢
  have hl := lv_entry ([.ref (am 0), .int (nI k), .int n]) (n := 3) (Nat.le_of_ble_eq_true rfl)
  rw [lg_entry_eq]
  generalize (lg_sl ([.ref (am 0), .int (nI k), .int n]) ++ List.replicate (3 - (lg_sl ([.ref (am 0), .int (nI k), .int n])).length) Slot.unset).toArray = ls at hl ⊢
  have hl : lv_has ls 3 [(0, .ref (am 0)), (1, .int (nI k)), (2, .int n)] := hl
  have hk12 : k < 12 := by have hq := hV.1; omega
  refine lv_aload_n hx hb dX12_heeds_0 rfl (lv_at hl 0 rfl) ?_
  refine wk_get (v := .ref (am 1)) hx hb hts (fun w h => wk_in_M w (lay_X12 w h)) hown hK hI (0) wm_e0 rfl 1 (by decide) (hts _ (wk_in_M _ mw_495)) rfl rfl dX12_heeds_1 ?_
  refine lv_iload_n hx hb dX12_heeds_4 rfl (lv_at hl 1 rfl) ?_
  refine wk_iald (v := (nI (wk_rk σ k))) (j := k) hx hb hK hI 1 0 wm_e1 rfl rfl (by have hq12 := hV.1; omega) (by decide) rfl dX12_heeds_5 ?_
  by_cases hs_1 : (nI (wk_rk σ k)) = 0
  · refine lv_tableIn (tgt := 44) (off := 38) hx hb dX12_heeds_6 (by rw [hs_1]; decide) (by rw [hs_1]; decide) (by rw [hs_1]; rfl) (by decide) ?_
    refine lv_aload_n hx hb dX12_heeds_44 rfl (lv_at hl 0 rfl) ?_
    refine lv_iload_n hx hb dX12_heeds_45 rfl (lv_at hl 1 rfl) ?_
    refine lv_iload_n hx hb dX12_heeds_46 rfl (lv_at hl 2 rfl) ?_
    refine wk_kL hI hA (va_runV (As := [.int (nI k), .int n]) (rest := []) ⟨hx, hb, hml, hown, hts⟩ (c_X12_soulHeeds l D cI cJ cS am σ k n hV hk (by have hq12 := hV.1; omega) (wa_up hn9 (by decide)) _) (wk_cwV 2 hts wk_in_M mw_661 mw_663 mw_28 mw_45 mw_664 hdX12_soulHeeds ⟨(Nat.le_of_ble_eq_true rfl), (Nat.le_of_ble_eq_true rfl)⟩) (wk_preV hN hK hI (ci := 11) rfl wm_e0) rfl rfl hl.1 rfl (lv_room (Nat.le_of_ble_eq_true rfl)) dX12_heeds_47 ⟨(Nat.le_of_ble_eq_true rfl), (Nat.le_of_ble_eq_true rfl)⟩) (fun r u H locs hw hI => ?_)
    obtain ⟨rfl, rfl⟩ := hw
    have hG_2 : wk_G σ ((wk_soulHeed σ k n).2) 1 := wk_g_soulHeed σ k n
    have h8 := hV.rk hk
    have eR : wk_rk σ k = 0 := (nI_eq (b := 0) (by omega) (by decide)).mp hs_1
    exact wk_rl ((wk_soulHeed σ k n).2) hx hb hr hlk hK hI rfl ⟨by (rw [eR]; rfl), by (rw [eR]; rfl)⟩ dX12_heeds_50
  by_cases hs_3 : (nI (wk_rk σ k)) = 1
  · refine lv_tableIn (tgt := 44) (off := 38) hx hb dX12_heeds_6 (by rw [hs_3]; decide) (by rw [hs_3]; decide) (by rw [hs_3]; rfl) (by decide) ?_
    refine lv_aload_n hx hb dX12_heeds_44 rfl (lv_at hl 0 rfl) ?_
    refine lv_iload_n hx hb dX12_heeds_45 rfl (lv_at hl 1 rfl) ?_
    refine lv_iload_n hx hb dX12_heeds_46 rfl (lv_at hl 2 rfl) ?_
    refine wk_kL hI hA (va_runV (As := [.int (nI k), .int n]) (rest := []) ⟨hx, hb, hml, hown, hts⟩ (c_X12_soulHeeds l D cI cJ cS am σ k n hV hk (by have hq12 := hV.1; omega) (wa_up hn9 (by decide)) _) (wk_cwV 2 hts wk_in_M mw_661 mw_663 mw_28 mw_45 mw_664 hdX12_soulHeeds ⟨(Nat.le_of_ble_eq_true rfl), (Nat.le_of_ble_eq_true rfl)⟩) (wk_preV hN hK hI (ci := 11) rfl wm_e0) rfl rfl hl.1 rfl (lv_room (Nat.le_of_ble_eq_true rfl)) dX12_heeds_47 ⟨(Nat.le_of_ble_eq_true rfl), (Nat.le_of_ble_eq_true rfl)⟩) (fun r u H locs hw hI => ?_)
    obtain ⟨rfl, rfl⟩ := hw
    have hG_4 : wk_G σ ((wk_soulHeed σ k n).2) 1 := wk_g_soulHeed σ k n
    have h8 := hV.rk hk
    have eR : wk_rk σ k = 1 := (nI_eq (b := 1) (by omega) (by decide)).mp hs_3
    exact wk_rl ((wk_soulHeed σ k n).2) hx hb hr hlk hK hI rfl ⟨by (rw [eR]; rfl), by (rw [eR]; rfl)⟩ dX12_heeds_50
  by_cases hs_5 : (nI (wk_rk σ k)) = 2
  · refine lv_tableIn (tgt := 51) (off := 45) hx hb dX12_heeds_6 (by rw [hs_5]; decide) (by rw [hs_5]; decide) (by rw [hs_5]; rfl) (by decide) ?_
    refine lv_aload_n hx hb dX12_heeds_51 rfl (lv_at hl 0 rfl) ?_
    refine lv_iload_n hx hb dX12_heeds_52 rfl (lv_at hl 1 rfl) ?_
    refine lv_iload_n hx hb dX12_heeds_53 rfl (lv_at hl 2 rfl) ?_
    refine wk_kL hI hA (va_runV (As := [.int (nI k), .int n]) (rest := []) ⟨hx, hb, hml, hown, hts⟩ (c_X12_topmanHeeds l D cI cJ cS am σ k n hV hk (by have hq12 := hV.1; omega) (wa_up hn9 (by decide)) _) (wk_cwV 2 hts wk_in_M mw_667 mw_669 mw_29 mw_45 mw_670 hdX12_topmanHeeds ⟨(Nat.le_of_ble_eq_true rfl), (Nat.le_of_ble_eq_true rfl)⟩) (wk_preV hN hK hI (ci := 11) rfl wm_e0) rfl rfl hl.1 rfl (lv_room (Nat.le_of_ble_eq_true rfl)) dX12_heeds_54 ⟨(Nat.le_of_ble_eq_true rfl), (Nat.le_of_ble_eq_true rfl)⟩) (fun r u H locs hw hI => ?_)
    obtain ⟨rfl, rfl⟩ := hw
    have hG_6 : wk_G σ ((wk_topHeed σ k n).2) 2 := wk_g_topHeed σ k n
    have h8 := hV.rk hk
    have eR : wk_rk σ k = 2 := (nI_eq (b := 2) (by omega) (by decide)).mp hs_5
    exact wk_rl ((wk_topHeed σ k n).2) hx hb hr hlk hK hI rfl ⟨by (rw [eR]; rfl), by (rw [eR]; rfl)⟩ dX12_heeds_57
  by_cases hs_7 : (nI (wk_rk σ k)) = 3
  · refine lv_tableIn (tgt := 58) (off := 52) hx hb dX12_heeds_6 (by rw [hs_7]; decide) (by rw [hs_7]; decide) (by rw [hs_7]; rfl) (by decide) ?_
    refine lv_aload_n hx hb dX12_heeds_58 rfl (lv_at hl 0 rfl) ?_
    refine lv_iload_n hx hb dX12_heeds_59 rfl (lv_at hl 1 rfl) ?_
    refine lv_iload_n hx hb dX12_heeds_60 rfl (lv_at hl 2 rfl) ?_
    refine wk_kL hI hA (va_runV (As := [.int (nI k), .int n]) (rest := []) ⟨hx, hb, hml, hown, hts⟩ (c_X12_bosunHeeds l D cI cJ cS am σ k n hV hk (by have hq12 := hV.1; omega) (wa_up hn9 (by decide)) _) (wk_cwV 2 hts wk_in_M mw_671 mw_673 mw_30 mw_45 mw_674 hdX12_bosunHeeds ⟨(Nat.le_of_ble_eq_true rfl), (Nat.le_of_ble_eq_true rfl)⟩) (wk_preV hN hK hI (ci := 11) rfl wm_e0) rfl rfl hl.1 rfl (lv_room (Nat.le_of_ble_eq_true rfl)) dX12_heeds_61 ⟨(Nat.le_of_ble_eq_true rfl), (Nat.le_of_ble_eq_true rfl)⟩) (fun r u H locs hw hI => ?_)
    obtain ⟨rfl, rfl⟩ := hw
    have hG_8 : wk_G σ ((wk_bosunHeed σ k n).2) 27 := wk_g_bosunHeed σ k n hV.1
    have h8 := hV.rk hk
    have eR : wk_rk σ k = 3 := (nI_eq (b := 3) (by omega) (by decide)).mp hs_7
    exact wk_rl ((wk_bosunHeed σ k n).2) hx hb hr hlk hK hI rfl ⟨by (rw [eR]; rfl), by (rw [eR]; rfl)⟩ dX12_heeds_64
  by_cases hs_9 : (nI (wk_rk σ k)) = 4
  · refine lv_tableIn (tgt := 58) (off := 52) hx hb dX12_heeds_6 (by rw [hs_9]; decide) (by rw [hs_9]; decide) (by rw [hs_9]; rfl) (by decide) ?_
    refine lv_aload_n hx hb dX12_heeds_58 rfl (lv_at hl 0 rfl) ?_
    refine lv_iload_n hx hb dX12_heeds_59 rfl (lv_at hl 1 rfl) ?_
    refine lv_iload_n hx hb dX12_heeds_60 rfl (lv_at hl 2 rfl) ?_
    refine wk_kL hI hA (va_runV (As := [.int (nI k), .int n]) (rest := []) ⟨hx, hb, hml, hown, hts⟩ (c_X12_bosunHeeds l D cI cJ cS am σ k n hV hk (by have hq12 := hV.1; omega) (wa_up hn9 (by decide)) _) (wk_cwV 2 hts wk_in_M mw_671 mw_673 mw_30 mw_45 mw_674 hdX12_bosunHeeds ⟨(Nat.le_of_ble_eq_true rfl), (Nat.le_of_ble_eq_true rfl)⟩) (wk_preV hN hK hI (ci := 11) rfl wm_e0) rfl rfl hl.1 rfl (lv_room (Nat.le_of_ble_eq_true rfl)) dX12_heeds_61 ⟨(Nat.le_of_ble_eq_true rfl), (Nat.le_of_ble_eq_true rfl)⟩) (fun r u H locs hw hI => ?_)
    obtain ⟨rfl, rfl⟩ := hw
    have hG_10 : wk_G σ ((wk_bosunHeed σ k n).2) 27 := wk_g_bosunHeed σ k n hV.1
    have h8 := hV.rk hk
    have eR : wk_rk σ k = 4 := (nI_eq (b := 4) (by omega) (by decide)).mp hs_9
    exact wk_rl ((wk_bosunHeed σ k n).2) hx hb hr hlk hK hI rfl ⟨by (rw [eR]; rfl), by (rw [eR]; rfl)⟩ dX12_heeds_64
  by_cases hs_11 : (nI (wk_rk σ k)) = 5
  · refine lv_tableIn (tgt := 65) (off := 59) hx hb dX12_heeds_6 (by rw [hs_11]; decide) (by rw [hs_11]; decide) (by rw [hs_11]; rfl) (by decide) ?_
    refine lv_aload_n hx hb dX12_heeds_65 rfl (lv_at hl 0 rfl) ?_
    refine lv_iload_n hx hb dX12_heeds_66 rfl (lv_at hl 1 rfl) ?_
    refine lv_iload_n hx hb dX12_heeds_67 rfl (lv_at hl 2 rfl) ?_
    refine wk_kL hI hA (va_runV (As := [.int (nI k), .int n]) (rest := []) ⟨hx, hb, hml, hown, hts⟩ (c_X12_masterHeeds l D cI cJ cS am σ k n hV hk (by have hq12 := hV.1; omega) hn9 _) (wk_cwV 2 hts wk_in_M mw_675 mw_677 mw_31 mw_45 mw_678 hdX12_masterHeeds ⟨(Nat.le_of_ble_eq_true rfl), (Nat.le_of_ble_eq_true rfl)⟩) (wk_preV hN hK hI (ci := 11) rfl wm_e0) rfl rfl hl.1 rfl (lv_room (Nat.le_of_ble_eq_true rfl)) dX12_heeds_68 ⟨(Nat.le_of_ble_eq_true rfl), (Nat.le_of_ble_eq_true rfl)⟩) (fun r u H locs hw hI => ?_)
    obtain ⟨rfl, rfl⟩ := hw
    have hG_12 : wk_G σ ((wk_masterHeed σ k n).2) 28 := wk_g_masterHeed σ k n hV.1
    have h8 := hV.rk hk
    have eR : wk_rk σ k = 5 := (nI_eq (b := 5) (by omega) (by decide)).mp hs_11
    exact wk_rl ((wk_masterHeed σ k n).2) hx hb hr hlk hK hI rfl ⟨by (rw [eR]; rfl), by (rw [eR]; rfl)⟩ dX12_heeds_71
  refine lv_tableOut (tgt := 72) hx hb dX12_heeds_6 (by have q0 := lv_neT hs_1 wk_lit0; have q1 := lv_neT hs_3 wk_lit1; have q2 := lv_neT hs_5 wk_lit2; have q3 := lv_neT hs_7 wk_lit3; have q4 := lv_neT hs_9 wk_lit4; have q5 := lv_neT hs_11 wk_lit5; omega) (by decide) ?_
  refine lv_aload_n hx hb dX12_heeds_72 rfl (lv_at hl 0 rfl) ?_
  refine lv_iload_n hx hb dX12_heeds_73 rfl (lv_at hl 1 rfl) ?_
  refine lv_iload_n hx hb dX12_heeds_74 rfl (lv_at hl 2 rfl) ?_
  refine wk_kL hI hA (va_runV (As := [.int (nI k), .int n]) (rest := []) ⟨hx, hb, hml, hown, hts⟩ (c_X12_cookHeeds l D cI cJ cS am σ k n hV hk (by have hq12 := hV.1; omega) (wa_up hn9 (by decide)) _) (wk_cwV 2 hts wk_in_M mw_680 mw_682 mw_32 mw_45 mw_683 hdX12_cookHeeds ⟨(Nat.le_of_ble_eq_true rfl), (Nat.le_of_ble_eq_true rfl)⟩) (wk_preV hN hK hI (ci := 11) rfl wm_e0) rfl rfl hl.1 rfl (lv_room (Nat.le_of_ble_eq_true rfl)) dX12_heeds_75 ⟨(Nat.le_of_ble_eq_true rfl), (Nat.le_of_ble_eq_true rfl)⟩) (fun r u H locs hw hI => ?_)
  obtain ⟨rfl, rfl⟩ := hw
  have hG_13 : wk_G σ ((wk_cookHeed σ k n).2) 2 := wk_g_cookHeed σ k n
  have h8 := hV.rk hk
  have n0 : wk_rk σ k ≠ 0 := fun hq => hs_1 (by rw [hq]; rfl)
  have n1 : wk_rk σ k ≠ 1 := fun hq => hs_3 (by rw [hq]; rfl)
  have n2 : wk_rk σ k ≠ 2 := fun hq => hs_5 (by rw [hq]; rfl)
  have n3 : wk_rk σ k ≠ 3 := fun hq => hs_7 (by rw [hq]; rfl)
  have n4 : wk_rk σ k ≠ 4 := fun hq => hs_9 (by rw [hq]; rfl)
  have n5 : wk_rk σ k ≠ 5 := fun hq => hs_11 (by rw [hq]; rfl)
  exact wk_rl ((wk_cookHeed σ k n).2) hx hb hr hlk hK hI rfl ⟨by rcases (show wk_rk σ k = 6 ∨ wk_rk σ k = 7 by omega) with eR | eR <;> (rw [eR]; rfl), by rcases (show wk_rk σ k = 6 ∨ wk_rk σ k = 7 by omega) with eR | eR <;> (rw [eR]; rfl)⟩ dX12_heeds_78
