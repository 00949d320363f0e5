set_option maxHeartbeats 4000000 in
set_option maxRecDepth 100000 in
theorem c_X0_payWay (l : Launch) (D : va_G) (cI cJ cS : ClassId) (ad : Nat → Nat) (σ : wk_St) (r k : Nat) (n : Int32) (hV : wk_V σ) (hr9 : r < 8) (hk : k < wk_n σ) (hc : wk_nt σ + 2 < 2147483648) : wk_Cl l D (wk_tys cI cJ cS) yX0_payWay (wk_M yX0_payWay cX0_payWay 7 (some .long)) ({ frames := 2, cells := 0, slots := 0, locals := 45 }) [.ref (ad (8 + r)), .ref (ad 1), .ref (ad (16 + k)), .int n] (wx_W cI cS ad σ) (wx_W cI cS ad) (fun r0 u0 => r0 = (wk_bosunPay σ k n).1 ∧ u0 = (wk_bosunPay σ k n).2) := by
  intro sz
  refine Met.ofW (cc := cX0_payWay) (maxL := 7) (ret := (some .long)) (by decide) rfl ?_
  intro p e s m args below meth c s₁ B hml hv
  obtain ⟨rfl, hsz, hP, hK, hD0, hN⟩ := hv
  have hx := B.exec
  have hb := B.bytes
  have hr := B.returns
  have hts := atoms_spec (ws := wk_M yX0_payWay cX0_payWay 7 (some .long)) B.pre
  have hown : s.vm.findClass RX0 = some m.cls := findClass_of_methodNamed B.named
  have hlk := B.notSynchronized
  subst hsz
  have hI : wk_I D (va_A (wx_W cI cS ad σ) s.heap.size) s.heap s.heap [] (wx_W cI cS ad σ) := ⟨hP, hD0.self, va_S.rf⟩
  have hA : ∀ q : Nat, s.heap.size ≤ q → (va_A (wx_W cI cS ad σ) s.heap.size) q := fun q h => Or.inr h
  clear hP hD0
  generalize va_A (wx_W cI cS ad σ) s.heap.size = A at hI hA ⊢
  have hl := lv_entry ([.ref (ad (8 + r)), .ref (ad 1), .ref (ad (16 + k)), .int n]) (n := 7) (Nat.le_of_ble_eq_true rfl)
  rw [lg_entry_eq]
  generalize (lg_sl ([.ref (ad (8 + r)), .ref (ad 1), .ref (ad (16 + k)), .int n]) ++ List.replicate (7 - (lg_sl ([.ref (ad (8 + r)), .ref (ad 1), .ref (ad (16 + k)), .int n])).length) Slot.unset).toArray = ls at hl ⊢
  have hl : lv_has ls 7 [(0, .ref (ad (8 + r))), (1, .ref (ad 1)), (2, .ref (ad (16 + k))), (3, .int n)] := hl
  refine lv_aload_n hx hb dX0_payWay_0 rfl (lv_at hl 1 rfl) ?_
  refine lv_iconst (v := 3) hx hb dX0_payWay_1 (by decide) ?_
  refine lv_iconst (v := 1) hx hb dX0_payWay_2 (by decide) ?_
  refine wk_kV hI hA (va_runV (As := [.int 3, .int 1]) (rest := []) ⟨hx, hb, hml, hown, hts⟩ (c_X2_noteWay l D cI cJ cS ad σ 3 1 31 (by decide) (by omega) _) (wk_cwV 2 hts wk_in_M mw_305 mw_258 mw_259 mw_35 mw_260 hdX2_noteWay ⟨(Nat.le_of_ble_eq_true rfl), (Nat.le_of_ble_eq_true rfl)⟩) (wk_preV hN hK hI (ci := 2) rfl wx_e1) rfl rfl hl.1 rfl (lv_room (Nat.le_of_ble_eq_true rfl)) dX0_payWay_3 ⟨(Nat.le_of_ble_eq_true rfl), (Nat.le_of_ble_eq_true rfl)⟩) (fun u H locs hw hI => ?_)
  obtain rfl := hw
  have hG_1 : wk_G σ (wk_note σ 31) 1 := wk_g_note σ 31
  refine lv_aload_n hx hb dX0_payWay_6 rfl (lv_at hl 0 rfl) ?_
  refine lv_aload_n hx hb dX0_payWay_7 rfl (lv_at hl 1 rfl) ?_
  refine lv_aload_n hx hb dX0_payWay_8 rfl (lv_at hl 2 rfl) ?_
  refine lv_iload_n hx hb dX0_payWay_9 rfl (lv_at hl 3 rfl) ?_
  refine wk_kL hI hA (wk_runP (x := (⟨RX10, "payWay", "(LWatchBill$Crew;LWatchBill$Member;I)J"⟩ : MethodName)) (As := [.ref (ad 1), .ref (ad (16 + k)), .int n]) (rest := []) ⟨hx, hb, hml, hown, hts⟩ (c_X3_payWay l D cI cJ cS ad (wk_note σ 31) r k n (hG_1.V hV) hr9 (hG_1.lt hk) (by have hq := hG_1.nt; omega) _) (wk_cwP 3 hts wk_in_M mw_306 mw_307 mw_116 mw_309 mw_37 mw_310 wk_sub_X10_X3 hN (by decide +kernel) ⟨(Nat.le_of_ble_eq_true rfl), (Nat.le_of_ble_eq_true rfl)⟩) (wk_preR hN hK hI hr9) rfl rfl hl.1 rfl (lv_room (Nat.le_of_ble_eq_true rfl)) dX0_payWay_10 ⟨(Nat.le_of_ble_eq_true rfl), (Nat.le_of_ble_eq_true rfl)⟩) (fun r u H locs hw hI => ?_)
  obtain ⟨rfl, rfl⟩ := hw
  have hG_2 : wk_G σ ((wk_handPay (wk_note σ 31) k n).2) 2 := hG_1.trans (wk_g_handPay (wk_note σ 31) k n)
  refine lv_ldc2 hx hb hown (hts _ (wk_in_M _ mw_312)) dX0_payWay_13 ?_
  refine lv_iload_n hx hb dX0_payWay_16 rfl (lv_at hl 3 rfl) ?_
  refine lv_i2l hx hb dX0_payWay_17 rfl ?_
  refine lv_lmul hx hb dX0_payWay_18 ?_
  refine lv_ladd hx hb dX0_payWay_19 ?_
  refine lv_lstore (lv' := [(4, .long (((wk_handPay (wk_note σ 31) k n).1) + (2 * (n.toInt64)))), (0, .ref (ad (8 + r))), (1, .ref (ad 1)), (2, .ref (ad (16 + k))), (3, .int n)]) hx hb dX0_payWay_20 hl (by decide) rfl (fun ls hl => ?_)
  refine lv_aload_n hx hb dX0_payWay_22 rfl (lv_at hl 2 rfl) ?_
  refine wk_get (v := va_rf (wx_mp ad (wk_n ((wk_handPay (wk_note σ 31) k n).2)) 0)) hx hb hts (fun w h => wk_in_M w (lay_X2 w h)) hown hK hI (1) wx_e1 rfl 0 (by decide) (hts _ (wk_in_M _ mw_62)) rfl rfl dX0_payWay_23 ?_
  refine wk_astore (lv' := [(6, va_rf (wx_mp ad (wk_n ((wk_handPay (wk_note σ 31) k n).2)) 0)), (4, .long (((wk_handPay (wk_note σ 31) k n).1) + (2 * (n.toInt64)))), (0, .ref (ad (8 + r))), (1, .ref (ad 1)), (2, .ref (ad (16 + k))), (3, .int n)]) hx hb dX0_payWay_26 hl (by decide) rfl (fun ls hl => ?_)
  refine wk_loop (fun i H locs ls => wk_I D A s.heap H locs (wx_W cI cS ad ((wk_handPay (wk_note σ 31) k n).2)) ∧ lv_has ls 7 [(0, .ref (ad (8 + r))), (1, .ref (ad 1)), (2, .ref (ad (16 + k))), (3, .int n), (4, .long (wk_addN ((wk_handPay (wk_note σ 31) k n).2) n.toInt64 (((wk_handPay (wk_note σ 31) k n).1) + (2 * (n.toInt64))) i)), (6, va_rf (wx_mp ad (wk_n ((wk_handPay (wk_note σ 31) k n).2)) i))]) (wk_n ((wk_handPay (wk_note σ 31) k n).2)) ?_ ?_ (wk_n ((wk_handPay (wk_note σ 31) k n).2)) 0 _ _ _ (Nat.zero_add _) ⟨hI, lv_sub hl [2, 3, 4, 5, 1, 0] rfl⟩
  · intro H locs ls hinv
    obtain ⟨hI, hl⟩ := hinv
    rw [wx_mpF (Nat.lt_irrefl _)] at hl
    have hl : lv_has ls 7 [(0, .ref (ad (8 + r))), (1, .ref (ad 1)), (2, .ref (ad (16 + k))), (3, .int n), (4, .long (wk_addN ((wk_handPay (wk_note σ 31) k n).2) n.toInt64 (((wk_handPay (wk_note σ 31) k n).1) + (2 * (n.toInt64))) (wk_n ((wk_handPay (wk_note σ 31) k n).2)))), (6, .null)] := hl
    refine lv_aloadN hx hb dX0_payWay_28 (lv_at hl 5 rfl) ?_
    refine lv_ifnullN (tgt := 58) hx hb dX0_payWay_30 (by decide) ?_
    refine lv_lload hx hb dX0_payWay_58 (lv_at hl 4 rfl) ?_
    exact wk_rl ((wk_handPay (wk_note σ 31) k n).2) hx hb hr hlk hK hI rfl (wk_post (by first | rfl | (simp only [wk_bosunPay, wk_bosunPay1]; done) | (simp only [wk_bosunPay, wk_bosunPay1]; rfl))) dX0_payWay_60
  · intro i H locs ls hi hinv ih
    obtain ⟨hI, hl⟩ := hinv
    have hiσ : i < wk_n σ := by have hq := hG_2.n; omega
    rw [wx_mpT hi] at hl
    have hl : lv_has ls 7 [(0, .ref (ad (8 + r))), (1, .ref (ad 1)), (2, .ref (ad (16 + k))), (3, .int n), (4, .long (wk_addN ((wk_handPay (wk_note σ 31) k n).2) n.toInt64 (((wk_handPay (wk_note σ 31) k n).1) + (2 * (n.toInt64))) i)), (6, .ref (ad (16 + i)))] := hl
    refine lv_aload hx hb dX0_payWay_28 (lv_at hl 5 rfl) ?_
    refine lv_ifnull hx hb dX0_payWay_30 ?_
    refine lv_aload hx hb dX0_payWay_33 (lv_at hl 5 rfl) ?_
    refine wk_kI hI hA (va_runV (As := []) (rest := []) ⟨hx, hb, hml, hown, hts⟩ (c_X6_isBelowBosun l D cI cJ cS ad ((wk_handPay (wk_note σ 31) k n).2) i (hG_2.V hV) (hG_2.lt hiσ) _) (wk_cwV 0 hts wk_in_M mw_313 mw_314 mw_315 mw_46 mw_316 hdX6_isBelowBosun ⟨(Nat.le_of_ble_eq_true rfl), (Nat.le_of_ble_eq_true rfl)⟩) (wk_preV hN hK hI (ci := 6) rfl (wx_em (hG_2.lt hiσ))) rfl rfl hl.1 rfl (lv_room (Nat.le_of_ble_eq_true rfl)) dX0_payWay_35 ⟨(Nat.le_of_ble_eq_true rfl), (Nat.le_of_ble_eq_true rfl)⟩) (fun r u H locs hw hI => ?_)
    obtain ⟨rfl, rfl⟩ := hw
    refine lv_if_eq (tgt := 48) hx hb dX0_payWay_38 (by decide) (fun c_3 => ?_) (fun c_3 => ?_)
    · have c_3 := wk_b0 c_3
      refine lv_aload hx hb dX0_payWay_48 (lv_at hl 5 rfl) ?_
      refine wk_get (v := va_rf (wx_mp ad (wk_n ((wk_handPay (wk_note σ 31) k n).2)) (i + 1))) hx hb hts (fun w h => wk_in_M w (lay_X6 w h)) hown hK hI (16 + i) (wx_em (hG_2.lt hiσ)) rfl 6 (by decide) (hts _ (wk_in_M _ mw_203)) rfl rfl dX0_payWay_50 ?_
      refine wk_astore (lv' := [(6, va_rf (wx_mp ad (wk_n ((wk_handPay (wk_note σ 31) k n).2)) (i + 1))), (0, .ref (ad (8 + r))), (1, .ref (ad 1)), (2, .ref (ad (16 + k))), (3, .int n), (4, .long (wk_addN ((wk_handPay (wk_note σ 31) k n).2) n.toInt64 (((wk_handPay (wk_note σ 31) k n).1) + (2 * (n.toInt64))) i))]) hx hb dX0_payWay_53 hl (by decide) rfl (fun ls hl => ?_)
      refine lv_goto (tgt := 28) hx hb dX0_payWay_55 (by decide) ?_
      have e1 : wk_addN ((wk_handPay (wk_note σ 31) k n).2) n.toInt64 (((wk_handPay (wk_note σ 31) k n).1) + (2 * (n.toInt64))) (i + 1) = wk_addN ((wk_handPay (wk_note σ 31) k n).2) n.toInt64 (((wk_handPay (wk_note σ 31) k n).1) + (2 * (n.toInt64))) i := by simp only [wk_addN, if_neg c_3]
      rw [← e1] at hl
      exact ih _ _ _ ⟨hI, lv_sub hl [1, 2, 3, 4, 5, 0] rfl⟩
    · have c_3 := wk_b1 c_3
      refine lv_lload hx hb dX0_payWay_41 (lv_at hl 4 rfl) ?_
      refine lv_iload_n hx hb dX0_payWay_43 rfl (lv_at hl 3 rfl) ?_
      refine lv_i2l hx hb dX0_payWay_44 rfl ?_
      refine lv_ladd hx hb dX0_payWay_45 ?_
      refine lv_lstore (lv' := [(4, .long ((wk_addN ((wk_handPay (wk_note σ 31) k n).2) n.toInt64 (((wk_handPay (wk_note σ 31) k n).1) + (2 * (n.toInt64))) i) + (n.toInt64))), (0, .ref (ad (8 + r))), (1, .ref (ad 1)), (2, .ref (ad (16 + k))), (3, .int n), (6, .ref (ad (16 + i)))]) hx hb dX0_payWay_46 hl (by decide) rfl (fun ls hl => ?_)
      refine lv_aload hx hb dX0_payWay_48 (lv_at hl 5 rfl) ?_
      refine wk_get (v := va_rf (wx_mp ad (wk_n ((wk_handPay (wk_note σ 31) k n).2)) (i + 1))) hx hb hts (fun w h => wk_in_M w (lay_X6 w h)) hown hK hI (16 + i) (wx_em (hG_2.lt hiσ)) rfl 6 (by decide) (hts _ (wk_in_M _ mw_203)) rfl rfl dX0_payWay_50 ?_
      refine wk_astore (lv' := [(6, va_rf (wx_mp ad (wk_n ((wk_handPay (wk_note σ 31) k n).2)) (i + 1))), (4, .long ((wk_addN ((wk_handPay (wk_note σ 31) k n).2) n.toInt64 (((wk_handPay (wk_note σ 31) k n).1) + (2 * (n.toInt64))) i) + (n.toInt64))), (0, .ref (ad (8 + r))), (1, .ref (ad 1)), (2, .ref (ad (16 + k))), (3, .int n)]) hx hb dX0_payWay_53 hl (by decide) rfl (fun ls hl => ?_)
      refine lv_goto (tgt := 28) hx hb dX0_payWay_55 (by decide) ?_
      have e1 : wk_addN ((wk_handPay (wk_note σ 31) k n).2) n.toInt64 (((wk_handPay (wk_note σ 31) k n).1) + (2 * (n.toInt64))) (i + 1) = (wk_addN ((wk_handPay (wk_note σ 31) k n).2) n.toInt64 (((wk_handPay (wk_note σ 31) k n).1) + (2 * (n.toInt64))) i) + (n.toInt64) := by simp only [wk_addN, if_pos c_3]
      rw [← e1] at hl
      exact ih _ _ _ ⟨hI, lv_sub hl [2, 3, 4, 5, 1, 0] rfl⟩
set_option maxHeartbeats 4000000 in
set_option maxRecDepth 100000 in
theorem c_X4_payWay (l : Launch) (D : va_G) (cI cJ cS : ClassId) (ad : Nat → Nat) (σ : wk_St) (r k : Nat) (n : Int32) (hV : wk_V σ) (hr9 : r < 8) (hk : k < wk_n σ) (hc : wk_nt σ + 3 < 2147483648) : wk_Cl l D (wk_tys cI cJ cS) yX4_payWay (wk_M yX4_payWay cX4_payWay 6 (some .long)) ({ frames := 3, cells := 0, slots := 0, locals := 71 }) [.ref (ad (8 + r)), .ref (ad 1), .ref (ad (16 + k)), .int n] (wx_W cI cS ad σ) (wx_W cI cS ad) (fun r0 u0 => r0 = (wk_masterPay σ k n).1 ∧ u0 = (wk_masterPay σ k n).2) := by
  intro sz
  refine Met.ofW (cc := cX4_payWay) (maxL := 6) (ret := (some .long)) (by decide) rfl ?_
  intro p e s m args below meth c s₁ B hml hv
  obtain ⟨rfl, hsz, hP, hK, hD0, hN⟩ := hv
  have hx := B.exec
  have hb := B.bytes
  have hr := B.returns
  have hts := atoms_spec (ws := wk_M yX4_payWay cX4_payWay 6 (some .long)) B.pre
  have hown : s.vm.findClass RX4 = some m.cls := findClass_of_methodNamed B.named
  have hlk := B.notSynchronized
  subst hsz
  have hI : wk_I D (va_A (wx_W cI cS ad σ) s.heap.size) s.heap s.heap [] (wx_W cI cS ad σ) := ⟨hP, hD0.self, va_S.rf⟩
  have hA : ∀ q : Nat, s.heap.size ≤ q → (va_A (wx_W cI cS ad σ) s.heap.size) q := fun q h => Or.inr h
  clear hP hD0
  generalize va_A (wx_W cI cS ad σ) s.heap.size = A at hI hA ⊢
  have hl := lv_entry ([.ref (ad (8 + r)), .ref (ad 1), .ref (ad (16 + k)), .int n]) (n := 6) (Nat.le_of_ble_eq_true rfl)
  rw [lg_entry_eq]
  generalize (lg_sl ([.ref (ad (8 + r)), .ref (ad 1), .ref (ad (16 + k)), .int n]) ++ List.replicate (6 - (lg_sl ([.ref (ad (8 + r)), .ref (ad 1), .ref (ad (16 + k)), .int n])).length) Slot.unset).toArray = ls at hl ⊢
  have hl : lv_has ls 6 [(0, .ref (ad (8 + r))), (1, .ref (ad 1)), (2, .ref (ad (16 + k))), (3, .int n)] := hl
  refine lv_aload_n hx hb dX4_payWay_0 rfl (lv_at hl 1 rfl) ?_
  refine lv_iconst (v := 5) hx hb dX4_payWay_1 (by decide) ?_
  refine lv_iconst (v := 1) hx hb dX4_payWay_2 (by decide) ?_
  refine wk_kV hI hA (va_runV (As := [.int 5, .int 1]) (rest := []) ⟨hx, hb, hml, hown, hts⟩ (c_X2_noteWay l D cI cJ cS ad σ 5 1 51 (by decide) (by omega) _) (wk_cwV 2 hts wk_in_M mw_279 mw_258 mw_259 mw_35 mw_260 hdX2_noteWay ⟨(Nat.le_of_ble_eq_true rfl), (Nat.le_of_ble_eq_true rfl)⟩) (wk_preV hN hK hI (ci := 2) rfl wx_e1) rfl rfl hl.1 rfl (lv_room (Nat.le_of_ble_eq_true rfl)) dX4_payWay_3 ⟨(Nat.le_of_ble_eq_true rfl), (Nat.le_of_ble_eq_true rfl)⟩) (fun u H locs hw hI => ?_)
  obtain rfl := hw
  have hG_1 : wk_G σ (wk_note σ 51) 1 := wk_g_note σ 51
  refine lv_aload_n hx hb dX4_payWay_6 rfl (lv_at hl 0 rfl) ?_
  refine lv_aload_n hx hb dX4_payWay_7 rfl (lv_at hl 1 rfl) ?_
  refine lv_aload_n hx hb dX4_payWay_8 rfl (lv_at hl 2 rfl) ?_
  refine lv_iload_n hx hb dX4_payWay_9 rfl (lv_at hl 3 rfl) ?_
  refine wk_kL hI hA (wk_runP (x := (⟨RX5, "payWay", "(LWatchBill$Crew;LWatchBill$Member;I)J"⟩ : MethodName)) (As := [.ref (ad 1), .ref (ad (16 + k)), .int n]) (rest := []) ⟨hx, hb, hml, hown, hts⟩ (c_X0_payWay l D cI cJ cS ad (wk_note σ 51) r k n (hG_1.V hV) hr9 (hG_1.lt hk) (by have hq := hG_1.nt; omega) _) (wk_cwP 3 hts wk_in_M mw_322 mw_323 mw_130 mw_303 mw_40 mw_304 wk_sub_X5_X0 hN (by decide +kernel) ⟨(Nat.le_of_ble_eq_true rfl), (Nat.le_of_ble_eq_true rfl)⟩) (wk_preR hN hK hI hr9) rfl rfl hl.1 rfl (lv_room (Nat.le_of_ble_eq_true rfl)) dX4_payWay_10 ⟨(Nat.le_of_ble_eq_true rfl), (Nat.le_of_ble_eq_true rfl)⟩) (fun r u H locs hw hI => ?_)
  obtain ⟨rfl, rfl⟩ := hw
  have hG_2 : wk_G σ ((wk_bosunPay (wk_note σ 51) k n).2) 3 := hG_1.trans (wk_g_bosunPay (wk_note σ 51) k n)
  refine lv_lstore (lv' := [(4, .long ((wk_bosunPay (wk_note σ 51) k n).1)), (0, .ref (ad (8 + r))), (1, .ref (ad 1)), (2, .ref (ad (16 + k))), (3, .int n)]) hx hb dX4_payWay_13 hl (by decide) rfl (fun ls hl => ?_)
  refine lv_aload_n hx hb dX4_payWay_15 rfl (lv_at hl 3 rfl) ?_
  refine wk_get (v := .int (wk_we ((wk_bosunPay (wk_note σ 51) k n).2) k)) hx hb hts (fun w h => wk_in_M w (lay_X6 w h)) hown hK hI (16 + k) (wx_em (hG_2.lt hk)) rfl 4 (by decide) (hts _ (wk_in_M _ mw_198)) rfl rfl dX4_payWay_16 ?_
  refine lv_sipush (v := 300) hx hb dX4_payWay_19 (by decide) ?_
  refine lv_icmp_ge (tgt := 34) hx hb dX4_payWay_22 (by decide) (fun c_3 => ?_) (fun c_3 => ?_)
  · refine lv_lload hx hb dX4_payWay_34 (lv_at hl 0 rfl) ?_
    exact wk_rl ((wk_bosunPay (wk_note σ 51) k n).2) hx hb hr hlk hK hI rfl (wk_post (by first | rfl | (simp only [wk_masterPay, wk_masterPay1, if_pos c_3]; done) | (simp only [wk_masterPay, wk_masterPay1, if_pos c_3]; rfl))) dX4_payWay_36
  · refine lv_ldc2 hx hb hown (hts _ (wk_in_M _ mw_325)) dX4_payWay_25 ?_
    refine lv_lload hx hb dX4_payWay_28 (lv_at hl 0 rfl) ?_
    refine lv_lmul hx hb dX4_payWay_30 ?_
    refine lv_goto (tgt := 36) hx hb dX4_payWay_31 (by decide) ?_
    exact wk_rl ((wk_bosunPay (wk_note σ 51) k n).2) hx hb hr hlk hK hI rfl (wk_post (by first | rfl | (simp only [wk_masterPay, wk_masterPay1, if_neg c_3]; done) | (simp only [wk_masterPay, wk_masterPay1, if_neg c_3]; rfl))) dX4_payWay_36
set_option maxHeartbeats 4000000 in
set_option maxRecDepth 100000 in
theorem c_X9_payWay (l : Launch) (D : va_G) (cI cJ cS : ClassId) (ad : Nat → Nat) (σ : wk_St) (r k : Nat) (n : Int32) (hV : wk_V σ) (hr9 : r < 8) (hk : k < wk_n σ) (hc : wk_nt σ + 2 < 2147483648) : wk_Cl l D (wk_tys cI cJ cS) yX9_payWay (wk_M yX9_payWay cX9_payWay 7 (some .long)) ({ frames := 2, cells := 0, slots := 0, locals := 45 }) [.ref (ad (8 + r)), .ref (ad 1), .ref (ad (16 + k)), .int n] (wx_W cI cS ad σ) (wx_W cI cS ad) (fun r0 u0 => r0 = (wk_surgPay σ k n).1 ∧ u0 = (wk_surgPay σ k n).2) := by
  intro sz
  refine Met.ofW (cc := cX9_payWay) (maxL := 7) (ret := (some .long)) (by decide) rfl ?_
  intro p e s m args below meth c s₁ B hml hv
  obtain ⟨rfl, hsz, hP, hK, hD0, hN⟩ := hv
  have hx := B.exec
  have hb := B.bytes
  have hr := B.returns
  have hts := atoms_spec (ws := wk_M yX9_payWay cX9_payWay 7 (some .long)) B.pre
  have hown : s.vm.findClass RX9 = some m.cls := findClass_of_methodNamed B.named
  have hlk := B.notSynchronized
  subst hsz
  have hI : wk_I D (va_A (wx_W cI cS ad σ) s.heap.size) s.heap s.heap [] (wx_W cI cS ad σ) := ⟨hP, hD0.self, va_S.rf⟩
  have hA : ∀ q : Nat, s.heap.size ≤ q → (va_A (wx_W cI cS ad σ) s.heap.size) q := fun q h => Or.inr h
  clear hP hD0
  generalize va_A (wx_W cI cS ad σ) s.heap.size = A at hI hA ⊢
  have hl := lv_entry ([.ref (ad (8 + r)), .ref (ad 1), .ref (ad (16 + k)), .int n]) (n := 7) (Nat.le_of_ble_eq_true rfl)
  rw [lg_entry_eq]
  generalize (lg_sl ([.ref (ad (8 + r)), .ref (ad 1), .ref (ad (16 + k)), .int n]) ++ List.replicate (7 - (lg_sl ([.ref (ad (8 + r)), .ref (ad 1), .ref (ad (16 + k)), .int n])).length) Slot.unset).toArray = ls at hl ⊢
  have hl : lv_has ls 7 [(0, .ref (ad (8 + r))), (1, .ref (ad 1)), (2, .ref (ad (16 + k))), (3, .int n)] := hl
  refine lv_aload_n hx hb dX9_payWay_0 rfl (lv_at hl 1 rfl) ?_
  refine lv_bipush (v := 7) hx hb dX9_payWay_1 (by decide) ?_
  refine lv_iconst (v := 1) hx hb dX9_payWay_3 (by decide) ?_
  refine wk_kV hI hA (va_runV (As := [.int 7, .int 1]) (rest := []) ⟨hx, hb, hml, hown, hts⟩ (c_X2_noteWay l D cI cJ cS ad σ 7 1 71 (by decide) (by omega) _) (wk_cwV 2 hts wk_in_M mw_331 mw_258 mw_259 mw_35 mw_260 hdX2_noteWay ⟨(Nat.le_of_ble_eq_true rfl), (Nat.le_of_ble_eq_true rfl)⟩) (wk_preV hN hK hI (ci := 2) rfl wx_e1) rfl rfl hl.1 rfl (lv_room (Nat.le_of_ble_eq_true rfl)) dX9_payWay_4 ⟨(Nat.le_of_ble_eq_true rfl), (Nat.le_of_ble_eq_true rfl)⟩) (fun u H locs hw hI => ?_)
  obtain rfl := hw
  have hG_1 : wk_G σ (wk_note σ 71) 1 := wk_g_note σ 71
  refine lv_aload_n hx hb dX9_payWay_7 rfl (lv_at hl 0 rfl) ?_
  refine lv_aload_n hx hb dX9_payWay_8 rfl (lv_at hl 1 rfl) ?_
  refine lv_aload_n hx hb dX9_payWay_9 rfl (lv_at hl 2 rfl) ?_
  refine lv_iload_n hx hb dX9_payWay_10 rfl (lv_at hl 3 rfl) ?_
  refine wk_kL hI hA (wk_runP (x := (⟨RX1, "payWay", "(LWatchBill$Crew;LWatchBill$Member;I)J"⟩ : MethodName)) (As := [.ref (ad 1), .ref (ad (16 + k)), .int n]) (rest := []) ⟨hx, hb, hml, hown, hts⟩ (c_X3_payWay l D cI cJ cS ad (wk_note σ 71) r k n (hG_1.V hV) hr9 (hG_1.lt hk) (by have hq := hG_1.nt; omega) _) (wk_cwP 3 hts wk_in_M mw_332 mw_333 mw_144 mw_309 mw_37 mw_310 wk_sub_X1_X3 hN (by decide +kernel) ⟨(Nat.le_of_ble_eq_true rfl), (Nat.le_of_ble_eq_true rfl)⟩) (wk_preR hN hK hI hr9) rfl rfl hl.1 rfl (lv_room (Nat.le_of_ble_eq_true rfl)) dX9_payWay_11 ⟨(Nat.le_of_ble_eq_true rfl), (Nat.le_of_ble_eq_true rfl)⟩) (fun r u H locs hw hI => ?_)
  obtain ⟨rfl, rfl⟩ := hw
  have hG_2 : wk_G σ ((wk_handPay (wk_note σ 71) k n).2) 2 := hG_1.trans (wk_g_handPay (wk_note σ 71) k n)
  refine lv_lstore (lv' := [(4, .long ((wk_handPay (wk_note σ 71) k n).1)), (0, .ref (ad (8 + r))), (1, .ref (ad 1)), (2, .ref (ad (16 + k))), (3, .int n)]) hx hb dX9_payWay_14 hl (by decide) rfl (fun ls hl => ?_)
  refine lv_aload_n hx hb dX9_payWay_16 rfl (lv_at hl 2 rfl) ?_
  refine wk_get (v := va_rf (wx_mp ad (wk_n ((wk_handPay (wk_note σ 71) k n).2)) 0)) hx hb hts (fun w h => wk_in_M w (lay_X2 w h)) hown hK hI (1) wx_e1 rfl 0 (by decide) (hts _ (wk_in_M _ mw_61)) rfl rfl dX9_payWay_17 ?_
  refine wk_astore (lv' := [(6, va_rf (wx_mp ad (wk_n ((wk_handPay (wk_note σ 71) k n).2)) 0)), (4, .long ((wk_handPay (wk_note σ 71) k n).1)), (0, .ref (ad (8 + r))), (1, .ref (ad 1)), (2, .ref (ad (16 + k))), (3, .int n)]) hx hb dX9_payWay_20 hl (by decide) rfl (fun ls hl => ?_)
  refine wk_loop (fun i H locs ls => wk_I D A s.heap H locs (wx_W cI cS ad ((wk_handPay (wk_note σ 71) k n).2)) ∧ lv_has ls 7 [(0, .ref (ad (8 + r))), (1, .ref (ad 1)), (2, .ref (ad (16 + k))), (3, .int n), (4, .long (wk_add7 ((wk_handPay (wk_note σ 71) k n).2) ((wk_handPay (wk_note σ 71) k n).1) i)), (6, va_rf (wx_mp ad (wk_n ((wk_handPay (wk_note σ 71) k n).2)) i))]) (wk_n ((wk_handPay (wk_note σ 71) k n).2)) ?_ ?_ (wk_n ((wk_handPay (wk_note σ 71) k n).2)) 0 _ _ _ (Nat.zero_add _) ⟨hI, lv_sub hl [2, 3, 4, 5, 1, 0] rfl⟩
  · intro H locs ls hinv
    obtain ⟨hI, hl⟩ := hinv
    rw [wx_mpF (Nat.lt_irrefl _)] at hl
    have hl : lv_has ls 7 [(0, .ref (ad (8 + r))), (1, .ref (ad 1)), (2, .ref (ad (16 + k))), (3, .int n), (4, .long (wk_add7 ((wk_handPay (wk_note σ 71) k n).2) ((wk_handPay (wk_note σ 71) k n).1) (wk_n ((wk_handPay (wk_note σ 71) k n).2)))), (6, .null)] := hl
    refine lv_aloadN hx hb dX9_payWay_22 (lv_at hl 5 rfl) ?_
    refine lv_ifnullN (tgt := 56) hx hb dX9_payWay_24 (by decide) ?_
    refine lv_lload hx hb dX9_payWay_56 (lv_at hl 4 rfl) ?_
    exact wk_rl ((wk_handPay (wk_note σ 71) k n).2) hx hb hr hlk hK hI rfl (wk_post (by first | rfl | (simp only [wk_surgPay, wk_surgPay1]; done) | (simp only [wk_surgPay, wk_surgPay1]; rfl))) dX9_payWay_58
  · intro i H locs ls hi hinv ih
    obtain ⟨hI, hl⟩ := hinv
    have hiσ : i < wk_n σ := by have hq := hG_2.n; omega
    rw [wx_mpT hi] at hl
    have hl : lv_has ls 7 [(0, .ref (ad (8 + r))), (1, .ref (ad 1)), (2, .ref (ad (16 + k))), (3, .int n), (4, .long (wk_add7 ((wk_handPay (wk_note σ 71) k n).2) ((wk_handPay (wk_note σ 71) k n).1) i)), (6, .ref (ad (16 + i)))] := hl
    refine lv_aload hx hb dX9_payWay_22 (lv_at hl 5 rfl) ?_
    refine lv_ifnull hx hb dX9_payWay_24 ?_
    refine lv_aload hx hb dX9_payWay_27 (lv_at hl 5 rfl) ?_
    refine wk_get (v := .int (wk_we ((wk_handPay (wk_note σ 71) k n).2) i)) hx hb hts (fun w h => wk_in_M w (lay_X6 w h)) hown hK hI (16 + i) (wx_em (hG_2.lt hiσ)) rfl 4 (by decide) (hts _ (wk_in_M _ mw_197)) rfl rfl dX9_payWay_29 ?_
    refine lv_sipush (v := 500) hx hb dX9_payWay_32 (by decide) ?_
    refine lv_icmp_le (tgt := 46) hx hb dX9_payWay_35 (by decide) (fun c_3 => ?_) (fun c_3 => ?_)
    · refine lv_aload hx hb dX9_payWay_46 (lv_at hl 5 rfl) ?_
      refine wk_get (v := va_rf (wx_mp ad (wk_n ((wk_handPay (wk_note σ 71) k n).2)) (i + 1))) hx hb hts (fun w h => wk_in_M w (lay_X6 w h)) hown hK hI (16 + i) (wx_em (hG_2.lt hiσ)) rfl 6 (by decide) (hts _ (wk_in_M _ mw_202)) rfl rfl dX9_payWay_48 ?_
      refine wk_astore (lv' := [(6, va_rf (wx_mp ad (wk_n ((wk_handPay (wk_note σ 71) k n).2)) (i + 1))), (0, .ref (ad (8 + r))), (1, .ref (ad 1)), (2, .ref (ad (16 + k))), (3, .int n), (4, .long (wk_add7 ((wk_handPay (wk_note σ 71) k n).2) ((wk_handPay (wk_note σ 71) k n).1) i))]) hx hb dX9_payWay_51 hl (by decide) rfl (fun ls hl => ?_)
      refine lv_goto (tgt := 22) hx hb dX9_payWay_53 (by decide) ?_
      have e1 : wk_add7 ((wk_handPay (wk_note σ 71) k n).2) ((wk_handPay (wk_note σ 71) k n).1) (i + 1) = wk_add7 ((wk_handPay (wk_note σ 71) k n).2) ((wk_handPay (wk_note σ 71) k n).1) i := by simp only [wk_add7, if_pos c_3]
      rw [← e1] at hl
      exact ih _ _ _ ⟨hI, lv_sub hl [1, 2, 3, 4, 5, 0] rfl⟩
    · refine lv_lload hx hb dX9_payWay_38 (lv_at hl 4 rfl) ?_
      refine lv_ldc2 hx hb hown (hts _ (wk_in_M _ mw_334)) dX9_payWay_40 ?_
      refine lv_ladd hx hb dX9_payWay_43 ?_
      refine lv_lstore (lv' := [(4, .long ((wk_add7 ((wk_handPay (wk_note σ 71) k n).2) ((wk_handPay (wk_note σ 71) k n).1) i) + 7)), (0, .ref (ad (8 + r))), (1, .ref (ad 1)), (2, .ref (ad (16 + k))), (3, .int n), (6, .ref (ad (16 + i)))]) hx hb dX9_payWay_44 hl (by decide) rfl (fun ls hl => ?_)
      refine lv_aload hx hb dX9_payWay_46 (lv_at hl 5 rfl) ?_
      refine wk_get (v := va_rf (wx_mp ad (wk_n ((wk_handPay (wk_note σ 71) k n).2)) (i + 1))) hx hb hts (fun w h => wk_in_M w (lay_X6 w h)) hown hK hI (16 + i) (wx_em (hG_2.lt hiσ)) rfl 6 (by decide) (hts _ (wk_in_M _ mw_202)) rfl rfl dX9_payWay_48 ?_
      refine wk_astore (lv' := [(6, va_rf (wx_mp ad (wk_n ((wk_handPay (wk_note σ 71) k n).2)) (i + 1))), (4, .long ((wk_add7 ((wk_handPay (wk_note σ 71) k n).2) ((wk_handPay (wk_note σ 71) k n).1) i) + 7)), (0, .ref (ad (8 + r))), (1, .ref (ad 1)), (2, .ref (ad (16 + k))), (3, .int n)]) hx hb dX9_payWay_51 hl (by decide) rfl (fun ls hl => ?_)
      refine lv_goto (tgt := 22) hx hb dX9_payWay_53 (by decide) ?_
      have e1 : wk_add7 ((wk_handPay (wk_note σ 71) k n).2) ((wk_handPay (wk_note σ 71) k n).1) (i + 1) = (wk_add7 ((wk_handPay (wk_note σ 71) k n).2) ((wk_handPay (wk_note σ 71) k n).1) i) + 7 := by simp only [wk_add7, if_neg c_3]
      rw [← e1] at hl
      exact ih _ _ _ ⟨hI, lv_sub hl [2, 3, 4, 5, 1, 0] rfl⟩
set_option maxHeartbeats 4000000 in
set_option maxRecDepth 100000 in
theorem wd_X0_heedWay {p : Program} {l : Launch} {e : Env} {R : Room} {s : State} {m : MethodId} {args : Array Value} {below : List Frame} {meth : Method} {c : Code} {H : Heap} {locs : List Loc} {cells slots : Nat} {Ts : List Cond} {cc : ByteArray} {nL pc : Nat} {ls : Array Slot} {rest : List Value} {A : Nat → Prop} {H0 : Heap} {D : va_G} {cI cJ cS : ClassId} {ad : Nat → Nat} {σ : wk_St} (r k : Nat) (n : Int32) (S : CallFix p m c cc nL s args Ts RX0) (hb : ∀ w ∈ wk_T, w ∈ Ts) (hN : wk_N s) (hK : va_K D vwCl (wk_tys cI cJ cS) s) (hI : wk_I D A H0 H locs (wx_W cI cS ad σ)) (hV : wk_V σ) (hr9 : r < 8) (hlo : r ≤ 2) (hk : k < wk_n σ) (hc : wk_nt σ + 2 < 2147483648) (hR : 3 ≤ R.frames ∧ 68 ≤ R.locals) (hsize : ls.size = nL) (hW : 2 * (F0 m pc ls (.int n :: .ref (ad (16 + k)) :: .ref (ad 1) :: .ref (ad (8 + r)) :: rest)).monitorRoom + (rest.map fun v => v.category).sum ≤ 8) (hdg : decode cc pc = .ok (.invokevirtual 42, 3)) (hf : cells + 0 ≤ R.cells ∧ slots + 0 ≤ R.slots) : va_Run p l e R s m args below meth c H locs cells slots 0 0 (F0 m pc ls (.int n :: .ref (ad (16 + k)) :: .ref (ad 1) :: .ref (ad (8 + r)) :: rest)) rest (va_Qi (fun v u => v = (wk_loHeed r σ k n).1 ∧ u = (wk_loHeed r σ k n).2) (wk_B D (wk_tys cI cJ cS) (va_A (wx_W cI cS ad σ) H.size) (wx_W cI cS ad)) (va_A (wx_W cI cS ad σ) H.size) (Value.ref (ad (8 + r)) :: [.ref (ad 1), .ref (ad (16 + k)), .int n]).toArray) (va_A (wx_W cI cS ad σ) H.size) := by
  rcases (show r = 0 ∨ r = 1 ∨ r = 2 by omega) with rfl | rfl | rfl
  · exact va_runU (owner := RX8) (x := yX8_heedWay) (As := [.ref (ad 1), .ref (ad (16 + k)), .int n]) (rest := rest) S (c_X8_heedWay l D cI cJ cS ad σ 0 k n hV hr9 hk (by omega) _) (wk_cwU 3 S.2.2.2.2 hb mw_384 mw_374 mw_395 mw_373 mw_36 mw_401 (va_Decl.of (x := yX8_heedWay) (S.2.2.2.2 _ (hb _ mw_373)) (S.2.2.2.2 _ (hb _ mw_401))) (by decide +kernel) ⟨Nat.le_trans (Nat.le_of_ble_eq_true rfl) hR.1, Nat.le_trans (Nat.le_of_ble_eq_true rfl) hR.2⟩) (wk_preV hN hK hI (ci := 3) rfl (wx_er hr9)) rfl rfl hsize rfl hW hdg hf
  · exact va_runU (owner := RX8) (x := yX8_heedWay) (As := [.ref (ad 1), .ref (ad (16 + k)), .int n]) (rest := rest) S (c_X8_heedWay l D cI cJ cS ad σ 1 k n hV hr9 hk (by omega) _) (wk_cwU 3 S.2.2.2.2 hb mw_384 mw_374 mw_398 mw_373 mw_36 mw_401 (va_Decl.of (x := yX8_heedWay) (S.2.2.2.2 _ (hb _ mw_373)) (S.2.2.2.2 _ (hb _ mw_401))) (by decide +kernel) ⟨Nat.le_trans (Nat.le_of_ble_eq_true rfl) hR.1, Nat.le_trans (Nat.le_of_ble_eq_true rfl) hR.2⟩) (wk_preV hN hK hI (ci := 7) rfl (wx_er hr9)) rfl rfl hsize rfl hW hdg hf
  · exact va_runU (owner := RX8) (x := yX8_heedWay) (As := [.ref (ad 1), .ref (ad (16 + k)), .int n]) (rest := rest) S (c_X10_heedWay l D cI cJ cS ad σ 2 k n hV hr9 hk (by omega) _) (wk_cwU 3 S.2.2.2.2 hb mw_384 mw_374 mw_400 mw_379 mw_39 mw_380 (va_Decl.of (x := yX8_heedWay) (S.2.2.2.2 _ (hb _ mw_373)) (S.2.2.2.2 _ (hb _ mw_401))) (by decide +kernel) ⟨Nat.le_trans (Nat.le_of_ble_eq_true rfl) hR.1, Nat.le_trans (Nat.le_of_ble_eq_true rfl) hR.2⟩) (wk_preV hN hK hI (ci := 9) rfl (wx_er hr9)) rfl rfl hsize rfl hW hdg hf
set_option maxHeartbeats 4000000 in
set_option maxRecDepth 100000 in
theorem c_X0_heedWay (l : Launch) (D : va_G) (cI cJ cS : ClassId) (ad : Nat → Nat) (σ : wk_St) (r k : Nat) (n : Int32) (hV : wk_V σ) (hr9 : r < 8) (hk : k < wk_n σ) (hc : wk_nt σ + 27 < 2147483648) : wk_Ci l D (wk_tys cI cJ cS) yX0_heedWay (wk_M yX0_heedWay cX0_heedWay 6 (some .int)) ({ frames := 3, cells := 0, slots := 0, locals := 68 }) [.ref (ad (8 + r)), .ref (ad 1), .ref (ad (16 + k)), .int n] (wx_W cI cS ad σ) (wx_W cI cS ad) (fun r0 u0 => r0 = (wk_bosunHeed σ k n).1 ∧ u0 = (wk_bosunHeed σ k n).2) := by
  intro sz
  refine Met.ofW (cc := cX0_heedWay) (maxL := 6) (ret := (some .int)) (by decide) rfl ?_
  intro p e s m args below meth c s₁ B hml hv
  obtain ⟨rfl, hsz, hP, hK, hD0, hN⟩ := hv
  have hx := B.exec
  have hb := B.bytes
  have hr := B.returns
  have hts := atoms_spec (ws := wk_M yX0_heedWay cX0_heedWay 6 (some .int)) B.pre
  have hown : s.vm.findClass RX0 = some m.cls := findClass_of_methodNamed B.named
  have hlk := B.notSynchronized
  subst hsz
  have hI : wk_I D (va_A (wx_W cI cS ad σ) s.heap.size) s.heap s.heap [] (wx_W cI cS ad σ) := ⟨hP, hD0.self, va_S.rf⟩
  have hA : ∀ q : Nat, s.heap.size ≤ q → (va_A (wx_W cI cS ad σ) s.heap.size) q := fun q h => Or.inr h
  clear hP hD0
  generalize va_A (wx_W cI cS ad σ) s.heap.size = A at hI hA ⊢
  have hl := lv_entry ([.ref (ad (8 + r)), .ref (ad 1), .ref (ad (16 + k)), .int n]) (n := 6) (Nat.le_of_ble_eq_true rfl)
  rw [lg_entry_eq]
  generalize (lg_sl ([.ref (ad (8 + r)), .ref (ad 1), .ref (ad (16 + k)), .int n]) ++ List.replicate (6 - (lg_sl ([.ref (ad (8 + r)), .ref (ad 1), .ref (ad (16 + k)), .int n])).length) Slot.unset).toArray = ls at hl ⊢
  have hl : lv_has ls 6 [(0, .ref (ad (8 + r))), (1, .ref (ad 1)), (2, .ref (ad (16 + k))), (3, .int n)] := hl
  refine lv_aload_n hx hb dX0_heedWay_0 rfl (lv_at hl 1 rfl) ?_
  refine lv_iconst (v := 3) hx hb dX0_heedWay_1 (by decide) ?_
  refine lv_iconst (v := 3) hx hb dX0_heedWay_2 (by decide) ?_
  refine wk_kV hI hA (va_runV (As := [.int 3, .int 3]) (rest := []) ⟨hx, hb, hml, hown, hts⟩ (c_X2_noteWay l D cI cJ cS ad σ 3 3 33 (by decide) (by have hq12 := hV.1; omega) _) (wk_cwV 2 hts wk_in_M mw_305 mw_258 mw_259 mw_35 mw_260 hdX2_noteWay ⟨(Nat.le_of_ble_eq_true rfl), (Nat.le_of_ble_eq_true rfl)⟩) (wk_preV hN hK hI (ci := 2) rfl wx_e1) rfl rfl hl.1 rfl (lv_room (Nat.le_of_ble_eq_true rfl)) dX0_heedWay_3 ⟨(Nat.le_of_ble_eq_true rfl), (Nat.le_of_ble_eq_true rfl)⟩) (fun u H locs hw hI => ?_)
  obtain rfl := hw
  have hG_1 : wk_G σ (wk_note σ 33) 1 := wk_g_note σ 33
  refine lv_aload_n hx hb dX0_heedWay_6 rfl (lv_at hl 0 rfl) ?_
  refine lv_aload_n hx hb dX0_heedWay_7 rfl (lv_at hl 1 rfl) ?_
  refine lv_aload_n hx hb dX0_heedWay_8 rfl (lv_at hl 2 rfl) ?_
  refine lv_iload_n hx hb dX0_heedWay_9 rfl (lv_at hl 3 rfl) ?_
  refine wk_kI hI hA (wk_runP (x := yX10_heedWay) (As := [.ref (ad 1), .ref (ad (16 + k)), .int n]) (rest := []) ⟨hx, hb, hml, hown, hts⟩ (c_X10_heedWay l D cI cJ cS ad (wk_note σ 33) r k n (hG_1.V hV) hr9 (hG_1.lt hk) (by have hq := hG_1.nt; have hq12 := hV.1; omega) _) (wk_cwP 3 hts wk_in_M mw_378 mw_744 mw_116 mw_379 mw_39 mw_380 wk_sub_X10_X10 hN (by decide +kernel) ⟨(Nat.le_of_ble_eq_true rfl), (Nat.le_of_ble_eq_true rfl)⟩) (wk_preR hN hK hI hr9) rfl rfl hl.1 rfl (lv_room (Nat.le_of_ble_eq_true rfl)) dX0_heedWay_10 ⟨(Nat.le_of_ble_eq_true rfl), (Nat.le_of_ble_eq_true rfl)⟩) (fun r u H locs hw hI => ?_)
  obtain ⟨rfl, rfl⟩ := hw
  have hG_2 : wk_G σ ((wk_topHeed (wk_note σ 33) k n).2) 3 := hG_1.trans (wk_g_topHeed (wk_note σ 33) k n)
  refine lv_istore (lv' := [(4, .int ((wk_topHeed (wk_note σ 33) k n).1)), (0, .ref (ad (8 + r))), (1, .ref (ad 1)), (2, .ref (ad (16 + k))), (3, .int n)]) hx hb dX0_heedWay_13 hl (by decide) rfl (fun ls hl => ?_)
  refine lv_aload_n hx hb dX0_heedWay_15 rfl (lv_at hl 2 rfl) ?_
  refine wk_get (v := va_rf (wx_mp ad (wk_n ((wk_topHeed (wk_note σ 33) k n).2)) 0)) hx hb hts (fun w h => wk_in_M w (lay_X2 w h)) hown hK hI (1) wx_e1 rfl 0 (by decide) (hts _ (wk_in_M _ mw_62)) rfl rfl dX0_heedWay_16 ?_
  refine wk_astore (lv' := [(5, va_rf (wx_mp ad (wk_n ((wk_topHeed (wk_note σ 33) k n).2)) 0)), (4, .int ((wk_topHeed (wk_note σ 33) k n).1)), (0, .ref (ad (8 + r))), (1, .ref (ad 1)), (2, .ref (ad (16 + k))), (3, .int n)]) hx hb dX0_heedWay_19 hl (by decide) rfl (fun ls hl => ?_)
  refine wk_loop (fun i H locs ls => wk_I D A s.heap H locs (wx_W cI cS ad ((wk_heedL n (wk_topHeed (wk_note σ 33) k n) i).2)) ∧ lv_has ls 6 [(0, .ref (ad (8 + r))), (1, .ref (ad 1)), (2, .ref (ad (16 + k))), (3, .int n), (4, .int ((wk_heedL n (wk_topHeed (wk_note σ 33) k n) i).1)), (5, va_rf (wx_mp ad (wk_n ((wk_topHeed (wk_note σ 33) k n).2)) i))]) (wk_n ((wk_topHeed (wk_note σ 33) k n).2)) ?_ ?_ (wk_n ((wk_topHeed (wk_note σ 33) k n).2)) 0 _ _ _ (Nat.zero_add _) ⟨hI, lv_sub hl [2, 3, 4, 5, 1, 0] rfl⟩
  · intro H locs ls hinv
    obtain ⟨hI, hl⟩ := hinv
    rw [wx_mpF (Nat.lt_irrefl _)] at hl
    have hl : lv_has ls 6 [(0, .ref (ad (8 + r))), (1, .ref (ad 1)), (2, .ref (ad (16 + k))), (3, .int n), (4, .int ((wk_heedL n (wk_topHeed (wk_note σ 33) k n) (wk_n ((wk_topHeed (wk_note σ 33) k n).2))).1)), (5, .null)] := hl
    have hG_3 : wk_G σ ((wk_heedL n (wk_topHeed (wk_note σ 33) k n) (wk_n ((wk_topHeed (wk_note σ 33) k n).2))).2) (3 + (2 * (wk_n ((wk_topHeed (wk_note σ 33) k n).2)))) := hG_2.trans (wk_g_heedL n (wk_topHeed (wk_note σ 33) k n) (wk_n ((wk_topHeed (wk_note σ 33) k n).2)))
    refine lv_aloadN hx hb dX0_heedWay_21 (lv_at hl 5 rfl) ?_
    refine lv_ifnullN (tgt := 61) hx hb dX0_heedWay_23 (by decide) ?_
    refine lv_iload hx hb dX0_heedWay_61 (lv_at hl 4 rfl) ?_
    exact wk_ri ((wk_heedL n (wk_topHeed (wk_note σ 33) k n) (wk_n ((wk_topHeed (wk_note σ 33) k n).2))).2) hx hb hr hlk hK hI rfl (wk_post (by rw [hG_2.n]; rfl)) dX0_heedWay_63
  · intro i H locs ls hi hinv ih
    obtain ⟨hI, hl⟩ := hinv
    have hiσ : i < wk_n σ := by have hq := hG_2.n; omega
    rw [wx_mpT hi] at hl
    have hl : lv_has ls 6 [(0, .ref (ad (8 + r))), (1, .ref (ad 1)), (2, .ref (ad (16 + k))), (3, .int n), (4, .int ((wk_heedL n (wk_topHeed (wk_note σ 33) k n) i).1)), (5, .ref (ad (16 + i)))] := hl
    have hG_4 : wk_G σ ((wk_heedL n (wk_topHeed (wk_note σ 33) k n) i).2) (3 + (2 * i)) := hG_2.trans (wk_g_heedL n (wk_topHeed (wk_note σ 33) k n) i)
    refine lv_aload hx hb dX0_heedWay_21 (lv_at hl 5 rfl) ?_
    refine lv_ifnull hx hb dX0_heedWay_23 ?_
    refine lv_aload hx hb dX0_heedWay_26 (lv_at hl 5 rfl) ?_
    refine wk_kI hI hA (va_runV (As := []) (rest := []) ⟨hx, hb, hml, hown, hts⟩ (c_X6_isBelowBosun l D cI cJ cS ad ((wk_heedL n (wk_topHeed (wk_note σ 33) k n) i).2) i (hG_4.V hV) (hG_4.lt hiσ) _) (wk_cwV 0 hts wk_in_M mw_313 mw_314 mw_315 mw_46 mw_316 hdX6_isBelowBosun ⟨(Nat.le_of_ble_eq_true rfl), (Nat.le_of_ble_eq_true rfl)⟩) (wk_preV hN hK hI (ci := 6) rfl (wx_em (hG_4.lt hiσ))) rfl rfl hl.1 rfl (lv_room (Nat.le_of_ble_eq_true rfl)) dX0_heedWay_28 ⟨(Nat.le_of_ble_eq_true rfl), (Nat.le_of_ble_eq_true rfl)⟩) (fun r u H locs hw hI => ?_)
    obtain ⟨rfl, rfl⟩ := hw
    refine lv_if_eq (tgt := 51) hx hb dX0_heedWay_31 (by decide) (fun c_5 => ?_) (fun c_5 => ?_)
    · have c_5 := wk_b0 c_5
      refine lv_aload hx hb dX0_heedWay_51 (lv_at hl 5 rfl) ?_
      refine wk_get (v := va_rf (wx_mp ad (wk_n ((wk_heedL n (wk_topHeed (wk_note σ 33) k n) i).2)) (i + 1))) hx hb hts (fun w h => wk_in_M w (lay_X6 w h)) hown hK hI (16 + i) (wx_em (hG_4.lt hiσ)) rfl 6 (by decide) (hts _ (wk_in_M _ mw_203)) rfl rfl dX0_heedWay_53 ?_
      rw [show wk_n ((wk_heedL n (wk_topHeed (wk_note σ 33) k n) i).2) = wk_n ((wk_topHeed (wk_note σ 33) k n).2) from hG_4.n.trans hG_2.n.symm]
      refine wk_astore (lv' := [(5, va_rf (wx_mp ad (wk_n ((wk_topHeed (wk_note σ 33) k n).2)) (i + 1))), (0, .ref (ad (8 + r))), (1, .ref (ad 1)), (2, .ref (ad (16 + k))), (3, .int n), (4, .int ((wk_heedL n (wk_topHeed (wk_note σ 33) k n) i).1))]) hx hb dX0_heedWay_56 hl (by decide) rfl (fun ls hl => ?_)
      refine lv_goto (tgt := 21) hx hb dX0_heedWay_58 (by decide) ?_
      have e1 : wk_heedL n (wk_topHeed (wk_note σ 33) k n) (i + 1) = ((wk_heedL n (wk_topHeed (wk_note σ 33) k n) i).1, (wk_heedL n (wk_topHeed (wk_note σ 33) k n) i).2) := by rw [wk_heedL]; rw [if_neg c_5]
      exact ih _ _ _ (by rw [e1]; exact ⟨hI, lv_sub hl [1, 2, 3, 4, 5, 0] rfl⟩)
    · have c_5 := wk_b1 c_5
      refine lv_iload hx hb dX0_heedWay_34 (lv_at hl 4 rfl) ?_
      refine lv_aload hx hb dX0_heedWay_36 (lv_at hl 5 rfl) ?_
      refine wk_get (v := .ref (ad (8 + wk_rk ((wk_heedL n (wk_topHeed (wk_note σ 33) k n) i).2) i))) hx hb hts (fun w h => wk_in_M w (lay_X6 w h)) hown hK hI (16 + i) (wx_em (hG_4.lt hiσ)) rfl 3 (by decide) (hts _ (wk_in_M _ mw_192)) rfl rfl dX0_heedWay_38 ?_
      refine lv_aload_n hx hb dX0_heedWay_41 rfl (lv_at hl 1 rfl) ?_
      refine lv_aload hx hb dX0_heedWay_42 (lv_at hl 5 rfl) ?_
      refine lv_iload_n hx hb dX0_heedWay_44 rfl (lv_at hl 3 rfl) ?_
      refine wk_kI hI hA (wd_X0_heedWay (wk_rk ((wk_heedL n (wk_topHeed (wk_note σ 33) k n) i).2) i) i n (rest := [.int ((wk_heedL n (wk_topHeed (wk_note σ 33) k n) i).1)]) ⟨hx, hb, hml, hown, hts⟩ wk_in_M hN hK hI (hG_4.V hV) ((hG_4.V hV).rk (hG_4.lt hiσ)) c_5 (hG_4.lt hiσ) (by have hq := hG_4.nt; have hq12 := hV.1; omega) ⟨(Nat.le_of_ble_eq_true rfl), (Nat.le_of_ble_eq_true rfl)⟩ hl.1 (lv_room (Nat.le_of_ble_eq_true rfl)) dX0_heedWay_45 ⟨(Nat.le_of_ble_eq_true rfl), (Nat.le_of_ble_eq_true rfl)⟩) (fun r u H locs hw hI => ?_)
      obtain ⟨rfl, rfl⟩ := hw
      have hG_6 : wk_G σ ((wk_loHeed (wk_rk ((wk_heedL n (wk_topHeed (wk_note σ 33) k n) i).2) i) ((wk_heedL n (wk_topHeed (wk_note σ 33) k n) i).2) i n).2) ((3 + (2 * i)) + 2) := hG_4.trans (wk_g_loHeed (wk_rk ((wk_heedL n (wk_topHeed (wk_note σ 33) k n) i).2) i) ((wk_heedL n (wk_topHeed (wk_note σ 33) k n) i).2) i n)
      refine lv_iadd hx hb dX0_heedWay_48 ?_
      refine lv_istore (lv' := [(4, .int (((wk_heedL n (wk_topHeed (wk_note σ 33) k n) i).1) + ((wk_loHeed (wk_rk ((wk_heedL n (wk_topHeed (wk_note σ 33) k n) i).2) i) ((wk_heedL n (wk_topHeed (wk_note σ 33) k n) i).2) i n).1))), (0, .ref (ad (8 + r))), (1, .ref (ad 1)), (2, .ref (ad (16 + k))), (3, .int n), (5, .ref (ad (16 + i)))]) hx hb dX0_heedWay_49 hl (by decide) rfl (fun ls hl => ?_)
      refine lv_aload hx hb dX0_heedWay_51 (lv_at hl 5 rfl) ?_
      refine wk_get (v := va_rf (wx_mp ad (wk_n ((wk_loHeed (wk_rk ((wk_heedL n (wk_topHeed (wk_note σ 33) k n) i).2) i) ((wk_heedL n (wk_topHeed (wk_note σ 33) k n) i).2) i n).2)) (i + 1))) hx hb hts (fun w h => wk_in_M w (lay_X6 w h)) hown hK hI (16 + i) (wx_em (hG_6.lt hiσ)) rfl 6 (by decide) (hts _ (wk_in_M _ mw_203)) rfl rfl dX0_heedWay_53 ?_
      rw [show wk_n ((wk_loHeed (wk_rk ((wk_heedL n (wk_topHeed (wk_note σ 33) k n) i).2) i) ((wk_heedL n (wk_topHeed (wk_note σ 33) k n) i).2) i n).2) = wk_n ((wk_topHeed (wk_note σ 33) k n).2) from hG_6.n.trans hG_2.n.symm]
      refine wk_astore (lv' := [(5, va_rf (wx_mp ad (wk_n ((wk_topHeed (wk_note σ 33) k n).2)) (i + 1))), (4, .int (((wk_heedL n (wk_topHeed (wk_note σ 33) k n) i).1) + ((wk_loHeed (wk_rk ((wk_heedL n (wk_topHeed (wk_note σ 33) k n) i).2) i) ((wk_heedL n (wk_topHeed (wk_note σ 33) k n) i).2) i n).1))), (0, .ref (ad (8 + r))), (1, .ref (ad 1)), (2, .ref (ad (16 + k))), (3, .int n)]) hx hb dX0_heedWay_56 hl (by decide) rfl (fun ls hl => ?_)
      refine lv_goto (tgt := 21) hx hb dX0_heedWay_58 (by decide) ?_
      have e1 : wk_heedL n (wk_topHeed (wk_note σ 33) k n) (i + 1) = (((wk_heedL n (wk_topHeed (wk_note σ 33) k n) i).1) + ((wk_loHeed (wk_rk ((wk_heedL n (wk_topHeed (wk_note σ 33) k n) i).2) i) ((wk_heedL n (wk_topHeed (wk_note σ 33) k n) i).2) i n).1), (wk_loHeed (wk_rk ((wk_heedL n (wk_topHeed (wk_note σ 33) k n) i).2) i) ((wk_heedL n (wk_topHeed (wk_note σ 33) k n) i).2) i n).2) := by rw [wk_heedL]; rw [if_pos c_5]
      exact ih _ _ _ (by rw [e1]; exact ⟨hI, lv_sub hl [2, 3, 4, 5, 1, 0] rfl⟩)
set_option maxHeartbeats 4000000 in
set_option maxRecDepth 100000 in
theorem c_X4_heedWay (l : Launch) (D : va_G) (cI cJ cS : ClassId) (ad : Nat → Nat) (σ : wk_St) (r k : Nat) (n : Int32) (hV : wk_V σ) (hr9 : r < 8) (hk : k < wk_n σ) (hc : wk_nt σ + 28 < 2147483648) : wk_Ci l D (wk_tys cI cJ cS) yX4_heedWay (wk_M yX4_heedWay cX4_heedWay 4 (some .int)) ({ frames := 4, cells := 0, slots := 0, locals := 93 }) [.ref (ad (8 + r)), .ref (ad 1), .ref (ad (16 + k)), .int n] (wx_W cI cS ad σ) (wx_W cI cS ad) (fun r0 u0 => r0 = (wk_masterHeed σ k n).1 ∧ u0 = (wk_masterHeed σ k n).2) := by
  intro sz
  refine Met.ofW (cc := cX4_heedWay) (maxL := 4) (ret := (some .int)) (by decide) rfl ?_
  intro p e s m args below meth c s₁ B hml hv
  obtain ⟨rfl, hsz, hP, hK, hD0, hN⟩ := hv
  have hx := B.exec
  have hb := B.bytes
  have hr := B.returns
  have hts := atoms_spec (ws := wk_M yX4_heedWay cX4_heedWay 4 (some .int)) B.pre
  have hown : s.vm.findClass RX4 = some m.cls := findClass_of_methodNamed B.named
  have hlk := B.notSynchronized
  subst hsz
  have hI : wk_I D (va_A (wx_W cI cS ad σ) s.heap.size) s.heap s.heap [] (wx_W cI cS ad σ) := ⟨hP, hD0.self, va_S.rf⟩
  have hA : ∀ q : Nat, s.heap.size ≤ q → (va_A (wx_W cI cS ad σ) s.heap.size) q := fun q h => Or.inr h
  clear hP hD0
  generalize va_A (wx_W cI cS ad σ) s.heap.size = A at hI hA ⊢
  have hl := lv_entry ([.ref (ad (8 + r)), .ref (ad 1), .ref (ad (16 + k)), .int n]) (n := 4) (Nat.le_of_ble_eq_true rfl)
  rw [lg_entry_eq]
  generalize (lg_sl ([.ref (ad (8 + r)), .ref (ad 1), .ref (ad (16 + k)), .int n]) ++ List.replicate (4 - (lg_sl ([.ref (ad (8 + r)), .ref (ad 1), .ref (ad (16 + k)), .int n])).length) Slot.unset).toArray = ls at hl ⊢
  have hl : lv_has ls 4 [(0, .ref (ad (8 + r))), (1, .ref (ad 1)), (2, .ref (ad (16 + k))), (3, .int n)] := hl
  refine lv_aload_n hx hb dX4_heedWay_0 rfl (lv_at hl 1 rfl) ?_
  refine lv_iconst (v := 5) hx hb dX4_heedWay_1 (by decide) ?_
  refine lv_iconst (v := 3) hx hb dX4_heedWay_2 (by decide) ?_
  refine wk_kV hI hA (va_runV (As := [.int 5, .int 3]) (rest := []) ⟨hx, hb, hml, hown, hts⟩ (c_X2_noteWay l D cI cJ cS ad σ 5 3 53 (by decide) (by have hq12 := hV.1; omega) _) (wk_cwV 2 hts wk_in_M mw_279 mw_258 mw_259 mw_35 mw_260 hdX2_noteWay ⟨(Nat.le_of_ble_eq_true rfl), (Nat.le_of_ble_eq_true rfl)⟩) (wk_preV hN hK hI (ci := 2) rfl wx_e1) rfl rfl hl.1 rfl (lv_room (Nat.le_of_ble_eq_true rfl)) dX4_heedWay_3 ⟨(Nat.le_of_ble_eq_true rfl), (Nat.le_of_ble_eq_true rfl)⟩) (fun u H locs hw hI => ?_)
  obtain rfl := hw
  have hG_1 : wk_G σ (wk_note σ 53) 1 := wk_g_note σ 53
  refine lv_aload_n hx hb dX4_heedWay_6 rfl (lv_at hl 2 rfl) ?_
  refine wk_get (v := .int (wk_we (wk_note σ 53) k)) hx hb hts (fun w h => wk_in_M w (lay_X6 w h)) hown hK hI (16 + k) (wx_em (hG_1.lt hk)) rfl 4 (by decide) (hts _ (wk_in_M _ mw_198)) rfl rfl dX4_heedWay_7 ?_
  refine lv_sipush (v := 700) hx hb dX4_heedWay_10 (by decide) ?_
  refine lv_icmp_lt (tgt := 19) hx hb dX4_heedWay_13 (by decide) (fun c_2 => ?_) (fun c_2 => ?_)
  · refine lv_aload_n hx hb dX4_heedWay_19 rfl (lv_at hl 0 rfl) ?_
    refine lv_aload_n hx hb dX4_heedWay_20 rfl (lv_at hl 1 rfl) ?_
    refine lv_aload_n hx hb dX4_heedWay_21 rfl (lv_at hl 2 rfl) ?_
    refine lv_iload_n hx hb dX4_heedWay_22 rfl (lv_at hl 3 rfl) ?_
    refine lv_iconst (v := 1) hx hb dX4_heedWay_23 (by decide) ?_
    refine lv_iadd hx hb dX4_heedWay_24 ?_
    refine wk_kI hI hA (wk_runP (x := (⟨RX5, "heedWay", "(LWatchBill$Crew;LWatchBill$Member;I)I"⟩ : MethodName)) (As := [.ref (ad 1), .ref (ad (16 + k)), .int (n + 1)]) (rest := []) ⟨hx, hb, hml, hown, hts⟩ (c_X0_heedWay l D cI cJ cS ad (wk_note σ 53) r k (n + 1) (hG_1.V hV) hr9 (hG_1.lt hk) (by have hq := hG_1.nt; have hq12 := hV.1; omega) _) (wk_cwP 3 hts wk_in_M mw_391 mw_392 mw_130 mw_376 mw_40 mw_377 wk_sub_X5_X0 hN (by decide +kernel) ⟨(Nat.le_of_ble_eq_true rfl), (Nat.le_of_ble_eq_true rfl)⟩) (wk_preR hN hK hI hr9) rfl rfl hl.1 rfl (lv_room (Nat.le_of_ble_eq_true rfl)) dX4_heedWay_25 ⟨(Nat.le_of_ble_eq_true rfl), (Nat.le_of_ble_eq_true rfl)⟩) (fun r u H locs hw hI => ?_)
    obtain ⟨rfl, rfl⟩ := hw
    have hG_3 : wk_G σ ((wk_bosunHeed (wk_note σ 53) k (n + 1)).2) 28 := hG_1.trans (wk_g_bosunHeed (wk_note σ 53) k (n + 1) (hG_1.V hV).1)
    exact wk_ri ((wk_bosunHeed (wk_note σ 53) k (n + 1)).2) hx hb hr hlk hK hI rfl (wk_post (by first | rfl | (simp only [wk_masterHeed, wk_masterHeed1, if_pos c_2]; done) | (simp only [wk_masterHeed, wk_masterHeed1, if_pos c_2]; rfl))) dX4_heedWay_28
  · refine lv_bipush (v := (-5)) hx hb dX4_heedWay_16 (by decide) ?_
    exact wk_ri (wk_note σ 53) hx hb hr hlk hK hI rfl (wk_post (by first | rfl | (simp only [wk_masterHeed, wk_masterHeed1, if_neg c_2]; done) | (simp only [wk_masterHeed, wk_masterHeed1, if_neg c_2]; rfl))) dX4_heedWay_18
