set_option maxHeartbeats 4000000 in
set_option maxRecDepth 100000 in
theorem c_X8_toilWay (l : Launch) (D : va_G) (cI cJ cS : ClassId) (ad : Nat → Nat) (σ : wk_St) (r k : Nat) (n : Int32) (hV : wk_V σ) (hr9 : r < 8) (hk : k < wk_n σ) (hc : wk_nt σ + 1 < 2147483648) : wk_Cl l D (wk_tys cI cJ cS) yX8_toilWay (wk_M yX8_toilWay cX8_toilWay 6 (some .long)) ({ frames := 1, cells := 0, slots := 0, locals := 22 }) [.ref (ad (8 + r)), .ref (ad 1), .ref (ad (16 + k)), .int n] (wx_W cI cS ad σ) (wx_W cI cS ad) (fun r0 u0 => r0 = (wk_soulToil σ k n).1 ∧ u0 = (wk_soulToil σ k n).2) := by
  intro sz
  refine Met.ofW (cc := cX8_toilWay) (maxL := 6) (ret := (some .long)) (by decide) rfl ?_
  intro p e s m args below meth c s₁ B hml hv
  obtain ⟨rfl, hsz, hP, hK, hD0, hN⟩ := hv
  have hx := B.exec
  have hb := B.bytes
  have hr := B.returns
  have hts := atoms_spec (ws := wk_M yX8_toilWay cX8_toilWay 6 (some .long)) B.pre
  have hown : s.vm.findClass RX8 = some m.cls := findClass_of_methodNamed B.named
  have hlk := B.notSynchronized
  subst hsz
  have hI : wk_I D (va_A (wx_W cI cS ad σ) s.heap.size) s.heap s.heap [] (wx_W cI cS ad σ) := ⟨hP, hD0.self, va_S.rf⟩
  have hA : ∀ q : Nat, s.heap.size ≤ q → (va_A (wx_W cI cS ad σ) s.heap.size) q := fun q h => Or.inr h
  clear hP hD0
  generalize va_A (wx_W cI cS ad σ) s.heap.size = A at hI hA ⊢
  have hl := lv_entry ([.ref (ad (8 + r)), .ref (ad 1), .ref (ad (16 + k)), .int n]) (n := 6) (Nat.le_of_ble_eq_true rfl)
  rw [lg_entry_eq]
  generalize (lg_sl ([.ref (ad (8 + r)), .ref (ad 1), .ref (ad (16 + k)), .int n]) ++ List.replicate (6 - (lg_sl ([.ref (ad (8 + r)), .ref (ad 1), .ref (ad (16 + k)), .int n])).length) Slot.unset).toArray = ls at hl ⊢
  have hl : lv_has ls 6 [(0, .ref (ad (8 + r))), (1, .ref (ad 1)), (2, .ref (ad (16 + k))), (3, .int n)] := hl
  refine lv_aload_n hx hb dX8_toilWay_0 rfl (lv_at hl 1 rfl) ?_
  refine lv_bipush (v := 8) hx hb dX8_toilWay_1 (by decide) ?_
  refine lv_iconst (v := 0) hx hb dX8_toilWay_3 (by decide) ?_
  refine wk_kV hI hA (va_runV (As := [.int 8, .int 0]) (rest := []) ⟨hx, hb, hml, hown, hts⟩ (c_X2_noteWay l D cI cJ cS ad σ 8 0 80 (by decide) (by omega) _) (wk_cwV 2 hts wk_in_M mw_293 mw_258 mw_259 mw_35 mw_260 hdX2_noteWay ⟨(Nat.le_of_ble_eq_true rfl), (Nat.le_of_ble_eq_true rfl)⟩) (wk_preV hN hK hI (ci := 2) rfl wx_e1) rfl rfl hl.1 rfl (lv_room (Nat.le_of_ble_eq_true rfl)) dX8_toilWay_4 ⟨(Nat.le_of_ble_eq_true rfl), (Nat.le_of_ble_eq_true rfl)⟩) (fun u H locs hw hI => ?_)
  obtain rfl := hw
  have hG_1 : wk_G σ (wk_note σ 80) 1 := wk_g_note σ 80
  refine lv_iload_n hx hb dX8_toilWay_7 rfl (lv_at hl 3 rfl) ?_
  refine lv_i2l hx hb dX8_toilWay_8 rfl ?_
  refine lv_bipush (v := 10) hx hb dX8_toilWay_9 (by decide) ?_
  refine lv_aload_n hx hb dX8_toilWay_11 rfl (lv_at hl 2 rfl) ?_
  refine wk_get (v := .int (wk_sk (wk_note σ 80) k)) hx hb hts (fun w h => wk_in_M w (lay_X6 w h)) hown hK hI (16 + k) (wx_em (hG_1.lt hk)) rfl 1 (by decide) (hts _ (wk_in_M _ mw_187)) rfl rfl dX8_toilWay_12 ?_
  refine lv_iadd hx hb dX8_toilWay_15 ?_
  refine lv_i2l hx hb dX8_toilWay_16 rfl ?_
  refine lv_lmul hx hb dX8_toilWay_17 ?_
  refine lv_aload_n hx hb dX8_toilWay_18 rfl (lv_at hl 2 rfl) ?_
  refine wk_get (v := .int (wk_we (wk_note σ 80) k)) hx hb hts (fun w h => wk_in_M w (lay_X6 w h)) hown hK hI (16 + k) (wx_em (hG_1.lt hk)) rfl 4 (by decide) (hts _ (wk_in_M _ mw_196)) rfl rfl dX8_toilWay_19 ?_
  refine lv_i2l hx hb dX8_toilWay_22 rfl ?_
  refine lv_lsub hx hb dX8_toilWay_23 ?_
  refine lv_lstore (lv' := [(4, .long (((n.toInt64) * ((10 + (wk_sk (wk_note σ 80) k)).toInt64)) - ((wk_we (wk_note σ 80) k).toInt64))), (0, .ref (ad (8 + r))), (1, .ref (ad 1)), (2, .ref (ad (16 + k))), (3, .int n)]) hx hb dX8_toilWay_24 hl (by decide) rfl (fun ls hl => ?_)
  refine lv_aload_n hx hb dX8_toilWay_26 rfl (lv_at hl 3 rfl) ?_
  refine lv_iload_n hx hb dX8_toilWay_27 rfl (lv_at hl 4 rfl) ?_
  refine wk_kV hI hA (va_runV (As := [.int n]) (rest := []) ⟨hx, hb, hml, hown, hts⟩ (c_X6_tire l D cI cJ cS ad (wk_note σ 80) k n (hG_1.lt hk) _) (wk_cwV 1 hts wk_in_M mw_294 mw_272 mw_273 mw_46 mw_274 hdX6_tire ⟨(Nat.le_of_ble_eq_true rfl), (Nat.le_of_ble_eq_true rfl)⟩) (wk_preV hN hK hI (ci := 6) rfl (wx_em (hG_1.lt hk))) rfl rfl hl.1 rfl (lv_room (Nat.le_of_ble_eq_true rfl)) dX8_toilWay_28 ⟨(Nat.le_of_ble_eq_true rfl), (Nat.le_of_ble_eq_true rfl)⟩) (fun u H locs hw hI => ?_)
  obtain rfl := hw
  have hG_2 : wk_G σ (wk_tire (wk_note σ 80) k n) 1 := hG_1.trans (wk_g_tire (wk_note σ 80) k n)
  refine lv_lload hx hb dX8_toilWay_31 (lv_at hl 0 rfl) ?_
  refine lv_lconst (v := 0) hx hb dX8_toilWay_33 (by decide) ?_
  refine W.lcmp hx hb dX8_toilWay_34 ?_
  refine lv_if_ge (tgt := 42) hx hb dX8_toilWay_35 (by decide) (fun c_3 => ?_) (fun c_3 => ?_)
  · have c_3 := (lg_cmp_ge _ _).mp c_3
    refine lv_lload hx hb dX8_toilWay_42 (lv_at hl 0 rfl) ?_
    exact wk_rl (wk_tire (wk_note σ 80) k n) hx hb hr hlk hK hI rfl (wk_post (by first | rfl | (simp only [wk_soulToil, wk_soulToil1, wk_pos, if_pos c_3]; done) | (simp only [wk_soulToil, wk_soulToil1, wk_pos, if_pos c_3]; rfl))) dX8_toilWay_44
  · have c_3 := fun hq => c_3 ((lg_cmp_ge _ _).mpr hq)
    refine lv_lconst (v := 0) hx hb dX8_toilWay_38 (by decide) ?_
    refine lv_goto (tgt := 44) hx hb dX8_toilWay_39 (by decide) ?_
    exact wk_rl (wk_tire (wk_note σ 80) k n) hx hb hr hlk hK hI rfl (wk_post (by first | rfl | (simp only [wk_soulToil, wk_soulToil1, wk_pos, if_neg c_3]; done) | (simp only [wk_soulToil, wk_soulToil1, wk_pos, if_neg c_3]; rfl))) dX8_toilWay_44
set_option maxHeartbeats 4000000 in
set_option maxRecDepth 100000 in
theorem c_X10_toilWay (l : Launch) (D : va_G) (cI cJ cS : ClassId) (ad : Nat → Nat) (σ : wk_St) (r k : Nat) (n : Int32) (hV : wk_V σ) (hr9 : r < 8) (hk : k < wk_n σ) (hc : wk_nt σ + 2 < 2147483648) : wk_Cl l D (wk_tys cI cJ cS) yX10_toilWay (wk_M yX10_toilWay cX10_toilWay 4 (some .long)) ({ frames := 2, cells := 0, slots := 0, locals := 47 }) [.ref (ad (8 + r)), .ref (ad 1), .ref (ad (16 + k)), .int n] (wx_W cI cS ad σ) (wx_W cI cS ad) (fun r0 u0 => r0 = (wk_topToil σ k n).1 ∧ u0 = (wk_topToil σ k n).2) := by
  intro sz
  refine Met.ofW (cc := cX10_toilWay) (maxL := 4) (ret := (some .long)) (by decide) rfl ?_
  intro p e s m args below meth c s₁ B hml hv
  obtain ⟨rfl, hsz, hP, hK, hD0, hN⟩ := hv
  have hx := B.exec
  have hb := B.bytes
  have hr := B.returns
  have hts := atoms_spec (ws := wk_M yX10_toilWay cX10_toilWay 4 (some .long)) B.pre
  have hown : s.vm.findClass RX10 = some m.cls := findClass_of_methodNamed B.named
  have hlk := B.notSynchronized
  subst hsz
  have hI : wk_I D (va_A (wx_W cI cS ad σ) s.heap.size) s.heap s.heap [] (wx_W cI cS ad σ) := ⟨hP, hD0.self, va_S.rf⟩
  have hA : ∀ q : Nat, s.heap.size ≤ q → (va_A (wx_W cI cS ad σ) s.heap.size) q := fun q h => Or.inr h
  clear hP hD0
  generalize va_A (wx_W cI cS ad σ) s.heap.size = A at hI hA ⊢
  have hl := lv_entry ([.ref (ad (8 + r)), .ref (ad 1), .ref (ad (16 + k)), .int n]) (n := 4) (Nat.le_of_ble_eq_true rfl)
  rw [lg_entry_eq]
  generalize (lg_sl ([.ref (ad (8 + r)), .ref (ad 1), .ref (ad (16 + k)), .int n]) ++ List.replicate (4 - (lg_sl ([.ref (ad (8 + r)), .ref (ad 1), .ref (ad (16 + k)), .int n])).length) Slot.unset).toArray = ls at hl ⊢
  have hl : lv_has ls 4 [(0, .ref (ad (8 + r))), (1, .ref (ad 1)), (2, .ref (ad (16 + k))), (3, .int n)] := hl
  refine lv_aload_n hx hb dX10_toilWay_0 rfl (lv_at hl 1 rfl) ?_
  refine lv_iconst (v := 2) hx hb dX10_toilWay_1 (by decide) ?_
  refine lv_iconst (v := 0) hx hb dX10_toilWay_2 (by decide) ?_
  refine wk_kV hI hA (va_runV (As := [.int 2, .int 0]) (rest := []) ⟨hx, hb, hml, hown, hts⟩ (c_X2_noteWay l D cI cJ cS ad σ 2 0 20 (by decide) (by omega) _) (wk_cwV 2 hts wk_in_M mw_257 mw_258 mw_259 mw_35 mw_260 hdX2_noteWay ⟨(Nat.le_of_ble_eq_true rfl), (Nat.le_of_ble_eq_true rfl)⟩) (wk_preV hN hK hI (ci := 2) rfl wx_e1) rfl rfl hl.1 rfl (lv_room (Nat.le_of_ble_eq_true rfl)) dX10_toilWay_3 ⟨(Nat.le_of_ble_eq_true rfl), (Nat.le_of_ble_eq_true rfl)⟩) (fun u H locs hw hI => ?_)
  obtain rfl := hw
  have hG_1 : wk_G σ (wk_note σ 20) 1 := wk_g_note σ 20
  refine lv_aload_n hx hb dX10_toilWay_6 rfl (lv_at hl 2 rfl) ?_
  refine wk_get (v := .int (wk_we (wk_note σ 20) k)) hx hb hts (fun w h => wk_in_M w (lay_X6 w h)) hown hK hI (16 + k) (wx_em (hG_1.lt hk)) rfl 4 (by decide) (hts _ (wk_in_M _ mw_195)) rfl rfl dX10_toilWay_7 ?_
  refine lv_sipush (v := 500) hx hb dX10_toilWay_10 (by decide) ?_
  refine lv_icmp_le (tgt := 18) hx hb dX10_toilWay_13 (by decide) (fun c_2 => ?_) (fun c_2 => ?_)
  · refine lv_aload_n hx hb dX10_toilWay_18 rfl (lv_at hl 0 rfl) ?_
    refine lv_aload_n hx hb dX10_toilWay_19 rfl (lv_at hl 1 rfl) ?_
    refine lv_aload_n hx hb dX10_toilWay_20 rfl (lv_at hl 2 rfl) ?_
    refine lv_iload_n hx hb dX10_toilWay_21 rfl (lv_at hl 3 rfl) ?_
    refine wk_kL hI hA (wk_runP (x := (⟨RX7, "toilWay", "(LWatchBill$Crew;LWatchBill$Member;I)J"⟩ : MethodName)) (As := [.ref (ad 1), .ref (ad (16 + k)), .int n]) (rest := []) ⟨hx, hb, hml, hown, hts⟩ (c_X8_toilWay l D cI cJ cS ad (wk_note σ 20) r k n (hG_1.V hV) hr9 (hG_1.lt hk) (by have hq := hG_1.nt; omega) _) (wk_cwP 3 hts wk_in_M mw_261 mw_262 mw_109 mw_252 mw_36 mw_292 wk_sub_X7_X8 hN (by decide +kernel) ⟨(Nat.le_of_ble_eq_true rfl), (Nat.le_of_ble_eq_true rfl)⟩) (wk_preR hN hK hI hr9) rfl rfl hl.1 rfl (lv_room (Nat.le_of_ble_eq_true rfl)) dX10_toilWay_22 ⟨(Nat.le_of_ble_eq_true rfl), (Nat.le_of_ble_eq_true rfl)⟩) (fun r u H locs hw hI => ?_)
    obtain ⟨rfl, rfl⟩ := hw
    have hG_3 : wk_G σ ((wk_soulToil (wk_note σ 20) k n).2) 2 := hG_1.trans (wk_g_soulToil (wk_note σ 20) k n)
    refine lv_ldc2 hx hb hown (hts _ (wk_in_M _ mw_264)) dX10_toilWay_25 ?_
    refine lv_iload_n hx hb dX10_toilWay_28 rfl (lv_at hl 3 rfl) ?_
    refine lv_i2l hx hb dX10_toilWay_29 rfl ?_
    refine lv_lmul hx hb dX10_toilWay_30 ?_
    refine lv_ladd hx hb dX10_toilWay_31 ?_
    exact wk_rl ((wk_soulToil (wk_note σ 20) k n).2) hx hb hr hlk hK hI rfl (wk_post (by first | rfl | (simp only [wk_topToil, wk_topToil1, if_pos c_2]; done) | (simp only [wk_topToil, wk_topToil1, if_pos c_2]; rfl))) dX10_toilWay_32
  · refine lv_lconst (v := 0) hx hb dX10_toilWay_16 (by decide) ?_
    exact wk_rl (wk_note σ 20) hx hb hr hlk hK hI rfl (wk_post (by first | rfl | (simp only [wk_topToil, wk_topToil1, if_neg c_2]; done) | (simp only [wk_topToil, wk_topToil1, if_neg c_2]; rfl))) dX10_toilWay_17
set_option maxHeartbeats 4000000 in
set_option maxRecDepth 100000 in
theorem c_X5_toilWay (l : Launch) (D : va_G) (cI cJ cS : ClassId) (ad : Nat → Nat) (σ : wk_St) (r k : Nat) (n : Int32) (hV : wk_V σ) (hr9 : r < 8) (hk : k < wk_n σ) (hc : wk_nt σ + 5 < 2147483648) : wk_Cl l D (wk_tys cI cJ cS) yX5_toilWay (wk_M yX5_toilWay cX5_toilWay 7 (some .long)) ({ frames := 3, cells := 0, slots := 0, locals := 70 }) [.ref (ad (8 + r)), .ref (ad 1), .ref (ad (16 + k)), .int n] (wx_W cI cS ad σ) (wx_W cI cS ad) (fun r0 u0 => r0 = (wk_mateToil σ k n).1 ∧ u0 = (wk_mateToil σ k n).2) := by
  intro sz
  refine Met.ofW (cc := cX5_toilWay) (maxL := 7) (ret := (some .long)) (by decide) rfl ?_
  intro p e s m args below meth c s₁ B hml hv
  obtain ⟨rfl, hsz, hP, hK, hD0, hN⟩ := hv
  have hx := B.exec
  have hb := B.bytes
  have hr := B.returns
  have hts := atoms_spec (ws := wk_M yX5_toilWay cX5_toilWay 7 (some .long)) B.pre
  have hown : s.vm.findClass RX5 = some m.cls := findClass_of_methodNamed B.named
  have hlk := B.notSynchronized
  subst hsz
  have hI : wk_I D (va_A (wx_W cI cS ad σ) s.heap.size) s.heap s.heap [] (wx_W cI cS ad σ) := ⟨hP, hD0.self, va_S.rf⟩
  have hA : ∀ q : Nat, s.heap.size ≤ q → (va_A (wx_W cI cS ad σ) s.heap.size) q := fun q h => Or.inr h
  clear hP hD0
  generalize va_A (wx_W cI cS ad σ) s.heap.size = A at hI hA ⊢
  have hl := lv_entry ([.ref (ad (8 + r)), .ref (ad 1), .ref (ad (16 + k)), .int n]) (n := 7) (Nat.le_of_ble_eq_true rfl)
  rw [lg_entry_eq]
  generalize (lg_sl ([.ref (ad (8 + r)), .ref (ad 1), .ref (ad (16 + k)), .int n]) ++ List.replicate (7 - (lg_sl ([.ref (ad (8 + r)), .ref (ad 1), .ref (ad (16 + k)), .int n])).length) Slot.unset).toArray = ls at hl ⊢
  have hl : lv_has ls 7 [(0, .ref (ad (8 + r))), (1, .ref (ad 1)), (2, .ref (ad (16 + k))), (3, .int n)] := hl
  refine lv_aload_n hx hb dX5_toilWay_0 rfl (lv_at hl 1 rfl) ?_
  refine lv_iconst (v := 4) hx hb dX5_toilWay_1 (by decide) ?_
  refine lv_iconst (v := 0) hx hb dX5_toilWay_2 (by decide) ?_
  refine wk_kV hI hA (va_runV (As := [.int 4, .int 0]) (rest := []) ⟨hx, hb, hml, hown, hts⟩ (c_X2_noteWay l D cI cJ cS ad σ 4 0 40 (by decide) (by omega) _) (wk_cwV 2 hts wk_in_M mw_283 mw_258 mw_259 mw_35 mw_260 hdX2_noteWay ⟨(Nat.le_of_ble_eq_true rfl), (Nat.le_of_ble_eq_true rfl)⟩) (wk_preV hN hK hI (ci := 2) rfl wx_e1) rfl rfl hl.1 rfl (lv_room (Nat.le_of_ble_eq_true rfl)) dX5_toilWay_3 ⟨(Nat.le_of_ble_eq_true rfl), (Nat.le_of_ble_eq_true rfl)⟩) (fun u H locs hw hI => ?_)
  obtain rfl := hw
  have hG_1 : wk_G σ (wk_note σ 40) 1 := wk_g_note σ 40
  refine lv_iload_n hx hb dX5_toilWay_6 rfl (lv_at hl 3 rfl) ?_
  refine lv_iconst (v := 2) hx hb dX5_toilWay_7 (by decide) ?_
  refine lv_idiv hx hb dX5_toilWay_8 (by decide) ?_
  refine lv_istore (lv' := [(4, .int (n / 2)), (0, .ref (ad (8 + r))), (1, .ref (ad 1)), (2, .ref (ad (16 + k))), (3, .int n)]) hx hb dX5_toilWay_9 hl (by decide) rfl (fun ls hl => ?_)
  refine lv_aload_n hx hb dX5_toilWay_11 rfl (lv_at hl 1 rfl) ?_
  refine lv_aload_n hx hb dX5_toilWay_12 rfl (lv_at hl 2 rfl) ?_
  refine lv_aload_n hx hb dX5_toilWay_13 rfl (lv_at hl 3 rfl) ?_
  refine lv_iload hx hb dX5_toilWay_14 (lv_at hl 0 rfl) ?_
  refine wk_kL hI hA (wk_runP (x := (⟨RX0, "toilWay", "(LWatchBill$Crew;LWatchBill$Member;I)J"⟩ : MethodName)) (As := [.ref (ad 1), .ref (ad (16 + k)), .int (n / 2)]) (rest := []) ⟨hx, hb, hml, hown, hts⟩ (c_X10_toilWay l D cI cJ cS ad (wk_note σ 40) r k (n / 2) (hG_1.V hV) hr9 (hG_1.lt hk) (by have hq := hG_1.nt; omega) _) (wk_cwP 3 hts wk_in_M mw_284 mw_285 mw_123 mw_255 mw_39 mw_256 wk_sub_X0_X10 hN (by decide +kernel) ⟨(Nat.le_of_ble_eq_true rfl), (Nat.le_of_ble_eq_true rfl)⟩) (wk_preR hN hK hI hr9) rfl rfl hl.1 rfl (lv_room (Nat.le_of_ble_eq_true rfl)) dX5_toilWay_16 ⟨(Nat.le_of_ble_eq_true rfl), (Nat.le_of_ble_eq_true rfl)⟩) (fun r u H locs hw hI => ?_)
  obtain ⟨rfl, rfl⟩ := hw
  have hG_2 : wk_G σ ((wk_topToil (wk_note σ 40) k (n / 2)).2) 3 := hG_1.trans (wk_g_topToil (wk_note σ 40) k (n / 2))
  refine lv_lstore (lv' := [(5, .long ((wk_topToil (wk_note σ 40) k (n / 2)).1)), (4, .int (n / 2)), (0, .ref (ad (8 + r))), (1, .ref (ad 1)), (2, .ref (ad (16 + k))), (3, .int n)]) hx hb dX5_toilWay_19 hl (by decide) rfl (fun ls hl => ?_)
  refine lv_lload hx hb dX5_toilWay_21 (lv_at hl 0 rfl) ?_
  refine lv_aload_n hx hb dX5_toilWay_23 rfl (lv_at hl 2 rfl) ?_
  refine lv_aload_n hx hb dX5_toilWay_24 rfl (lv_at hl 3 rfl) ?_
  refine lv_aload_n hx hb dX5_toilWay_25 rfl (lv_at hl 4 rfl) ?_
  refine lv_iload_n hx hb dX5_toilWay_26 rfl (lv_at hl 5 rfl) ?_
  refine lv_iload hx hb dX5_toilWay_27 (lv_at hl 1 rfl) ?_
  refine lv_isub hx hb dX5_toilWay_29 ?_
  refine wk_kL hI hA (wk_runP (x := (⟨RX0, "toilWay", "(LWatchBill$Crew;LWatchBill$Member;I)J"⟩ : MethodName)) (As := [.ref (ad 1), .ref (ad (16 + k)), .int (n - (n / 2))]) (rest := [.long ((wk_topToil (wk_note σ 40) k (n / 2)).1)]) ⟨hx, hb, hml, hown, hts⟩ (c_X10_toilWay l D cI cJ cS ad ((wk_topToil (wk_note σ 40) k (n / 2)).2) r k (n - (n / 2)) (hG_2.V hV) hr9 (hG_2.lt hk) (by have hq := hG_2.nt; omega) _) (wk_cwP 3 hts wk_in_M mw_284 mw_285 mw_123 mw_255 mw_39 mw_256 wk_sub_X0_X10 hN (by decide +kernel) ⟨(Nat.le_of_ble_eq_true rfl), (Nat.le_of_ble_eq_true rfl)⟩) (wk_preR hN hK hI hr9) rfl rfl hl.1 rfl (lv_room (Nat.le_of_ble_eq_true rfl)) dX5_toilWay_30 ⟨(Nat.le_of_ble_eq_true rfl), (Nat.le_of_ble_eq_true rfl)⟩) (fun r u H locs hw hI => ?_)
  obtain ⟨rfl, rfl⟩ := hw
  have hG_3 : wk_G σ ((wk_topToil ((wk_topToil (wk_note σ 40) k (n / 2)).2) k (n - (n / 2))).2) 5 := hG_2.trans (wk_g_topToil ((wk_topToil (wk_note σ 40) k (n / 2)).2) k (n - (n / 2)))
  refine lv_ladd hx hb dX5_toilWay_33 ?_
  exact wk_rl ((wk_topToil ((wk_topToil (wk_note σ 40) k (n / 2)).2) k (n - (n / 2))).2) hx hb hr hlk hK hI rfl (wk_post (by first | rfl | (simp only [wk_mateToil, wk_mateToil1]; done) | (simp only [wk_mateToil, wk_mateToil1]; rfl))) dX5_toilWay_34
set_option maxHeartbeats 4000000 in
set_option maxRecDepth 100000 in
theorem c_X4_toilWay (l : Launch) (D : va_G) (cI cJ cS : ClassId) (ad : Nat → Nat) (σ : wk_St) (r k : Nat) (n : Int32) (hV : wk_V σ) (hr9 : r < 8) (hk : k < wk_n σ) (hc : wk_nt σ + 6 < 2147483648) : wk_Cl l D (wk_tys cI cJ cS) yX4_toilWay (wk_M yX4_toilWay cX4_toilWay 4 (some .long)) ({ frames := 4, cells := 0, slots := 0, locals := 96 }) [.ref (ad (8 + r)), .ref (ad 1), .ref (ad (16 + k)), .int n] (wx_W cI cS ad σ) (wx_W cI cS ad) (fun r0 u0 => r0 = (wk_masterToil σ k n).1 ∧ u0 = (wk_masterToil σ k n).2) := by
  intro sz
  refine Met.ofW (cc := cX4_toilWay) (maxL := 4) (ret := (some .long)) (by decide) rfl ?_
  intro p e s m args below meth c s₁ B hml hv
  obtain ⟨rfl, hsz, hP, hK, hD0, hN⟩ := hv
  have hx := B.exec
  have hb := B.bytes
  have hr := B.returns
  have hts := atoms_spec (ws := wk_M yX4_toilWay cX4_toilWay 4 (some .long)) B.pre
  have hown : s.vm.findClass RX4 = some m.cls := findClass_of_methodNamed B.named
  have hlk := B.notSynchronized
  subst hsz
  have hI : wk_I D (va_A (wx_W cI cS ad σ) s.heap.size) s.heap s.heap [] (wx_W cI cS ad σ) := ⟨hP, hD0.self, va_S.rf⟩
  have hA : ∀ q : Nat, s.heap.size ≤ q → (va_A (wx_W cI cS ad σ) s.heap.size) q := fun q h => Or.inr h
  clear hP hD0
  generalize va_A (wx_W cI cS ad σ) s.heap.size = A at hI hA ⊢
  have hl := lv_entry ([.ref (ad (8 + r)), .ref (ad 1), .ref (ad (16 + k)), .int n]) (n := 4) (Nat.le_of_ble_eq_true rfl)
  rw [lg_entry_eq]
  generalize (lg_sl ([.ref (ad (8 + r)), .ref (ad 1), .ref (ad (16 + k)), .int n]) ++ List.replicate (4 - (lg_sl ([.ref (ad (8 + r)), .ref (ad 1), .ref (ad (16 + k)), .int n])).length) Slot.unset).toArray = ls at hl ⊢
  have hl : lv_has ls 4 [(0, .ref (ad (8 + r))), (1, .ref (ad 1)), (2, .ref (ad (16 + k))), (3, .int n)] := hl
  refine lv_aload_n hx hb dX4_toilWay_0 rfl (lv_at hl 1 rfl) ?_
  refine lv_iconst (v := 5) hx hb dX4_toilWay_1 (by decide) ?_
  refine lv_iconst (v := 0) hx hb dX4_toilWay_2 (by decide) ?_
  refine wk_kV hI hA (va_runV (As := [.int 5, .int 0]) (rest := []) ⟨hx, hb, hml, hown, hts⟩ (c_X2_noteWay l D cI cJ cS ad σ 5 0 50 (by decide) (by omega) _) (wk_cwV 2 hts wk_in_M mw_279 mw_258 mw_259 mw_35 mw_260 hdX2_noteWay ⟨(Nat.le_of_ble_eq_true rfl), (Nat.le_of_ble_eq_true rfl)⟩) (wk_preV hN hK hI (ci := 2) rfl wx_e1) rfl rfl hl.1 rfl (lv_room (Nat.le_of_ble_eq_true rfl)) dX4_toilWay_3 ⟨(Nat.le_of_ble_eq_true rfl), (Nat.le_of_ble_eq_true rfl)⟩) (fun u H locs hw hI => ?_)
  obtain rfl := hw
  have hG_1 : wk_G σ (wk_note σ 50) 1 := wk_g_note σ 50
  refine lv_iload_n hx hb dX4_toilWay_6 rfl (lv_at hl 3 rfl) ?_
  refine lv_bipush (v := 40) hx hb dX4_toilWay_7 (by decide) ?_
  refine lv_icmp_gt (tgt := 20) hx hb dX4_toilWay_9 (by decide) (fun c_2 => ?_) (fun c_2 => ?_)
  · refine lv_ldc2 hx hb hown (hts _ (wk_in_M _ mw_287)) dX4_toilWay_20 ?_
    refine lv_aload_n hx hb dX4_toilWay_23 rfl (lv_at hl 0 rfl) ?_
    refine lv_aload_n hx hb dX4_toilWay_24 rfl (lv_at hl 1 rfl) ?_
    refine lv_aload_n hx hb dX4_toilWay_25 rfl (lv_at hl 2 rfl) ?_
    refine lv_iload_n hx hb dX4_toilWay_26 rfl (lv_at hl 3 rfl) ?_
    refine lv_iconst (v := 4) hx hb dX4_toilWay_27 (by decide) ?_
    refine lv_idiv hx hb dX4_toilWay_28 (by decide) ?_
    refine wk_kL hI hA (wk_runP (x := yX5_toilWay) (As := [.ref (ad 1), .ref (ad (16 + k)), .int (n / 4)]) (rest := [.long 4]) ⟨hx, hb, hml, hown, hts⟩ (c_X5_toilWay l D cI cJ cS ad (wk_note σ 50) r k (n / 4) (hG_1.V hV) hr9 (hG_1.lt hk) (by have hq := hG_1.nt; omega) _) (wk_cwP 3 hts wk_in_M mw_280 mw_743 mw_130 mw_281 mw_41 mw_282 wk_sub_X5_X5 hN (by decide +kernel) ⟨(Nat.le_of_ble_eq_true rfl), (Nat.le_of_ble_eq_true rfl)⟩) (wk_preR hN hK hI hr9) rfl rfl hl.1 rfl (lv_room (Nat.le_of_ble_eq_true rfl)) dX4_toilWay_29 ⟨(Nat.le_of_ble_eq_true rfl), (Nat.le_of_ble_eq_true rfl)⟩) (fun r u H locs hw hI => ?_)
    obtain ⟨rfl, rfl⟩ := hw
    have hG_3 : wk_G σ ((wk_mateToil (wk_note σ 50) k (n / 4)).2) 6 := hG_1.trans (wk_g_mateToil (wk_note σ 50) k (n / 4))
    refine lv_lmul hx hb dX4_toilWay_32 ?_
    exact wk_rl ((wk_mateToil (wk_note σ 50) k (n / 4)).2) hx hb hr hlk hK hI rfl (wk_post (by first | rfl | (simp only [wk_masterToil, wk_masterToil1, if_pos c_2]; done) | (simp only [wk_masterToil, wk_masterToil1, if_pos c_2]; rfl))) dX4_toilWay_33
  · refine lv_aload_n hx hb dX4_toilWay_12 rfl (lv_at hl 0 rfl) ?_
    refine lv_aload_n hx hb dX4_toilWay_13 rfl (lv_at hl 1 rfl) ?_
    refine lv_aload_n hx hb dX4_toilWay_14 rfl (lv_at hl 2 rfl) ?_
    refine lv_iload_n hx hb dX4_toilWay_15 rfl (lv_at hl 3 rfl) ?_
    refine wk_kL hI hA (wk_runP (x := yX5_toilWay) (As := [.ref (ad 1), .ref (ad (16 + k)), .int n]) (rest := []) ⟨hx, hb, hml, hown, hts⟩ (c_X5_toilWay l D cI cJ cS ad (wk_note σ 50) r k n (hG_1.V hV) hr9 (hG_1.lt hk) (by have hq := hG_1.nt; omega) _) (wk_cwP 3 hts wk_in_M mw_280 mw_743 mw_130 mw_281 mw_41 mw_282 wk_sub_X5_X5 hN (by decide +kernel) ⟨(Nat.le_of_ble_eq_true rfl), (Nat.le_of_ble_eq_true rfl)⟩) (wk_preR hN hK hI hr9) rfl rfl hl.1 rfl (lv_room (Nat.le_of_ble_eq_true rfl)) dX4_toilWay_16 ⟨(Nat.le_of_ble_eq_true rfl), (Nat.le_of_ble_eq_true rfl)⟩) (fun r u H locs hw hI => ?_)
    obtain ⟨rfl, rfl⟩ := hw
    have hG_4 : wk_G σ ((wk_mateToil (wk_note σ 50) k n).2) 6 := hG_1.trans (wk_g_mateToil (wk_note σ 50) k n)
    exact wk_rl ((wk_mateToil (wk_note σ 50) k n).2) hx hb hr hlk hK hI rfl (wk_post (by first | rfl | (simp only [wk_masterToil, wk_masterToil1, if_neg c_2]; done) | (simp only [wk_masterToil, wk_masterToil1, if_neg c_2]; rfl))) dX4_toilWay_19
set_option maxHeartbeats 4000000 in
set_option maxRecDepth 100000 in
theorem c_X1_toilWay (l : Launch) (D : va_G) (cI cJ cS : ClassId) (ad : Nat → Nat) (σ : wk_St) (r k : Nat) (n : Int32) (hV : wk_V σ) (hr9 : r < 8) (hk : k < wk_n σ) (hc : wk_nt σ + 2 < 2147483648) : wk_Cl l D (wk_tys cI cJ cS) yX1_toilWay (wk_M yX1_toilWay cX1_toilWay 6 (some .long)) ({ frames := 2, cells := 0, slots := 0, locals := 47 }) [.ref (ad (8 + r)), .ref (ad 1), .ref (ad (16 + k)), .int n] (wx_W cI cS ad σ) (wx_W cI cS ad) (fun r0 u0 => r0 = (wk_cookToil σ k n).1 ∧ u0 = (wk_cookToil σ k n).2) := by
  intro sz
  refine Met.ofW (cc := cX1_toilWay) (maxL := 6) (ret := (some .long)) (by decide) rfl ?_
  intro p e s m args below meth c s₁ B hml hv
  obtain ⟨rfl, hsz, hP, hK, hD0, hN⟩ := hv
  have hx := B.exec
  have hb := B.bytes
  have hr := B.returns
  have hts := atoms_spec (ws := wk_M yX1_toilWay cX1_toilWay 6 (some .long)) B.pre
  have hown : s.vm.findClass RX1 = some m.cls := findClass_of_methodNamed B.named
  have hlk := B.notSynchronized
  subst hsz
  have hI : wk_I D (va_A (wx_W cI cS ad σ) s.heap.size) s.heap s.heap [] (wx_W cI cS ad σ) := ⟨hP, hD0.self, va_S.rf⟩
  have hA : ∀ q : Nat, s.heap.size ≤ q → (va_A (wx_W cI cS ad σ) s.heap.size) q := fun q h => Or.inr h
  clear hP hD0
  generalize va_A (wx_W cI cS ad σ) s.heap.size = A at hI hA ⊢
  have hl := lv_entry ([.ref (ad (8 + r)), .ref (ad 1), .ref (ad (16 + k)), .int n]) (n := 6) (Nat.le_of_ble_eq_true rfl)
  rw [lg_entry_eq]
  generalize (lg_sl ([.ref (ad (8 + r)), .ref (ad 1), .ref (ad (16 + k)), .int n]) ++ List.replicate (6 - (lg_sl ([.ref (ad (8 + r)), .ref (ad 1), .ref (ad (16 + k)), .int n])).length) Slot.unset).toArray = ls at hl ⊢
  have hl : lv_has ls 6 [(0, .ref (ad (8 + r))), (1, .ref (ad 1)), (2, .ref (ad (16 + k))), (3, .int n)] := hl
  refine lv_aload_n hx hb dX1_toilWay_0 rfl (lv_at hl 1 rfl) ?_
  refine lv_bipush (v := 6) hx hb dX1_toilWay_1 (by decide) ?_
  refine lv_iconst (v := 0) hx hb dX1_toilWay_3 (by decide) ?_
  refine wk_kV hI hA (va_runV (As := [.int 6, .int 0]) (rest := []) ⟨hx, hb, hml, hown, hts⟩ (c_X2_noteWay l D cI cJ cS ad σ 6 0 60 (by decide) (by omega) _) (wk_cwV 2 hts wk_in_M mw_268 mw_258 mw_259 mw_35 mw_260 hdX2_noteWay ⟨(Nat.le_of_ble_eq_true rfl), (Nat.le_of_ble_eq_true rfl)⟩) (wk_preV hN hK hI (ci := 2) rfl wx_e1) rfl rfl hl.1 rfl (lv_room (Nat.le_of_ble_eq_true rfl)) dX1_toilWay_4 ⟨(Nat.le_of_ble_eq_true rfl), (Nat.le_of_ble_eq_true rfl)⟩) (fun u H locs hw hI => ?_)
  obtain rfl := hw
  have hG_1 : wk_G σ (wk_note σ 60) 1 := wk_g_note σ 60
  refine lv_aload_n hx hb dX1_toilWay_7 rfl (lv_at hl 0 rfl) ?_
  refine lv_aload_n hx hb dX1_toilWay_8 rfl (lv_at hl 1 rfl) ?_
  refine lv_aload_n hx hb dX1_toilWay_9 rfl (lv_at hl 2 rfl) ?_
  refine lv_iload_n hx hb dX1_toilWay_10 rfl (lv_at hl 3 rfl) ?_
  refine wk_kL hI hA (wk_runP (x := (⟨RX3, "toilWay", "(LWatchBill$Crew;LWatchBill$Member;I)J"⟩ : MethodName)) (As := [.ref (ad 1), .ref (ad (16 + k)), .int n]) (rest := []) ⟨hx, hb, hml, hown, hts⟩ (c_X8_toilWay l D cI cJ cS ad (wk_note σ 60) r k n (hG_1.V hV) hr9 (hG_1.lt hk) (by have hq := hG_1.nt; omega) _) (wk_cwP 3 hts wk_in_M mw_269 mw_270 mw_137 mw_252 mw_36 mw_292 wk_sub_X3_X8 hN (by decide +kernel) ⟨(Nat.le_of_ble_eq_true rfl), (Nat.le_of_ble_eq_true rfl)⟩) (wk_preR hN hK hI hr9) rfl rfl hl.1 rfl (lv_room (Nat.le_of_ble_eq_true rfl)) dX1_toilWay_11 ⟨(Nat.le_of_ble_eq_true rfl), (Nat.le_of_ble_eq_true rfl)⟩) (fun r u H locs hw hI => ?_)
  obtain ⟨rfl, rfl⟩ := hw
  have hG_2 : wk_G σ ((wk_soulToil (wk_note σ 60) k n).2) 2 := hG_1.trans (wk_g_soulToil (wk_note σ 60) k n)
  refine lv_lstore (lv' := [(4, .long ((wk_soulToil (wk_note σ 60) k n).1)), (0, .ref (ad (8 + r))), (1, .ref (ad 1)), (2, .ref (ad (16 + k))), (3, .int n)]) hx hb dX1_toilWay_14 hl (by decide) rfl (fun ls hl => ?_)
  refine lv_aload_n hx hb dX1_toilWay_16 rfl (lv_at hl 3 rfl) ?_
  refine lv_iload_n hx hb dX1_toilWay_17 rfl (lv_at hl 4 rfl) ?_
  refine lv_iconst (v := 2) hx hb dX1_toilWay_18 (by decide) ?_
  refine lv_idiv hx hb dX1_toilWay_19 (by decide) ?_
  refine lv_ineg hx hb dX1_toilWay_20 ?_
  refine wk_kV hI hA (va_runV (As := [.int (-(n / 2))]) (rest := []) ⟨hx, hb, hml, hown, hts⟩ (c_X6_tire l D cI cJ cS ad ((wk_soulToil (wk_note σ 60) k n).2) k (-(n / 2)) (hG_2.lt hk) _) (wk_cwV 1 hts wk_in_M mw_271 mw_272 mw_273 mw_46 mw_274 hdX6_tire ⟨(Nat.le_of_ble_eq_true rfl), (Nat.le_of_ble_eq_true rfl)⟩) (wk_preV hN hK hI (ci := 6) rfl (wx_em (hG_2.lt hk))) rfl rfl hl.1 rfl (lv_room (Nat.le_of_ble_eq_true rfl)) dX1_toilWay_21 ⟨(Nat.le_of_ble_eq_true rfl), (Nat.le_of_ble_eq_true rfl)⟩) (fun u H locs hw hI => ?_)
  obtain rfl := hw
  have hG_3 : wk_G σ (wk_tire ((wk_soulToil (wk_note σ 60) k n).2) k (-(n / 2))) 2 := hG_2.trans (wk_g_tire ((wk_soulToil (wk_note σ 60) k n).2) k (-(n / 2)))
  refine lv_lload hx hb dX1_toilWay_24 (lv_at hl 0 rfl) ?_
  exact wk_rl (wk_tire ((wk_soulToil (wk_note σ 60) k n).2) k (-(n / 2))) hx hb hr hlk hK hI rfl (wk_post (by first | rfl | (simp only [wk_cookToil, wk_cookToil1]; done) | (simp only [wk_cookToil, wk_cookToil1]; rfl))) dX1_toilWay_26
set_option maxHeartbeats 4000000 in
set_option maxRecDepth 100000 in
theorem c_X3_payWay (l : Launch) (D : va_G) (cI cJ cS : ClassId) (ad : Nat → Nat) (σ : wk_St) (r k : Nat) (n : Int32) (hV : wk_V σ) (hr9 : r < 8) (hk : k < wk_n σ) (hc : wk_nt σ + 1 < 2147483648) : wk_Cl l D (wk_tys cI cJ cS) yX3_payWay (wk_M yX3_payWay cX3_payWay 4 (some .long)) ({ frames := 1, cells := 0, slots := 0, locals := 22 }) [.ref (ad (8 + r)), .ref (ad 1), .ref (ad (16 + k)), .int n] (wx_W cI cS ad σ) (wx_W cI cS ad) (fun r0 u0 => r0 = (wk_handPay σ k n).1 ∧ u0 = (wk_handPay σ k n).2) := by
  intro sz
  refine Met.ofW (cc := cX3_payWay) (maxL := 4) (ret := (some .long)) (by decide) rfl ?_
  intro p e s m args below meth c s₁ B hml hv
  obtain ⟨rfl, hsz, hP, hK, hD0, hN⟩ := hv
  have hx := B.exec
  have hb := B.bytes
  have hr := B.returns
  have hts := atoms_spec (ws := wk_M yX3_payWay cX3_payWay 4 (some .long)) B.pre
  have hown : s.vm.findClass RX3 = some m.cls := findClass_of_methodNamed B.named
  have hlk := B.notSynchronized
  subst hsz
  have hI : wk_I D (va_A (wx_W cI cS ad σ) s.heap.size) s.heap s.heap [] (wx_W cI cS ad σ) := ⟨hP, hD0.self, va_S.rf⟩
  have hA : ∀ q : Nat, s.heap.size ≤ q → (va_A (wx_W cI cS ad σ) s.heap.size) q := fun q h => Or.inr h
  clear hP hD0
  generalize va_A (wx_W cI cS ad σ) s.heap.size = A at hI hA ⊢
  have hl := lv_entry ([.ref (ad (8 + r)), .ref (ad 1), .ref (ad (16 + k)), .int n]) (n := 4) (Nat.le_of_ble_eq_true rfl)
  rw [lg_entry_eq]
  generalize (lg_sl ([.ref (ad (8 + r)), .ref (ad 1), .ref (ad (16 + k)), .int n]) ++ List.replicate (4 - (lg_sl ([.ref (ad (8 + r)), .ref (ad 1), .ref (ad (16 + k)), .int n])).length) Slot.unset).toArray = ls at hl ⊢
  have hl : lv_has ls 4 [(0, .ref (ad (8 + r))), (1, .ref (ad 1)), (2, .ref (ad (16 + k))), (3, .int n)] := hl
  refine lv_aload_n hx hb dX3_payWay_0 rfl (lv_at hl 1 rfl) ?_
  refine lv_iconst (v := 0) hx hb dX3_payWay_1 (by decide) ?_
  refine lv_iconst (v := 1) hx hb dX3_payWay_2 (by decide) ?_
  refine wk_kV hI hA (va_runV (As := [.int 0, .int 1]) (rest := []) ⟨hx, hb, hml, hown, hts⟩ (c_X2_noteWay l D cI cJ cS ad σ 0 1 1 (by decide) (by omega) _) (wk_cwV 2 hts wk_in_M mw_311 mw_258 mw_259 mw_35 mw_260 hdX2_noteWay ⟨(Nat.le_of_ble_eq_true rfl), (Nat.le_of_ble_eq_true rfl)⟩) (wk_preV hN hK hI (ci := 2) rfl wx_e1) rfl rfl hl.1 rfl (lv_room (Nat.le_of_ble_eq_true rfl)) dX3_payWay_3 ⟨(Nat.le_of_ble_eq_true rfl), (Nat.le_of_ble_eq_true rfl)⟩) (fun u H locs hw hI => ?_)
  obtain rfl := hw
  have hG_1 : wk_G σ (wk_note σ 1) 1 := wk_g_note σ 1
  refine lv_iload_n hx hb dX3_payWay_6 rfl (lv_at hl 3 rfl) ?_
  refine lv_i2l hx hb dX3_payWay_7 rfl ?_
  refine lv_iconst (v := 5) hx hb dX3_payWay_8 (by decide) ?_
  refine lv_aload_n hx hb dX3_payWay_9 rfl (lv_at hl 2 rfl) ?_
  refine wk_get (v := .int (wk_sk (wk_note σ 1) k)) hx hb hts (fun w h => wk_in_M w (lay_X6 w h)) hown hK hI (16 + k) (wx_em (hG_1.lt hk)) rfl 1 (by decide) (hts _ (wk_in_M _ mw_186)) rfl rfl dX3_payWay_10 ?_
  refine lv_bipush (v := 10) hx hb dX3_payWay_13 (by decide) ?_
  refine lv_idiv hx hb dX3_payWay_15 (by decide) ?_
  refine lv_iadd hx hb dX3_payWay_16 ?_
  refine lv_i2l hx hb dX3_payWay_17 rfl ?_
  refine lv_lmul hx hb dX3_payWay_18 ?_
  exact wk_rl (wk_note σ 1) hx hb hr hlk hK hI rfl (wk_post (by first | rfl | (simp only [wk_handPay, wk_handPay1]; done) | (simp only [wk_handPay, wk_handPay1]; rfl))) dX3_payWay_19
set_option maxHeartbeats 4000000 in
set_option maxRecDepth 100000 in
theorem c_X8_climbWay (l : Launch) (D : va_G) (cI cJ cS : ClassId) (ad : Nat → Nat) (σ : wk_St) (r k : Nat) (n : Int32) (hV : wk_V σ) (hr9 : r < 8) (hk : k < wk_n σ) (hc : wk_nt σ + 1 < 2147483648) : wk_Ci l D (wk_tys cI cJ cS) yX8_climbWay (wk_M yX8_climbWay cX8_climbWay 4 (some .int)) ({ frames := 1, cells := 0, slots := 0, locals := 22 }) [.ref (ad (8 + r)), .ref (ad 1), .ref (ad (16 + k)), .int n] (wx_W cI cS ad σ) (wx_W cI cS ad) (fun r0 u0 => r0 = (wk_soulClimb σ k n).1 ∧ u0 = (wk_soulClimb σ k n).2) := by
  intro sz
  refine Met.ofW (cc := cX8_climbWay) (maxL := 4) (ret := (some .int)) (by decide) rfl ?_
  intro p e s m args below meth c s₁ B hml hv
  obtain ⟨rfl, hsz, hP, hK, hD0, hN⟩ := hv
  have hx := B.exec
  have hb := B.bytes
  have hr := B.returns
  have hts := atoms_spec (ws := wk_M yX8_climbWay cX8_climbWay 4 (some .int)) B.pre
  have hown : s.vm.findClass RX8 = some m.cls := findClass_of_methodNamed B.named
  have hlk := B.notSynchronized
  subst hsz
  have hI : wk_I D (va_A (wx_W cI cS ad σ) s.heap.size) s.heap s.heap [] (wx_W cI cS ad σ) := ⟨hP, hD0.self, va_S.rf⟩
  have hA : ∀ q : Nat, s.heap.size ≤ q → (va_A (wx_W cI cS ad σ) s.heap.size) q := fun q h => Or.inr h
  clear hP hD0
  generalize va_A (wx_W cI cS ad σ) s.heap.size = A at hI hA ⊢
  have hl := lv_entry ([.ref (ad (8 + r)), .ref (ad 1), .ref (ad (16 + k)), .int n]) (n := 4) (Nat.le_of_ble_eq_true rfl)
  rw [lg_entry_eq]
  generalize (lg_sl ([.ref (ad (8 + r)), .ref (ad 1), .ref (ad (16 + k)), .int n]) ++ List.replicate (4 - (lg_sl ([.ref (ad (8 + r)), .ref (ad 1), .ref (ad (16 + k)), .int n])).length) Slot.unset).toArray = ls at hl ⊢
  have hl : lv_has ls 4 [(0, .ref (ad (8 + r))), (1, .ref (ad 1)), (2, .ref (ad (16 + k))), (3, .int n)] := hl
  refine lv_aload_n hx hb dX8_climbWay_0 rfl (lv_at hl 1 rfl) ?_
  refine lv_bipush (v := 8) hx hb dX8_climbWay_1 (by decide) ?_
  refine lv_iconst (v := 2) hx hb dX8_climbWay_3 (by decide) ?_
  refine wk_kV hI hA (va_runV (As := [.int 8, .int 2]) (rest := []) ⟨hx, hb, hml, hown, hts⟩ (c_X2_noteWay l D cI cJ cS ad σ 8 2 82 (by decide) (by omega) _) (wk_cwV 2 hts wk_in_M mw_293 mw_258 mw_259 mw_35 mw_260 hdX2_noteWay ⟨(Nat.le_of_ble_eq_true rfl), (Nat.le_of_ble_eq_true rfl)⟩) (wk_preV hN hK hI (ci := 2) rfl wx_e1) rfl rfl hl.1 rfl (lv_room (Nat.le_of_ble_eq_true rfl)) dX8_climbWay_4 ⟨(Nat.le_of_ble_eq_true rfl), (Nat.le_of_ble_eq_true rfl)⟩) (fun u H locs hw hI => ?_)
  obtain rfl := hw
  have hG_1 : wk_G σ (wk_note σ 82) 1 := wk_g_note σ 82
  refine lv_iload_n hx hb dX8_climbWay_7 rfl (lv_at hl 3 rfl) ?_
  refine lv_bipush (v := 10) hx hb dX8_climbWay_8 (by decide) ?_
  refine lv_aload_n hx hb dX8_climbWay_10 rfl (lv_at hl 2 rfl) ?_
  refine wk_get (v := .int (wk_sk (wk_note σ 82) k)) hx hb hts (fun w h => wk_in_M w (lay_X6 w h)) hown hK hI (16 + k) (wx_em (hG_1.lt hk)) rfl 1 (by decide) (hts _ (wk_in_M _ mw_187)) rfl rfl dX8_climbWay_11 ?_
  refine lv_iadd hx hb dX8_climbWay_14 ?_
  refine lv_icmp_le (tgt := 20) hx hb dX8_climbWay_15 (by decide) (fun c_2 => ?_) (fun c_2 => ?_)
  · refine lv_aload_n hx hb dX8_climbWay_20 rfl (lv_at hl 2 rfl) ?_
    refine lv_iload_n hx hb dX8_climbWay_21 rfl (lv_at hl 3 rfl) ?_
    refine wk_kV hI hA (va_runV (As := [.int n]) (rest := []) ⟨hx, hb, hml, hown, hts⟩ (c_X6_tire l D cI cJ cS ad (wk_note σ 82) k n (hG_1.lt hk) _) (wk_cwV 1 hts wk_in_M mw_294 mw_272 mw_273 mw_46 mw_274 hdX6_tire ⟨(Nat.le_of_ble_eq_true rfl), (Nat.le_of_ble_eq_true rfl)⟩) (wk_preV hN hK hI (ci := 6) rfl (wx_em (hG_1.lt hk))) rfl rfl hl.1 rfl (lv_room (Nat.le_of_ble_eq_true rfl)) dX8_climbWay_22 ⟨(Nat.le_of_ble_eq_true rfl), (Nat.le_of_ble_eq_true rfl)⟩) (fun u H locs hw hI => ?_)
    obtain rfl := hw
    have hG_3 : wk_G σ (wk_tire (wk_note σ 82) k n) 1 := hG_1.trans (wk_g_tire (wk_note σ 82) k n)
    refine lv_iconst (v := 2) hx hb dX8_climbWay_25 (by decide) ?_
    refine lv_iload_n hx hb dX8_climbWay_26 rfl (lv_at hl 3 rfl) ?_
    refine lv_imul hx hb dX8_climbWay_27 ?_
    exact wk_ri (wk_tire (wk_note σ 82) k n) hx hb hr hlk hK hI rfl (wk_post (by first | rfl | (simp only [wk_soulClimb, wk_soulClimb1, if_pos c_2]; done) | (simp only [wk_soulClimb, wk_soulClimb1, if_pos c_2]; rfl))) dX8_climbWay_28
  · refine lv_iconst (v := (-1)) hx hb dX8_climbWay_18 (by decide) ?_
    exact wk_ri (wk_note σ 82) hx hb hr hlk hK hI rfl (wk_post (by first | rfl | (simp only [wk_soulClimb, wk_soulClimb1, if_neg c_2]; done) | (simp only [wk_soulClimb, wk_soulClimb1, if_neg c_2]; rfl))) dX8_climbWay_19
set_option maxHeartbeats 4000000 in
set_option maxRecDepth 100000 in
theorem c_X7_climbWay (l : Launch) (D : va_G) (cI cJ cS : ClassId) (ad : Nat → Nat) (σ : wk_St) (r k : Nat) (n : Int32) (hV : wk_V σ) (hr9 : r < 8) (hk : k < wk_n σ) (hc : wk_nt σ + 2 < 2147483648) : wk_Ci l D (wk_tys cI cJ cS) yX7_climbWay (wk_M yX7_climbWay cX7_climbWay 4 (some .int)) ({ frames := 2, cells := 0, slots := 0, locals := 45 }) [.ref (ad (8 + r)), .ref (ad 1), .ref (ad (16 + k)), .int n] (wx_W cI cS ad σ) (wx_W cI cS ad) (fun r0 u0 => r0 = (wk_sailorClimb σ k n).1 ∧ u0 = (wk_sailorClimb σ k n).2) := by
  intro sz
  refine Met.ofW (cc := cX7_climbWay) (maxL := 4) (ret := (some .int)) (by decide) rfl ?_
  intro p e s m args below meth c s₁ B hml hv
  obtain ⟨rfl, hsz, hP, hK, hD0, hN⟩ := hv
  have hx := B.exec
  have hb := B.bytes
  have hr := B.returns
  have hts := atoms_spec (ws := wk_M yX7_climbWay cX7_climbWay 4 (some .int)) B.pre
  have hown : s.vm.findClass RX7 = some m.cls := findClass_of_methodNamed B.named
  have hlk := B.notSynchronized
  subst hsz
  have hI : wk_I D (va_A (wx_W cI cS ad σ) s.heap.size) s.heap s.heap [] (wx_W cI cS ad σ) := ⟨hP, hD0.self, va_S.rf⟩
  have hA : ∀ q : Nat, s.heap.size ≤ q → (va_A (wx_W cI cS ad σ) s.heap.size) q := fun q h => Or.inr h
  clear hP hD0
  generalize va_A (wx_W cI cS ad σ) s.heap.size = A at hI hA ⊢
  have hl := lv_entry ([.ref (ad (8 + r)), .ref (ad 1), .ref (ad (16 + k)), .int n]) (n := 4) (Nat.le_of_ble_eq_true rfl)
  rw [lg_entry_eq]
  generalize (lg_sl ([.ref (ad (8 + r)), .ref (ad 1), .ref (ad (16 + k)), .int n]) ++ List.replicate (4 - (lg_sl ([.ref (ad (8 + r)), .ref (ad 1), .ref (ad (16 + k)), .int n])).length) Slot.unset).toArray = ls at hl ⊢
  have hl : lv_has ls 4 [(0, .ref (ad (8 + r))), (1, .ref (ad 1)), (2, .ref (ad (16 + k))), (3, .int n)] := hl
  refine lv_aload_n hx hb dX7_climbWay_0 rfl (lv_at hl 1 rfl) ?_
  refine lv_iconst (v := 1) hx hb dX7_climbWay_1 (by decide) ?_
  refine lv_iconst (v := 2) hx hb dX7_climbWay_2 (by decide) ?_
  refine wk_kV hI hA (va_runV (As := [.int 1, .int 2]) (rest := []) ⟨hx, hb, hml, hown, hts⟩ (c_X2_noteWay l D cI cJ cS ad σ 1 2 12 (by decide) (by omega) _) (wk_cwV 2 hts wk_in_M mw_346 mw_258 mw_259 mw_35 mw_260 hdX2_noteWay ⟨(Nat.le_of_ble_eq_true rfl), (Nat.le_of_ble_eq_true rfl)⟩) (wk_preV hN hK hI (ci := 2) rfl wx_e1) rfl rfl hl.1 rfl (lv_room (Nat.le_of_ble_eq_true rfl)) dX7_climbWay_3 ⟨(Nat.le_of_ble_eq_true rfl), (Nat.le_of_ble_eq_true rfl)⟩) (fun u H locs hw hI => ?_)
  obtain rfl := hw
  have hG_1 : wk_G σ (wk_note σ 12) 1 := wk_g_note σ 12
  refine lv_iload_n hx hb dX7_climbWay_6 rfl (lv_at hl 3 rfl) ?_
  refine lv_bipush (v := 30) hx hb dX7_climbWay_7 (by decide) ?_
  refine lv_icmp_le (tgt := 20) hx hb dX7_climbWay_9 (by decide) (fun c_2 => ?_) (fun c_2 => ?_)
  · refine lv_aload_n hx hb dX7_climbWay_20 rfl (lv_at hl 2 rfl) ?_
    refine lv_iload_n hx hb dX7_climbWay_21 rfl (lv_at hl 3 rfl) ?_
    refine lv_iconst (v := 2) hx hb dX7_climbWay_22 (by decide) ?_
    refine lv_idiv hx hb dX7_climbWay_23 (by decide) ?_
    refine wk_kV hI hA (va_runV (As := [.int (n / 2)]) (rest := []) ⟨hx, hb, hml, hown, hts⟩ (c_X6_tire l D cI cJ cS ad (wk_note σ 12) k (n / 2) (hG_1.lt hk) _) (wk_cwV 1 hts wk_in_M mw_350 mw_272 mw_273 mw_46 mw_274 hdX6_tire ⟨(Nat.le_of_ble_eq_true rfl), (Nat.le_of_ble_eq_true rfl)⟩) (wk_preV hN hK hI (ci := 6) rfl (wx_em (hG_1.lt hk))) rfl rfl hl.1 rfl (lv_room (Nat.le_of_ble_eq_true rfl)) dX7_climbWay_24 ⟨(Nat.le_of_ble_eq_true rfl), (Nat.le_of_ble_eq_true rfl)⟩) (fun u H locs hw hI => ?_)
    obtain rfl := hw
    have hG_3 : wk_G σ (wk_tire (wk_note σ 12) k (n / 2)) 1 := hG_1.trans (wk_g_tire (wk_note σ 12) k (n / 2))
    refine lv_iconst (v := 3) hx hb dX7_climbWay_27 (by decide) ?_
    refine lv_iload_n hx hb dX7_climbWay_28 rfl (lv_at hl 3 rfl) ?_
    refine lv_imul hx hb dX7_climbWay_29 ?_
    exact wk_ri (wk_tire (wk_note σ 12) k (n / 2)) hx hb hr hlk hK hI rfl (wk_post (by first | rfl | (simp only [wk_sailorClimb, wk_sailorClimb1, if_pos c_2]; done) | (simp only [wk_sailorClimb, wk_sailorClimb1, if_pos c_2]; rfl))) dX7_climbWay_30
  · refine lv_aload_n hx hb dX7_climbWay_12 rfl (lv_at hl 0 rfl) ?_
    refine lv_aload_n hx hb dX7_climbWay_13 rfl (lv_at hl 1 rfl) ?_
    refine lv_aload_n hx hb dX7_climbWay_14 rfl (lv_at hl 2 rfl) ?_
    refine lv_iload_n hx hb dX7_climbWay_15 rfl (lv_at hl 3 rfl) ?_
    refine wk_kI hI hA (wk_runP (x := (⟨RX3, "climbWay", "(LWatchBill$Crew;LWatchBill$Member;I)I"⟩ : MethodName)) (As := [.ref (ad 1), .ref (ad (16 + k)), .int n]) (rest := []) ⟨hx, hb, hml, hown, hts⟩ (c_X8_climbWay l D cI cJ cS ad (wk_note σ 12) r k n (hG_1.V hV) hr9 (hG_1.lt hk) (by have hq := hG_1.nt; omega) _) (wk_cwP 3 hts wk_in_M mw_347 mw_348 mw_102 mw_341 mw_36 mw_367 wk_sub_X3_X8 hN (by decide +kernel) ⟨(Nat.le_of_ble_eq_true rfl), (Nat.le_of_ble_eq_true rfl)⟩) (wk_preR hN hK hI hr9) rfl rfl hl.1 rfl (lv_room (Nat.le_of_ble_eq_true rfl)) dX7_climbWay_16 ⟨(Nat.le_of_ble_eq_true rfl), (Nat.le_of_ble_eq_true rfl)⟩) (fun r u H locs hw hI => ?_)
    obtain ⟨rfl, rfl⟩ := hw
    have hG_4 : wk_G σ ((wk_soulClimb (wk_note σ 12) k n).2) 2 := hG_1.trans (wk_g_soulClimb (wk_note σ 12) k n)
    exact wk_ri ((wk_soulClimb (wk_note σ 12) k n).2) hx hb hr hlk hK hI rfl (wk_post (by first | rfl | (simp only [wk_sailorClimb, wk_sailorClimb1, if_neg c_2]; done) | (simp only [wk_sailorClimb, wk_sailorClimb1, if_neg c_2]; rfl))) dX7_climbWay_19
set_option maxHeartbeats 4000000 in
set_option maxRecDepth 100000 in
theorem c_X5_climbWay (l : Launch) (D : va_G) (cI cJ cS : ClassId) (ad : Nat → Nat) (σ : wk_St) (r k : Nat) (n : Int32) (hV : wk_V σ) (hr9 : r < 8) (hk : k < wk_n σ) (hc : wk_nt σ + 3 < 2147483648) : wk_Ci l D (wk_tys cI cJ cS) yX5_climbWay (wk_M yX5_climbWay cX5_climbWay 5 (some .int)) ({ frames := 3, cells := 0, slots := 0, locals := 68 }) [.ref (ad (8 + r)), .ref (ad 1), .ref (ad (16 + k)), .int n] (wx_W cI cS ad σ) (wx_W cI cS ad) (fun r0 u0 => r0 = (wk_mateClimb σ k n).1 ∧ u0 = (wk_mateClimb σ k n).2) := by
  intro sz
  refine Met.ofW (cc := cX5_climbWay) (maxL := 5) (ret := (some .int)) (by decide) rfl ?_
  intro p e s m args below meth c s₁ B hml hv
  obtain ⟨rfl, hsz, hP, hK, hD0, hN⟩ := hv
  have hx := B.exec
  have hb := B.bytes
  have hr := B.returns
  have hts := atoms_spec (ws := wk_M yX5_climbWay cX5_climbWay 5 (some .int)) B.pre
  have hown : s.vm.findClass RX5 = some m.cls := findClass_of_methodNamed B.named
  have hlk := B.notSynchronized
  subst hsz
  have hI : wk_I D (va_A (wx_W cI cS ad σ) s.heap.size) s.heap s.heap [] (wx_W cI cS ad σ) := ⟨hP, hD0.self, va_S.rf⟩
  have hA : ∀ q : Nat, s.heap.size ≤ q → (va_A (wx_W cI cS ad σ) s.heap.size) q := fun q h => Or.inr h
  clear hP hD0
  generalize va_A (wx_W cI cS ad σ) s.heap.size = A at hI hA ⊢
  have hl := lv_entry ([.ref (ad (8 + r)), .ref (ad 1), .ref (ad (16 + k)), .int n]) (n := 5) (Nat.le_of_ble_eq_true rfl)
  rw [lg_entry_eq]
  generalize (lg_sl ([.ref (ad (8 + r)), .ref (ad 1), .ref (ad (16 + k)), .int n]) ++ List.replicate (5 - (lg_sl ([.ref (ad (8 + r)), .ref (ad 1), .ref (ad (16 + k)), .int n])).length) Slot.unset).toArray = ls at hl ⊢
  have hl : lv_has ls 5 [(0, .ref (ad (8 + r))), (1, .ref (ad 1)), (2, .ref (ad (16 + k))), (3, .int n)] := hl
  refine lv_aload_n hx hb dX5_climbWay_0 rfl (lv_at hl 1 rfl) ?_
  refine lv_iconst (v := 4) hx hb dX5_climbWay_1 (by decide) ?_
  refine lv_iconst (v := 2) hx hb dX5_climbWay_2 (by decide) ?_
  refine wk_kV hI hA (va_runV (As := [.int 4, .int 2]) (rest := []) ⟨hx, hb, hml, hown, hts⟩ (c_X2_noteWay l D cI cJ cS ad σ 4 2 42 (by decide) (by omega) _) (wk_cwV 2 hts wk_in_M mw_283 mw_258 mw_259 mw_35 mw_260 hdX2_noteWay ⟨(Nat.le_of_ble_eq_true rfl), (Nat.le_of_ble_eq_true rfl)⟩) (wk_preV hN hK hI (ci := 2) rfl wx_e1) rfl rfl hl.1 rfl (lv_room (Nat.le_of_ble_eq_true rfl)) dX5_climbWay_3 ⟨(Nat.le_of_ble_eq_true rfl), (Nat.le_of_ble_eq_true rfl)⟩) (fun u H locs hw hI => ?_)
  obtain rfl := hw
  have hG_1 : wk_G σ (wk_note σ 42) 1 := wk_g_note σ 42
  refine lv_aload_n hx hb dX5_climbWay_6 rfl (lv_at hl 0 rfl) ?_
  refine lv_aload_n hx hb dX5_climbWay_7 rfl (lv_at hl 1 rfl) ?_
  refine lv_aload_n hx hb dX5_climbWay_8 rfl (lv_at hl 2 rfl) ?_
  refine lv_iload_n hx hb dX5_climbWay_9 rfl (lv_at hl 3 rfl) ?_
  refine wk_kI hI hA (wk_runP (x := (⟨RX0, "climbWay", "(LWatchBill$Crew;LWatchBill$Member;I)I"⟩ : MethodName)) (As := [.ref (ad 1), .ref (ad (16 + k)), .int n]) (rest := []) ⟨hx, hb, hml, hown, hts⟩ (c_X7_climbWay l D cI cJ cS ad (wk_note σ 42) r k n (hG_1.V hV) hr9 (hG_1.lt hk) (by have hq := hG_1.nt; omega) _) (wk_cwP 3 hts wk_in_M mw_356 mw_357 mw_123 mw_344 mw_38 mw_345 wk_sub_X0_X7 hN (by decide +kernel) ⟨(Nat.le_of_ble_eq_true rfl), (Nat.le_of_ble_eq_true rfl)⟩) (wk_preR hN hK hI hr9) rfl rfl hl.1 rfl (lv_room (Nat.le_of_ble_eq_true rfl)) dX5_climbWay_10 ⟨(Nat.le_of_ble_eq_true rfl), (Nat.le_of_ble_eq_true rfl)⟩) (fun r u H locs hw hI => ?_)
  obtain ⟨rfl, rfl⟩ := hw
  have hG_2 : wk_G σ ((wk_sailorClimb (wk_note σ 42) k n).2) 3 := hG_1.trans (wk_g_sailorClimb (wk_note σ 42) k n)
  refine lv_istore (lv' := [(4, .int ((wk_sailorClimb (wk_note σ 42) k n).1)), (0, .ref (ad (8 + r))), (1, .ref (ad 1)), (2, .ref (ad (16 + k))), (3, .int n)]) hx hb dX5_climbWay_13 hl (by decide) rfl (fun ls hl => ?_)
  refine lv_iload hx hb dX5_climbWay_15 (lv_at hl 0 rfl) ?_
  refine lv_iconst (v := (-1)) hx hb dX5_climbWay_17 (by decide) ?_
  refine lv_icmp_ne (tgt := 25) hx hb dX5_climbWay_18 (by decide) (fun c_3 => ?_) (fun c_3 => ?_)
  · refine lv_iload hx hb dX5_climbWay_25 (lv_at hl 0 rfl) ?_
    refine lv_iconst (v := 1) hx hb dX5_climbWay_27 (by decide) ?_
    refine lv_iadd hx hb dX5_climbWay_28 ?_
    exact wk_ri ((wk_sailorClimb (wk_note σ 42) k n).2) hx hb hr hlk hK hI rfl (wk_post (by first | rfl | (simp only [wk_mateClimb, wk_mateClimb1, if_neg c_3]; done) | (simp only [wk_mateClimb, wk_mateClimb1, if_neg c_3]; rfl))) dX5_climbWay_29
  · refine lv_iconst (v := (-1)) hx hb dX5_climbWay_21 (by decide) ?_
    refine lv_goto (tgt := 29) hx hb dX5_climbWay_22 (by decide) ?_
    exact wk_ri ((wk_sailorClimb (wk_note σ 42) k n).2) hx hb hr hlk hK hI rfl (wk_post (by first | rfl | (simp only [wk_mateClimb, wk_mateClimb1, if_pos c_3]; done) | (simp only [wk_mateClimb, wk_mateClimb1, if_pos c_3]; rfl))) dX5_climbWay_29
set_option maxHeartbeats 4000000 in
set_option maxRecDepth 100000 in
theorem c_X9_climbWay (l : Launch) (D : va_G) (cI cJ cS : ClassId) (ad : Nat → Nat) (σ : wk_St) (r k : Nat) (n : Int32) (hV : wk_V σ) (hr9 : r < 8) (hk : k < wk_n σ) (hc : wk_nt σ + 2 < 2147483648) : wk_Ci l D (wk_tys cI cJ cS) yX9_climbWay (wk_M yX9_climbWay cX9_climbWay 4 (some .int)) ({ frames := 2, cells := 0, slots := 0, locals := 45 }) [.ref (ad (8 + r)), .ref (ad 1), .ref (ad (16 + k)), .int n] (wx_W cI cS ad σ) (wx_W cI cS ad) (fun r0 u0 => r0 = (wk_surgClimb σ k n).1 ∧ u0 = (wk_surgClimb σ k n).2) := by
  intro sz
  refine Met.ofW (cc := cX9_climbWay) (maxL := 4) (ret := (some .int)) (by decide) rfl ?_
  intro p e s m args below meth c s₁ B hml hv
  obtain ⟨rfl, hsz, hP, hK, hD0, hN⟩ := hv
  have hx := B.exec
  have hb := B.bytes
  have hr := B.returns
  have hts := atoms_spec (ws := wk_M yX9_climbWay cX9_climbWay 4 (some .int)) B.pre
  have hown : s.vm.findClass RX9 = some m.cls := findClass_of_methodNamed B.named
  have hlk := B.notSynchronized
  subst hsz
  have hI : wk_I D (va_A (wx_W cI cS ad σ) s.heap.size) s.heap s.heap [] (wx_W cI cS ad σ) := ⟨hP, hD0.self, va_S.rf⟩
  have hA : ∀ q : Nat, s.heap.size ≤ q → (va_A (wx_W cI cS ad σ) s.heap.size) q := fun q h => Or.inr h
  clear hP hD0
  generalize va_A (wx_W cI cS ad σ) s.heap.size = A at hI hA ⊢
  have hl := lv_entry ([.ref (ad (8 + r)), .ref (ad 1), .ref (ad (16 + k)), .int n]) (n := 4) (Nat.le_of_ble_eq_true rfl)
  rw [lg_entry_eq]
  generalize (lg_sl ([.ref (ad (8 + r)), .ref (ad 1), .ref (ad (16 + k)), .int n]) ++ List.replicate (4 - (lg_sl ([.ref (ad (8 + r)), .ref (ad 1), .ref (ad (16 + k)), .int n])).length) Slot.unset).toArray = ls at hl ⊢
  have hl : lv_has ls 4 [(0, .ref (ad (8 + r))), (1, .ref (ad 1)), (2, .ref (ad (16 + k))), (3, .int n)] := hl
  refine lv_aload_n hx hb dX9_climbWay_0 rfl (lv_at hl 1 rfl) ?_
  refine lv_bipush (v := 7) hx hb dX9_climbWay_1 (by decide) ?_
  refine lv_iconst (v := 2) hx hb dX9_climbWay_3 (by decide) ?_
  refine wk_kV hI hA (va_runV (As := [.int 7, .int 2]) (rest := []) ⟨hx, hb, hml, hown, hts⟩ (c_X2_noteWay l D cI cJ cS ad σ 7 2 72 (by decide) (by omega) _) (wk_cwV 2 hts wk_in_M mw_331 mw_258 mw_259 mw_35 mw_260 hdX2_noteWay ⟨(Nat.le_of_ble_eq_true rfl), (Nat.le_of_ble_eq_true rfl)⟩) (wk_preV hN hK hI (ci := 2) rfl wx_e1) rfl rfl hl.1 rfl (lv_room (Nat.le_of_ble_eq_true rfl)) dX9_climbWay_4 ⟨(Nat.le_of_ble_eq_true rfl), (Nat.le_of_ble_eq_true rfl)⟩) (fun u H locs hw hI => ?_)
  obtain rfl := hw
  have hG_1 : wk_G σ (wk_note σ 72) 1 := wk_g_note σ 72
  refine lv_aload_n hx hb dX9_climbWay_7 rfl (lv_at hl 0 rfl) ?_
  refine lv_aload_n hx hb dX9_climbWay_8 rfl (lv_at hl 1 rfl) ?_
  refine lv_aload_n hx hb dX9_climbWay_9 rfl (lv_at hl 2 rfl) ?_
  refine lv_iload_n hx hb dX9_climbWay_10 rfl (lv_at hl 3 rfl) ?_
  refine lv_iconst (v := 2) hx hb dX9_climbWay_11 (by decide) ?_
  refine lv_idiv hx hb dX9_climbWay_12 (by decide) ?_
  refine wk_kI hI hA (wk_runP (x := (⟨RX1, "climbWay", "(LWatchBill$Crew;LWatchBill$Member;I)I"⟩ : MethodName)) (As := [.ref (ad 1), .ref (ad (16 + k)), .int (n / 2)]) (rest := []) ⟨hx, hb, hml, hown, hts⟩ (c_X8_climbWay l D cI cJ cS ad (wk_note σ 72) r k (n / 2) (hG_1.V hV) hr9 (hG_1.lt hk) (by have hq := hG_1.nt; omega) _) (wk_cwP 3 hts wk_in_M mw_364 mw_365 mw_144 mw_341 mw_36 mw_367 wk_sub_X1_X8 hN (by decide +kernel) ⟨(Nat.le_of_ble_eq_true rfl), (Nat.le_of_ble_eq_true rfl)⟩) (wk_preR hN hK hI hr9) rfl rfl hl.1 rfl (lv_room (Nat.le_of_ble_eq_true rfl)) dX9_climbWay_13 ⟨(Nat.le_of_ble_eq_true rfl), (Nat.le_of_ble_eq_true rfl)⟩) (fun r u H locs hw hI => ?_)
  obtain ⟨rfl, rfl⟩ := hw
  have hG_2 : wk_G σ ((wk_soulClimb (wk_note σ 72) k (n / 2)).2) 2 := hG_1.trans (wk_g_soulClimb (wk_note σ 72) k (n / 2))
  exact wk_ri ((wk_soulClimb (wk_note σ 72) k (n / 2)).2) hx hb hr hlk hK hI rfl (wk_post (by first | rfl | (simp only [wk_surgClimb]; done) | (simp only [wk_surgClimb]; rfl))) dX9_climbWay_16
set_option maxHeartbeats 4000000 in
set_option maxRecDepth 100000 in
theorem c_X8_heedWay (l : Launch) (D : va_G) (cI cJ cS : ClassId) (ad : Nat → Nat) (σ : wk_St) (r k : Nat) (n : Int32) (hV : wk_V σ) (hr9 : r < 8) (hk : k < wk_n σ) (hc : wk_nt σ + 1 < 2147483648) : wk_Ci l D (wk_tys cI cJ cS) yX8_heedWay (wk_M yX8_heedWay cX8_heedWay 4 (some .int)) ({ frames := 1, cells := 0, slots := 0, locals := 22 }) [.ref (ad (8 + r)), .ref (ad 1), .ref (ad (16 + k)), .int n] (wx_W cI cS ad σ) (wx_W cI cS ad) (fun r0 u0 => r0 = (wk_soulHeed σ k n).1 ∧ u0 = (wk_soulHeed σ k n).2) := by
  intro sz
  refine Met.ofW (cc := cX8_heedWay) (maxL := 4) (ret := (some .int)) (by decide) rfl ?_
  intro p e s m args below meth c s₁ B hml hv
  obtain ⟨rfl, hsz, hP, hK, hD0, hN⟩ := hv
  have hx := B.exec
  have hb := B.bytes
  have hr := B.returns
  have hts := atoms_spec (ws := wk_M yX8_heedWay cX8_heedWay 4 (some .int)) B.pre
  have hown : s.vm.findClass RX8 = some m.cls := findClass_of_methodNamed B.named
  have hlk := B.notSynchronized
  subst hsz
  have hI : wk_I D (va_A (wx_W cI cS ad σ) s.heap.size) s.heap s.heap [] (wx_W cI cS ad σ) := ⟨hP, hD0.self, va_S.rf⟩
  have hA : ∀ q : Nat, s.heap.size ≤ q → (va_A (wx_W cI cS ad σ) s.heap.size) q := fun q h => Or.inr h
  clear hP hD0
  generalize va_A (wx_W cI cS ad σ) s.heap.size = A at hI hA ⊢
  have hl := lv_entry ([.ref (ad (8 + r)), .ref (ad 1), .ref (ad (16 + k)), .int n]) (n := 4) (Nat.le_of_ble_eq_true rfl)
  rw [lg_entry_eq]
  generalize (lg_sl ([.ref (ad (8 + r)), .ref (ad 1), .ref (ad (16 + k)), .int n]) ++ List.replicate (4 - (lg_sl ([.ref (ad (8 + r)), .ref (ad 1), .ref (ad (16 + k)), .int n])).length) Slot.unset).toArray = ls at hl ⊢
  have hl : lv_has ls 4 [(0, .ref (ad (8 + r))), (1, .ref (ad 1)), (2, .ref (ad (16 + k))), (3, .int n)] := hl
  refine lv_aload_n hx hb dX8_heedWay_0 rfl (lv_at hl 1 rfl) ?_
  refine lv_bipush (v := 8) hx hb dX8_heedWay_1 (by decide) ?_
  refine lv_iconst (v := 3) hx hb dX8_heedWay_3 (by decide) ?_
  refine wk_kV hI hA (va_runV (As := [.int 8, .int 3]) (rest := []) ⟨hx, hb, hml, hown, hts⟩ (c_X2_noteWay l D cI cJ cS ad σ 8 3 83 (by decide) (by omega) _) (wk_cwV 2 hts wk_in_M mw_293 mw_258 mw_259 mw_35 mw_260 hdX2_noteWay ⟨(Nat.le_of_ble_eq_true rfl), (Nat.le_of_ble_eq_true rfl)⟩) (wk_preV hN hK hI (ci := 2) rfl wx_e1) rfl rfl hl.1 rfl (lv_room (Nat.le_of_ble_eq_true rfl)) dX8_heedWay_4 ⟨(Nat.le_of_ble_eq_true rfl), (Nat.le_of_ble_eq_true rfl)⟩) (fun u H locs hw hI => ?_)
  obtain rfl := hw
  have hG_1 : wk_G σ (wk_note σ 83) 1 := wk_g_note σ 83
  refine lv_bipush (v := 31) hx hb dX8_heedWay_7 (by decide) ?_
  refine lv_iload_n hx hb dX8_heedWay_9 rfl (lv_at hl 3 rfl) ?_
  refine lv_imul hx hb dX8_heedWay_10 ?_
  refine lv_aload_n hx hb dX8_heedWay_11 rfl (lv_at hl 2 rfl) ?_
  refine wk_get (v := .int (nI k)) hx hb hts (fun w h => wk_in_M w (lay_X6 w h)) hown hK hI (16 + k) (wx_em (hG_1.lt hk)) rfl 0 (by decide) (hts _ (wk_in_M _ mw_184)) rfl rfl dX8_heedWay_12 ?_
  refine lv_iadd hx hb dX8_heedWay_15 ?_
  refine lv_sipush (v := 1000) hx hb dX8_heedWay_16 (by decide) ?_
  refine lv_irem hx hb dX8_heedWay_19 (by decide) ?_
  exact wk_ri (wk_note σ 83) hx hb hr hlk hK hI rfl (wk_post (by first | rfl | (simp only [wk_soulHeed, wk_soulHeed1]; done) | (simp only [wk_soulHeed, wk_soulHeed1]; rfl))) dX8_heedWay_20
set_option maxHeartbeats 4000000 in
set_option maxRecDepth 100000 in
theorem c_X10_heedWay (l : Launch) (D : va_G) (cI cJ cS : ClassId) (ad : Nat → Nat) (σ : wk_St) (r k : Nat) (n : Int32) (hV : wk_V σ) (hr9 : r < 8) (hk : k < wk_n σ) (hc : wk_nt σ + 2 < 2147483648) : wk_Ci l D (wk_tys cI cJ cS) yX10_heedWay (wk_M yX10_heedWay cX10_heedWay 4 (some .int)) ({ frames := 2, cells := 0, slots := 0, locals := 45 }) [.ref (ad (8 + r)), .ref (ad 1), .ref (ad (16 + k)), .int n] (wx_W cI cS ad σ) (wx_W cI cS ad) (fun r0 u0 => r0 = (wk_topHeed σ k n).1 ∧ u0 = (wk_topHeed σ k n).2) := by
  intro sz
  refine Met.ofW (cc := cX10_heedWay) (maxL := 4) (ret := (some .int)) (by decide) rfl ?_
  intro p e s m args below meth c s₁ B hml hv
  obtain ⟨rfl, hsz, hP, hK, hD0, hN⟩ := hv
  have hx := B.exec
  have hb := B.bytes
  have hr := B.returns
  have hts := atoms_spec (ws := wk_M yX10_heedWay cX10_heedWay 4 (some .int)) B.pre
  have hown : s.vm.findClass RX10 = some m.cls := findClass_of_methodNamed B.named
  have hlk := B.notSynchronized
  subst hsz
  have hI : wk_I D (va_A (wx_W cI cS ad σ) s.heap.size) s.heap s.heap [] (wx_W cI cS ad σ) := ⟨hP, hD0.self, va_S.rf⟩
  have hA : ∀ q : Nat, s.heap.size ≤ q → (va_A (wx_W cI cS ad σ) s.heap.size) q := fun q h => Or.inr h
  clear hP hD0
  generalize va_A (wx_W cI cS ad σ) s.heap.size = A at hI hA ⊢
  have hl := lv_entry ([.ref (ad (8 + r)), .ref (ad 1), .ref (ad (16 + k)), .int n]) (n := 4) (Nat.le_of_ble_eq_true rfl)
  rw [lg_entry_eq]
  generalize (lg_sl ([.ref (ad (8 + r)), .ref (ad 1), .ref (ad (16 + k)), .int n]) ++ List.replicate (4 - (lg_sl ([.ref (ad (8 + r)), .ref (ad 1), .ref (ad (16 + k)), .int n])).length) Slot.unset).toArray = ls at hl ⊢
  have hl : lv_has ls 4 [(0, .ref (ad (8 + r))), (1, .ref (ad 1)), (2, .ref (ad (16 + k))), (3, .int n)] := hl
  refine lv_aload_n hx hb dX10_heedWay_0 rfl (lv_at hl 1 rfl) ?_
  refine lv_iconst (v := 2) hx hb dX10_heedWay_1 (by decide) ?_
  refine lv_iconst (v := 3) hx hb dX10_heedWay_2 (by decide) ?_
  refine wk_kV hI hA (va_runV (As := [.int 2, .int 3]) (rest := []) ⟨hx, hb, hml, hown, hts⟩ (c_X2_noteWay l D cI cJ cS ad σ 2 3 23 (by decide) (by omega) _) (wk_cwV 2 hts wk_in_M mw_257 mw_258 mw_259 mw_35 mw_260 hdX2_noteWay ⟨(Nat.le_of_ble_eq_true rfl), (Nat.le_of_ble_eq_true rfl)⟩) (wk_preV hN hK hI (ci := 2) rfl wx_e1) rfl rfl hl.1 rfl (lv_room (Nat.le_of_ble_eq_true rfl)) dX10_heedWay_3 ⟨(Nat.le_of_ble_eq_true rfl), (Nat.le_of_ble_eq_true rfl)⟩) (fun u H locs hw hI => ?_)
  obtain rfl := hw
  have hG_1 : wk_G σ (wk_note σ 23) 1 := wk_g_note σ 23
  refine lv_iload_n hx hb dX10_heedWay_6 rfl (lv_at hl 3 rfl) ?_
  refine lv_iconst (v := 2) hx hb dX10_heedWay_7 (by decide) ?_
  refine lv_irem hx hb dX10_heedWay_8 (by decide) ?_
  refine lv_if_eq (tgt := 14) hx hb dX10_heedWay_9 (by decide) (fun c_2 => ?_) (fun c_2 => ?_)
  · refine lv_aload_n hx hb dX10_heedWay_14 rfl (lv_at hl 0 rfl) ?_
    refine lv_aload_n hx hb dX10_heedWay_15 rfl (lv_at hl 1 rfl) ?_
    refine lv_aload_n hx hb dX10_heedWay_16 rfl (lv_at hl 2 rfl) ?_
    refine lv_iload_n hx hb dX10_heedWay_17 rfl (lv_at hl 3 rfl) ?_
    refine wk_kI hI hA (wk_runP (x := (⟨RX7, "heedWay", "(LWatchBill$Crew;LWatchBill$Member;I)I"⟩ : MethodName)) (As := [.ref (ad 1), .ref (ad (16 + k)), .int n]) (rest := []) ⟨hx, hb, hml, hown, hts⟩ (c_X8_heedWay l D cI cJ cS ad (wk_note σ 23) r k n (hG_1.V hV) hr9 (hG_1.lt hk) (by have hq := hG_1.nt; omega) _) (wk_cwP 3 hts wk_in_M mw_381 mw_382 mw_109 mw_373 mw_36 mw_401 wk_sub_X7_X8 hN (by decide +kernel) ⟨(Nat.le_of_ble_eq_true rfl), (Nat.le_of_ble_eq_true rfl)⟩) (wk_preR hN hK hI hr9) rfl rfl hl.1 rfl (lv_room (Nat.le_of_ble_eq_true rfl)) dX10_heedWay_18 ⟨(Nat.le_of_ble_eq_true rfl), (Nat.le_of_ble_eq_true rfl)⟩) (fun r u H locs hw hI => ?_)
    obtain ⟨rfl, rfl⟩ := hw
    have hG_3 : wk_G σ ((wk_soulHeed (wk_note σ 23) k n).2) 2 := hG_1.trans (wk_g_soulHeed (wk_note σ 23) k n)
    refine lv_sipush (v := 1000) hx hb dX10_heedWay_21 (by decide) ?_
    refine lv_iadd hx hb dX10_heedWay_24 ?_
    exact wk_ri ((wk_soulHeed (wk_note σ 23) k n).2) hx hb hr hlk hK hI rfl (wk_post (by first | rfl | (simp only [wk_topHeed, wk_topHeed1, if_pos c_2]; done) | (simp only [wk_topHeed, wk_topHeed1, if_pos c_2]; rfl))) dX10_heedWay_25
  · refine lv_iload_n hx hb dX10_heedWay_12 rfl (lv_at hl 3 rfl) ?_
    exact wk_ri (wk_note σ 23) hx hb hr hlk hK hI rfl (wk_post (by first | rfl | (simp only [wk_topHeed, wk_topHeed1, if_neg c_2]; done) | (simp only [wk_topHeed, wk_topHeed1, if_neg c_2]; rfl))) dX10_heedWay_13
set_option maxHeartbeats 4000000 in
set_option maxRecDepth 100000 in
theorem c_X1_heedWay (l : Launch) (D : va_G) (cI cJ cS : ClassId) (ad : Nat → Nat) (σ : wk_St) (r k : Nat) (n : Int32) (hV : wk_V σ) (hr9 : r < 8) (hk : k < wk_n σ) (hc : wk_nt σ + 2 < 2147483648) : wk_Ci l D (wk_tys cI cJ cS) yX1_heedWay (wk_M yX1_heedWay cX1_heedWay 4 (some .int)) ({ frames := 2, cells := 0, slots := 0, locals := 45 }) [.ref (ad (8 + r)), .ref (ad 1), .ref (ad (16 + k)), .int n] (wx_W cI cS ad σ) (wx_W cI cS ad) (fun r0 u0 => r0 = (wk_cookHeed σ k n).1 ∧ u0 = (wk_cookHeed σ k n).2) := by
  intro sz
  refine Met.ofW (cc := cX1_heedWay) (maxL := 4) (ret := (some .int)) (by decide) rfl ?_
  intro p e s m args below meth c s₁ B hml hv
  obtain ⟨rfl, hsz, hP, hK, hD0, hN⟩ := hv
  have hx := B.exec
  have hb := B.bytes
  have hr := B.returns
  have hts := atoms_spec (ws := wk_M yX1_heedWay cX1_heedWay 4 (some .int)) B.pre
  have hown : s.vm.findClass RX1 = some m.cls := findClass_of_methodNamed B.named
  have hlk := B.notSynchronized
  subst hsz
  have hI : wk_I D (va_A (wx_W cI cS ad σ) s.heap.size) s.heap s.heap [] (wx_W cI cS ad σ) := ⟨hP, hD0.self, va_S.rf⟩
  have hA : ∀ q : Nat, s.heap.size ≤ q → (va_A (wx_W cI cS ad σ) s.heap.size) q := fun q h => Or.inr h
  clear hP hD0
  generalize va_A (wx_W cI cS ad σ) s.heap.size = A at hI hA ⊢
  have hl := lv_entry ([.ref (ad (8 + r)), .ref (ad 1), .ref (ad (16 + k)), .int n]) (n := 4) (Nat.le_of_ble_eq_true rfl)
  rw [lg_entry_eq]
  generalize (lg_sl ([.ref (ad (8 + r)), .ref (ad 1), .ref (ad (16 + k)), .int n]) ++ List.replicate (4 - (lg_sl ([.ref (ad (8 + r)), .ref (ad 1), .ref (ad (16 + k)), .int n])).length) Slot.unset).toArray = ls at hl ⊢
  have hl : lv_has ls 4 [(0, .ref (ad (8 + r))), (1, .ref (ad 1)), (2, .ref (ad (16 + k))), (3, .int n)] := hl
  refine lv_aload_n hx hb dX1_heedWay_0 rfl (lv_at hl 1 rfl) ?_
  refine lv_bipush (v := 6) hx hb dX1_heedWay_1 (by decide) ?_
  refine lv_iconst (v := 3) hx hb dX1_heedWay_3 (by decide) ?_
  refine wk_kV hI hA (va_runV (As := [.int 6, .int 3]) (rest := []) ⟨hx, hb, hml, hown, hts⟩ (c_X2_noteWay l D cI cJ cS ad σ 6 3 63 (by decide) (by omega) _) (wk_cwV 2 hts wk_in_M mw_268 mw_258 mw_259 mw_35 mw_260 hdX2_noteWay ⟨(Nat.le_of_ble_eq_true rfl), (Nat.le_of_ble_eq_true rfl)⟩) (wk_preV hN hK hI (ci := 2) rfl wx_e1) rfl rfl hl.1 rfl (lv_room (Nat.le_of_ble_eq_true rfl)) dX1_heedWay_4 ⟨(Nat.le_of_ble_eq_true rfl), (Nat.le_of_ble_eq_true rfl)⟩) (fun u H locs hw hI => ?_)
  obtain rfl := hw
  have hG_1 : wk_G σ (wk_note σ 63) 1 := wk_g_note σ 63
  refine lv_aload_n hx hb dX1_heedWay_7 rfl (lv_at hl 0 rfl) ?_
  refine lv_aload_n hx hb dX1_heedWay_8 rfl (lv_at hl 1 rfl) ?_
  refine lv_aload_n hx hb dX1_heedWay_9 rfl (lv_at hl 2 rfl) ?_
  refine lv_iload_n hx hb dX1_heedWay_10 rfl (lv_at hl 3 rfl) ?_
  refine wk_kI hI hA (wk_runP (x := (⟨RX3, "heedWay", "(LWatchBill$Crew;LWatchBill$Member;I)I"⟩ : MethodName)) (As := [.ref (ad 1), .ref (ad (16 + k)), .int n]) (rest := []) ⟨hx, hb, hml, hown, hts⟩ (c_X8_heedWay l D cI cJ cS ad (wk_note σ 63) r k n (hG_1.V hV) hr9 (hG_1.lt hk) (by have hq := hG_1.nt; omega) _) (wk_cwP 3 hts wk_in_M mw_387 mw_388 mw_137 mw_373 mw_36 mw_401 wk_sub_X3_X8 hN (by decide +kernel) ⟨(Nat.le_of_ble_eq_true rfl), (Nat.le_of_ble_eq_true rfl)⟩) (wk_preR hN hK hI hr9) rfl rfl hl.1 rfl (lv_room (Nat.le_of_ble_eq_true rfl)) dX1_heedWay_11 ⟨(Nat.le_of_ble_eq_true rfl), (Nat.le_of_ble_eq_true rfl)⟩) (fun r u H locs hw hI => ?_)
  obtain ⟨rfl, rfl⟩ := hw
  have hG_2 : wk_G σ ((wk_soulHeed (wk_note σ 63) k n).2) 2 := hG_1.trans (wk_g_soulHeed (wk_note σ 63) k n)
  refine lv_ineg hx hb dX1_heedWay_14 ?_
  exact wk_ri ((wk_soulHeed (wk_note σ 63) k n).2) hx hb hr hlk hK hI rfl (wk_post (by first | rfl | (simp only [wk_cookHeed]; done) | (simp only [wk_cookHeed]; rfl))) dX1_heedWay_15
