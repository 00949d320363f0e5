set_option maxHeartbeats 4000000 in
set_option maxRecDepth 100000 in
theorem c_X12_mark (l : Launch) (D : va_G) (cI cJ cS : ClassId) (am : Nat → Nat) (σ : wk_St) (v9 : Int32) (hc : wk_nt σ + 1 < 2147483648) : wk_Cv l D (wk_tys cI cJ cS) yX12_mark (wk_M yX12_mark cX12_mark 2 none) ({ frames := 0, cells := 0, slots := 0, locals := 0 }) [.ref (am 0), .int v9] (wm_W cI cJ am σ) (wm_W cI cJ am) (fun u => u = wk_note σ v9) := by
  intro sz
  refine Met.ofW (cc := cX12_mark) (maxL := 2) (ret := none) (by decide) rfl ?_
  intro p e s m args below meth c s₁ B hml hv
  obtain ⟨rfl, hsz, hP, hK, hD0, hN⟩ := hv
  have hx := B.exec
  have hb := B.bytes
  have hr := B.returns
  have hts := atoms_spec (ws := wk_M yX12_mark cX12_mark 2 none) B.pre
  have hown : s.vm.findClass RX12 = some m.cls := findClass_of_methodNamed B.named
  have hlk := B.notSynchronized
  subst hsz
  have hI : wk_I D (va_A (wm_W cI cJ am σ) s.heap.size) s.heap s.heap [] (wm_W cI cJ am σ) := ⟨hP, hD0.self, va_S.rf⟩
  have hA : ∀ q : Nat, s.heap.size ≤ q → (va_A (wm_W cI cJ am σ) s.heap.size) q := fun q h => Or.inr h
  clear hP hD0
  generalize va_A (wm_W cI cJ am σ) s.heap.size = A at hI hA ⊢
  have hl := lv_entry ([.ref (am 0), .int v9]) (n := 2) (Nat.le_of_ble_eq_true rfl)
  rw [lg_entry_eq]
  generalize (lg_sl ([.ref (am 0), .int v9]) ++ List.replicate (2 - (lg_sl ([.ref (am 0), .int v9])).length) Slot.unset).toArray = ls at hl ⊢
  have hl : lv_has ls 2 [(0, .ref (am 0)), (1, .int v9)] := hl
  refine lv_aload_n hx hb dX12_mark_0 rfl (lv_at hl 0 rfl) ?_
  refine wk_get (v := .int (nI (wk_nt σ))) hx hb hts (fun w h => wk_in_M w (lay_X12 w h)) hown hK hI (0) wm_e0 rfl 10 (by decide) (hts _ (wk_in_M _ mw_504)) rfl rfl dX12_mark_1 ?_
  refine lv_bipush (v := 64) hx hb dX12_mark_4 (by decide) ?_
  refine lv_icmp_ge (tgt := 19) hx hb dX12_mark_6 (by decide) (fun c_1 => ?_) (fun c_1 => ?_)
  · have h64 : ¬ wk_nt σ < 64 := by simp only [Int32.lt_iff_toInt_lt, Int32.le_iff_toInt_le, nI_toInt (show wk_nt σ < 2 ^ 31 by omega), wk_lit0, wk_lit1, wk_lit2, wk_lit3, wk_lit5, wk_lit6, wk_lit7, wk_lit8, wk_lit64, wk_lit4, wk_lit12, wk_lit20, wk_lit99, wk_lit1000] at c_1; omega
    refine lv_aload_n hx hb dX12_mark_19 rfl (lv_at hl 0 rfl) ?_
    refine lv_dup hx hb dX12_mark_20 rfl ?_
    refine wk_get (v := .int (nI (wk_nt σ))) hx hb hts (fun w h => wk_in_M w (lay_X12 w h)) hown hK hI (0) wm_e0 rfl 10 (by decide) (hts _ (wk_in_M _ mw_504)) rfl rfl dX12_mark_21 ?_
    refine lv_iconst (v := 1) hx hb dX12_mark_24 (by decide) ?_
    refine lv_iadd hx hb dX12_mark_25 ?_
    rw [nI_1]
    refine wk_put (v := .int (nI (wk_nt σ + 1))) (ty := .int) hx hb hts (fun w h => wk_in_M w (lay_X12 w h)) tyX12 tyX12_ok nmX12 hown hK hI (0) wm_e0 rfl 10 (by decide) (hts _ (wk_in_M _ mw_504)) rfl rfl (by decide +kernel) rfl rfl (Nat.le_of_ble_eq_true rfl) (wm_sNt _) dX12_mark_26 (fun H locs hI => ?_)
    exact wk_rv (wk_sNt σ (wk_nt σ + 1)) hx hb hr hlk hK hI rfl (by unfold wk_note; rw [if_neg h64]; rfl) dX12_mark_29
  · have h64 : wk_nt σ < 64 := by simp only [Int32.lt_iff_toInt_lt, Int32.le_iff_toInt_le, nI_toInt (show wk_nt σ < 2 ^ 31 by omega), wk_lit0, wk_lit1, wk_lit2, wk_lit3, wk_lit5, wk_lit6, wk_lit7, wk_lit8, wk_lit64, wk_lit4, wk_lit12, wk_lit20, wk_lit99, wk_lit1000] at c_1; omega
    refine lv_aload_n hx hb dX12_mark_9 rfl (lv_at hl 0 rfl) ?_
    refine wk_get (v := .ref (am 9)) hx hb hts (fun w h => wk_in_M w (lay_X12 w h)) hown hK hI (0) wm_e0 rfl 9 (by decide) (hts _ (wk_in_M _ mw_503)) rfl rfl dX12_mark_10 ?_
    refine lv_aload_n hx hb dX12_mark_13 rfl (lv_at hl 0 rfl) ?_
    refine wk_get (v := .int (nI (wk_nt σ))) hx hb hts (fun w h => wk_in_M w (lay_X12 w h)) hown hK hI (0) wm_e0 rfl 10 (by decide) (hts _ (wk_in_M _ mw_504)) rfl rfl dX12_mark_14 ?_
    refine lv_iload_n hx hb dX12_mark_17 rfl (lv_at hl 1 rfl) ?_
    refine wk_iast (j := (wk_nt σ)) hx hb hK hI 9 0 wm_e9 rfl rfl h64 (by decide) (wm_sKp _) dX12_mark_18 (fun H locs hI => ?_)
    refine lv_aload_n hx hb dX12_mark_19 rfl (lv_at hl 0 rfl) ?_
    refine lv_dup hx hb dX12_mark_20 rfl ?_
    refine wk_get (v := .int (nI (wk_nt (wk_sKp σ (upd (wk_kp σ) (wk_nt σ) v9))))) hx hb hts (fun w h => wk_in_M w (lay_X12 w h)) hown hK hI (0) wm_e0 rfl 10 (by decide) (hts _ (wk_in_M _ mw_504)) rfl rfl dX12_mark_21 ?_
    refine lv_iconst (v := 1) hx hb dX12_mark_24 (by decide) ?_
    refine lv_iadd hx hb dX12_mark_25 ?_
    rw [nI_1]
    refine wk_put (v := .int (nI (wk_nt (wk_sKp σ (upd (wk_kp σ) (wk_nt σ) v9)) + 1))) (ty := .int) hx hb hts (fun w h => wk_in_M w (lay_X12 w h)) tyX12 tyX12_ok nmX12 hown hK hI (0) wm_e0 rfl 10 (by decide) (hts _ (wk_in_M _ mw_504)) rfl rfl (by decide +kernel) rfl rfl (Nat.le_of_ble_eq_true rfl) (wm_sNt _) dX12_mark_26 (fun H locs hI => ?_)
    exact wk_rv (wk_sNt (wk_sKp σ (upd (wk_kp σ) (wk_nt σ) v9)) (wk_nt (wk_sKp σ (upd (wk_kp σ) (wk_nt σ) v9)) + 1)) hx hb hr hlk hK hI rfl (by unfold wk_note; rw [if_pos h64]; rfl) dX12_mark_29
set_option maxHeartbeats 4000000 in
set_option maxRecDepth 100000 in
theorem c_X12_tire (l : Launch) (D : va_G) (cI cJ cS : ClassId) (am : Nat → Nat) (σ : wk_St) (k : Nat) (n : Int32) (hV : wk_V σ) (hk : k < wk_n σ) : wk_Cv l D (wk_tys cI cJ cS) yX12_tire (wk_M yX12_tire cX12_tire 4 none) ({ frames := 0, cells := 0, slots := 0, locals := 0 }) [.ref (am 0), .int (nI k), .int n] (wm_W cI cJ am σ) (wm_W cI cJ am) (fun u => u = wk_tire σ k n) := by
  intro sz
  refine Met.ofW (cc := cX12_tire) (maxL := 4) (ret := none) (by decide) rfl ?_
  intro p e s m args below meth c s₁ B hml hv
  obtain ⟨rfl, hsz, hP, hK, hD0, hN⟩ := hv
  have hx := B.exec
  have hb := B.bytes
  have hr := B.returns
  have hts := atoms_spec (ws := wk_M yX12_tire cX12_tire 4 none) B.pre
  have hown : s.vm.findClass RX12 = some m.cls := findClass_of_methodNamed B.named
  have hlk := B.notSynchronized
  subst hsz
  have hI : wk_I D (va_A (wm_W cI cJ am σ) s.heap.size) s.heap s.heap [] (wm_W cI cJ am σ) := ⟨hP, hD0.self, va_S.rf⟩
  have hA : ∀ q : Nat, s.heap.size ≤ q → (va_A (wm_W cI cJ am σ) s.heap.size) q := fun q h => Or.inr h
  clear hP hD0
  generalize va_A (wm_W cI cJ am σ) s.heap.size = A at hI hA ⊢
  have hl := lv_entry ([.ref (am 0), .int (nI k), .int n]) (n := 4) (Nat.le_of_ble_eq_true rfl)
  rw [lg_entry_eq]
  generalize (lg_sl ([.ref (am 0), .int (nI k), .int n]) ++ List.replicate (4 - (lg_sl ([.ref (am 0), .int (nI k), .int n])).length) Slot.unset).toArray = ls at hl ⊢
  have hl : lv_has ls 4 [(0, .ref (am 0)), (1, .int (nI k)), (2, .int n)] := hl
  refine lv_aload_n hx hb dX12_tire_0 rfl (lv_at hl 0 rfl) ?_
  refine wk_get (v := .ref (am 3)) hx hb hts (fun w h => wk_in_M w (lay_X12 w h)) hown hK hI (0) wm_e0 rfl 3 (by decide) (hts _ (wk_in_M _ mw_497)) rfl rfl dX12_tire_1 ?_
  refine lv_iload_n hx hb dX12_tire_4 rfl (lv_at hl 1 rfl) ?_
  refine wk_iald (v := (wk_we σ k)) (j := k) hx hb hK hI 3 0 wm_e3 rfl rfl (by have hq12 := hV.1; omega) (by decide) rfl dX12_tire_5 ?_
  refine lv_iload_n hx hb dX12_tire_6 rfl (lv_at hl 2 rfl) ?_
  refine lv_iadd hx hb dX12_tire_7 ?_
  refine lv_istore_n (lv' := [(3, .int ((wk_we σ k) + n)), (0, .ref (am 0)), (1, .int (nI k)), (2, .int n)]) hx hb dX12_tire_8 rfl hl (by decide) rfl (fun ls hl => ?_)
  refine lv_aload_n hx hb dX12_tire_9 rfl (lv_at hl 1 rfl) ?_
  refine wk_get (v := .ref (am 3)) hx hb hts (fun w h => wk_in_M w (lay_X12 w h)) hown hK hI (0) wm_e0 rfl 3 (by decide) (hts _ (wk_in_M _ mw_497)) rfl rfl dX12_tire_10 ?_
  refine lv_iload_n hx hb dX12_tire_13 rfl (lv_at hl 2 rfl) ?_
  refine lv_iload_n hx hb dX12_tire_14 rfl (lv_at hl 0 rfl) ?_
  refine lv_if_ge (tgt := 22) hx hb dX12_tire_15 (by decide) (fun c_1 => ?_) (fun c_1 => ?_)
  · refine lv_iload_n hx hb dX12_tire_22 rfl (lv_at hl 0 rfl) ?_
    refine lv_sipush (v := 1000) hx hb dX12_tire_23 (by decide) ?_
    refine lv_icmp_le (tgt := 35) hx hb dX12_tire_26 (by decide) (fun c_2 => ?_) (fun c_2 => ?_)
    · refine lv_iload_n hx hb dX12_tire_35 rfl (lv_at hl 0 rfl) ?_
      refine wk_iast (j := k) hx hb hK hI 3 0 wm_e3 rfl rfl (by have hq12 := hV.1; omega) (by decide) (wm_sWe _) dX12_tire_36 (fun H locs hI => ?_)
      exact wk_rv (wk_sWe σ (upd (wk_we σ) k ((wk_we σ k) + n))) hx hb hr hlk hK hI rfl (by simp only [wk_tire, wk_clamp, if_pos c_1, if_pos c_2]) dX12_tire_37
    · refine lv_sipush (v := 1000) hx hb dX12_tire_29 (by decide) ?_
      refine lv_goto (tgt := 36) hx hb dX12_tire_32 (by decide) ?_
      refine wk_iast (j := k) hx hb hK hI 3 0 wm_e3 rfl rfl (by have hq12 := hV.1; omega) (by decide) (wm_sWe _) dX12_tire_36 (fun H locs hI => ?_)
      exact wk_rv (wk_sWe σ (upd (wk_we σ) k 1000)) hx hb hr hlk hK hI rfl (by simp only [wk_tire, wk_clamp, if_pos c_1, if_neg c_2]) dX12_tire_37
  · refine lv_iconst (v := 0) hx hb dX12_tire_18 (by decide) ?_
    refine lv_goto (tgt := 36) hx hb dX12_tire_19 (by decide) ?_
    refine wk_iast (j := k) hx hb hK hI 3 0 wm_e3 rfl rfl (by have hq12 := hV.1; omega) (by decide) (wm_sWe _) dX12_tire_36 (fun H locs hI => ?_)
    exact wk_rv (wk_sWe σ (upd (wk_we σ) k 0)) hx hb hr hlk hK hI rfl (by simp only [wk_tire, wk_clamp, if_neg c_1]) dX12_tire_37
set_option maxHeartbeats 4000000 in
set_option maxRecDepth 100000 in
theorem c_X12_soulToils (l : Launch) (D : va_G) (cI cJ cS : ClassId) (am : Nat → Nat) (σ : wk_St) (k : Nat) (n : Int32) (hV : wk_V σ) (hk : k < wk_n σ) (hc : wk_nt σ + 1 < 2147483648) : wk_Cl l D (wk_tys cI cJ cS) yX12_soulToils (wk_M yX12_soulToils cX12_soulToils 5 (some .long)) ({ frames := 1, cells := 0, slots := 0, locals := 23 }) [.ref (am 0), .int (nI k), .int n] (wm_W cI cJ am σ) (wm_W cI cJ am) (fun r0 u0 => r0 = (wk_soulToil σ k n).1 ∧ u0 = (wk_soulToil σ k n).2) := by
  intro sz
  refine Met.ofW (cc := cX12_soulToils) (maxL := 5) (ret := (some .long)) (by decide) rfl ?_
  intro p e s m args below meth c s₁ B hml hv
  obtain ⟨rfl, hsz, hP, hK, hD0, hN⟩ := hv
  have hx := B.exec
  have hb := B.bytes
  have hr := B.returns
  have hts := atoms_spec (ws := wk_M yX12_soulToils cX12_soulToils 5 (some .long)) B.pre
  have hown : s.vm.findClass RX12 = some m.cls := findClass_of_methodNamed B.named
  have hlk := B.notSynchronized
  subst hsz
  have hI : wk_I D (va_A (wm_W cI cJ am σ) s.heap.size) s.heap s.heap [] (wm_W cI cJ am σ) := ⟨hP, hD0.self, va_S.rf⟩
  have hA : ∀ q : Nat, s.heap.size ≤ q → (va_A (wm_W cI cJ am σ) s.heap.size) q := fun q h => Or.inr h
  clear hP hD0
  generalize va_A (wm_W cI cJ am σ) s.heap.size = A at hI hA ⊢
  have hl := lv_entry ([.ref (am 0), .int (nI k), .int n]) (n := 5) (Nat.le_of_ble_eq_true rfl)
  rw [lg_entry_eq]
  generalize (lg_sl ([.ref (am 0), .int (nI k), .int n]) ++ List.replicate (5 - (lg_sl ([.ref (am 0), .int (nI k), .int n])).length) Slot.unset).toArray = ls at hl ⊢
  have hl : lv_has ls 5 [(0, .ref (am 0)), (1, .int (nI k)), (2, .int n)] := hl
  have hk12 : k < 12 := by have hq := hV.1; omega
  refine lv_aload_n hx hb dX12_soulToils_0 rfl (lv_at hl 0 rfl) ?_
  refine lv_bipush (v := 80) hx hb dX12_soulToils_1 (by decide) ?_
  refine wk_kV hI hA (va_runV (As := [.int 80]) (rest := []) ⟨hx, hb, hml, hown, hts⟩ (c_X12_mark l D cI cJ cS am σ 80 (by have hq12 := hV.1; omega) _) (wk_cwV 1 hts wk_in_M mw_584 mw_586 mw_10 mw_45 mw_587 hdX12_mark ⟨(Nat.le_of_ble_eq_true rfl), (Nat.le_of_ble_eq_true rfl)⟩) (wk_preV hN hK hI (ci := 11) rfl wm_e0) rfl rfl hl.1 rfl (lv_room (Nat.le_of_ble_eq_true rfl)) dX12_soulToils_3 ⟨(Nat.le_of_ble_eq_true rfl), (Nat.le_of_ble_eq_true rfl)⟩) (fun u H locs hw hI => ?_)
  obtain rfl := hw
  have hG_1 : wk_G σ (wk_note σ 80) 1 := wk_g_note σ 80
  refine lv_iload_n hx hb dX12_soulToils_6 rfl (lv_at hl 2 rfl) ?_
  refine lv_i2l hx hb dX12_soulToils_7 rfl ?_
  refine lv_bipush (v := 10) hx hb dX12_soulToils_8 (by decide) ?_
  refine lv_aload_n hx hb dX12_soulToils_10 rfl (lv_at hl 0 rfl) ?_
  refine wk_get (v := .ref (am 2)) hx hb hts (fun w h => wk_in_M w (lay_X12 w h)) hown hK hI (0) wm_e0 rfl 2 (by decide) (hts _ (wk_in_M _ mw_496)) rfl rfl dX12_soulToils_11 ?_
  refine lv_iload_n hx hb dX12_soulToils_14 rfl (lv_at hl 1 rfl) ?_
  refine wk_iald (v := (wk_sk (wk_note σ 80) k)) (j := k) hx hb hK hI 2 0 wm_e2 rfl rfl (by have hq12 := hV.1; omega) (by decide) rfl dX12_soulToils_15 ?_
  refine lv_iadd hx hb dX12_soulToils_16 ?_
  refine lv_i2l hx hb dX12_soulToils_17 rfl ?_
  refine lv_lmul hx hb dX12_soulToils_18 ?_
  refine lv_aload_n hx hb dX12_soulToils_19 rfl (lv_at hl 0 rfl) ?_
  refine wk_get (v := .ref (am 3)) hx hb hts (fun w h => wk_in_M w (lay_X12 w h)) hown hK hI (0) wm_e0 rfl 3 (by decide) (hts _ (wk_in_M _ mw_497)) rfl rfl dX12_soulToils_20 ?_
  refine lv_iload_n hx hb dX12_soulToils_23 rfl (lv_at hl 1 rfl) ?_
  refine wk_iald (v := (wk_we (wk_note σ 80) k)) (j := k) hx hb hK hI 3 0 wm_e3 rfl rfl (by have hq12 := hV.1; omega) (by decide) rfl dX12_soulToils_24 ?_
  refine lv_i2l hx hb dX12_soulToils_25 rfl ?_
  refine lv_lsub hx hb dX12_soulToils_26 ?_
  refine lv_lstore_n (lv' := [(3, .long (((n.toInt64) * ((10 + (wk_sk (wk_note σ 80) k)).toInt64)) - ((wk_we (wk_note σ 80) k).toInt64))), (0, .ref (am 0)), (1, .int (nI k)), (2, .int n)]) hx hb dX12_soulToils_27 rfl hl (by decide) rfl (fun ls hl => ?_)
  refine lv_aload_n hx hb dX12_soulToils_28 rfl (lv_at hl 1 rfl) ?_
  refine lv_iload_n hx hb dX12_soulToils_29 rfl (lv_at hl 2 rfl) ?_
  refine lv_iload_n hx hb dX12_soulToils_30 rfl (lv_at hl 3 rfl) ?_
  refine wk_kV hI hA (va_runV (As := [.int (nI k), .int n]) (rest := []) ⟨hx, hb, hml, hown, hts⟩ (c_X12_tire l D cI cJ cS am (wk_note σ 80) k n (hG_1.V hV) (hG_1.lt hk) _) (wk_cwV 2 hts wk_in_M mw_588 mw_590 mw_11 mw_45 mw_591 hdX12_tire ⟨(Nat.le_of_ble_eq_true rfl), (Nat.le_of_ble_eq_true rfl)⟩) (wk_preV hN hK hI (ci := 11) rfl wm_e0) rfl rfl hl.1 rfl (lv_room (Nat.le_of_ble_eq_true rfl)) dX12_soulToils_31 ⟨(Nat.le_of_ble_eq_true rfl), (Nat.le_of_ble_eq_true rfl)⟩) (fun u H locs hw hI => ?_)
  obtain rfl := hw
  have hG_2 : wk_G σ (wk_tire (wk_note σ 80) k n) 1 := hG_1.trans (wk_g_tire (wk_note σ 80) k n)
  refine lv_lload_n hx hb dX12_soulToils_34 rfl (lv_at hl 0 rfl) ?_
  refine lv_lconst (v := 0) hx hb dX12_soulToils_35 (by decide) ?_
  refine W.lcmp hx hb dX12_soulToils_36 ?_
  refine lv_if_ge (tgt := 44) hx hb dX12_soulToils_37 (by decide) (fun c_3 => ?_) (fun c_3 => ?_)
  · have c_3 := (lg_cmp_ge _ _).mp c_3
    refine lv_lload_n hx hb dX12_soulToils_44 rfl (lv_at hl 0 rfl) ?_
    exact wk_rl (wk_tire (wk_note σ 80) k n) hx hb hr hlk hK hI rfl (wk_post (by first | rfl | (simp only [wk_soulToil, wk_soulToil1, wk_pos, if_pos c_3]; done) | (simp only [wk_soulToil, wk_soulToil1, wk_pos, if_pos c_3]; rfl))) dX12_soulToils_45
  · have c_3 := fun hq => c_3 ((lg_cmp_ge _ _).mpr hq)
    refine lv_lconst (v := 0) hx hb dX12_soulToils_40 (by decide) ?_
    refine lv_goto (tgt := 45) hx hb dX12_soulToils_41 (by decide) ?_
    exact wk_rl (wk_tire (wk_note σ 80) k n) hx hb hr hlk hK hI rfl (wk_post (by first | rfl | (simp only [wk_soulToil, wk_soulToil1, wk_pos, if_neg c_3]; done) | (simp only [wk_soulToil, wk_soulToil1, wk_pos, if_neg c_3]; rfl))) dX12_soulToils_45
set_option maxHeartbeats 4000000 in
set_option maxRecDepth 100000 in
theorem c_X12_topmanToils (l : Launch) (D : va_G) (cI cJ cS : ClassId) (am : Nat → Nat) (σ : wk_St) (k : Nat) (n : Int32) (hV : wk_V σ) (hk : k < wk_n σ) (hc : wk_nt σ + 2 < 2147483648) : wk_Cl l D (wk_tys cI cJ cS) yX12_topmanToils (wk_M yX12_topmanToils cX12_topmanToils 3 (some .long)) ({ frames := 2, cells := 0, slots := 0, locals := 47 }) [.ref (am 0), .int (nI k), .int n] (wm_W cI cJ am σ) (wm_W cI cJ am) (fun r0 u0 => r0 = (wk_topToil σ k n).1 ∧ u0 = (wk_topToil σ k n).2) := by
  intro sz
  refine Met.ofW (cc := cX12_topmanToils) (maxL := 3) (ret := (some .long)) (by decide) rfl ?_
  intro p e s m args below meth c s₁ B hml hv
  obtain ⟨rfl, hsz, hP, hK, hD0, hN⟩ := hv
  have hx := B.exec
  have hb := B.bytes
  have hr := B.returns
  have hts := atoms_spec (ws := wk_M yX12_topmanToils cX12_topmanToils 3 (some .long)) B.pre
  have hown : s.vm.findClass RX12 = some m.cls := findClass_of_methodNamed B.named
  have hlk := B.notSynchronized
  subst hsz
  have hI : wk_I D (va_A (wm_W cI cJ am σ) s.heap.size) s.heap s.heap [] (wm_W cI cJ am σ) := ⟨hP, hD0.self, va_S.rf⟩
  have hA : ∀ q : Nat, s.heap.size ≤ q → (va_A (wm_W cI cJ am σ) s.heap.size) q := fun q h => Or.inr h
  clear hP hD0
  generalize va_A (wm_W cI cJ am σ) s.heap.size = A at hI hA ⊢
  have hl := lv_entry ([.ref (am 0), .int (nI k), .int n]) (n := 3) (Nat.le_of_ble_eq_true rfl)
  rw [lg_entry_eq]
  generalize (lg_sl ([.ref (am 0), .int (nI k), .int n]) ++ List.replicate (3 - (lg_sl ([.ref (am 0), .int (nI k), .int n])).length) Slot.unset).toArray = ls at hl ⊢
  have hl : lv_has ls 3 [(0, .ref (am 0)), (1, .int (nI k)), (2, .int n)] := hl
  have hk12 : k < 12 := by have hq := hV.1; omega
  refine lv_aload_n hx hb dX12_topmanToils_0 rfl (lv_at hl 0 rfl) ?_
  refine lv_bipush (v := 20) hx hb dX12_topmanToils_1 (by decide) ?_
  refine wk_kV hI hA (va_runV (As := [.int 20]) (rest := []) ⟨hx, hb, hml, hown, hts⟩ (c_X12_mark l D cI cJ cS am σ 20 (by have hq12 := hV.1; omega) _) (wk_cwV 1 hts wk_in_M mw_584 mw_586 mw_10 mw_45 mw_587 hdX12_mark ⟨(Nat.le_of_ble_eq_true rfl), (Nat.le_of_ble_eq_true rfl)⟩) (wk_preV hN hK hI (ci := 11) rfl wm_e0) rfl rfl hl.1 rfl (lv_room (Nat.le_of_ble_eq_true rfl)) dX12_topmanToils_3 ⟨(Nat.le_of_ble_eq_true rfl), (Nat.le_of_ble_eq_true rfl)⟩) (fun u H locs hw hI => ?_)
  obtain rfl := hw
  have hG_1 : wk_G σ (wk_note σ 20) 1 := wk_g_note σ 20
  refine lv_aload_n hx hb dX12_topmanToils_6 rfl (lv_at hl 0 rfl) ?_
  refine wk_get (v := .ref (am 3)) hx hb hts (fun w h => wk_in_M w (lay_X12 w h)) hown hK hI (0) wm_e0 rfl 3 (by decide) (hts _ (wk_in_M _ mw_497)) rfl rfl dX12_topmanToils_7 ?_
  refine lv_iload_n hx hb dX12_topmanToils_10 rfl (lv_at hl 1 rfl) ?_
  refine wk_iald (v := (wk_we (wk_note σ 20) k)) (j := k) hx hb hK hI 3 0 wm_e3 rfl rfl (by have hq12 := hV.1; omega) (by decide) rfl dX12_topmanToils_11 ?_
  refine lv_sipush (v := 500) hx hb dX12_topmanToils_12 (by decide) ?_
  refine lv_icmp_le (tgt := 22) hx hb dX12_topmanToils_15 (by decide) (fun c_2 => ?_) (fun c_2 => ?_)
  · refine lv_aload_n hx hb dX12_topmanToils_22 rfl (lv_at hl 0 rfl) ?_
    refine lv_iload_n hx hb dX12_topmanToils_23 rfl (lv_at hl 1 rfl) ?_
    refine lv_iload_n hx hb dX12_topmanToils_24 rfl (lv_at hl 2 rfl) ?_
    refine wk_kL hI hA (va_runV (As := [.int (nI k), .int n]) (rest := []) ⟨hx, hb, hml, hown, hts⟩ (c_X12_soulToils l D cI cJ cS am (wk_note σ 20) k n (hG_1.V hV) (hG_1.lt hk) (by have hq := hG_1.nt; have hq12 := hV.1; omega) _) (wk_cwV 2 hts wk_in_M mw_580 mw_582 mw_9 mw_45 mw_583 hdX12_soulToils ⟨(Nat.le_of_ble_eq_true rfl), (Nat.le_of_ble_eq_true rfl)⟩) (wk_preV hN hK hI (ci := 11) rfl wm_e0) rfl rfl hl.1 rfl (lv_room (Nat.le_of_ble_eq_true rfl)) dX12_topmanToils_25 ⟨(Nat.le_of_ble_eq_true rfl), (Nat.le_of_ble_eq_true rfl)⟩) (fun r u H locs hw hI => ?_)
    obtain ⟨rfl, rfl⟩ := hw
    have hG_3 : wk_G σ ((wk_soulToil (wk_note σ 20) k n).2) 2 := hG_1.trans (wk_g_soulToil (wk_note σ 20) k n)
    refine lv_ldc2 hx hb hown (hts _ (wk_in_M _ mw_596)) dX12_topmanToils_28 ?_
    refine lv_iload_n hx hb dX12_topmanToils_31 rfl (lv_at hl 2 rfl) ?_
    refine lv_i2l hx hb dX12_topmanToils_32 rfl ?_
    refine lv_lmul hx hb dX12_topmanToils_33 ?_
    refine lv_ladd hx hb dX12_topmanToils_34 ?_
    exact wk_rl ((wk_soulToil (wk_note σ 20) k n).2) hx hb hr hlk hK hI rfl (wk_post (by first | rfl | (simp only [wk_topToil, wk_topToil1, if_pos c_2]; done) | (simp only [wk_topToil, wk_topToil1, if_pos c_2]; rfl))) dX12_topmanToils_35
  · refine lv_lconst (v := 0) hx hb dX12_topmanToils_18 (by decide) ?_
    refine lv_goto (tgt := 35) hx hb dX12_topmanToils_19 (by decide) ?_
    exact wk_rl (wk_note σ 20) hx hb hr hlk hK hI rfl (wk_post (by first | rfl | (simp only [wk_topToil, wk_topToil1, if_neg c_2]; done) | (simp only [wk_topToil, wk_topToil1, if_neg c_2]; rfl))) dX12_topmanToils_35
set_option maxHeartbeats 4000000 in
set_option maxRecDepth 100000 in
theorem c_X12_mateToils (l : Launch) (D : va_G) (cI cJ cS : ClassId) (am : Nat → Nat) (σ : wk_St) (k : Nat) (n : Int32) (hV : wk_V σ) (hk : k < wk_n σ) (hc : wk_nt σ + 5 < 2147483648) : wk_Cl l D (wk_tys cI cJ cS) yX12_mateToils (wk_M yX12_mateToils cX12_mateToils 5 (some .long)) ({ frames := 3, cells := 0, slots := 0, locals := 69 }) [.ref (am 0), .int (nI k), .int n] (wm_W cI cJ am σ) (wm_W cI cJ am) (fun r0 u0 => r0 = (wk_mateToil σ k n).1 ∧ u0 = (wk_mateToil σ k n).2) := by
  intro sz
  refine Met.ofW (cc := cX12_mateToils) (maxL := 5) (ret := (some .long)) (by decide) rfl ?_
  intro p e s m args below meth c s₁ B hml hv
  obtain ⟨rfl, hsz, hP, hK, hD0, hN⟩ := hv
  have hx := B.exec
  have hb := B.bytes
  have hr := B.returns
  have hts := atoms_spec (ws := wk_M yX12_mateToils cX12_mateToils 5 (some .long)) B.pre
  have hown : s.vm.findClass RX12 = some m.cls := findClass_of_methodNamed B.named
  have hlk := B.notSynchronized
  subst hsz
  have hI : wk_I D (va_A (wm_W cI cJ am σ) s.heap.size) s.heap s.heap [] (wm_W cI cJ am σ) := ⟨hP, hD0.self, va_S.rf⟩
  have hA : ∀ q : Nat, s.heap.size ≤ q → (va_A (wm_W cI cJ am σ) s.heap.size) q := fun q h => Or.inr h
  clear hP hD0
  generalize va_A (wm_W cI cJ am σ) s.heap.size = A at hI hA ⊢
  have hl := lv_entry ([.ref (am 0), .int (nI k), .int n]) (n := 5) (Nat.le_of_ble_eq_true rfl)
  rw [lg_entry_eq]
  generalize (lg_sl ([.ref (am 0), .int (nI k), .int n]) ++ List.replicate (5 - (lg_sl ([.ref (am 0), .int (nI k), .int n])).length) Slot.unset).toArray = ls at hl ⊢
  have hl : lv_has ls 5 [(0, .ref (am 0)), (1, .int (nI k)), (2, .int n)] := hl
  have hk12 : k < 12 := by have hq := hV.1; omega
  refine lv_aload_n hx hb dX12_mateToils_0 rfl (lv_at hl 0 rfl) ?_
  refine lv_bipush (v := 40) hx hb dX12_mateToils_1 (by decide) ?_
  refine wk_kV hI hA (va_runV (As := [.int 40]) (rest := []) ⟨hx, hb, hml, hown, hts⟩ (c_X12_mark l D cI cJ cS am σ 40 (by have hq12 := hV.1; omega) _) (wk_cwV 1 hts wk_in_M mw_584 mw_586 mw_10 mw_45 mw_587 hdX12_mark ⟨(Nat.le_of_ble_eq_true rfl), (Nat.le_of_ble_eq_true rfl)⟩) (wk_preV hN hK hI (ci := 11) rfl wm_e0) rfl rfl hl.1 rfl (lv_room (Nat.le_of_ble_eq_true rfl)) dX12_mateToils_3 ⟨(Nat.le_of_ble_eq_true rfl), (Nat.le_of_ble_eq_true rfl)⟩) (fun u H locs hw hI => ?_)
  obtain rfl := hw
  have hG_1 : wk_G σ (wk_note σ 40) 1 := wk_g_note σ 40
  refine lv_aload_n hx hb dX12_mateToils_6 rfl (lv_at hl 0 rfl) ?_
  refine lv_iload_n hx hb dX12_mateToils_7 rfl (lv_at hl 1 rfl) ?_
  refine lv_iload_n hx hb dX12_mateToils_8 rfl (lv_at hl 2 rfl) ?_
  refine lv_iconst (v := 2) hx hb dX12_mateToils_9 (by decide) ?_
  refine lv_idiv hx hb dX12_mateToils_10 (by decide) ?_
  refine wk_kL hI hA (va_runV (As := [.int (nI k), .int (n / 2)]) (rest := []) ⟨hx, hb, hml, hown, hts⟩ (c_X12_topmanToils l D cI cJ cS am (wk_note σ 40) k (n / 2) (hG_1.V hV) (hG_1.lt hk) (by have hq := hG_1.nt; have hq12 := hV.1; omega) _) (wk_cwV 2 hts wk_in_M mw_592 mw_594 mw_12 mw_45 mw_595 hdX12_topmanToils ⟨(Nat.le_of_ble_eq_true rfl), (Nat.le_of_ble_eq_true rfl)⟩) (wk_preV hN hK hI (ci := 11) rfl wm_e0) rfl rfl hl.1 rfl (lv_room (Nat.le_of_ble_eq_true rfl)) dX12_mateToils_11 ⟨(Nat.le_of_ble_eq_true rfl), (Nat.le_of_ble_eq_true rfl)⟩) (fun r u H locs hw hI => ?_)
  obtain ⟨rfl, rfl⟩ := hw
  have hG_2 : wk_G σ ((wk_topToil (wk_note σ 40) k (n / 2)).2) 3 := hG_1.trans (wk_g_topToil (wk_note σ 40) k (n / 2))
  refine lv_lstore_n (lv' := [(3, .long ((wk_topToil (wk_note σ 40) k (n / 2)).1)), (0, .ref (am 0)), (1, .int (nI k)), (2, .int n)]) hx hb dX12_mateToils_14 rfl hl (by decide) rfl (fun ls hl => ?_)
  refine lv_lload_n hx hb dX12_mateToils_15 rfl (lv_at hl 0 rfl) ?_
  refine lv_aload_n hx hb dX12_mateToils_16 rfl (lv_at hl 1 rfl) ?_
  refine lv_iload_n hx hb dX12_mateToils_17 rfl (lv_at hl 2 rfl) ?_
  refine lv_iload_n hx hb dX12_mateToils_18 rfl (lv_at hl 3 rfl) ?_
  refine lv_iload_n hx hb dX12_mateToils_19 rfl (lv_at hl 3 rfl) ?_
  refine lv_iconst (v := 2) hx hb dX12_mateToils_20 (by decide) ?_
  refine lv_idiv hx hb dX12_mateToils_21 (by decide) ?_
  refine lv_isub hx hb dX12_mateToils_22 ?_
  refine wk_kL hI hA (va_runV (As := [.int (nI k), .int (n - (n / 2))]) (rest := [.long ((wk_topToil (wk_note σ 40) k (n / 2)).1)]) ⟨hx, hb, hml, hown, hts⟩ (c_X12_topmanToils l D cI cJ cS am ((wk_topToil (wk_note σ 40) k (n / 2)).2) k (n - (n / 2)) (hG_2.V hV) (hG_2.lt hk) (by have hq := hG_2.nt; have hq12 := hV.1; omega) _) (wk_cwV 2 hts wk_in_M mw_592 mw_594 mw_12 mw_45 mw_595 hdX12_topmanToils ⟨(Nat.le_of_ble_eq_true rfl), (Nat.le_of_ble_eq_true rfl)⟩) (wk_preV hN hK hI (ci := 11) rfl wm_e0) rfl rfl hl.1 rfl (lv_room (Nat.le_of_ble_eq_true rfl)) dX12_mateToils_23 ⟨(Nat.le_of_ble_eq_true rfl), (Nat.le_of_ble_eq_true rfl)⟩) (fun r u H locs hw hI => ?_)
  obtain ⟨rfl, rfl⟩ := hw
  have hG_3 : wk_G σ ((wk_topToil ((wk_topToil (wk_note σ 40) k (n / 2)).2) k (n - (n / 2))).2) 5 := hG_2.trans (wk_g_topToil ((wk_topToil (wk_note σ 40) k (n / 2)).2) k (n - (n / 2)))
  refine lv_ladd hx hb dX12_mateToils_26 ?_
  exact wk_rl ((wk_topToil ((wk_topToil (wk_note σ 40) k (n / 2)).2) k (n - (n / 2))).2) hx hb hr hlk hK hI rfl (wk_post (by first | rfl | (simp only [wk_mateToil, wk_mateToil1]; done) | (simp only [wk_mateToil, wk_mateToil1]; rfl))) dX12_mateToils_27
set_option maxHeartbeats 4000000 in
set_option maxRecDepth 100000 in
theorem c_X12_masterToils (l : Launch) (D : va_G) (cI cJ cS : ClassId) (am : Nat → Nat) (σ : wk_St) (k : Nat) (n : Int32) (hV : wk_V σ) (hk : k < wk_n σ) (hc : wk_nt σ + 6 < 2147483648) : wk_Cl l D (wk_tys cI cJ cS) yX12_masterToils (wk_M yX12_masterToils cX12_masterToils 3 (some .long)) ({ frames := 4, cells := 0, slots := 0, locals := 93 }) [.ref (am 0), .int (nI k), .int n] (wm_W cI cJ am σ) (wm_W cI cJ am) (fun r0 u0 => r0 = (wk_masterToil σ k n).1 ∧ u0 = (wk_masterToil σ k n).2) := by
  intro sz
  refine Met.ofW (cc := cX12_masterToils) (maxL := 3) (ret := (some .long)) (by decide) rfl ?_
  intro p e s m args below meth c s₁ B hml hv
  obtain ⟨rfl, hsz, hP, hK, hD0, hN⟩ := hv
  have hx := B.exec
  have hb := B.bytes
  have hr := B.returns
  have hts := atoms_spec (ws := wk_M yX12_masterToils cX12_masterToils 3 (some .long)) B.pre
  have hown : s.vm.findClass RX12 = some m.cls := findClass_of_methodNamed B.named
  have hlk := B.notSynchronized
  subst hsz
  have hI : wk_I D (va_A (wm_W cI cJ am σ) s.heap.size) s.heap s.heap [] (wm_W cI cJ am σ) := ⟨hP, hD0.self, va_S.rf⟩
  have hA : ∀ q : Nat, s.heap.size ≤ q → (va_A (wm_W cI cJ am σ) s.heap.size) q := fun q h => Or.inr h
  clear hP hD0
  generalize va_A (wm_W cI cJ am σ) s.heap.size = A at hI hA ⊢
  have hl := lv_entry ([.ref (am 0), .int (nI k), .int n]) (n := 3) (Nat.le_of_ble_eq_true rfl)
  rw [lg_entry_eq]
  generalize (lg_sl ([.ref (am 0), .int (nI k), .int n]) ++ List.replicate (3 - (lg_sl ([.ref (am 0), .int (nI k), .int n])).length) Slot.unset).toArray = ls at hl ⊢
  have hl : lv_has ls 3 [(0, .ref (am 0)), (1, .int (nI k)), (2, .int n)] := hl
  have hk12 : k < 12 := by have hq := hV.1; omega
  refine lv_aload_n hx hb dX12_masterToils_0 rfl (lv_at hl 0 rfl) ?_
  refine lv_bipush (v := 50) hx hb dX12_masterToils_1 (by decide) ?_
  refine wk_kV hI hA (va_runV (As := [.int 50]) (rest := []) ⟨hx, hb, hml, hown, hts⟩ (c_X12_mark l D cI cJ cS am σ 50 (by have hq12 := hV.1; omega) _) (wk_cwV 1 hts wk_in_M mw_584 mw_586 mw_10 mw_45 mw_587 hdX12_mark ⟨(Nat.le_of_ble_eq_true rfl), (Nat.le_of_ble_eq_true rfl)⟩) (wk_preV hN hK hI (ci := 11) rfl wm_e0) rfl rfl hl.1 rfl (lv_room (Nat.le_of_ble_eq_true rfl)) dX12_masterToils_3 ⟨(Nat.le_of_ble_eq_true rfl), (Nat.le_of_ble_eq_true rfl)⟩) (fun u H locs hw hI => ?_)
  obtain rfl := hw
  have hG_1 : wk_G σ (wk_note σ 50) 1 := wk_g_note σ 50
  refine lv_iload_n hx hb dX12_masterToils_6 rfl (lv_at hl 2 rfl) ?_
  refine lv_bipush (v := 40) hx hb dX12_masterToils_7 (by decide) ?_
  refine lv_icmp_gt (tgt := 21) hx hb dX12_masterToils_9 (by decide) (fun c_2 => ?_) (fun c_2 => ?_)
  · refine lv_ldc2 hx hb hown (hts _ (wk_in_M _ mw_605)) dX12_masterToils_21 ?_
    refine lv_aload_n hx hb dX12_masterToils_24 rfl (lv_at hl 0 rfl) ?_
    refine lv_iload_n hx hb dX12_masterToils_25 rfl (lv_at hl 1 rfl) ?_
    refine lv_iload_n hx hb dX12_masterToils_26 rfl (lv_at hl 2 rfl) ?_
    refine lv_iconst (v := 4) hx hb dX12_masterToils_27 (by decide) ?_
    refine lv_idiv hx hb dX12_masterToils_28 (by decide) ?_
    refine wk_kL hI hA (va_runV (As := [.int (nI k), .int (n / 4)]) (rest := [.long 4]) ⟨hx, hb, hml, hown, hts⟩ (c_X12_mateToils l D cI cJ cS am (wk_note σ 50) k (n / 4) (hG_1.V hV) (hG_1.lt hk) (by have hq := hG_1.nt; have hq12 := hV.1; omega) _) (wk_cwV 2 hts wk_in_M mw_597 mw_599 mw_13 mw_45 mw_600 hdX12_mateToils ⟨(Nat.le_of_ble_eq_true rfl), (Nat.le_of_ble_eq_true rfl)⟩) (wk_preV hN hK hI (ci := 11) rfl wm_e0) rfl rfl hl.1 rfl (lv_room (Nat.le_of_ble_eq_true rfl)) dX12_masterToils_29 ⟨(Nat.le_of_ble_eq_true rfl), (Nat.le_of_ble_eq_true rfl)⟩) (fun r u H locs hw hI => ?_)
    obtain ⟨rfl, rfl⟩ := hw
    have hG_3 : wk_G σ ((wk_mateToil (wk_note σ 50) k (n / 4)).2) 6 := hG_1.trans (wk_g_mateToil (wk_note σ 50) k (n / 4))
    refine lv_lmul hx hb dX12_masterToils_32 ?_
    exact wk_rl ((wk_mateToil (wk_note σ 50) k (n / 4)).2) hx hb hr hlk hK hI rfl (wk_post (by first | rfl | (simp only [wk_masterToil, wk_masterToil1, if_pos c_2]; done) | (simp only [wk_masterToil, wk_masterToil1, if_pos c_2]; rfl))) dX12_masterToils_33
  · refine lv_aload_n hx hb dX12_masterToils_12 rfl (lv_at hl 0 rfl) ?_
    refine lv_iload_n hx hb dX12_masterToils_13 rfl (lv_at hl 1 rfl) ?_
    refine lv_iload_n hx hb dX12_masterToils_14 rfl (lv_at hl 2 rfl) ?_
    refine wk_kL hI hA (va_runV (As := [.int (nI k), .int n]) (rest := []) ⟨hx, hb, hml, hown, hts⟩ (c_X12_mateToils l D cI cJ cS am (wk_note σ 50) k n (hG_1.V hV) (hG_1.lt hk) (by have hq := hG_1.nt; have hq12 := hV.1; omega) _) (wk_cwV 2 hts wk_in_M mw_597 mw_599 mw_13 mw_45 mw_600 hdX12_mateToils ⟨(Nat.le_of_ble_eq_true rfl), (Nat.le_of_ble_eq_true rfl)⟩) (wk_preV hN hK hI (ci := 11) rfl wm_e0) rfl rfl hl.1 rfl (lv_room (Nat.le_of_ble_eq_true rfl)) dX12_masterToils_15 ⟨(Nat.le_of_ble_eq_true rfl), (Nat.le_of_ble_eq_true rfl)⟩) (fun r u H locs hw hI => ?_)
    obtain ⟨rfl, rfl⟩ := hw
    have hG_4 : wk_G σ ((wk_mateToil (wk_note σ 50) k n).2) 6 := hG_1.trans (wk_g_mateToil (wk_note σ 50) k n)
    refine lv_goto (tgt := 33) hx hb dX12_masterToils_18 (by decide) ?_
    exact wk_rl ((wk_mateToil (wk_note σ 50) k n).2) hx hb hr hlk hK hI rfl (wk_post (by first | rfl | (simp only [wk_masterToil, wk_masterToil1, if_neg c_2]; done) | (simp only [wk_masterToil, wk_masterToil1, if_neg c_2]; rfl))) dX12_masterToils_33
set_option maxHeartbeats 4000000 in
set_option maxRecDepth 100000 in
theorem c_X12_cookToils (l : Launch) (D : va_G) (cI cJ cS : ClassId) (am : Nat → Nat) (σ : wk_St) (k : Nat) (n : Int32) (hV : wk_V σ) (hk : k < wk_n σ) (hc : wk_nt σ + 2 < 2147483648) : wk_Cl l D (wk_tys cI cJ cS) yX12_cookToils (wk_M yX12_cookToils cX12_cookToils 5 (some .long)) ({ frames := 2, cells := 0, slots := 0, locals := 47 }) [.ref (am 0), .int (nI k), .int n] (wm_W cI cJ am σ) (wm_W cI cJ am) (fun r0 u0 => r0 = (wk_cookToil σ k n).1 ∧ u0 = (wk_cookToil σ k n).2) := by
  intro sz
  refine Met.ofW (cc := cX12_cookToils) (maxL := 5) (ret := (some .long)) (by decide) rfl ?_
  intro p e s m args below meth c s₁ B hml hv
  obtain ⟨rfl, hsz, hP, hK, hD0, hN⟩ := hv
  have hx := B.exec
  have hb := B.bytes
  have hr := B.returns
  have hts := atoms_spec (ws := wk_M yX12_cookToils cX12_cookToils 5 (some .long)) B.pre
  have hown : s.vm.findClass RX12 = some m.cls := findClass_of_methodNamed B.named
  have hlk := B.notSynchronized
  subst hsz
  have hI : wk_I D (va_A (wm_W cI cJ am σ) s.heap.size) s.heap s.heap [] (wm_W cI cJ am σ) := ⟨hP, hD0.self, va_S.rf⟩
  have hA : ∀ q : Nat, s.heap.size ≤ q → (va_A (wm_W cI cJ am σ) s.heap.size) q := fun q h => Or.inr h
  clear hP hD0
  generalize va_A (wm_W cI cJ am σ) s.heap.size = A at hI hA ⊢
  have hl := lv_entry ([.ref (am 0), .int (nI k), .int n]) (n := 5) (Nat.le_of_ble_eq_true rfl)
  rw [lg_entry_eq]
  generalize (lg_sl ([.ref (am 0), .int (nI k), .int n]) ++ List.replicate (5 - (lg_sl ([.ref (am 0), .int (nI k), .int n])).length) Slot.unset).toArray = ls at hl ⊢
  have hl : lv_has ls 5 [(0, .ref (am 0)), (1, .int (nI k)), (2, .int n)] := hl
  have hk12 : k < 12 := by have hq := hV.1; omega
  refine lv_aload_n hx hb dX12_cookToils_0 rfl (lv_at hl 0 rfl) ?_
  refine lv_bipush (v := 60) hx hb dX12_cookToils_1 (by decide) ?_
  refine wk_kV hI hA (va_runV (As := [.int 60]) (rest := []) ⟨hx, hb, hml, hown, hts⟩ (c_X12_mark l D cI cJ cS am σ 60 (by have hq12 := hV.1; omega) _) (wk_cwV 1 hts wk_in_M mw_584 mw_586 mw_10 mw_45 mw_587 hdX12_mark ⟨(Nat.le_of_ble_eq_true rfl), (Nat.le_of_ble_eq_true rfl)⟩) (wk_preV hN hK hI (ci := 11) rfl wm_e0) rfl rfl hl.1 rfl (lv_room (Nat.le_of_ble_eq_true rfl)) dX12_cookToils_3 ⟨(Nat.le_of_ble_eq_true rfl), (Nat.le_of_ble_eq_true rfl)⟩) (fun u H locs hw hI => ?_)
  obtain rfl := hw
  have hG_1 : wk_G σ (wk_note σ 60) 1 := wk_g_note σ 60
  refine lv_aload_n hx hb dX12_cookToils_6 rfl (lv_at hl 0 rfl) ?_
  refine lv_iload_n hx hb dX12_cookToils_7 rfl (lv_at hl 1 rfl) ?_
  refine lv_iload_n hx hb dX12_cookToils_8 rfl (lv_at hl 2 rfl) ?_
  refine wk_kL hI hA (va_runV (As := [.int (nI k), .int n]) (rest := []) ⟨hx, hb, hml, hown, hts⟩ (c_X12_soulToils l D cI cJ cS am (wk_note σ 60) k n (hG_1.V hV) (hG_1.lt hk) (by have hq := hG_1.nt; have hq12 := hV.1; omega) _) (wk_cwV 2 hts wk_in_M mw_580 mw_582 mw_9 mw_45 mw_583 hdX12_soulToils ⟨(Nat.le_of_ble_eq_true rfl), (Nat.le_of_ble_eq_true rfl)⟩) (wk_preV hN hK hI (ci := 11) rfl wm_e0) rfl rfl hl.1 rfl (lv_room (Nat.le_of_ble_eq_true rfl)) dX12_cookToils_9 ⟨(Nat.le_of_ble_eq_true rfl), (Nat.le_of_ble_eq_true rfl)⟩) (fun r u H locs hw hI => ?_)
  obtain ⟨rfl, rfl⟩ := hw
  have hG_2 : wk_G σ ((wk_soulToil (wk_note σ 60) k n).2) 2 := hG_1.trans (wk_g_soulToil (wk_note σ 60) k n)
  refine lv_lstore_n (lv' := [(3, .long ((wk_soulToil (wk_note σ 60) k n).1)), (0, .ref (am 0)), (1, .int (nI k)), (2, .int n)]) hx hb dX12_cookToils_12 rfl hl (by decide) rfl (fun ls hl => ?_)
  refine lv_aload_n hx hb dX12_cookToils_13 rfl (lv_at hl 1 rfl) ?_
  refine lv_iload_n hx hb dX12_cookToils_14 rfl (lv_at hl 2 rfl) ?_
  refine lv_iload_n hx hb dX12_cookToils_15 rfl (lv_at hl 3 rfl) ?_
  refine lv_iconst (v := 2) hx hb dX12_cookToils_16 (by decide) ?_
  refine lv_idiv hx hb dX12_cookToils_17 (by decide) ?_
  refine lv_ineg hx hb dX12_cookToils_18 ?_
  refine wk_kV hI hA (va_runV (As := [.int (nI k), .int (-(n / 2))]) (rest := []) ⟨hx, hb, hml, hown, hts⟩ (c_X12_tire l D cI cJ cS am ((wk_soulToil (wk_note σ 60) k n).2) k (-(n / 2)) (hG_2.V hV) (hG_2.lt hk) _) (wk_cwV 2 hts wk_in_M mw_588 mw_590 mw_11 mw_45 mw_591 hdX12_tire ⟨(Nat.le_of_ble_eq_true rfl), (Nat.le_of_ble_eq_true rfl)⟩) (wk_preV hN hK hI (ci := 11) rfl wm_e0) rfl rfl hl.1 rfl (lv_room (Nat.le_of_ble_eq_true rfl)) dX12_cookToils_19 ⟨(Nat.le_of_ble_eq_true rfl), (Nat.le_of_ble_eq_true rfl)⟩) (fun u H locs hw hI => ?_)
  obtain rfl := hw
  have hG_3 : wk_G σ (wk_tire ((wk_soulToil (wk_note σ 60) k n).2) k (-(n / 2))) 2 := hG_2.trans (wk_g_tire ((wk_soulToil (wk_note σ 60) k n).2) k (-(n / 2)))
  refine lv_lload_n hx hb dX12_cookToils_22 rfl (lv_at hl 0 rfl) ?_
  exact wk_rl (wk_tire ((wk_soulToil (wk_note σ 60) k n).2) k (-(n / 2))) hx hb hr hlk hK hI rfl (wk_post (by first | rfl | (simp only [wk_cookToil, wk_cookToil1]; done) | (simp only [wk_cookToil, wk_cookToil1]; rfl))) dX12_cookToils_23
set_option maxHeartbeats 4000000 in
set_option maxRecDepth 100000 in
theorem c_X12_handIsPaid (l : Launch) (D : va_G) (cI cJ cS : ClassId) (am : Nat → Nat) (σ : wk_St) (k : Nat) (n : Int32) (hV : wk_V σ) (hk : k < wk_n σ) (hc : wk_nt σ + 1 < 2147483648) : wk_Cl l D (wk_tys cI cJ cS) yX12_handIsPaid (wk_M yX12_handIsPaid cX12_handIsPaid 3 (some .long)) ({ frames := 1, cells := 0, slots := 0, locals := 21 }) [.ref (am 0), .int (nI k), .int n] (wm_W cI cJ am σ) (wm_W cI cJ am) (fun r0 u0 => r0 = (wk_handPay σ k n).1 ∧ u0 = (wk_handPay σ k n).2) := by
  intro sz
  refine Met.ofW (cc := cX12_handIsPaid) (maxL := 3) (ret := (some .long)) (by decide) rfl ?_
  intro p e s m args below meth c s₁ B hml hv
  obtain ⟨rfl, hsz, hP, hK, hD0, hN⟩ := hv
  have hx := B.exec
  have hb := B.bytes
  have hr := B.returns
  have hts := atoms_spec (ws := wk_M yX12_handIsPaid cX12_handIsPaid 3 (some .long)) B.pre
  have hown : s.vm.findClass RX12 = some m.cls := findClass_of_methodNamed B.named
  have hlk := B.notSynchronized
  subst hsz
  have hI : wk_I D (va_A (wm_W cI cJ am σ) s.heap.size) s.heap s.heap [] (wm_W cI cJ am σ) := ⟨hP, hD0.self, va_S.rf⟩
  have hA : ∀ q : Nat, s.heap.size ≤ q → (va_A (wm_W cI cJ am σ) s.heap.size) q := fun q h => Or.inr h
  clear hP hD0
  generalize va_A (wm_W cI cJ am σ) s.heap.size = A at hI hA ⊢
  have hl := lv_entry ([.ref (am 0), .int (nI k), .int n]) (n := 3) (Nat.le_of_ble_eq_true rfl)
  rw [lg_entry_eq]
  generalize (lg_sl ([.ref (am 0), .int (nI k), .int n]) ++ List.replicate (3 - (lg_sl ([.ref (am 0), .int (nI k), .int n])).length) Slot.unset).toArray = ls at hl ⊢
  have hl : lv_has ls 3 [(0, .ref (am 0)), (1, .int (nI k)), (2, .int n)] := hl
  have hk12 : k < 12 := by have hq := hV.1; omega
  refine lv_aload_n hx hb dX12_handIsPaid_0 rfl (lv_at hl 0 rfl) ?_
  refine lv_iconst (v := 1) hx hb dX12_handIsPaid_1 (by decide) ?_
  refine wk_kV hI hA (va_runV (As := [.int 1]) (rest := []) ⟨hx, hb, hml, hown, hts⟩ (c_X12_mark l D cI cJ cS am σ 1 (by have hq12 := hV.1; omega) _) (wk_cwV 1 hts wk_in_M mw_584 mw_586 mw_10 mw_45 mw_587 hdX12_mark ⟨(Nat.le_of_ble_eq_true rfl), (Nat.le_of_ble_eq_true rfl)⟩) (wk_preV hN hK hI (ci := 11) rfl wm_e0) rfl rfl hl.1 rfl (lv_room (Nat.le_of_ble_eq_true rfl)) dX12_handIsPaid_2 ⟨(Nat.le_of_ble_eq_true rfl), (Nat.le_of_ble_eq_true rfl)⟩) (fun u H locs hw hI => ?_)
  obtain rfl := hw
  have hG_1 : wk_G σ (wk_note σ 1) 1 := wk_g_note σ 1
  refine lv_iload_n hx hb dX12_handIsPaid_5 rfl (lv_at hl 2 rfl) ?_
  refine lv_i2l hx hb dX12_handIsPaid_6 rfl ?_
  refine lv_iconst (v := 5) hx hb dX12_handIsPaid_7 (by decide) ?_
  refine lv_aload_n hx hb dX12_handIsPaid_8 rfl (lv_at hl 0 rfl) ?_
  refine wk_get (v := .ref (am 2)) hx hb hts (fun w h => wk_in_M w (lay_X12 w h)) hown hK hI (0) wm_e0 rfl 2 (by decide) (hts _ (wk_in_M _ mw_496)) rfl rfl dX12_handIsPaid_9 ?_
  refine lv_iload_n hx hb dX12_handIsPaid_12 rfl (lv_at hl 1 rfl) ?_
  refine wk_iald (v := (wk_sk (wk_note σ 1) k)) (j := k) hx hb hK hI 2 0 wm_e2 rfl rfl (by have hq12 := hV.1; omega) (by decide) rfl dX12_handIsPaid_13 ?_
  refine lv_bipush (v := 10) hx hb dX12_handIsPaid_14 (by decide) ?_
  refine lv_idiv hx hb dX12_handIsPaid_16 (by decide) ?_
  refine lv_iadd hx hb dX12_handIsPaid_17 ?_
  refine lv_i2l hx hb dX12_handIsPaid_18 rfl ?_
  refine lv_lmul hx hb dX12_handIsPaid_19 ?_
  exact wk_rl (wk_note σ 1) hx hb hr hlk hK hI rfl (wk_post (by first | rfl | (simp only [wk_handPay, wk_handPay1]; done) | (simp only [wk_handPay, wk_handPay1]; rfl))) dX12_handIsPaid_20
set_option maxHeartbeats 4000000 in
set_option maxRecDepth 100000 in
theorem c_X12_soulClimbs (l : Launch) (D : va_G) (cI cJ cS : ClassId) (am : Nat → Nat) (σ : wk_St) (k : Nat) (n : Int32) (hV : wk_V σ) (hk : k < wk_n σ) (hc : wk_nt σ + 1 < 2147483648) (hn9 : wa_B n 10001) : wk_Cl l D (wk_tys cI cJ cS) yX12_soulClimbs (wk_M yX12_soulClimbs cX12_soulClimbs 3 (some .long)) ({ frames := 1, cells := 0, slots := 0, locals := 23 }) [.ref (am 0), .int (nI k), .int n] (wm_W cI cJ am σ) (wm_W cI cJ am) (fun r0 u0 => r0 = (wk_soulClimb σ k n).1.toInt64 ∧ u0 = (wk_soulClimb σ k n).2) := by
  intro sz
  refine Met.ofW (cc := cX12_soulClimbs) (maxL := 3) (ret := (some .long)) (by decide) rfl ?_
  intro p e s m args below meth c s₁ B hml hv
  obtain ⟨rfl, hsz, hP, hK, hD0, hN⟩ := hv
  have hx := B.exec
  have hb := B.bytes
  have hr := B.returns
  have hts := atoms_spec (ws := wk_M yX12_soulClimbs cX12_soulClimbs 3 (some .long)) B.pre
  have hown : s.vm.findClass RX12 = some m.cls := findClass_of_methodNamed B.named
  have hlk := B.notSynchronized
  subst hsz
  have hI : wk_I D (va_A (wm_W cI cJ am σ) s.heap.size) s.heap s.heap [] (wm_W cI cJ am σ) := ⟨hP, hD0.self, va_S.rf⟩
  have hA : ∀ q : Nat, s.heap.size ≤ q → (va_A (wm_W cI cJ am σ) s.heap.size) q := fun q h => Or.inr h
  clear hP hD0
  generalize va_A (wm_W cI cJ am σ) s.heap.size = A at hI hA ⊢
  have hl := lv_entry ([.ref (am 0), .int (nI k), .int n]) (n := 3) (Nat.le_of_ble_eq_true rfl)
  rw [lg_entry_eq]
  generalize (lg_sl ([.ref (am 0), .int (nI k), .int n]) ++ List.replicate (3 - (lg_sl ([.ref (am 0), .int (nI k), .int n])).length) Slot.unset).toArray = ls at hl ⊢
  have hl : lv_has ls 3 [(0, .ref (am 0)), (1, .int (nI k)), (2, .int n)] := hl
  have hk12 : k < 12 := by have hq := hV.1; omega
  refine lv_aload_n hx hb dX12_soulClimbs_0 rfl (lv_at hl 0 rfl) ?_
  refine lv_bipush (v := 82) hx hb dX12_soulClimbs_1 (by decide) ?_
  refine wk_kV hI hA (va_runV (As := [.int 82]) (rest := []) ⟨hx, hb, hml, hown, hts⟩ (c_X12_mark l D cI cJ cS am σ 82 (by have hq12 := hV.1; omega) _) (wk_cwV 1 hts wk_in_M mw_584 mw_586 mw_10 mw_45 mw_587 hdX12_mark ⟨(Nat.le_of_ble_eq_true rfl), (Nat.le_of_ble_eq_true rfl)⟩) (wk_preV hN hK hI (ci := 11) rfl wm_e0) rfl rfl hl.1 rfl (lv_room (Nat.le_of_ble_eq_true rfl)) dX12_soulClimbs_3 ⟨(Nat.le_of_ble_eq_true rfl), (Nat.le_of_ble_eq_true rfl)⟩) (fun u H locs hw hI => ?_)
  obtain rfl := hw
  have hG_1 : wk_G σ (wk_note σ 82) 1 := wk_g_note σ 82
  refine lv_iload_n hx hb dX12_soulClimbs_6 rfl (lv_at hl 2 rfl) ?_
  refine lv_bipush (v := 10) hx hb dX12_soulClimbs_7 (by decide) ?_
  refine lv_aload_n hx hb dX12_soulClimbs_9 rfl (lv_at hl 0 rfl) ?_
  refine wk_get (v := .ref (am 2)) hx hb hts (fun w h => wk_in_M w (lay_X12 w h)) hown hK hI (0) wm_e0 rfl 2 (by decide) (hts _ (wk_in_M _ mw_496)) rfl rfl dX12_soulClimbs_10 ?_
  refine lv_iload_n hx hb dX12_soulClimbs_13 rfl (lv_at hl 1 rfl) ?_
  refine wk_iald (v := (wk_sk (wk_note σ 82) k)) (j := k) hx hb hK hI 2 0 wm_e2 rfl rfl (by have hq12 := hV.1; omega) (by decide) rfl dX12_soulClimbs_14 ?_
  refine lv_iadd hx hb dX12_soulClimbs_15 ?_
  refine lv_icmp_le (tgt := 23) hx hb dX12_soulClimbs_16 (by decide) (fun c_2 => ?_) (fun c_2 => ?_)
  · refine lv_aload_n hx hb dX12_soulClimbs_23 rfl (lv_at hl 0 rfl) ?_
    refine lv_iload_n hx hb dX12_soulClimbs_24 rfl (lv_at hl 1 rfl) ?_
    refine lv_iload_n hx hb dX12_soulClimbs_25 rfl (lv_at hl 2 rfl) ?_
    refine wk_kV hI hA (va_runV (As := [.int (nI k), .int n]) (rest := []) ⟨hx, hb, hml, hown, hts⟩ (c_X12_tire l D cI cJ cS am (wk_note σ 82) k n (hG_1.V hV) (hG_1.lt hk) _) (wk_cwV 2 hts wk_in_M mw_588 mw_590 mw_11 mw_45 mw_591 hdX12_tire ⟨(Nat.le_of_ble_eq_true rfl), (Nat.le_of_ble_eq_true rfl)⟩) (wk_preV hN hK hI (ci := 11) rfl wm_e0) rfl rfl hl.1 rfl (lv_room (Nat.le_of_ble_eq_true rfl)) dX12_soulClimbs_26 ⟨(Nat.le_of_ble_eq_true rfl), (Nat.le_of_ble_eq_true rfl)⟩) (fun u H locs hw hI => ?_)
    obtain rfl := hw
    have hG_3 : wk_G σ (wk_tire (wk_note σ 82) k n) 1 := hG_1.trans (wk_g_tire (wk_note σ 82) k n)
    refine lv_ldc2 hx hb hown (hts _ (wk_in_M _ mw_622)) dX12_soulClimbs_29 ?_
    refine lv_iload_n hx hb dX12_soulClimbs_32 rfl (lv_at hl 2 rfl) ?_
    refine lv_i2l hx hb dX12_soulClimbs_33 rfl ?_
    refine lv_lmul hx hb dX12_soulClimbs_34 ?_
    have hE : wk_soulClimb σ k n = (2 * n, wk_tire (wk_note σ 82) k n) := by first | rfl | (simp only [wk_soulClimb, wk_soulClimb1, if_pos c_2]; done) | (simp only [wk_soulClimb, wk_soulClimb1, if_pos c_2]; rfl)
    exact wk_rl (wk_tire (wk_note σ 82) k n) hx hb hr hlk hK hI rfl (wk_postC hE (wa_2n hn9).2.symm) dX12_soulClimbs_35
  · refine lv_ldc2 hx hb hown (hts _ (wk_in_M _ mw_648)) dX12_soulClimbs_19 ?_
    have hE : wk_soulClimb σ k n = (-1, wk_note σ 82) := by first | rfl | (simp only [wk_soulClimb, wk_soulClimb1, if_neg c_2]; done) | (simp only [wk_soulClimb, wk_soulClimb1, if_neg c_2]; rfl)
    exact wk_rl (wk_note σ 82) hx hb hr hlk hK hI rfl (wk_postC hE (by decide)) dX12_soulClimbs_22
set_option maxHeartbeats 4000000 in
set_option maxRecDepth 100000 in
theorem c_X12_sailorClimbs (l : Launch) (D : va_G) (cI cJ cS : ClassId) (am : Nat → Nat) (σ : wk_St) (k : Nat) (n : Int32) (hV : wk_V σ) (hk : k < wk_n σ) (hc : wk_nt σ + 2 < 2147483648) (hn9 : wa_B n 10001) : wk_Cl l D (wk_tys cI cJ cS) yX12_sailorClimbs (wk_M yX12_sailorClimbs cX12_sailorClimbs 3 (some .long)) ({ frames := 2, cells := 0, slots := 0, locals := 45 }) [.ref (am 0), .int (nI k), .int n] (wm_W cI cJ am σ) (wm_W cI cJ am) (fun r0 u0 => r0 = (wk_sailorClimb σ k n).1.toInt64 ∧ u0 = (wk_sailorClimb σ k n).2) := by
  intro sz
  refine Met.ofW (cc := cX12_sailorClimbs) (maxL := 3) (ret := (some .long)) (by decide) rfl ?_
  intro p e s m args below meth c s₁ B hml hv
  obtain ⟨rfl, hsz, hP, hK, hD0, hN⟩ := hv
  have hx := B.exec
  have hb := B.bytes
  have hr := B.returns
  have hts := atoms_spec (ws := wk_M yX12_sailorClimbs cX12_sailorClimbs 3 (some .long)) B.pre
  have hown : s.vm.findClass RX12 = some m.cls := findClass_of_methodNamed B.named
  have hlk := B.notSynchronized
  subst hsz
  have hI : wk_I D (va_A (wm_W cI cJ am σ) s.heap.size) s.heap s.heap [] (wm_W cI cJ am σ) := ⟨hP, hD0.self, va_S.rf⟩
  have hA : ∀ q : Nat, s.heap.size ≤ q → (va_A (wm_W cI cJ am σ) s.heap.size) q := fun q h => Or.inr h
  clear hP hD0
  generalize va_A (wm_W cI cJ am σ) s.heap.size = A at hI hA ⊢
  have hl := lv_entry ([.ref (am 0), .int (nI k), .int n]) (n := 3) (Nat.le_of_ble_eq_true rfl)
  rw [lg_entry_eq]
  generalize (lg_sl ([.ref (am 0), .int (nI k), .int n]) ++ List.replicate (3 - (lg_sl ([.ref (am 0), .int (nI k), .int n])).length) Slot.unset).toArray = ls at hl ⊢
  have hl : lv_has ls 3 [(0, .ref (am 0)), (1, .int (nI k)), (2, .int n)] := hl
  have hk12 : k < 12 := by have hq := hV.1; omega
  refine lv_aload_n hx hb dX12_sailorClimbs_0 rfl (lv_at hl 0 rfl) ?_
  refine lv_bipush (v := 12) hx hb dX12_sailorClimbs_1 (by decide) ?_
  refine wk_kV hI hA (va_runV (As := [.int 12]) (rest := []) ⟨hx, hb, hml, hown, hts⟩ (c_X12_mark l D cI cJ cS am σ 12 (by have hq12 := hV.1; omega) _) (wk_cwV 1 hts wk_in_M mw_584 mw_586 mw_10 mw_45 mw_587 hdX12_mark ⟨(Nat.le_of_ble_eq_true rfl), (Nat.le_of_ble_eq_true rfl)⟩) (wk_preV hN hK hI (ci := 11) rfl wm_e0) rfl rfl hl.1 rfl (lv_room (Nat.le_of_ble_eq_true rfl)) dX12_sailorClimbs_3 ⟨(Nat.le_of_ble_eq_true rfl), (Nat.le_of_ble_eq_true rfl)⟩) (fun u H locs hw hI => ?_)
  obtain rfl := hw
  have hG_1 : wk_G σ (wk_note σ 12) 1 := wk_g_note σ 12
  refine lv_iload_n hx hb dX12_sailorClimbs_6 rfl (lv_at hl 2 rfl) ?_
  refine lv_bipush (v := 30) hx hb dX12_sailorClimbs_7 (by decide) ?_
  refine lv_icmp_le (tgt := 19) hx hb dX12_sailorClimbs_9 (by decide) (fun c_2 => ?_) (fun c_2 => ?_)
  · refine lv_aload_n hx hb dX12_sailorClimbs_19 rfl (lv_at hl 0 rfl) ?_
    refine lv_iload_n hx hb dX12_sailorClimbs_20 rfl (lv_at hl 1 rfl) ?_
    refine lv_iload_n hx hb dX12_sailorClimbs_21 rfl (lv_at hl 2 rfl) ?_
    refine lv_iconst (v := 2) hx hb dX12_sailorClimbs_22 (by decide) ?_
    refine lv_idiv hx hb dX12_sailorClimbs_23 (by decide) ?_
    refine wk_kV hI hA (va_runV (As := [.int (nI k), .int (n / 2)]) (rest := []) ⟨hx, hb, hml, hown, hts⟩ (c_X12_tire l D cI cJ cS am (wk_note σ 12) k (n / 2) (hG_1.V hV) (hG_1.lt hk) _) (wk_cwV 2 hts wk_in_M mw_588 mw_590 mw_11 mw_45 mw_591 hdX12_tire ⟨(Nat.le_of_ble_eq_true rfl), (Nat.le_of_ble_eq_true rfl)⟩) (wk_preV hN hK hI (ci := 11) rfl wm_e0) rfl rfl hl.1 rfl (lv_room (Nat.le_of_ble_eq_true rfl)) dX12_sailorClimbs_24 ⟨(Nat.le_of_ble_eq_true rfl), (Nat.le_of_ble_eq_true rfl)⟩) (fun u H locs hw hI => ?_)
    obtain rfl := hw
    have hG_3 : wk_G σ (wk_tire (wk_note σ 12) k (n / 2)) 1 := hG_1.trans (wk_g_tire (wk_note σ 12) k (n / 2))
    refine lv_ldc2 hx hb hown (hts _ (wk_in_M _ mw_596)) dX12_sailorClimbs_27 ?_
    refine lv_iload_n hx hb dX12_sailorClimbs_30 rfl (lv_at hl 2 rfl) ?_
    refine lv_i2l hx hb dX12_sailorClimbs_31 rfl ?_
    refine lv_lmul hx hb dX12_sailorClimbs_32 ?_
    have hE : wk_sailorClimb σ k n = (3 * n, wk_tire (wk_note σ 12) k (n / 2)) := by first | rfl | (simp only [wk_sailorClimb, wk_sailorClimb1, if_pos c_2]; done) | (simp only [wk_sailorClimb, wk_sailorClimb1, if_pos c_2]; rfl)
    exact wk_rl (wk_tire (wk_note σ 12) k (n / 2)) hx hb hr hlk hK hI rfl (wk_postC hE (wa_3n hn9).2.symm) dX12_sailorClimbs_33
  · refine lv_aload_n hx hb dX12_sailorClimbs_12 rfl (lv_at hl 0 rfl) ?_
    refine lv_iload_n hx hb dX12_sailorClimbs_13 rfl (lv_at hl 1 rfl) ?_
    refine lv_iload_n hx hb dX12_sailorClimbs_14 rfl (lv_at hl 2 rfl) ?_
    refine wk_kL hI hA (va_runV (As := [.int (nI k), .int n]) (rest := []) ⟨hx, hb, hml, hown, hts⟩ (c_X12_soulClimbs l D cI cJ cS am (wk_note σ 12) k n (hG_1.V hV) (hG_1.lt hk) (by have hq := hG_1.nt; have hq12 := hV.1; omega) hn9 _) (wk_cwV 2 hts wk_in_M mw_644 mw_646 mw_24 mw_45 mw_647 hdX12_soulClimbs ⟨(Nat.le_of_ble_eq_true rfl), (Nat.le_of_ble_eq_true rfl)⟩) (wk_preV hN hK hI (ci := 11) rfl wm_e0) rfl rfl hl.1 rfl (lv_room (Nat.le_of_ble_eq_true rfl)) dX12_sailorClimbs_15 ⟨(Nat.le_of_ble_eq_true rfl), (Nat.le_of_ble_eq_true rfl)⟩) (fun r u H locs hw hI => ?_)
    obtain ⟨rfl, rfl⟩ := hw
    have hG_4 : wk_G σ ((wk_soulClimb (wk_note σ 12) k n).2) 2 := hG_1.trans (wk_g_soulClimb (wk_note σ 12) k n)
    have hE : wk_sailorClimb σ k n = ((wk_soulClimb (wk_note σ 12) k n).1, (wk_soulClimb (wk_note σ 12) k n).2) := by first | rfl | (simp only [wk_sailorClimb, wk_sailorClimb1, if_neg c_2]; done) | (simp only [wk_sailorClimb, wk_sailorClimb1, if_neg c_2]; rfl)
    exact wk_rl ((wk_soulClimb (wk_note σ 12) k n).2) hx hb hr hlk hK hI rfl (wk_postC hE rfl) dX12_sailorClimbs_18
set_option maxHeartbeats 4000000 in
set_option maxRecDepth 100000 in
theorem c_X12_mateClimbs (l : Launch) (D : va_G) (cI cJ cS : ClassId) (am : Nat → Nat) (σ : wk_St) (k : Nat) (n : Int32) (hV : wk_V σ) (hk : k < wk_n σ) (hc : wk_nt σ + 3 < 2147483648) (hn9 : wa_B n 10001) : wk_Cl l D (wk_tys cI cJ cS) yX12_mateClimbs (wk_M yX12_mateClimbs cX12_mateClimbs 5 (some .long)) ({ frames := 3, cells := 0, slots := 0, locals := 67 }) [.ref (am 0), .int (nI k), .int n] (wm_W cI cJ am σ) (wm_W cI cJ am) (fun r0 u0 => r0 = (wk_mateClimb σ k n).1.toInt64 ∧ u0 = (wk_mateClimb σ k n).2) := by
  intro sz
  refine Met.ofW (cc := cX12_mateClimbs) (maxL := 5) (ret := (some .long)) (by decide) rfl ?_
  intro p e s m args below meth c s₁ B hml hv
  obtain ⟨rfl, hsz, hP, hK, hD0, hN⟩ := hv
  have hx := B.exec
  have hb := B.bytes
  have hr := B.returns
  have hts := atoms_spec (ws := wk_M yX12_mateClimbs cX12_mateClimbs 5 (some .long)) B.pre
  have hown : s.vm.findClass RX12 = some m.cls := findClass_of_methodNamed B.named
  have hlk := B.notSynchronized
  subst hsz
  have hI : wk_I D (va_A (wm_W cI cJ am σ) s.heap.size) s.heap s.heap [] (wm_W cI cJ am σ) := ⟨hP, hD0.self, va_S.rf⟩
  have hA : ∀ q : Nat, s.heap.size ≤ q → (va_A (wm_W cI cJ am σ) s.heap.size) q := fun q h => Or.inr h
  clear hP hD0
  generalize va_A (wm_W cI cJ am σ) s.heap.size = A at hI hA ⊢
  have hl := lv_entry ([.ref (am 0), .int (nI k), .int n]) (n := 5) (Nat.le_of_ble_eq_true rfl)
  rw [lg_entry_eq]
  generalize (lg_sl ([.ref (am 0), .int (nI k), .int n]) ++ List.replicate (5 - (lg_sl ([.ref (am 0), .int (nI k), .int n])).length) Slot.unset).toArray = ls at hl ⊢
  have hl : lv_has ls 5 [(0, .ref (am 0)), (1, .int (nI k)), (2, .int n)] := hl
  have hk12 : k < 12 := by have hq := hV.1; omega
  refine lv_aload_n hx hb dX12_mateClimbs_0 rfl (lv_at hl 0 rfl) ?_
  refine lv_bipush (v := 42) hx hb dX12_mateClimbs_1 (by decide) ?_
  refine wk_kV hI hA (va_runV (As := [.int 42]) (rest := []) ⟨hx, hb, hml, hown, hts⟩ (c_X12_mark l D cI cJ cS am σ 42 (by have hq12 := hV.1; omega) _) (wk_cwV 1 hts wk_in_M mw_584 mw_586 mw_10 mw_45 mw_587 hdX12_mark ⟨(Nat.le_of_ble_eq_true rfl), (Nat.le_of_ble_eq_true rfl)⟩) (wk_preV hN hK hI (ci := 11) rfl wm_e0) rfl rfl hl.1 rfl (lv_room (Nat.le_of_ble_eq_true rfl)) dX12_mateClimbs_3 ⟨(Nat.le_of_ble_eq_true rfl), (Nat.le_of_ble_eq_true rfl)⟩) (fun u H locs hw hI => ?_)
  obtain rfl := hw
  have hG_1 : wk_G σ (wk_note σ 42) 1 := wk_g_note σ 42
  refine lv_aload_n hx hb dX12_mateClimbs_6 rfl (lv_at hl 0 rfl) ?_
  refine lv_iload_n hx hb dX12_mateClimbs_7 rfl (lv_at hl 1 rfl) ?_
  refine lv_iload_n hx hb dX12_mateClimbs_8 rfl (lv_at hl 2 rfl) ?_
  refine wk_kL hI hA (va_runV (As := [.int (nI k), .int n]) (rest := []) ⟨hx, hb, hml, hown, hts⟩ (c_X12_sailorClimbs l D cI cJ cS am (wk_note σ 42) k n (hG_1.V hV) (hG_1.lt hk) (by have hq := hG_1.nt; have hq12 := hV.1; omega) hn9 _) (wk_cwV 2 hts wk_in_M mw_640 mw_642 mw_23 mw_45 mw_643 hdX12_sailorClimbs ⟨(Nat.le_of_ble_eq_true rfl), (Nat.le_of_ble_eq_true rfl)⟩) (wk_preV hN hK hI (ci := 11) rfl wm_e0) rfl rfl hl.1 rfl (lv_room (Nat.le_of_ble_eq_true rfl)) dX12_mateClimbs_9 ⟨(Nat.le_of_ble_eq_true rfl), (Nat.le_of_ble_eq_true rfl)⟩) (fun r u H locs hw hI => ?_)
  obtain ⟨rfl, rfl⟩ := hw
  have hG_2 : wk_G σ ((wk_sailorClimb (wk_note σ 42) k n).2) 3 := hG_1.trans (wk_g_sailorClimb (wk_note σ 42) k n)
  refine lv_lstore_n (lv' := [(3, .long ((wk_sailorClimb (wk_note σ 42) k n).1.toInt64)), (0, .ref (am 0)), (1, .int (nI k)), (2, .int n)]) hx hb dX12_mateClimbs_12 rfl hl (by decide) rfl (fun ls hl => ?_)
  refine lv_lload_n hx hb dX12_mateClimbs_13 rfl (lv_at hl 0 rfl) ?_
  refine lv_ldc2 hx hb hown (hts _ (wk_in_M _ mw_648)) dX12_mateClimbs_14 ?_
  refine W.lcmp hx hb dX12_mateClimbs_17 ?_
  refine lv_if_ne (tgt := 27) hx hb dX12_mateClimbs_18 (by decide) (fun c_3 => ?_) (fun c_3 => ?_)
  · have c_3 := fun hq => c_3 ((lg_cmp_eq _ _).mpr hq)
    have hM1 : ¬ (wk_sailorClimb (wk_note σ 42) k n).1 = -1 := fun hq => c_3 (by rw [hq]; decide)
    refine lv_lload_n hx hb dX12_mateClimbs_27 rfl (lv_at hl 0 rfl) ?_
    refine lv_lconst (v := 1) hx hb dX12_mateClimbs_28 (by decide) ?_
    refine lv_ladd hx hb dX12_mateClimbs_29 ?_
    have hE : wk_mateClimb σ k n = ((wk_sailorClimb (wk_note σ 42) k n).1 + 1, (wk_sailorClimb (wk_note σ 42) k n).2) := by first | rfl | (simp only [wk_mateClimb, wk_mateClimb1, if_neg hM1]; done) | (simp only [wk_mateClimb, wk_mateClimb1, if_neg hM1]; rfl)
    exact wk_rl ((wk_sailorClimb (wk_note σ 42) k n).2) hx hb hr hlk hK hI rfl (wk_postC hE (wa_mate1 hn9 _ _).symm) dX12_mateClimbs_30
  · have c_3 := (lg_cmp_eq _ _).mp c_3
    have hM1 : (wk_sailorClimb (wk_note σ 42) k n).1 = -1 := wa_inj (c_3.trans (by decide))
    refine lv_ldc2 hx hb hown (hts _ (wk_in_M _ mw_648)) dX12_mateClimbs_21 ?_
    refine lv_goto (tgt := 30) hx hb dX12_mateClimbs_24 (by decide) ?_
    have hE : wk_mateClimb σ k n = (-1, (wk_sailorClimb (wk_note σ 42) k n).2) := by first | rfl | (simp only [wk_mateClimb, wk_mateClimb1, if_pos hM1]; done) | (simp only [wk_mateClimb, wk_mateClimb1, if_pos hM1]; rfl)
    exact wk_rl ((wk_sailorClimb (wk_note σ 42) k n).2) hx hb hr hlk hK hI rfl (wk_postC hE (by decide)) dX12_mateClimbs_30
set_option maxHeartbeats 4000000 in
set_option maxRecDepth 100000 in
theorem c_X12_surgeonClimbs (l : Launch) (D : va_G) (cI cJ cS : ClassId) (am : Nat → Nat) (σ : wk_St) (k : Nat) (n : Int32) (hV : wk_V σ) (hk : k < wk_n σ) (hc : wk_nt σ + 2 < 2147483648) (hn9 : wa_B n 10001) : wk_Cl l D (wk_tys cI cJ cS) yX12_surgeonClimbs (wk_M yX12_surgeonClimbs cX12_surgeonClimbs 3 (some .long)) ({ frames := 2, cells := 0, slots := 0, locals := 45 }) [.ref (am 0), .int (nI k), .int n] (wm_W cI cJ am σ) (wm_W cI cJ am) (fun r0 u0 => r0 = (wk_surgClimb σ k n).1.toInt64 ∧ u0 = (wk_surgClimb σ k n).2) := by
  intro sz
  refine Met.ofW (cc := cX12_surgeonClimbs) (maxL := 3) (ret := (some .long)) (by decide) rfl ?_
  intro p e s m args below meth c s₁ B hml hv
  obtain ⟨rfl, hsz, hP, hK, hD0, hN⟩ := hv
  have hx := B.exec
  have hb := B.bytes
  have hr := B.returns
  have hts := atoms_spec (ws := wk_M yX12_surgeonClimbs cX12_surgeonClimbs 3 (some .long)) B.pre
  have hown : s.vm.findClass RX12 = some m.cls := findClass_of_methodNamed B.named
  have hlk := B.notSynchronized
  subst hsz
  have hI : wk_I D (va_A (wm_W cI cJ am σ) s.heap.size) s.heap s.heap [] (wm_W cI cJ am σ) := ⟨hP, hD0.self, va_S.rf⟩
  have hA : ∀ q : Nat, s.heap.size ≤ q → (va_A (wm_W cI cJ am σ) s.heap.size) q := fun q h => Or.inr h
  clear hP hD0
  generalize va_A (wm_W cI cJ am σ) s.heap.size = A at hI hA ⊢
  have hl := lv_entry ([.ref (am 0), .int (nI k), .int n]) (n := 3) (Nat.le_of_ble_eq_true rfl)
  rw [lg_entry_eq]
  generalize (lg_sl ([.ref (am 0), .int (nI k), .int n]) ++ List.replicate (3 - (lg_sl ([.ref (am 0), .int (nI k), .int n])).length) Slot.unset).toArray = ls at hl ⊢
  have hl : lv_has ls 3 [(0, .ref (am 0)), (1, .int (nI k)), (2, .int n)] := hl
  have hk12 : k < 12 := by have hq := hV.1; omega
  refine lv_aload_n hx hb dX12_surgeonClimbs_0 rfl (lv_at hl 0 rfl) ?_
  refine lv_bipush (v := 72) hx hb dX12_surgeonClimbs_1 (by decide) ?_
  refine wk_kV hI hA (va_runV (As := [.int 72]) (rest := []) ⟨hx, hb, hml, hown, hts⟩ (c_X12_mark l D cI cJ cS am σ 72 (by have hq12 := hV.1; omega) _) (wk_cwV 1 hts wk_in_M mw_584 mw_586 mw_10 mw_45 mw_587 hdX12_mark ⟨(Nat.le_of_ble_eq_true rfl), (Nat.le_of_ble_eq_true rfl)⟩) (wk_preV hN hK hI (ci := 11) rfl wm_e0) rfl rfl hl.1 rfl (lv_room (Nat.le_of_ble_eq_true rfl)) dX12_surgeonClimbs_3 ⟨(Nat.le_of_ble_eq_true rfl), (Nat.le_of_ble_eq_true rfl)⟩) (fun u H locs hw hI => ?_)
  obtain rfl := hw
  have hG_1 : wk_G σ (wk_note σ 72) 1 := wk_g_note σ 72
  refine lv_aload_n hx hb dX12_surgeonClimbs_6 rfl (lv_at hl 0 rfl) ?_
  refine lv_iload_n hx hb dX12_surgeonClimbs_7 rfl (lv_at hl 1 rfl) ?_
  refine lv_iload_n hx hb dX12_surgeonClimbs_8 rfl (lv_at hl 2 rfl) ?_
  refine lv_iconst (v := 2) hx hb dX12_surgeonClimbs_9 (by decide) ?_
  refine lv_idiv hx hb dX12_surgeonClimbs_10 (by decide) ?_
  refine wk_kL hI hA (va_runV (As := [.int (nI k), .int (n / 2)]) (rest := []) ⟨hx, hb, hml, hown, hts⟩ (c_X12_soulClimbs l D cI cJ cS am (wk_note σ 72) k (n / 2) (hG_1.V hV) (hG_1.lt hk) (by have hq := hG_1.nt; have hq12 := hV.1; omega) (wa_half hn9) _) (wk_cwV 2 hts wk_in_M mw_644 mw_646 mw_24 mw_45 mw_647 hdX12_soulClimbs ⟨(Nat.le_of_ble_eq_true rfl), (Nat.le_of_ble_eq_true rfl)⟩) (wk_preV hN hK hI (ci := 11) rfl wm_e0) rfl rfl hl.1 rfl (lv_room (Nat.le_of_ble_eq_true rfl)) dX12_surgeonClimbs_11 ⟨(Nat.le_of_ble_eq_true rfl), (Nat.le_of_ble_eq_true rfl)⟩) (fun r u H locs hw hI => ?_)
  obtain ⟨rfl, rfl⟩ := hw
  have hG_2 : wk_G σ ((wk_soulClimb (wk_note σ 72) k (n / 2)).2) 2 := hG_1.trans (wk_g_soulClimb (wk_note σ 72) k (n / 2))
  have hE : wk_surgClimb σ k n = ((wk_soulClimb (wk_note σ 72) k (n / 2)).1, (wk_soulClimb (wk_note σ 72) k (n / 2)).2) := by first | rfl | (simp only [wk_surgClimb]; done) | (simp only [wk_surgClimb]; rfl)
  exact wk_rl ((wk_soulClimb (wk_note σ 72) k (n / 2)).2) hx hb hr hlk hK hI rfl (wk_postC hE rfl) dX12_surgeonClimbs_14
set_option maxHeartbeats 4000000 in
set_option maxRecDepth 100000 in
theorem c_X12_soulHeeds (l : Launch) (D : va_G) (cI cJ cS : ClassId) (am : Nat → Nat) (σ : wk_St) (k : Nat) (n : Int32) (hV : wk_V σ) (hk : k < wk_n σ) (hc : wk_nt σ + 1 < 2147483648) (hn9 : wa_B n 10001) : wk_Cl l D (wk_tys cI cJ cS) yX12_soulHeeds (wk_M yX12_soulHeeds cX12_soulHeeds 3 (some .long)) ({ frames := 1, cells := 0, slots := 0, locals := 21 }) [.ref (am 0), .int (nI k), .int n] (wm_W cI cJ am σ) (wm_W cI cJ am) (fun r0 u0 => r0 = (wk_soulHeed σ k n).1.toInt64 ∧ u0 = (wk_soulHeed σ k n).2) := by
  intro sz
  refine Met.ofW (cc := cX12_soulHeeds) (maxL := 3) (ret := (some .long)) (by decide) rfl ?_
  intro p e s m args below meth c s₁ B hml hv
  obtain ⟨rfl, hsz, hP, hK, hD0, hN⟩ := hv
  have hx := B.exec
  have hb := B.bytes
  have hr := B.returns
  have hts := atoms_spec (ws := wk_M yX12_soulHeeds cX12_soulHeeds 3 (some .long)) B.pre
  have hown : s.vm.findClass RX12 = some m.cls := findClass_of_methodNamed B.named
  have hlk := B.notSynchronized
  subst hsz
  have hI : wk_I D (va_A (wm_W cI cJ am σ) s.heap.size) s.heap s.heap [] (wm_W cI cJ am σ) := ⟨hP, hD0.self, va_S.rf⟩
  have hA : ∀ q : Nat, s.heap.size ≤ q → (va_A (wm_W cI cJ am σ) s.heap.size) q := fun q h => Or.inr h
  clear hP hD0
  generalize va_A (wm_W cI cJ am σ) s.heap.size = A at hI hA ⊢
  have hl := lv_entry ([.ref (am 0), .int (nI k), .int n]) (n := 3) (Nat.le_of_ble_eq_true rfl)
  rw [lg_entry_eq]
  generalize (lg_sl ([.ref (am 0), .int (nI k), .int n]) ++ List.replicate (3 - (lg_sl ([.ref (am 0), .int (nI k), .int n])).length) Slot.unset).toArray = ls at hl ⊢
  have hl : lv_has ls 3 [(0, .ref (am 0)), (1, .int (nI k)), (2, .int n)] := hl
  have hk12 : k < 12 := by have hq := hV.1; omega
  refine lv_aload_n hx hb dX12_soulHeeds_0 rfl (lv_at hl 0 rfl) ?_
  refine lv_bipush (v := 83) hx hb dX12_soulHeeds_1 (by decide) ?_
  refine wk_kV hI hA (va_runV (As := [.int 83]) (rest := []) ⟨hx, hb, hml, hown, hts⟩ (c_X12_mark l D cI cJ cS am σ 83 (by have hq12 := hV.1; omega) _) (wk_cwV 1 hts wk_in_M mw_584 mw_586 mw_10 mw_45 mw_587 hdX12_mark ⟨(Nat.le_of_ble_eq_true rfl), (Nat.le_of_ble_eq_true rfl)⟩) (wk_preV hN hK hI (ci := 11) rfl wm_e0) rfl rfl hl.1 rfl (lv_room (Nat.le_of_ble_eq_true rfl)) dX12_soulHeeds_3 ⟨(Nat.le_of_ble_eq_true rfl), (Nat.le_of_ble_eq_true rfl)⟩) (fun u H locs hw hI => ?_)
  obtain rfl := hw
  have hG_1 : wk_G σ (wk_note σ 83) 1 := wk_g_note σ 83
  refine lv_ldc2 hx hb hown (hts _ (wk_in_M _ mw_665)) dX12_soulHeeds_6 ?_
  refine lv_iload_n hx hb dX12_soulHeeds_9 rfl (lv_at hl 2 rfl) ?_
  refine lv_i2l hx hb dX12_soulHeeds_10 rfl ?_
  refine lv_lmul hx hb dX12_soulHeeds_11 ?_
  refine lv_iload_n hx hb dX12_soulHeeds_12 rfl (lv_at hl 1 rfl) ?_
  refine lv_i2l hx hb dX12_soulHeeds_13 rfl ?_
  refine lv_ladd hx hb dX12_soulHeeds_14 ?_
  refine lv_ldc2 hx hb hown (hts _ (wk_in_M _ mw_666)) dX12_soulHeeds_15 ?_
  refine lv_lrem hx hb dX12_soulHeeds_18 (by decide) ?_
  exact wk_rl (wk_note σ 83) hx hb hr hlk hK hI rfl ⟨(wa_soulHeed hn9 hk12 σ).2.2.symm, rfl⟩ dX12_soulHeeds_19
set_option maxHeartbeats 4000000 in
set_option maxRecDepth 100000 in
theorem c_X12_topmanHeeds (l : Launch) (D : va_G) (cI cJ cS : ClassId) (am : Nat → Nat) (σ : wk_St) (k : Nat) (n : Int32) (hV : wk_V σ) (hk : k < wk_n σ) (hc : wk_nt σ + 2 < 2147483648) (hn9 : wa_B n 10001) : wk_Cl l D (wk_tys cI cJ cS) yX12_topmanHeeds (wk_M yX12_topmanHeeds cX12_topmanHeeds 3 (some .long)) ({ frames := 2, cells := 0, slots := 0, locals := 43 }) [.ref (am 0), .int (nI k), .int n] (wm_W cI cJ am σ) (wm_W cI cJ am) (fun r0 u0 => r0 = (wk_topHeed σ k n).1.toInt64 ∧ u0 = (wk_topHeed σ k n).2) := by
  intro sz
  refine Met.ofW (cc := cX12_topmanHeeds) (maxL := 3) (ret := (some .long)) (by decide) rfl ?_
  intro p e s m args below meth c s₁ B hml hv
  obtain ⟨rfl, hsz, hP, hK, hD0, hN⟩ := hv
  have hx := B.exec
  have hb := B.bytes
  have hr := B.returns
  have hts := atoms_spec (ws := wk_M yX12_topmanHeeds cX12_topmanHeeds 3 (some .long)) B.pre
  have hown : s.vm.findClass RX12 = some m.cls := findClass_of_methodNamed B.named
  have hlk := B.notSynchronized
  subst hsz
  have hI : wk_I D (va_A (wm_W cI cJ am σ) s.heap.size) s.heap s.heap [] (wm_W cI cJ am σ) := ⟨hP, hD0.self, va_S.rf⟩
  have hA : ∀ q : Nat, s.heap.size ≤ q → (va_A (wm_W cI cJ am σ) s.heap.size) q := fun q h => Or.inr h
  clear hP hD0
  generalize va_A (wm_W cI cJ am σ) s.heap.size = A at hI hA ⊢
  have hl := lv_entry ([.ref (am 0), .int (nI k), .int n]) (n := 3) (Nat.le_of_ble_eq_true rfl)
  rw [lg_entry_eq]
  generalize (lg_sl ([.ref (am 0), .int (nI k), .int n]) ++ List.replicate (3 - (lg_sl ([.ref (am 0), .int (nI k), .int n])).length) Slot.unset).toArray = ls at hl ⊢
  have hl : lv_has ls 3 [(0, .ref (am 0)), (1, .int (nI k)), (2, .int n)] := hl
  have hk12 : k < 12 := by have hq := hV.1; omega
  refine lv_aload_n hx hb dX12_topmanHeeds_0 rfl (lv_at hl 0 rfl) ?_
  refine lv_bipush (v := 23) hx hb dX12_topmanHeeds_1 (by decide) ?_
  refine wk_kV hI hA (va_runV (As := [.int 23]) (rest := []) ⟨hx, hb, hml, hown, hts⟩ (c_X12_mark l D cI cJ cS am σ 23 (by have hq12 := hV.1; omega) _) (wk_cwV 1 hts wk_in_M mw_584 mw_586 mw_10 mw_45 mw_587 hdX12_mark ⟨(Nat.le_of_ble_eq_true rfl), (Nat.le_of_ble_eq_true rfl)⟩) (wk_preV hN hK hI (ci := 11) rfl wm_e0) rfl rfl hl.1 rfl (lv_room (Nat.le_of_ble_eq_true rfl)) dX12_topmanHeeds_3 ⟨(Nat.le_of_ble_eq_true rfl), (Nat.le_of_ble_eq_true rfl)⟩) (fun u H locs hw hI => ?_)
  obtain rfl := hw
  have hG_1 : wk_G σ (wk_note σ 23) 1 := wk_g_note σ 23
  refine lv_iload_n hx hb dX12_topmanHeeds_6 rfl (lv_at hl 2 rfl) ?_
  refine lv_iconst (v := 2) hx hb dX12_topmanHeeds_7 (by decide) ?_
  refine lv_irem hx hb dX12_topmanHeeds_8 (by decide) ?_
  refine lv_if_ne (tgt := 25) hx hb dX12_topmanHeeds_9 (by decide) (fun c_2 => ?_) (fun c_2 => ?_)
  · refine lv_iload_n hx hb dX12_topmanHeeds_25 rfl (lv_at hl 2 rfl) ?_
    refine lv_i2l hx hb dX12_topmanHeeds_26 rfl ?_
    have hE : wk_topHeed σ k n = (n, wk_note σ 23) := by first | rfl | (simp only [wk_topHeed, wk_topHeed1, if_neg c_2]; done) | (simp only [wk_topHeed, wk_topHeed1, if_neg c_2]; rfl)
    exact wk_rl (wk_note σ 23) hx hb hr hlk hK hI rfl (wk_postC hE rfl) dX12_topmanHeeds_27
  · refine lv_aload_n hx hb dX12_topmanHeeds_12 rfl (lv_at hl 0 rfl) ?_
    refine lv_iload_n hx hb dX12_topmanHeeds_13 rfl (lv_at hl 1 rfl) ?_
    refine lv_iload_n hx hb dX12_topmanHeeds_14 rfl (lv_at hl 2 rfl) ?_
    refine wk_kL hI hA (va_runV (As := [.int (nI k), .int n]) (rest := []) ⟨hx, hb, hml, hown, hts⟩ (c_X12_soulHeeds l D cI cJ cS am (wk_note σ 23) k n (hG_1.V hV) (hG_1.lt hk) (by have hq := hG_1.nt; have hq12 := hV.1; omega) hn9 _) (wk_cwV 2 hts wk_in_M mw_661 mw_663 mw_28 mw_45 mw_664 hdX12_soulHeeds ⟨(Nat.le_of_ble_eq_true rfl), (Nat.le_of_ble_eq_true rfl)⟩) (wk_preV hN hK hI (ci := 11) rfl wm_e0) rfl rfl hl.1 rfl (lv_room (Nat.le_of_ble_eq_true rfl)) dX12_topmanHeeds_15 ⟨(Nat.le_of_ble_eq_true rfl), (Nat.le_of_ble_eq_true rfl)⟩) (fun r u H locs hw hI => ?_)
    obtain ⟨rfl, rfl⟩ := hw
    have hG_3 : wk_G σ ((wk_soulHeed (wk_note σ 23) k n).2) 2 := hG_1.trans (wk_g_soulHeed (wk_note σ 23) k n)
    refine lv_ldc2 hx hb hown (hts _ (wk_in_M _ mw_666)) dX12_topmanHeeds_18 ?_
    refine lv_ladd hx hb dX12_topmanHeeds_21 ?_
    refine lv_goto (tgt := 27) hx hb dX12_topmanHeeds_22 (by decide) ?_
    have hE : wk_topHeed σ k n = ((wk_soulHeed (wk_note σ 23) k n).1 + 1000, (wk_soulHeed (wk_note σ 23) k n).2) := by first | rfl | (simp only [wk_topHeed, wk_topHeed1, if_pos c_2]; done) | (simp only [wk_topHeed, wk_topHeed1, if_pos c_2]; rfl)
    exact wk_rl ((wk_soulHeed (wk_note σ 23) k n).2) hx hb hr hlk hK hI rfl (wk_postC hE (wa_top1 hn9 hk12 _).symm) dX12_topmanHeeds_27
set_option maxHeartbeats 4000000 in
set_option maxRecDepth 100000 in
theorem c_X12_cookHeeds (l : Launch) (D : va_G) (cI cJ cS : ClassId) (am : Nat → Nat) (σ : wk_St) (k : Nat) (n : Int32) (hV : wk_V σ) (hk : k < wk_n σ) (hc : wk_nt σ + 2 < 2147483648) (hn9 : wa_B n 10001) : wk_Cl l D (wk_tys cI cJ cS) yX12_cookHeeds (wk_M yX12_cookHeeds cX12_cookHeeds 3 (some .long)) ({ frames := 2, cells := 0, slots := 0, locals := 43 }) [.ref (am 0), .int (nI k), .int n] (wm_W cI cJ am σ) (wm_W cI cJ am) (fun r0 u0 => r0 = (wk_cookHeed σ k n).1.toInt64 ∧ u0 = (wk_cookHeed σ k n).2) := by
  intro sz
  refine Met.ofW (cc := cX12_cookHeeds) (maxL := 3) (ret := (some .long)) (by decide) rfl ?_
  intro p e s m args below meth c s₁ B hml hv
  obtain ⟨rfl, hsz, hP, hK, hD0, hN⟩ := hv
  have hx := B.exec
  have hb := B.bytes
  have hr := B.returns
  have hts := atoms_spec (ws := wk_M yX12_cookHeeds cX12_cookHeeds 3 (some .long)) B.pre
  have hown : s.vm.findClass RX12 = some m.cls := findClass_of_methodNamed B.named
  have hlk := B.notSynchronized
  subst hsz
  have hI : wk_I D (va_A (wm_W cI cJ am σ) s.heap.size) s.heap s.heap [] (wm_W cI cJ am σ) := ⟨hP, hD0.self, va_S.rf⟩
  have hA : ∀ q : Nat, s.heap.size ≤ q → (va_A (wm_W cI cJ am σ) s.heap.size) q := fun q h => Or.inr h
  clear hP hD0
  generalize va_A (wm_W cI cJ am σ) s.heap.size = A at hI hA ⊢
  have hl := lv_entry ([.ref (am 0), .int (nI k), .int n]) (n := 3) (Nat.le_of_ble_eq_true rfl)
  rw [lg_entry_eq]
  generalize (lg_sl ([.ref (am 0), .int (nI k), .int n]) ++ List.replicate (3 - (lg_sl ([.ref (am 0), .int (nI k), .int n])).length) Slot.unset).toArray = ls at hl ⊢
  have hl : lv_has ls 3 [(0, .ref (am 0)), (1, .int (nI k)), (2, .int n)] := hl
  have hk12 : k < 12 := by have hq := hV.1; omega
  refine lv_aload_n hx hb dX12_cookHeeds_0 rfl (lv_at hl 0 rfl) ?_
  refine lv_bipush (v := 63) hx hb dX12_cookHeeds_1 (by decide) ?_
  refine wk_kV hI hA (va_runV (As := [.int 63]) (rest := []) ⟨hx, hb, hml, hown, hts⟩ (c_X12_mark l D cI cJ cS am σ 63 (by have hq12 := hV.1; omega) _) (wk_cwV 1 hts wk_in_M mw_584 mw_586 mw_10 mw_45 mw_587 hdX12_mark ⟨(Nat.le_of_ble_eq_true rfl), (Nat.le_of_ble_eq_true rfl)⟩) (wk_preV hN hK hI (ci := 11) rfl wm_e0) rfl rfl hl.1 rfl (lv_room (Nat.le_of_ble_eq_true rfl)) dX12_cookHeeds_3 ⟨(Nat.le_of_ble_eq_true rfl), (Nat.le_of_ble_eq_true rfl)⟩) (fun u H locs hw hI => ?_)
  obtain rfl := hw
  have hG_1 : wk_G σ (wk_note σ 63) 1 := wk_g_note σ 63
  refine lv_aload_n hx hb dX12_cookHeeds_6 rfl (lv_at hl 0 rfl) ?_
  refine lv_iload_n hx hb dX12_cookHeeds_7 rfl (lv_at hl 1 rfl) ?_
  refine lv_iload_n hx hb dX12_cookHeeds_8 rfl (lv_at hl 2 rfl) ?_
  refine wk_kL hI hA (va_runV (As := [.int (nI k), .int n]) (rest := []) ⟨hx, hb, hml, hown, hts⟩ (c_X12_soulHeeds l D cI cJ cS am (wk_note σ 63) k n (hG_1.V hV) (hG_1.lt hk) (by have hq := hG_1.nt; have hq12 := hV.1; omega) hn9 _) (wk_cwV 2 hts wk_in_M mw_661 mw_663 mw_28 mw_45 mw_664 hdX12_soulHeeds ⟨(Nat.le_of_ble_eq_true rfl), (Nat.le_of_ble_eq_true rfl)⟩) (wk_preV hN hK hI (ci := 11) rfl wm_e0) rfl rfl hl.1 rfl (lv_room (Nat.le_of_ble_eq_true rfl)) dX12_cookHeeds_9 ⟨(Nat.le_of_ble_eq_true rfl), (Nat.le_of_ble_eq_true rfl)⟩) (fun r u H locs hw hI => ?_)
  obtain ⟨rfl, rfl⟩ := hw
  have hG_2 : wk_G σ ((wk_soulHeed (wk_note σ 63) k n).2) 2 := hG_1.trans (wk_g_soulHeed (wk_note σ 63) k n)
  refine lv_lneg hx hb dX12_cookHeeds_12 ?_
  have hE : wk_cookHeed σ k n = (-(wk_soulHeed (wk_note σ 63) k n).1, (wk_soulHeed (wk_note σ 63) k n).2) := by first | rfl | (simp only [wk_cookHeed]; done) | (simp only [wk_cookHeed]; rfl)
  exact wk_rl ((wk_soulHeed (wk_note σ 63) k n).2) hx hb hr hlk hK hI rfl (wk_postC hE (wa_cook hn9 hk12 _).symm) dX12_cookHeeds_13
