set_option maxHeartbeats 4000000 in
set_option maxRecDepth 100000 in
theorem c_X2_add (l : Launch) (D : va_G) (cI cJ cS : ClassId) (ad : Nat → Nat) (σ : wk_St) (q9 : Nat) (s9 : Int32) (hV : wk_V σ) (hq9 : q9 < 8) : wk_Ci (S := (Nat → Nat) × wk_St) l D (wk_tys cI cJ cS) yX2_add (wk_M yX2_add cX2_add 5 (some .int)) ({ frames := 2, cells := 1, slots := 7, locals := 54 }) [.ref (ad 1), .int s9, .int (nI q9), .ref (ad (8 + q9))] (wx_W cI cS ad σ) (fun u => wx_W cI cS u.1 u.2) (fun r0 u0 => r0 = nI (wk_n σ) ∧ ∃ q, u0 = (va_up ad (16 + wk_n σ) q, wk_addQ σ q9 s9)) := by
  intro sz
  refine Met.ofW (cc := cX2_add) (maxL := 5) (ret := (some .int)) (by decide) rfl ?_
  intro p e s m args below meth c s₁ B hml hv
  obtain ⟨rfl, hsz, hP, hK, hD0, hN⟩ := hv
  have hx := B.exec
  have hb := B.bytes
  have hr := B.returns
  have hts := atoms_spec (ws := wk_M yX2_add cX2_add 5 (some .int)) B.pre
  have hown : s.vm.findClass RX2 = some m.cls := findClass_of_methodNamed B.named
  have hlk := B.notSynchronized
  subst hsz
  have hI : wk_I D (va_A (wx_W cI cS ad σ) s.heap.size) s.heap s.heap [] (wx_W cI cS ad σ) := ⟨hP, hD0.self, va_S.rf⟩
  have hA : ∀ q : Nat, s.heap.size ≤ q → (va_A (wx_W cI cS ad σ) s.heap.size) q := fun q h => Or.inr h
  clear hP hD0
  generalize va_A (wx_W cI cS ad σ) s.heap.size = A at hI hA ⊢
  have hl := lv_entry ([.ref (ad 1), .int s9, .int (nI q9), .ref (ad (8 + q9))]) (n := 5) (Nat.le_of_ble_eq_true rfl)
  rw [lg_entry_eq]
  generalize (lg_sl ([.ref (ad 1), .int s9, .int (nI q9), .ref (ad (8 + q9))]) ++ List.replicate (5 - (lg_sl ([.ref (ad 1), .int s9, .int (nI q9), .ref (ad (8 + q9))])).length) Slot.unset).toArray = ls at hl ⊢
  have hl : lv_has ls 5 [(0, .ref (ad 1)), (1, .int s9), (2, .int (nI q9)), (3, .ref (ad (8 + q9)))] := hl
  refine wk_newO (ci := 6) (fs := [.int 0, .int 0, .int 0, .null, .int 0, .long 0, .null]) (C := RX6) (T := TX6) (N := 7) hx hb hts (fun w h => wk_in_M w (lay_X6 w h)) tyX6 tyX6_ok hown (hts _ (wk_in_M _ mw_176)) (hts _ (wk_in_M _ mw_177)) (hts _ (wk_in_M _ mw_46)) hK hI hA rfl (fun j hj => by rcases (show j = 0 ∨ j = 1 ∨ j = 2 ∨ j = 3 ∨ j = 4 ∨ j = 5 ∨ j = 6 by omega) with rfl | rfl | rfl | rfl | rfl | rfl | rfl <;> rfl) (Nat.le_of_ble_eq_true rfl) (Nat.le_of_ble_eq_true rfl) dX2_add_0 (fun q H hI => ?_)
  refine lv_dup hx hb dX2_add_3 rfl ?_
  refine lv_aload_n hx hb dX2_add_4 rfl (lv_at hl 0 rfl) ?_
  refine wk_get (v := .int (nI (wk_n σ))) hx hb hts (fun w h => wk_in_M w (lay_X2 w h)) hown hK hI 1 (wx_app wx_e1) rfl 2 (by decide) (hts _ (wk_in_M _ mw_66)) rfl rfl dX2_add_5 ?_
  refine lv_iload_n hx hb dX2_add_8 rfl (lv_at hl 1 rfl) ?_
  refine lv_iload_n hx hb dX2_add_9 rfl (lv_at hl 2 rfl) ?_
  refine lv_aload_n hx hb dX2_add_10 rfl (lv_at hl 3 rfl) ?_
  refine wk_fV hI hA (va_runI (As := [.int (nI (wk_n σ)), .int s9, .int (nI q9), .ref (ad (8 + q9))]) (rest := [.ref q]) ⟨hx, hb, hml, hown, hts⟩ (c_X6_init l D cI cJ cS q (nI (wk_n σ)) s9 (nI q9) (ad (8 + q9)) _) (wk_cwC 4 hts wk_in_M mw_178 mw_179 mw_46 mw_180 rfl hdX6_init.2 ⟨(Nat.le_of_ble_eq_true rfl), (Nat.le_of_ble_eq_true rfl)⟩) (wk_preS hN hK hI.right) rfl rfl hl.1 rfl (lv_room (Nat.le_of_ble_eq_true rfl)) dX2_add_11 ⟨(Nat.le_of_ble_eq_true rfl), (Nat.le_of_ble_eq_true rfl)⟩) (fun u H locs hw hI => ?_)
  refine lv_astore (lv' := [(4, .ref q), (0, .ref (ad 1)), (1, .int s9), (2, .int (nI q9)), (3, .ref (ad (8 + q9)))]) hx hb dX2_add_14 hl (by decide) rfl (fun ls hl => ?_)
  refine lv_aload_n hx hb dX2_add_16 rfl (lv_at hl 1 rfl) ?_
  refine wk_get (v := va_rf (wx_lp ad (wk_n σ))) hx hb hts (fun w h => wk_in_M w (lay_X2 w h)) hown hK hI 1 (wx_app wx_e1) rfl 1 (by decide) (hts _ (wk_in_M _ mw_65)) rfl rfl dX2_add_17 ?_
  rcases Nat.eq_zero_or_pos (wk_n σ) with h0 | h0
  · have hK := hK
    rw [show wx_lp ad (wk_n σ) = none from if_pos h0]
    refine W.eq (g2 := F0 m 20 ls [.null]) rfl ?_
    refine lv_ifnonnullN hx hb dX2_add_20 ?_
    refine lv_aload_n hx hb dX2_add_23 rfl (lv_at hl 1 rfl) ?_
    refine lv_aload hx hb dX2_add_24 (lv_at hl 0 rfl) ?_
    refine wk_put (v := .ref q) (ty := .object "WatchBill$Member") hx hb hts (fun w h => wk_in_M w (lay_X2 w h)) tyX2 tyX2_ok nmX2 hown hK hI (1) (wx_app wx_e1) rfl 0 (by decide) (hts _ (wk_in_M _ mw_63)) rfl rfl (by decide +kernel) rfl rfl (Nat.le_of_ble_eq_true rfl) rfl dX2_add_26 (fun H locs hI => ?_)
    refine lv_goto (tgt := 41) hx hb dX2_add_29 (by decide) ?_
    refine lv_aload_n hx hb dX2_add_41 rfl (lv_at hl 1 rfl) ?_
    refine lv_aload hx hb dX2_add_42 (lv_at hl 0 rfl) ?_
    refine wk_put (v := .ref q) (ty := .object "WatchBill$Member") hx hb hts (fun w h => wk_in_M w (lay_X2 w h)) tyX2 tyX2_ok nmX2 hown hK hI (1) (wk_set_self (wx_app wx_e1)) rfl 1 (by decide) (hts _ (wk_in_M _ mw_65)) rfl rfl (by decide +kernel) rfl rfl (Nat.le_of_ble_eq_true rfl) rfl dX2_add_44 (fun H locs hI => ?_)
    refine lv_aload_n hx hb dX2_add_47 rfl (lv_at hl 1 rfl) ?_
    refine lv_dup hx hb dX2_add_48 rfl ?_
    refine wk_get (v := .int (nI (wk_n σ))) hx hb hts (fun w h => wk_in_M w (lay_X2 w h)) hown hK hI 1 (wk_set_self (wk_set_self (wx_app wx_e1))) rfl 2 (by decide) (hts _ (wk_in_M _ mw_66)) rfl rfl dX2_add_49 ?_
    refine lv_iconst (v := 1) hx hb dX2_add_52 (by decide) ?_
    refine lv_iadd hx hb dX2_add_53 ?_
    rw [nI_1]
    refine wk_put (w' := wx_W cI cS (va_up ad (16 + wk_n σ) q) (wk_addQ σ q9 s9)) (v := .int (nI (wk_n σ + 1))) (ty := .int) hx hb hts (fun w h => wk_in_M w (lay_X2 w h)) tyX2 tyX2_ok nmX2 hown hK hI (1) (wk_set_self (wk_set_self (wx_app wx_e1))) rfl 2 (by decide) (hts _ (wk_in_M _ mw_66)) rfl rfl (by decide +kernel) rfl rfl (Nat.le_of_ble_eq_true rfl) (by rw [List.set_set, List.set_set]; exact wx_grow0 hq9 s9 h0) dX2_add_54 (fun H locs hI => ?_)
    refine lv_aload hx hb dX2_add_57 (lv_at hl 0 rfl) ?_
    refine wk_get (v := .int (nI (wk_n σ))) hx hb hts (fun w h => wk_in_M w (lay_X6 w h)) hown hK hI (16 + wk_n σ) (wx_newat hq9 s9) rfl 0 (by decide) (hts _ (wk_in_M _ mw_183)) rfl rfl dX2_add_59 ?_
    exact wk_ri (va_up ad (16 + wk_n σ) q, wk_addQ σ q9 s9) hx hb hr hlk hK hI rfl ⟨rfl, q, rfl⟩ dX2_add_62
  · have hK := hK
    rw [show wx_lp ad (wk_n σ) = some (ad (16 + (wk_n σ - 1))) from if_neg (by omega)]
    refine W.eq (g2 := F0 m 20 ls [.ref (ad (16 + (wk_n σ - 1)))]) rfl ?_
    refine lv_ifnonnull (tgt := 32) hx hb dX2_add_20 (by decide) ?_
    refine lv_aload_n hx hb dX2_add_32 rfl (lv_at hl 1 rfl) ?_
    refine wk_get (v := va_rf (wx_lp ad (wk_n σ))) hx hb hts (fun w h => wk_in_M w (lay_X2 w h)) hown hK hI 1 (wx_app wx_e1) rfl 1 (by decide) (hts _ (wk_in_M _ mw_65)) rfl rfl dX2_add_33 ?_
    rw [show wx_lp ad (wk_n σ) = some (ad (16 + (wk_n σ - 1))) from if_neg (by omega)]
    refine W.eq (g2 := F0 m 36 ls [.ref (ad (16 + (wk_n σ - 1)))]) rfl ?_
    refine lv_aload hx hb dX2_add_36 (lv_at hl 0 rfl) ?_
    refine wk_put (v := .ref q) (ty := .object "WatchBill$Member") hx hb hts (fun w h => wk_in_M w (lay_X6 w h)) tyX6 tyX6_ok nmX6 hown hK hI (16 + (wk_n σ - 1)) (wx_app (wx_em (by omega))) rfl 6 (by decide) (hts _ (wk_in_M _ mw_201)) rfl rfl (by decide +kernel) rfl rfl (Nat.le_of_ble_eq_true rfl) rfl dX2_add_38 (fun H locs hI => ?_)
    refine lv_aload_n hx hb dX2_add_41 rfl (lv_at hl 1 rfl) ?_
    refine lv_aload hx hb dX2_add_42 (lv_at hl 0 rfl) ?_
    refine wk_put (v := .ref q) (ty := .object "WatchBill$Member") hx hb hts (fun w h => wk_in_M w (lay_X2 w h)) tyX2 tyX2_ok nmX2 hown hK hI (1) ((List.getElem?_set_ne (by omega)).trans (wx_app wx_e1)) rfl 1 (by decide) (hts _ (wk_in_M _ mw_65)) rfl rfl (by decide +kernel) rfl rfl (Nat.le_of_ble_eq_true rfl) rfl dX2_add_44 (fun H locs hI => ?_)
    refine lv_aload_n hx hb dX2_add_47 rfl (lv_at hl 1 rfl) ?_
    refine lv_dup hx hb dX2_add_48 rfl ?_
    refine wk_get (v := .int (nI (wk_n σ))) hx hb hts (fun w h => wk_in_M w (lay_X2 w h)) hown hK hI 1 (wk_set_self ((List.getElem?_set_ne (by omega)).trans (wx_app wx_e1))) rfl 2 (by decide) (hts _ (wk_in_M _ mw_66)) rfl rfl dX2_add_49 ?_
    refine lv_iconst (v := 1) hx hb dX2_add_52 (by decide) ?_
    refine lv_iadd hx hb dX2_add_53 ?_
    rw [nI_1]
    refine wk_put (w' := wx_W cI cS (va_up ad (16 + wk_n σ) q) (wk_addQ σ q9 s9)) (v := .int (nI (wk_n σ + 1))) (ty := .int) hx hb hts (fun w h => wk_in_M w (lay_X2 w h)) tyX2 tyX2_ok nmX2 hown hK hI (1) (wk_set_self ((List.getElem?_set_ne (by omega)).trans (wx_app wx_e1))) rfl 2 (by decide) (hts _ (wk_in_M _ mw_66)) rfl rfl (by decide +kernel) rfl rfl (Nat.le_of_ble_eq_true rfl) (by rw [List.set_set]; exact wx_growS hV hq9 s9 h0) dX2_add_54 (fun H locs hI => ?_)
    refine lv_aload hx hb dX2_add_57 (lv_at hl 0 rfl) ?_
    refine wk_get (v := .int (nI (wk_n σ))) hx hb hts (fun w h => wk_in_M w (lay_X6 w h)) hown hK hI (16 + wk_n σ) (wx_newat hq9 s9) rfl 0 (by decide) (hts _ (wk_in_M _ mw_183)) rfl rfl dX2_add_59 ?_
    exact wk_ri (va_up ad (16 + wk_n σ) q, wk_addQ σ q9 s9) hx hb hr hlk hK hI rfl ⟨rfl, q, rfl⟩ dX2_add_62
set_option maxHeartbeats 4000000 in
set_option maxRecDepth 100000 in
theorem c_X11_enlist (l : Launch) (D : va_G) (cI cJ cS : ClassId) (ad : Nat → Nat) (σ : wk_St) (r9 s9 : Int32) (hV : wk_V σ) : wk_Ci (S := (Nat → Nat) × wk_St) l D (wk_tys cI cJ cS) yX11_enlist (wk_M yX11_enlist cX11_enlist 3 (some .int)) ({ frames := 3, cells := 1, slots := 7, locals := 78 }) [.ref (ad 0), .int r9, .int s9] (wx_W cI cS ad σ) (fun u => wx_W cI cS u.1 u.2) (fun r0 u0 => r0 = (wk_enlist σ r9 s9).1 ∧ u0.2 = (wk_enlist σ r9 s9).2 ∧ u0.1 0 = ad 0) := by
  intro sz
  refine Met.ofW (cc := cX11_enlist) (maxL := 3) (ret := (some .int)) (by decide) rfl ?_
  intro p e s m args below meth c s₁ B hml hv
  obtain ⟨rfl, hsz, hP, hK, hD0, hN⟩ := hv
  have hx := B.exec
  have hb := B.bytes
  have hr := B.returns
  have hts := atoms_spec (ws := wk_M yX11_enlist cX11_enlist 3 (some .int)) B.pre
  have hown : s.vm.findClass RX11 = some m.cls := findClass_of_methodNamed B.named
  have hlk := B.notSynchronized
  subst hsz
  have hI : wk_I D (va_A (wx_W cI cS ad σ) s.heap.size) s.heap s.heap [] (wx_W cI cS ad σ) := ⟨hP, hD0.self, va_S.rf⟩
  have hA : ∀ q : Nat, s.heap.size ≤ q → (va_A (wx_W cI cS ad σ) s.heap.size) q := fun q h => Or.inr h
  clear hP hD0
  generalize va_A (wx_W cI cS ad σ) s.heap.size = A at hI hA ⊢
  have hl := lv_entry ([.ref (ad 0), .int r9, .int s9]) (n := 3) (Nat.le_of_ble_eq_true rfl)
  rw [lg_entry_eq]
  generalize (lg_sl ([.ref (ad 0), .int r9, .int s9]) ++ List.replicate (3 - (lg_sl ([.ref (ad 0), .int r9, .int s9])).length) Slot.unset).toArray = ls at hl ⊢
  have hl : lv_has ls 3 [(0, .ref (ad 0)), (1, .int r9), (2, .int s9)] := hl
  refine lv_iload_n hx hb dX11_enlist_0 rfl (lv_at hl 1 rfl) ?_
  refine wk_kI hI hA (va_runS (As := [.int r9]) (rest := []) ⟨hx, hb, hml, hown, hts⟩ (c_X11_isRank l D cI cJ cS ad σ r9 _) (wk_cwS 1 hts wk_in_M mw_168 mw_169 mw_34 mw_170 (hdX11_isRank).2 ⟨(Nat.le_of_ble_eq_true rfl), (Nat.le_of_ble_eq_true rfl)⟩) (wk_preS hN hK hI) rfl rfl hl.1 rfl (lv_room (Nat.le_of_ble_eq_true rfl)) dX11_enlist_1 ⟨(Nat.le_of_ble_eq_true rfl), (Nat.le_of_ble_eq_true rfl)⟩) (fun r u H locs hw hI => ?_)
  obtain ⟨rfl, hw⟩ := hw
  rw [hw] at hI
  refine lv_if_eq (tgt := 29) hx hb dX11_enlist_4 (by decide) (fun c_1 => ?_) (fun c_1 => ?_)
  · have c_1 := wk_b0 c_1
    refine W.widen (k := 1) (n := 7) (Nat.zero_le _) (Nat.zero_le _) ?_
    refine lv_ldc hx hb hown (hts _ (wk_in_M _ mw_171)) dX11_enlist_29 ?_
    have hE : wk_enlist σ r9 s9 = (-1000000, σ) := by unfold wk_enlist; rw [wk_ifF (fun hq => c_1 hq.1)]
    exact wk_ri (ad, σ) hx hb hr hlk hK hI rfl ⟨by rw [hE], by rw [hE], rfl⟩ dX11_enlist_31
  · have c_1 := wk_b1 c_1
    refine lv_iload_n hx hb dX11_enlist_7 rfl (lv_at hl 2 rfl) ?_
    refine lv_if_lt (tgt := 29) hx hb dX11_enlist_8 (by decide) (fun c_2 => ?_) (fun c_2 => ?_)
    · refine W.widen (k := 1) (n := 7) (Nat.zero_le _) (Nat.zero_le _) ?_
      refine lv_ldc hx hb hown (hts _ (wk_in_M _ mw_171)) dX11_enlist_29 ?_
      have hE : wk_enlist σ r9 s9 = (-1000000, σ) := by unfold wk_enlist; rw [wk_ifF (fun hq => wk_lnl c_2 hq.2.1.1)]
      exact wk_ri (ad, σ) hx hb hr hlk hK hI rfl ⟨by rw [hE], by rw [hE], rfl⟩ dX11_enlist_31
    · refine lv_iload_n hx hb dX11_enlist_11 rfl (lv_at hl 2 rfl) ?_
      refine lv_bipush (v := 99) hx hb dX11_enlist_12 (by decide) ?_
      refine lv_icmp_gt (tgt := 29) hx hb dX11_enlist_14 (by decide) (fun c_3 => ?_) (fun c_3 => ?_)
      · refine W.widen (k := 1) (n := 7) (Nat.zero_le _) (Nat.zero_le _) ?_
        refine lv_ldc hx hb hown (hts _ (wk_in_M _ mw_171)) dX11_enlist_29 ?_
        have hE : wk_enlist σ r9 s9 = (-1000000, σ) := by unfold wk_enlist; rw [wk_ifF (fun hq => wk_lnl c_3 hq.2.1.2)]
        exact wk_ri (ad, σ) hx hb hr hlk hK hI rfl ⟨by rw [hE], by rw [hE], rfl⟩ dX11_enlist_31
      · refine lv_aload_n hx hb dX11_enlist_17 rfl (lv_at hl 0 rfl) ?_
        refine wk_get (v := .ref (ad 1)) hx hb hts (fun w h => wk_in_M w (lay_X11 w h)) hown hK hI (0) wx_e0 rfl 0 (by decide) (hts _ (wk_in_M _ mw_145)) rfl rfl dX11_enlist_18 ?_
        refine wk_get (v := .int (nI (wk_n σ))) hx hb hts (fun w h => wk_in_M w (lay_X2 w h)) hown hK hI (1) wx_e1 rfl 2 (by decide) (hts _ (wk_in_M _ mw_67)) rfl rfl dX11_enlist_21 ?_
        refine lv_bipush (v := 12) hx hb dX11_enlist_24 (by decide) ?_
        refine lv_icmp_lt (tgt := 32) hx hb dX11_enlist_26 (by decide) (fun c_4 => ?_) (fun c_4 => ?_)
        · obtain ⟨q9, hq7, rfl⟩ := nI_of2 (x := r9) (M := 7) (n := 7) (by decide) (fun q => wk_lnl q c_1.1) c_1.2
          have hn12 : wk_n σ < 12 := by have hq := c_4; have hq2 := hV.1; simp only [Int32.lt_iff_toInt_lt, Int32.le_iff_toInt_le, nI_toInt (show wk_n σ < 2 ^ 31 by omega), wk_lit0, wk_lit1, wk_lit2, wk_lit3, wk_lit5, wk_lit6, wk_lit7, wk_lit8, wk_lit64, wk_lit4, wk_lit12, wk_lit20, wk_lit99, wk_lit1000] at hq; omega
          refine lv_aload_n hx hb dX11_enlist_32 rfl (lv_at hl 0 rfl) ?_
          refine wk_get (v := .ref (ad 1)) hx hb hts (fun w h => wk_in_M w (lay_X11 w h)) hown hK hI (0) wx_e0 rfl 0 (by decide) (hts _ (wk_in_M _ mw_145)) rfl rfl dX11_enlist_33 ?_
          refine lv_iload_n hx hb dX11_enlist_36 rfl (lv_at hl 2 rfl) ?_
          refine lv_iload_n hx hb dX11_enlist_37 rfl (lv_at hl 1 rfl) ?_
          refine lv_aload_n hx hb dX11_enlist_38 rfl (lv_at hl 0 rfl) ?_
          refine wk_get (v := .ref (ad 2)) hx hb hts (fun w h => wk_in_M w (lay_X11 w h)) hown hK hI (0) wx_e0 rfl 1 (by decide) (hts _ (wk_in_M _ mw_146)) rfl rfl dX11_enlist_39 ?_
          refine lv_iload_n hx hb dX11_enlist_42 rfl (lv_at hl 1 rfl) ?_
          refine wk_aald (v := ad (8 + q9)) (j := q9) hx hb hK hI 2 2 wx_e2 rfl rfl (show q9 < 8 by omega) (by decide) (if_pos (show q9 < 8 by omega)) dX11_enlist_43 ?_
          refine wk_kI (wf := fun u : (Nat → Nat) × wk_St => wx_W cI cS u.1 u.2) hI hA (va_runV (As := [.int s9, .int (nI q9), .ref (ad (8 + q9))]) (rest := []) ⟨hx, hb, hml, hown, hts⟩ (c_X2_add l D cI cJ cS ad σ q9 s9 hV (by omega) _) (wk_cwV 3 hts wk_in_M mw_172 mw_173 mw_174 mw_35 mw_175 hdX2_add ⟨(Nat.le_of_ble_eq_true rfl), (Nat.le_of_ble_eq_true rfl)⟩) (wk_preV hN hK hI (ci := 2) rfl wx_e1) rfl rfl hl.1 rfl (lv_room (Nat.le_of_ble_eq_true rfl)) dX11_enlist_44 ⟨(Nat.le_of_ble_eq_true rfl), (Nat.le_of_ble_eq_true rfl)⟩) (fun r u H locs hw hI => ?_)
          obtain ⟨rfl, q, rfl⟩ := hw
          exact wk_ri (va_up ad (16 + wk_n σ) q, wk_addQ σ q9 s9) hx hb hr hlk hK hI rfl ⟨by unfold wk_enlist; rw [wk_ifT ⟨c_1, ⟨wk_nlt c_2, wk_nlt c_3⟩, hn12⟩], by unfold wk_enlist wk_add; rw [wk_ifT ⟨c_1, ⟨wk_nlt c_2, wk_nlt c_3⟩, hn12⟩, nI_clamp (by omega)]; rfl, wx_ad_lt (by omega)⟩ dX11_enlist_47
        · refine W.widen (k := 1) (n := 7) (Nat.zero_le _) (Nat.zero_le _) ?_
          refine lv_ldc hx hb hown (hts _ (wk_in_M _ mw_171)) dX11_enlist_29 ?_
          have hE : wk_enlist σ r9 s9 = (-1000000, σ) := by unfold wk_enlist; rw [wk_ifF (fun hq => c_4 (nI_lt hq.2.2 (by decide)))]
          exact wk_ri (ad, σ) hx hb hr hlk hK hI rfl ⟨by rw [hE], by rw [hE], rfl⟩ dX11_enlist_31
