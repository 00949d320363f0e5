set_option maxHeartbeats 4000000 in
set_option maxRecDepth 100000 in
theorem c_X12_promote (l : Launch) (D : va_G) (cI cJ cS : ClassId) (am : Nat → Nat) (σ : wk_St) (k9 : Int32) (hV : wk_V σ) : wk_Ci l D (wk_tys cI cJ cS) yX12_promote (wk_M yX12_promote cX12_promote 2 (some .int)) ({ frames := 1, cells := 0, slots := 0, locals := 21 }) [.ref (am 0), .int k9] (wm_W cI cJ am σ) (wm_W cI cJ am) (fun r0 u0 => r0 = (wk_promote σ k9 ).1 ∧ u0 = (wk_promote σ k9 ).2) := by
  intro sz
  refine Met.ofW (cc := cX12_promote) (maxL := 2) (ret := (some .int)) (by decide) rfl ?_
  intro p e s m args below meth c s₁ B hml hv
  obtain ⟨rfl, hsz, hP, hK, hD0, hN⟩ := hv
  have hx := B.exec
  have hb := B.bytes
  have hr := B.returns
  have hts := atoms_spec (ws := wk_M yX12_promote cX12_promote 2 (some .int)) B.pre
  have hown : s.vm.findClass RX12 = some m.cls := findClass_of_methodNamed B.named
  have hlk := B.notSynchronized
  subst hsz
  have hI : wk_I D (va_A (wm_W cI cJ am σ) s.heap.size) s.heap s.heap [] (wm_W cI cJ am σ) := ⟨hP, hD0.self, va_S.rf⟩
  have hA : ∀ q : Nat, s.heap.size ≤ q → (va_A (wm_W cI cJ am σ) s.heap.size) q := fun q h => Or.inr h
  clear hP hD0
  generalize va_A (wm_W cI cJ am σ) s.heap.size = A at hI hA ⊢
  have hl := lv_entry ([.ref (am 0), .int k9]) (n := 2) (Nat.le_of_ble_eq_true rfl)
  rw [lg_entry_eq]
  generalize (lg_sl ([.ref (am 0), .int k9]) ++ List.replicate (2 - (lg_sl ([.ref (am 0), .int k9])).length) Slot.unset).toArray = ls at hl ⊢
  have hl : lv_has ls 2 [(0, .ref (am 0)), (1, .int k9)] := hl
  rcases wk_okC hV k9 with ⟨j, hj, rfl⟩ | hno
  · have hK := hK
    have h8 := hV.rk hj
    refine lv_aload_n hx hb dX12_promote_0 rfl (lv_at hl 0 rfl) ?_
    refine lv_iload_n hx hb dX12_promote_1 rfl (lv_at hl 1 rfl) ?_
    refine wk_kI hI hA (va_runV (As := [.int (nI j)]) (rest := []) ⟨hx, hb, hml, hown, hts⟩ (c_X12_isMember l D cI cJ cS am σ (nI j) _) (wk_cwV 1 hts wk_in_M mw_538 mw_540 mw_3 mw_45 mw_541 hdX12_isMember ⟨(Nat.le_of_ble_eq_true rfl), (Nat.le_of_ble_eq_true rfl)⟩) (wk_preV hN hK hI (ci := 11) rfl wm_e0) rfl rfl hl.1 rfl (lv_room (Nat.le_of_ble_eq_true rfl)) dX12_promote_2 ⟨(Nat.le_of_ble_eq_true rfl), (Nat.le_of_ble_eq_true rfl)⟩) (fun r u H locs hw hI => ?_)
    obtain ⟨rfl, hw⟩ := hw
    rw [hw] at hI
    refine lv_if_eq (tgt := 29) hx hb dX12_promote_5 (by decide) (fun c_1 => ?_) (fun c_1 => ?_)
    · have c_1 := wk_b0 c_1
      refine lv_ldc hx hb hown (hts _ (wk_in_M _ mw_533)) dX12_promote_29 ?_
      exact wk_ri σ hx hb hr hlk hK hI rfl (absurd (wk_okJ hV hj) c_1) dX12_promote_31
    · have c_1 := wk_b1 c_1
      refine lv_aload_n hx hb dX12_promote_8 rfl (lv_at hl 0 rfl) ?_
      refine wk_get (v := .ref (am 1)) hx hb hts (fun w h => wk_in_M w (lay_X12 w h)) hown hK hI (0) wm_e0 rfl 1 (by decide) (hts _ (wk_in_M _ mw_495)) rfl rfl dX12_promote_9 ?_
      refine lv_iload_n hx hb dX12_promote_12 rfl (lv_at hl 1 rfl) ?_
      refine wk_iald (v := (nI (wk_rk σ j))) (j := j) hx hb hK hI 1 0 wm_e1 rfl rfl (by have hq12 := hV.1; omega) (by decide) rfl dX12_promote_13 ?_
      refine lv_iconst (v := 5) hx hb dX12_promote_14 (by decide) ?_
      refine lv_icmp_eq (tgt := 29) hx hb dX12_promote_15 (by decide) (fun c_2 => ?_) (fun c_2 => ?_)
      · refine lv_ldc hx hb hown (hts _ (wk_in_M _ mw_533)) dX12_promote_29 ?_
        exact wk_ri σ hx hb hr hlk hK hI rfl (wk_post (by unfold wk_promote; rw [wk_clJ hV hj, wk_ifF (fun hq => hq.2.1 ((nI_eq (b := 5) (by omega) (by decide)).mp c_2))])) dX12_promote_31
      · refine lv_aload_n hx hb dX12_promote_18 rfl (lv_at hl 0 rfl) ?_
        refine wk_get (v := .ref (am 1)) hx hb hts (fun w h => wk_in_M w (lay_X12 w h)) hown hK hI (0) wm_e0 rfl 1 (by decide) (hts _ (wk_in_M _ mw_495)) rfl rfl dX12_promote_19 ?_
        refine lv_iload_n hx hb dX12_promote_22 rfl (lv_at hl 1 rfl) ?_
        refine wk_iald (v := (nI (wk_rk σ j))) (j := j) hx hb hK hI 1 0 wm_e1 rfl rfl (by have hq12 := hV.1; omega) (by decide) rfl dX12_promote_23 ?_
        refine lv_bipush (v := 7) hx hb dX12_promote_24 (by decide) ?_
        refine lv_icmp_ne (tgt := 32) hx hb dX12_promote_26 (by decide) (fun c_3 => ?_) (fun c_3 => ?_)
        · have h5 : wk_rk σ j ≠ 5 := fun hq => c_2 (by rw [hq]; rfl)
          have h7 : wk_rk σ j ≠ 7 := fun hq => c_3 (by rw [hq]; rfl)
          refine lv_aload_n hx hb dX12_promote_32 rfl (lv_at hl 0 rfl) ?_
          refine wk_get (v := .ref (am 1)) hx hb hts (fun w h => wk_in_M w (lay_X12 w h)) hown hK hI (0) wm_e0 rfl 1 (by decide) (hts _ (wk_in_M _ mw_495)) rfl rfl dX12_promote_33 ?_
          refine lv_iload_n hx hb dX12_promote_36 rfl (lv_at hl 1 rfl) ?_
          refine lv_aload_n hx hb dX12_promote_37 rfl (lv_at hl 0 rfl) ?_
          refine wk_get (v := .ref (am 1)) hx hb hts (fun w h => wk_in_M w (lay_X12 w h)) hown hK hI (0) wm_e0 rfl 1 (by decide) (hts _ (wk_in_M _ mw_495)) rfl rfl dX12_promote_38 ?_
          refine lv_iload_n hx hb dX12_promote_41 rfl (lv_at hl 1 rfl) ?_
          refine wk_iald (v := (nI (wk_rk σ j))) (j := j) hx hb hK hI 1 0 wm_e1 rfl rfl (by have hq12 := hV.1; omega) (by decide) rfl dX12_promote_42 ?_
          refine lv_iconst (v := 1) hx hb dX12_promote_43 (by decide) ?_
          refine lv_iadd hx hb dX12_promote_44 ?_
          rw [nI_1]
          refine wk_iast (j := j) hx hb hK hI 1 0 wm_e1 rfl rfl (by have hq12 := hV.1; omega) (by decide) (wm_sRk _ _) dX12_promote_45 (fun H locs hI => ?_)
          refine lv_aload_n hx hb dX12_promote_46 rfl (lv_at hl 0 rfl) ?_
          refine wk_get (v := .ref (am 1)) hx hb hts (fun w h => wk_in_M w (lay_X12 w h)) hown hK hI (0) wm_e0 rfl 1 (by decide) (hts _ (wk_in_M _ mw_495)) rfl rfl dX12_promote_47 ?_
          refine lv_iload_n hx hb dX12_promote_50 rfl (lv_at hl 1 rfl) ?_
          refine wk_iald (v := (nI (wk_rk (wk_sRk σ (va_up (wk_rk σ) j (wk_rk σ j + 1))) j))) (j := j) hx hb hK hI 1 0 wm_e1 rfl rfl (by have hq12 := hV.1; omega) (by decide) rfl dX12_promote_51 ?_
          exact wk_ri (wk_sRk σ (va_up (wk_rk σ) j (wk_rk σ j + 1))) hx hb hr hlk hK hI rfl (wk_post (by unfold wk_promote; rw [wk_clJ hV hj, wk_ifT ⟨wk_okJ hV hj, h5, h7⟩, show wk_rk (wk_sRk σ (va_up (wk_rk σ) j (wk_rk σ j + 1))) j = wk_rk σ j + 1 from if_pos rfl])) dX12_promote_52
        · refine lv_ldc hx hb hown (hts _ (wk_in_M _ mw_533)) dX12_promote_29 ?_
          exact wk_ri σ hx hb hr hlk hK hI rfl (wk_post (by unfold wk_promote; rw [wk_clJ hV hj, wk_ifF (fun hq => hq.2.2 ((nI_eq (b := 7) (by omega) (by decide)).mp c_3))])) dX12_promote_31
  · have hK := hK
    refine lv_aload_n hx hb dX12_promote_0 rfl (lv_at hl 0 rfl) ?_
    refine lv_iload_n hx hb dX12_promote_1 rfl (lv_at hl 1 rfl) ?_
    refine wk_kI hI hA (va_runV (As := [.int k9]) (rest := []) ⟨hx, hb, hml, hown, hts⟩ (c_X12_isMember l D cI cJ cS am σ k9 _) (wk_cwV 1 hts wk_in_M mw_538 mw_540 mw_3 mw_45 mw_541 hdX12_isMember ⟨(Nat.le_of_ble_eq_true rfl), (Nat.le_of_ble_eq_true rfl)⟩) (wk_preV hN hK hI (ci := 11) rfl wm_e0) rfl rfl hl.1 rfl (lv_room (Nat.le_of_ble_eq_true rfl)) dX12_promote_2 ⟨(Nat.le_of_ble_eq_true rfl), (Nat.le_of_ble_eq_true rfl)⟩) (fun r u H locs hw hI => ?_)
    obtain ⟨rfl, hw⟩ := hw
    rw [hw] at hI
    refine lv_if_eq (tgt := 29) hx hb dX12_promote_5 (by decide) (fun c_4 => ?_) (fun c_4 => ?_)
    · have c_4 := wk_b0 c_4
      refine lv_ldc hx hb hown (hts _ (wk_in_M _ mw_533)) dX12_promote_29 ?_
      exact wk_ri σ hx hb hr hlk hK hI rfl (wk_post (by unfold wk_promote; rw [wk_ifF (fun hq => hno hq.1)])) dX12_promote_31
    · have c_4 := wk_b1 c_4
      exact absurd c_4 hno
set_option maxHeartbeats 4000000 in
set_option maxRecDepth 100000 in
theorem c_X12_demote (l : Launch) (D : va_G) (cI cJ cS : ClassId) (am : Nat → Nat) (σ : wk_St) (k9 : Int32) (hV : wk_V σ) : wk_Ci l D (wk_tys cI cJ cS) yX12_demote (wk_M yX12_demote cX12_demote 2 (some .int)) ({ frames := 1, cells := 0, slots := 0, locals := 21 }) [.ref (am 0), .int k9] (wm_W cI cJ am σ) (wm_W cI cJ am) (fun r0 u0 => r0 = (wk_demote σ k9 ).1 ∧ u0 = (wk_demote σ k9 ).2) := by
  intro sz
  refine Met.ofW (cc := cX12_demote) (maxL := 2) (ret := (some .int)) (by decide) rfl ?_
  intro p e s m args below meth c s₁ B hml hv
  obtain ⟨rfl, hsz, hP, hK, hD0, hN⟩ := hv
  have hx := B.exec
  have hb := B.bytes
  have hr := B.returns
  have hts := atoms_spec (ws := wk_M yX12_demote cX12_demote 2 (some .int)) B.pre
  have hown : s.vm.findClass RX12 = some m.cls := findClass_of_methodNamed B.named
  have hlk := B.notSynchronized
  subst hsz
  have hI : wk_I D (va_A (wm_W cI cJ am σ) s.heap.size) s.heap s.heap [] (wm_W cI cJ am σ) := ⟨hP, hD0.self, va_S.rf⟩
  have hA : ∀ q : Nat, s.heap.size ≤ q → (va_A (wm_W cI cJ am σ) s.heap.size) q := fun q h => Or.inr h
  clear hP hD0
  generalize va_A (wm_W cI cJ am σ) s.heap.size = A at hI hA ⊢
  have hl := lv_entry ([.ref (am 0), .int k9]) (n := 2) (Nat.le_of_ble_eq_true rfl)
  rw [lg_entry_eq]
  generalize (lg_sl ([.ref (am 0), .int k9]) ++ List.replicate (2 - (lg_sl ([.ref (am 0), .int k9])).length) Slot.unset).toArray = ls at hl ⊢
  have hl : lv_has ls 2 [(0, .ref (am 0)), (1, .int k9)] := hl
  rcases wk_okC hV k9 with ⟨j, hj, rfl⟩ | hno
  · have hK := hK
    have h8 := hV.rk hj
    refine lv_aload_n hx hb dX12_demote_0 rfl (lv_at hl 0 rfl) ?_
    refine lv_iload_n hx hb dX12_demote_1 rfl (lv_at hl 1 rfl) ?_
    refine wk_kI hI hA (va_runV (As := [.int (nI j)]) (rest := []) ⟨hx, hb, hml, hown, hts⟩ (c_X12_isMember l D cI cJ cS am σ (nI j) _) (wk_cwV 1 hts wk_in_M mw_538 mw_540 mw_3 mw_45 mw_541 hdX12_isMember ⟨(Nat.le_of_ble_eq_true rfl), (Nat.le_of_ble_eq_true rfl)⟩) (wk_preV hN hK hI (ci := 11) rfl wm_e0) rfl rfl hl.1 rfl (lv_room (Nat.le_of_ble_eq_true rfl)) dX12_demote_2 ⟨(Nat.le_of_ble_eq_true rfl), (Nat.le_of_ble_eq_true rfl)⟩) (fun r u H locs hw hI => ?_)
    obtain ⟨rfl, hw⟩ := hw
    rw [hw] at hI
    refine lv_if_eq (tgt := 17) hx hb dX12_demote_5 (by decide) (fun c_1 => ?_) (fun c_1 => ?_)
    · have c_1 := wk_b0 c_1
      refine lv_ldc hx hb hown (hts _ (wk_in_M _ mw_533)) dX12_demote_17 ?_
      exact wk_ri σ hx hb hr hlk hK hI rfl (absurd (wk_okJ hV hj) c_1) dX12_demote_19
    · have c_1 := wk_b1 c_1
      refine lv_aload_n hx hb dX12_demote_8 rfl (lv_at hl 0 rfl) ?_
      refine wk_get (v := .ref (am 1)) hx hb hts (fun w h => wk_in_M w (lay_X12 w h)) hown hK hI (0) wm_e0 rfl 1 (by decide) (hts _ (wk_in_M _ mw_495)) rfl rfl dX12_demote_9 ?_
      refine lv_iload_n hx hb dX12_demote_12 rfl (lv_at hl 1 rfl) ?_
      refine wk_iald (v := (nI (wk_rk σ j))) (j := j) hx hb hK hI 1 0 wm_e1 rfl rfl (by have hq12 := hV.1; omega) (by decide) rfl dX12_demote_13 ?_
      refine lv_if_ne (tgt := 20) hx hb dX12_demote_14 (by decide) (fun c_2 => ?_) (fun c_2 => ?_)
      · have h0 : wk_rk σ j ≠ 0 := fun hq => c_2 (by rw [hq]; rfl)
        refine lv_aload_n hx hb dX12_demote_20 rfl (lv_at hl 0 rfl) ?_
        refine wk_get (v := .ref (am 1)) hx hb hts (fun w h => wk_in_M w (lay_X12 w h)) hown hK hI (0) wm_e0 rfl 1 (by decide) (hts _ (wk_in_M _ mw_495)) rfl rfl dX12_demote_21 ?_
        refine lv_iload_n hx hb dX12_demote_24 rfl (lv_at hl 1 rfl) ?_
        refine lv_aload_n hx hb dX12_demote_25 rfl (lv_at hl 0 rfl) ?_
        refine wk_get (v := .ref (am 1)) hx hb hts (fun w h => wk_in_M w (lay_X12 w h)) hown hK hI (0) wm_e0 rfl 1 (by decide) (hts _ (wk_in_M _ mw_495)) rfl rfl dX12_demote_26 ?_
        refine lv_iload_n hx hb dX12_demote_29 rfl (lv_at hl 1 rfl) ?_
        refine wk_iald (v := (nI (wk_rk σ j))) (j := j) hx hb hK hI 1 0 wm_e1 rfl rfl (by have hq12 := hV.1; omega) (by decide) rfl dX12_demote_30 ?_
        refine wk_kI hI hA (va_runS (As := [.int (nI (wk_rk σ j))]) (rest := [.int (nI j), .ref (am 1)]) ⟨hx, hb, hml, hown, hts⟩ (c_X12_elderOf l D cI cJ cS am σ (wk_rk σ j) h8 _) (wk_cwS 1 hts wk_in_M mw_546 mw_547 mw_45 mw_548 (hdX12_elderOf).2 ⟨(Nat.le_of_ble_eq_true rfl), (Nat.le_of_ble_eq_true rfl)⟩) (wk_preS hN hK hI) rfl rfl hl.1 rfl (lv_room (Nat.le_of_ble_eq_true rfl)) dX12_demote_31 ⟨(Nat.le_of_ble_eq_true rfl), (Nat.le_of_ble_eq_true rfl)⟩) (fun r u H locs hw hI => ?_)
        obtain ⟨rfl, hw⟩ := hw
        rw [hw] at hI
        rw [if_neg h0]
        refine wk_iast (j := j) hx hb hK hI 1 0 wm_e1 rfl rfl (by have hq12 := hV.1; omega) (by decide) (wm_sRk _ _) dX12_demote_34 (fun H locs hI => ?_)
        refine lv_aload_n hx hb dX12_demote_35 rfl (lv_at hl 0 rfl) ?_
        refine wk_get (v := .ref (am 1)) hx hb hts (fun w h => wk_in_M w (lay_X12 w h)) hown hK hI (0) wm_e0 rfl 1 (by decide) (hts _ (wk_in_M _ mw_495)) rfl rfl dX12_demote_36 ?_
        refine lv_iload_n hx hb dX12_demote_39 rfl (lv_at hl 1 rfl) ?_
        refine wk_iald (v := (nI (wk_rk (wk_sRk σ (va_up (wk_rk σ) j (wk_down (wk_rk σ j)))) j))) (j := j) hx hb hK hI 1 0 wm_e1 rfl rfl (by have hq12 := hV.1; omega) (by decide) rfl dX12_demote_40 ?_
        exact wk_ri (wk_sRk σ (va_up (wk_rk σ) j (wk_down (wk_rk σ j)))) hx hb hr hlk hK hI rfl (wk_post (by unfold wk_demote; rw [wk_clJ hV hj, wk_ifT ⟨wk_okJ hV hj, h0⟩, show wk_rk (wk_sRk σ (va_up (wk_rk σ) j (wk_down (wk_rk σ j)))) j = wk_down (wk_rk σ j) from if_pos rfl])) dX12_demote_41
      · refine lv_ldc hx hb hown (hts _ (wk_in_M _ mw_533)) dX12_demote_17 ?_
        exact wk_ri σ hx hb hr hlk hK hI rfl (wk_post (by unfold wk_demote; rw [wk_clJ hV hj, wk_ifF (fun hq => hq.2 ((nI_eq (b := 0) (by omega) (by decide)).mp c_2))])) dX12_demote_19
  · have hK := hK
    refine lv_aload_n hx hb dX12_demote_0 rfl (lv_at hl 0 rfl) ?_
    refine lv_iload_n hx hb dX12_demote_1 rfl (lv_at hl 1 rfl) ?_
    refine wk_kI hI hA (va_runV (As := [.int k9]) (rest := []) ⟨hx, hb, hml, hown, hts⟩ (c_X12_isMember l D cI cJ cS am σ k9 _) (wk_cwV 1 hts wk_in_M mw_538 mw_540 mw_3 mw_45 mw_541 hdX12_isMember ⟨(Nat.le_of_ble_eq_true rfl), (Nat.le_of_ble_eq_true rfl)⟩) (wk_preV hN hK hI (ci := 11) rfl wm_e0) rfl rfl hl.1 rfl (lv_room (Nat.le_of_ble_eq_true rfl)) dX12_demote_2 ⟨(Nat.le_of_ble_eq_true rfl), (Nat.le_of_ble_eq_true rfl)⟩) (fun r u H locs hw hI => ?_)
    obtain ⟨rfl, hw⟩ := hw
    rw [hw] at hI
    refine lv_if_eq (tgt := 17) hx hb dX12_demote_5 (by decide) (fun c_3 => ?_) (fun c_3 => ?_)
    · have c_3 := wk_b0 c_3
      refine lv_ldc hx hb hown (hts _ (wk_in_M _ mw_533)) dX12_demote_17 ?_
      exact wk_ri σ hx hb hr hlk hK hI rfl (wk_post (by unfold wk_demote; rw [wk_ifF (fun hq => hno hq.1)])) dX12_demote_19
    · have c_3 := wk_b1 c_3
      exact absurd c_3 hno
set_option maxHeartbeats 4000000 in
set_option maxRecDepth 100000 in
theorem c_X12_due (l : Launch) (D : va_G) (cI cJ cS : ClassId) (am : Nat → Nat) (σ : wk_St) (k9 : Int32) (n x9 : Int32) (hV : wk_V σ) : wk_Cl l D (wk_tys cI cJ cS) yX12_due (wk_M yX12_due cX12_due 6 (some .long)) ({ frames := 8, cells := 0, slots := 0, locals := 186 }) [.ref (am 0), .int k9, .int n, .int x9] (wm_W cI cJ am σ) (wm_W cI cJ am) (fun r0 u0 => r0 = (wk_due σ k9 n x9).1 ∧ u0 = (wk_due σ k9 n x9).2) := by
  intro sz
  refine Met.ofW (cc := cX12_due) (maxL := 6) (ret := (some .long)) (by decide) rfl ?_
  intro p e s m args below meth c s₁ B hml hv
  obtain ⟨rfl, hsz, hP, hK, hD0, hN⟩ := hv
  have hx := B.exec
  have hb := B.bytes
  have hr := B.returns
  have hts := atoms_spec (ws := wk_M yX12_due cX12_due 6 (some .long)) B.pre
  have hown : s.vm.findClass RX12 = some m.cls := findClass_of_methodNamed B.named
  have hlk := B.notSynchronized
  subst hsz
  have hI : wk_I D (va_A (wm_W cI cJ am σ) s.heap.size) s.heap s.heap [] (wm_W cI cJ am σ) := ⟨hP, hD0.self, va_S.rf⟩
  have hA : ∀ q : Nat, s.heap.size ≤ q → (va_A (wm_W cI cJ am σ) s.heap.size) q := fun q h => Or.inr h
  clear hP hD0
  generalize va_A (wm_W cI cJ am σ) s.heap.size = A at hI hA ⊢
  have hl := lv_entry ([.ref (am 0), .int k9, .int n, .int x9]) (n := 6) (Nat.le_of_ble_eq_true rfl)
  rw [lg_entry_eq]
  generalize (lg_sl ([.ref (am 0), .int k9, .int n, .int x9]) ++ List.replicate (6 - (lg_sl ([.ref (am 0), .int k9, .int n, .int x9])).length) Slot.unset).toArray = ls at hl ⊢
  have hl : lv_has ls 6 [(0, .ref (am 0)), (1, .int k9), (2, .int n), (3, .int x9)] := hl
  rcases wk_okC hV k9 with ⟨j, hj, rfl⟩ | hno
  · have hK := hK
    have h8 := hV.rk hj
    refine lv_aload_n hx hb dX12_due_0 rfl (lv_at hl 0 rfl) ?_
    refine lv_iconst (v := 1) hx hb dX12_due_1 (by decide) ?_
    refine lv_iload_n hx hb dX12_due_2 rfl (lv_at hl 1 rfl) ?_
    refine lv_iload_n hx hb dX12_due_3 rfl (lv_at hl 2 rfl) ?_
    refine wk_kI hI hA (va_runV (As := [.int 1, .int (nI j), .int n]) (rest := []) ⟨hx, hb, hml, hown, hts⟩ (c_X12_may l D cI cJ cS am σ 1 (nI j) n _) (wk_cwV 3 hts wk_in_M mw_557 mw_559 mw_5 mw_45 mw_560 hdX12_may ⟨(Nat.le_of_ble_eq_true rfl), (Nat.le_of_ble_eq_true rfl)⟩) (wk_preV hN hK hI (ci := 11) rfl wm_e0) rfl rfl hl.1 rfl (lv_room (Nat.le_of_ble_eq_true rfl)) dX12_due_4 ⟨(Nat.le_of_ble_eq_true rfl), (Nat.le_of_ble_eq_true rfl)⟩) (fun r u H locs hw hI => ?_)
    obtain ⟨rfl, hw⟩ := hw
    rw [hw] at hI
    refine lv_if_eq (tgt := 23) hx hb dX12_due_7 (by decide) (fun c_1 => ?_) (fun c_1 => ?_)
    · have c_1 := wk_b0 c_1
      refine lv_ldc2 hx hb hown (hts _ (wk_in_M _ mw_567)) dX12_due_23 ?_
      exact wk_rl σ hx hb hr hlk hK hI rfl (wk_post (by unfold wk_due; rw [wk_clJ hV hj, wk_ifF (fun hq => c_1 ⟨hq.1, hq.2.2.1⟩)])) dX12_due_26
    · have c_1 := wk_b1 c_1
      refine lv_iload_n hx hb dX12_due_10 rfl (lv_at hl 3 rfl) ?_
      refine lv_if_lt (tgt := 23) hx hb dX12_due_11 (by decide) (fun c_2 => ?_) (fun c_2 => ?_)
      · refine lv_ldc2 hx hb hown (hts _ (wk_in_M _ mw_567)) dX12_due_23 ?_
        exact wk_rl σ hx hb hr hlk hK hI rfl (wk_post (by unfold wk_due; rw [wk_clJ hV hj, wk_ifF (fun hq => wk_lnl c_2 hq.2.2.2)])) dX12_due_26
      · refine lv_aload_n hx hb dX12_due_14 rfl (lv_at hl 0 rfl) ?_
        refine wk_get (v := .ref (am 1)) hx hb hts (fun w h => wk_in_M w (lay_X12 w h)) hown hK hI (0) wm_e0 rfl 1 (by decide) (hts _ (wk_in_M _ mw_495)) rfl rfl dX12_due_15 ?_
        refine lv_iload_n hx hb dX12_due_18 rfl (lv_at hl 1 rfl) ?_
        refine wk_iald (v := (nI (wk_rk σ j))) (j := j) hx hb hK hI 1 0 wm_e1 rfl rfl (by have hq12 := hV.1; omega) (by decide) rfl dX12_due_19 ?_
        refine lv_if_ne (tgt := 27) hx hb dX12_due_20 (by decide) (fun c_3 => ?_) (fun c_3 => ?_)
        · refine lv_aload_n hx hb dX12_due_27 rfl (lv_at hl 0 rfl) ?_
          refine lv_iconst (v := 0) hx hb dX12_due_28 (by decide) ?_
          refine wk_put (v := .int (nI 0)) (ty := .int) hx hb hts (fun w h => wk_in_M w (lay_X12 w h)) tyX12 tyX12_ok nmX12 hown hK hI (0) wm_e0 rfl 10 (by decide) (hts _ (wk_in_M _ mw_504)) rfl rfl (by decide +kernel) rfl rfl (Nat.le_of_ble_eq_true rfl) (wm_sNt _) dX12_due_29 (fun H locs hI => ?_)
          refine lv_aload_n hx hb dX12_due_32 rfl (lv_at hl 0 rfl) ?_
          refine lv_iconst (v := 1) hx hb dX12_due_33 (by decide) ?_
          refine lv_iload_n hx hb dX12_due_34 rfl (lv_at hl 1 rfl) ?_
          refine lv_iload_n hx hb dX12_due_35 rfl (lv_at hl 2 rfl) ?_
          refine lv_iconst (v := 0) hx hb dX12_due_36 (by decide) ?_
          refine wk_kL hI hA (va_runV (As := [.int 1, .int (nI j), .int n, .int 0]) (rest := []) ⟨hx, hb, hml, hown, hts⟩ (c_X12_work l D cI cJ cS am (wk_fg σ) 1 j n 0 hV hj (by have hq0 : wk_nt (wk_fg σ) = 0 := rfl; have hq12 : wk_n (wk_fg σ) ≤ 12 := hV.1; omega) c_1.2 _) (wk_cwV 4 hts wk_in_M mw_568 mw_570 mw_6 mw_45 mw_571 hdX12_work ⟨(Nat.le_of_ble_eq_true rfl), (Nat.le_of_ble_eq_true rfl)⟩) (wk_preV hN hK hI (ci := 11) rfl wm_e0) rfl rfl hl.1 rfl (lv_room (Nat.le_of_ble_eq_true rfl)) dX12_due_37 ⟨(Nat.le_of_ble_eq_true rfl), (Nat.le_of_ble_eq_true rfl)⟩) (fun r u H locs hw hI => ?_)
          obtain ⟨rfl, rfl⟩ := hw
          have hG_4 : wk_G (wk_fg σ) (wk_wk 1 (wk_fg σ) j n 0) 28 := wk_g_wk 1 (wk_fg σ) j n 0 hV.1
          refine lv_iload_n hx hb dX12_due_40 rfl (lv_at hl 3 rfl) ?_
          refine lv_i2l hx hb dX12_due_41 rfl ?_
          refine lv_lsub hx hb dX12_due_42 ?_
          refine lv_lstore (lv' := [(4, .long (((wk_do 1 (wk_fg σ) j n).1) - (x9.toInt64))), (0, .ref (am 0)), (1, .int (nI j)), (2, .int n), (3, .int x9)]) hx hb dX12_due_43 hl (by decide) rfl (fun ls hl => ?_)
          refine lv_lload hx hb dX12_due_45 (lv_at hl 0 rfl) ?_
          refine lv_lconst (v := 0) hx hb dX12_due_47 (by decide) ?_
          refine W.lcmp hx hb dX12_due_48 ?_
          refine lv_if_ge (tgt := 56) hx hb dX12_due_49 (by decide) (fun c_5 => ?_) (fun c_5 => ?_)
          · have c_5 := (lg_cmp_ge _ _).mp c_5
            refine lv_lload hx hb dX12_due_56 (lv_at hl 0 rfl) ?_
            have h0 : wk_rk σ j ≠ 0 := fun hq => c_3 (by rw [hq]; rfl)
            exact wk_rl (wk_wk 1 (wk_fg σ) j n 0) hx hb hr hlk hK hI rfl (wk_post (by unfold wk_due wk_pos; rw [wk_clJ hV hj, wk_ifT ⟨c_1.1, by omega, c_1.2, wk_nlt c_2⟩, wk_wk0, wk_do1, show wk_rk σ = wk_rk (wk_fg σ) from rfl, if_pos (wk_do1 (wk_fg σ) j n ▸ c_5)])) dX12_due_58
          · have c_5 := fun hq => c_5 ((lg_cmp_ge _ _).mpr hq)
            refine lv_lconst (v := 0) hx hb dX12_due_52 (by decide) ?_
            refine lv_goto (tgt := 58) hx hb dX12_due_53 (by decide) ?_
            have h0 : wk_rk σ j ≠ 0 := fun hq => c_3 (by rw [hq]; rfl)
            exact wk_rl (wk_wk 1 (wk_fg σ) j n 0) hx hb hr hlk hK hI rfl (wk_post (by unfold wk_due wk_pos; rw [wk_clJ hV hj, wk_ifT ⟨c_1.1, by omega, c_1.2, wk_nlt c_2⟩, wk_wk0, wk_do1, show wk_rk σ = wk_rk (wk_fg σ) from rfl, if_neg (wk_do1 (wk_fg σ) j n ▸ c_5)])) dX12_due_58
        · refine lv_ldc2 hx hb hown (hts _ (wk_in_M _ mw_567)) dX12_due_23 ?_
          exact wk_rl σ hx hb hr hlk hK hI rfl (wk_post (by unfold wk_due; rw [wk_clJ hV hj, wk_ifF (fun hq => absurd ((nI_eq (b := 0) (by omega) (by decide)).mp c_3) (by have hq2 := hq.2.1; omega))])) dX12_due_26
  · have hK := hK
    refine lv_aload_n hx hb dX12_due_0 rfl (lv_at hl 0 rfl) ?_
    refine lv_iconst (v := 1) hx hb dX12_due_1 (by decide) ?_
    refine lv_iload_n hx hb dX12_due_2 rfl (lv_at hl 1 rfl) ?_
    refine lv_iload_n hx hb dX12_due_3 rfl (lv_at hl 2 rfl) ?_
    refine wk_kI hI hA (va_runV (As := [.int 1, .int k9, .int n]) (rest := []) ⟨hx, hb, hml, hown, hts⟩ (c_X12_may l D cI cJ cS am σ 1 k9 n _) (wk_cwV 3 hts wk_in_M mw_557 mw_559 mw_5 mw_45 mw_560 hdX12_may ⟨(Nat.le_of_ble_eq_true rfl), (Nat.le_of_ble_eq_true rfl)⟩) (wk_preV hN hK hI (ci := 11) rfl wm_e0) rfl rfl hl.1 rfl (lv_room (Nat.le_of_ble_eq_true rfl)) dX12_due_4 ⟨(Nat.le_of_ble_eq_true rfl), (Nat.le_of_ble_eq_true rfl)⟩) (fun r u H locs hw hI => ?_)
    obtain ⟨rfl, hw⟩ := hw
    rw [hw] at hI
    refine lv_if_eq (tgt := 23) hx hb dX12_due_7 (by decide) (fun c_6 => ?_) (fun c_6 => ?_)
    · have c_6 := wk_b0 c_6
      refine lv_ldc2 hx hb hown (hts _ (wk_in_M _ mw_567)) dX12_due_23 ?_
      exact wk_rl σ hx hb hr hlk hK hI rfl (wk_post (by unfold wk_due; rw [wk_ifF (fun hq => hno hq.1)])) dX12_due_26
    · have c_6 := wk_b1 c_6
      exact absurd c_6.1 hno
set_option maxHeartbeats 4000000 in
set_option maxRecDepth 100000 in
theorem c_X12_feed (l : Launch) (D : va_G) (cI cJ cS : ClassId) (am : Nat → Nat) (σ : wk_St) (k9 : Int32) (n : Int32) (hV : wk_V σ) : wk_Ci l D (wk_tys cI cJ cS) yX12_feed (wk_M yX12_feed cX12_feed 5 (some .int)) ({ frames := 8, cells := 0, slots := 0, locals := 186 }) [.ref (am 0), .int k9, .int n] (wm_W cI cJ am σ) (wm_W cI cJ am) (fun r0 u0 => r0 = (wk_feed σ k9 n).1 ∧ u0 = (wk_feed σ k9 n).2) := by
  intro sz
  refine Met.ofW (cc := cX12_feed) (maxL := 5) (ret := (some .int)) (by decide) rfl ?_
  intro p e s m args below meth c s₁ B hml hv
  obtain ⟨rfl, hsz, hP, hK, hD0, hN⟩ := hv
  have hx := B.exec
  have hb := B.bytes
  have hr := B.returns
  have hts := atoms_spec (ws := wk_M yX12_feed cX12_feed 5 (some .int)) B.pre
  have hown : s.vm.findClass RX12 = some m.cls := findClass_of_methodNamed B.named
  have hlk := B.notSynchronized
  subst hsz
  have hI : wk_I D (va_A (wm_W cI cJ am σ) s.heap.size) s.heap s.heap [] (wm_W cI cJ am σ) := ⟨hP, hD0.self, va_S.rf⟩
  have hA : ∀ q : Nat, s.heap.size ≤ q → (va_A (wm_W cI cJ am σ) s.heap.size) q := fun q h => Or.inr h
  clear hP hD0
  generalize va_A (wm_W cI cJ am σ) s.heap.size = A at hI hA ⊢
  have hl := lv_entry ([.ref (am 0), .int k9, .int n]) (n := 5) (Nat.le_of_ble_eq_true rfl)
  rw [lg_entry_eq]
  generalize (lg_sl ([.ref (am 0), .int k9, .int n]) ++ List.replicate (5 - (lg_sl ([.ref (am 0), .int k9, .int n])).length) Slot.unset).toArray = ls at hl ⊢
  have hl : lv_has ls 5 [(0, .ref (am 0)), (1, .int k9), (2, .int n)] := hl
  rcases wk_okC hV k9 with ⟨j, hj, rfl⟩ | hno
  · have hK := hK
    have h8 := hV.rk hj
    refine lv_aload_n hx hb dX12_feed_0 rfl (lv_at hl 0 rfl) ?_
    refine lv_iconst (v := 0) hx hb dX12_feed_1 (by decide) ?_
    refine lv_iload_n hx hb dX12_feed_2 rfl (lv_at hl 1 rfl) ?_
    refine lv_iload_n hx hb dX12_feed_3 rfl (lv_at hl 2 rfl) ?_
    refine wk_kI hI hA (va_runV (As := [.int 0, .int (nI j), .int n]) (rest := []) ⟨hx, hb, hml, hown, hts⟩ (c_X12_may l D cI cJ cS am σ 0 (nI j) n _) (wk_cwV 3 hts wk_in_M mw_557 mw_559 mw_5 mw_45 mw_560 hdX12_may ⟨(Nat.le_of_ble_eq_true rfl), (Nat.le_of_ble_eq_true rfl)⟩) (wk_preV hN hK hI (ci := 11) rfl wm_e0) rfl rfl hl.1 rfl (lv_room (Nat.le_of_ble_eq_true rfl)) dX12_feed_4 ⟨(Nat.le_of_ble_eq_true rfl), (Nat.le_of_ble_eq_true rfl)⟩) (fun r u H locs hw hI => ?_)
    obtain ⟨rfl, hw⟩ := hw
    rw [hw] at hI
    refine lv_if_eq (tgt := 22) hx hb dX12_feed_7 (by decide) (fun c_1 => ?_) (fun c_1 => ?_)
    · have c_1 := wk_b0 c_1
      refine lv_ldc hx hb hown (hts _ (wk_in_M _ mw_533)) dX12_feed_22 ?_
      exact wk_ri σ hx hb hr hlk hK hI rfl (wk_post (by unfold wk_feed; rw [wk_clJ hV hj, wk_ifF (fun hq => c_1 ⟨hq.1, hq.2.2⟩)])) dX12_feed_24
    · have c_1 := wk_b1 c_1
      refine lv_aload_n hx hb dX12_feed_10 rfl (lv_at hl 0 rfl) ?_
      refine wk_get (v := .ref (am 1)) hx hb hts (fun w h => wk_in_M w (lay_X12 w h)) hown hK hI (0) wm_e0 rfl 1 (by decide) (hts _ (wk_in_M _ mw_495)) rfl rfl dX12_feed_11 ?_
      refine lv_iload_n hx hb dX12_feed_14 rfl (lv_at hl 1 rfl) ?_
      refine wk_iald (v := (nI (wk_rk σ j))) (j := j) hx hb hK hI 1 0 wm_e1 rfl rfl (by have hq12 := hV.1; omega) (by decide) rfl dX12_feed_15 ?_
      refine wk_kI hI hA (va_runS (As := [.int (nI (wk_rk σ j))]) (rest := []) ⟨hx, hb, hml, hown, hts⟩ (c_X12_isCarer l D cI cJ cS am σ (wk_rk σ j) h8 _) (wk_cwS 1 hts wk_in_M mw_711 mw_712 mw_45 mw_713 (hdX12_isCarer).2 ⟨(Nat.le_of_ble_eq_true rfl), (Nat.le_of_ble_eq_true rfl)⟩) (wk_preS hN hK hI) rfl rfl hl.1 rfl (lv_room (Nat.le_of_ble_eq_true rfl)) dX12_feed_16 ⟨(Nat.le_of_ble_eq_true rfl), (Nat.le_of_ble_eq_true rfl)⟩) (fun r u H locs hw hI => ?_)
      obtain ⟨rfl, hw⟩ := hw
      rw [hw] at hI
      refine lv_if_ne (tgt := 25) hx hb dX12_feed_19 (by decide) (fun c_2 => ?_) (fun c_2 => ?_)
      · have c_2 := wk_b1 c_2
        refine lv_aload_n hx hb dX12_feed_25 rfl (lv_at hl 0 rfl) ?_
        refine lv_iconst (v := 0) hx hb dX12_feed_26 (by decide) ?_
        refine wk_put (v := .int (nI 0)) (ty := .int) hx hb hts (fun w h => wk_in_M w (lay_X12 w h)) tyX12 tyX12_ok nmX12 hown hK hI (0) wm_e0 rfl 10 (by decide) (hts _ (wk_in_M _ mw_504)) rfl rfl (by decide +kernel) rfl rfl (Nat.le_of_ble_eq_true rfl) (wm_sNt _) dX12_feed_27 (fun H locs hI => ?_)
        refine lv_aload_n hx hb dX12_feed_30 rfl (lv_at hl 0 rfl) ?_
        refine lv_iconst (v := 0) hx hb dX12_feed_31 (by decide) ?_
        refine lv_iload_n hx hb dX12_feed_32 rfl (lv_at hl 1 rfl) ?_
        refine lv_iload_n hx hb dX12_feed_33 rfl (lv_at hl 2 rfl) ?_
        refine lv_iconst (v := 0) hx hb dX12_feed_34 (by decide) ?_
        refine wk_kL hI hA (va_runV (As := [.int 0, .int (nI j), .int n, .int 0]) (rest := []) ⟨hx, hb, hml, hown, hts⟩ (c_X12_work l D cI cJ cS am (wk_fg σ) 0 j n 0 hV hj (by have hq0 : wk_nt (wk_fg σ) = 0 := rfl; have hq12 : wk_n (wk_fg σ) ≤ 12 := hV.1; omega) c_1.2 _) (wk_cwV 4 hts wk_in_M mw_568 mw_570 mw_6 mw_45 mw_571 hdX12_work ⟨(Nat.le_of_ble_eq_true rfl), (Nat.le_of_ble_eq_true rfl)⟩) (wk_preV hN hK hI (ci := 11) rfl wm_e0) rfl rfl hl.1 rfl (lv_room (Nat.le_of_ble_eq_true rfl)) dX12_feed_35 ⟨(Nat.le_of_ble_eq_true rfl), (Nat.le_of_ble_eq_true rfl)⟩) (fun r u H locs hw hI => ?_)
        obtain ⟨rfl, rfl⟩ := hw
        have hG_3 : wk_G (wk_fg σ) (wk_wk 0 (wk_fg σ) j n 0) 28 := wk_g_wk 0 (wk_fg σ) j n 0 hV.1
        refine lv_ldc2 hx hb hown (hts _ (wk_in_M _ mw_714)) dX12_feed_38 ?_
        refine lv_ldiv hx hb dX12_feed_41 (by decide) ?_
        refine lv_l2i hx hb dX12_feed_42 rfl ?_
        refine lv_istore_n (lv' := [(3, .int ((((wk_do 0 (wk_fg σ) j n).1) / 100).toInt32)), (0, .ref (am 0)), (1, .int (nI j)), (2, .int n)]) hx hb dX12_feed_43 rfl hl (by decide) rfl (fun ls hl => ?_)
        refine lv_iconst (v := 0) hx hb dX12_feed_44 (by decide) ?_
        refine lv_istore (lv' := [(4, .int 0), (3, .int ((((wk_do 0 (wk_fg σ) j n).1) / 100).toInt32)), (0, .ref (am 0)), (1, .int (nI j)), (2, .int n)]) hx hb dX12_feed_45 hl (by decide) rfl (fun ls hl => ?_)
        have hj12 : j < 12 := by have hq := hV.1; omega
        have hN_5 : wk_n (wk_wk 0 (wk_fg σ) j n 0) ≤ 12 := by rw [hG_3.n]; exact hV.1
        refine wk_loop (fun i H locs ls => wk_I D A s.heap H locs (wm_W cI cJ am (wk_feedL j (-((((wk_do 0 (wk_fg σ) j n).1) / 100).toInt32)) (wk_wk 0 (wk_fg σ) j n 0) i)) ∧ lv_has ls 5 [(0, .ref (am 0)), (1, .int (nI j)), (2, .int n), (3, .int ((((wk_do 0 (wk_fg σ) j n).1) / 100).toInt32)), (4, .int (nI i))]) (wk_n (wk_wk 0 (wk_fg σ) j n 0)) ?_ ?_ (wk_n (wk_wk 0 (wk_fg σ) j n 0)) 0 _ _ _ (Nat.zero_add _) ⟨hI, lv_sub hl [2, 3, 4, 1, 0] rfl⟩
        · intro H locs ls hinv
          obtain ⟨hI, hl⟩ := hinv
          have hG_6 : wk_G (wk_fg σ) (wk_feedL j (-((((wk_do 0 (wk_fg σ) j n).1) / 100).toInt32)) (wk_wk 0 (wk_fg σ) j n 0) (wk_n (wk_wk 0 (wk_fg σ) j n 0))) (28 + 0) := hG_3.trans (wk_g_feedL j (-((((wk_do 0 (wk_fg σ) j n).1) / 100).toInt32)) (wk_wk 0 (wk_fg σ) j n 0) (wk_n (wk_wk 0 (wk_fg σ) j n 0)))
          refine lv_iload hx hb dX12_feed_47 (lv_at hl 4 rfl) ?_
          refine lv_aload_n hx hb dX12_feed_49 rfl (lv_at hl 0 rfl) ?_
          refine wk_get (v := .int (nI (wk_n (wk_feedL j (-((((wk_do 0 (wk_fg σ) j n).1) / 100).toInt32)) (wk_wk 0 (wk_fg σ) j n 0) (wk_n (wk_wk 0 (wk_fg σ) j n 0)))))) hx hb hts (fun w h => wk_in_M w (lay_X12 w h)) hown hK hI (0) wm_e0 rfl 0 (by decide) (hts _ (wk_in_M _ mw_494)) rfl rfl dX12_feed_50 ?_
          refine lv_icmp_ge (tgt := 76) hx hb dX12_feed_53 (by decide) (fun c_7 => ?_) (fun c_7 => ?_)
          · refine lv_iload_n hx hb dX12_feed_76 rfl (lv_at hl 3 rfl) ?_
            exact wk_ri (wk_feedL j (-((((wk_do 0 (wk_fg σ) j n).1) / 100).toInt32)) (wk_wk 0 (wk_fg σ) j n 0) (wk_n (wk_wk 0 (wk_fg σ) j n 0))) hx hb hr hlk hK hI rfl (wk_post (by unfold wk_feed; rw [wk_clJ hV hj, wk_ifT ⟨c_1.1, c_2, c_1.2⟩, hG_3.n, wk_wk0, wk_do0]; rfl)) dX12_feed_77
          · exact absurd (by rw [show wk_n (wk_feedL j (-((((wk_do 0 (wk_fg σ) j n).1) / 100).toInt32)) (wk_wk 0 (wk_fg σ) j n 0) (wk_n (wk_wk 0 (wk_fg σ) j n 0))) = wk_n (wk_wk 0 (wk_fg σ) j n 0) from (hG_6.n.trans hG_3.n.symm)]; exact nI_le (Nat.le_refl _) (by omega)) c_7
        · intro i_4 H locs ls hi_i_4 hinv ih_i_4
          obtain ⟨hI, hl⟩ := hinv
          have hs_i_4 : i_4 < wk_n (wk_fg σ) := by have hq := hG_3.n; omega
          have hG_8 : wk_G (wk_fg σ) (wk_feedL j (-((((wk_do 0 (wk_fg σ) j n).1) / 100).toInt32)) (wk_wk 0 (wk_fg σ) j n 0) i_4) (28 + 0) := hG_3.trans (wk_g_feedL j (-((((wk_do 0 (wk_fg σ) j n).1) / 100).toInt32)) (wk_wk 0 (wk_fg σ) j n 0) i_4)
          refine lv_iload hx hb dX12_feed_47 (lv_at hl 4 rfl) ?_
          refine lv_aload_n hx hb dX12_feed_49 rfl (lv_at hl 0 rfl) ?_
          refine wk_get (v := .int (nI (wk_n (wk_feedL j (-((((wk_do 0 (wk_fg σ) j n).1) / 100).toInt32)) (wk_wk 0 (wk_fg σ) j n 0) i_4)))) hx hb hts (fun w h => wk_in_M w (lay_X12 w h)) hown hK hI (0) wm_e0 rfl 0 (by decide) (hts _ (wk_in_M _ mw_494)) rfl rfl dX12_feed_50 ?_
          refine lv_icmp_ge (tgt := 76) hx hb dX12_feed_53 (by decide) (fun c_9 => ?_) (fun c_9 => ?_)
          · exact absurd c_9 (by rw [show wk_n (wk_feedL j (-((((wk_do 0 (wk_fg σ) j n).1) / 100).toInt32)) (wk_wk 0 (wk_fg σ) j n 0) i_4) = wk_n (wk_wk 0 (wk_fg σ) j n 0) from (hG_8.n.trans hG_3.n.symm)]; exact nI_ge hi_i_4 (by omega))
          · refine lv_iload hx hb dX12_feed_56 (lv_at hl 4 rfl) ?_
            refine lv_iload_n hx hb dX12_feed_58 rfl (lv_at hl 1 rfl) ?_
            refine lv_icmp_eq (tgt := 70) hx hb dX12_feed_59 (by decide) (fun c_10 => ?_) (fun c_10 => ?_)
            · refine lv_iinc (v := nI (i_4 + 1)) (lv' := [(4, .int (nI (i_4 + 1))), (0, .ref (am 0)), (1, .int (nI j)), (2, .int n), (3, .int ((((wk_do 0 (wk_fg σ) j n).1) / 100).toInt32))]) hx hb dX12_feed_70 hl (k := 4) rfl (nI_1 _) (by decide) rfl (fun ls hl => ?_)
              refine lv_goto (tgt := 47) hx hb dX12_feed_73 (by decide) ?_
              have hij : i_4 = j := (nI_eq (by omega) (by omega)).mp c_10
              have e1 : wk_feedL j (-((((wk_do 0 (wk_fg σ) j n).1) / 100).toInt32)) (wk_wk 0 (wk_fg σ) j n 0) (i_4 + 1) = wk_feedL j (-((((wk_do 0 (wk_fg σ) j n).1) / 100).toInt32)) (wk_wk 0 (wk_fg σ) j n 0) i_4 := by rw [wk_feedL]; rw [if_pos hij]
              exact ih_i_4 _ _ _ ⟨by rw [e1]; exact hI, lv_sub hl [1, 2, 3, 4, 0] rfl⟩
            · refine lv_aload_n hx hb dX12_feed_62 rfl (lv_at hl 0 rfl) ?_
              refine lv_iload hx hb dX12_feed_63 (lv_at hl 4 rfl) ?_
              refine lv_iload_n hx hb dX12_feed_65 rfl (lv_at hl 3 rfl) ?_
              refine lv_ineg hx hb dX12_feed_66 ?_
              refine wk_kV hI hA (va_runV (As := [.int (nI i_4), .int (-((((wk_do 0 (wk_fg σ) j n).1) / 100).toInt32))]) (rest := []) ⟨hx, hb, hml, hown, hts⟩ (c_X12_tire l D cI cJ cS am (wk_feedL j (-((((wk_do 0 (wk_fg σ) j n).1) / 100).toInt32)) (wk_wk 0 (wk_fg σ) j n 0) i_4) i_4 (-((((wk_do 0 (wk_fg σ) j n).1) / 100).toInt32)) (hG_8.V hV) (hG_8.lt hs_i_4) _) (wk_cwV 2 hts wk_in_M mw_588 mw_590 mw_11 mw_45 mw_591 hdX12_tire ⟨(Nat.le_of_ble_eq_true rfl), (Nat.le_of_ble_eq_true rfl)⟩) (wk_preV hN hK hI (ci := 11) rfl wm_e0) rfl rfl hl.1 rfl (lv_room (Nat.le_of_ble_eq_true rfl)) dX12_feed_67 ⟨(Nat.le_of_ble_eq_true rfl), (Nat.le_of_ble_eq_true rfl)⟩) (fun u H locs hw hI => ?_)
              obtain rfl := hw
              have hG_11 : wk_G (wk_fg σ) (wk_tire (wk_feedL j (-((((wk_do 0 (wk_fg σ) j n).1) / 100).toInt32)) (wk_wk 0 (wk_fg σ) j n 0) i_4) i_4 (-((((wk_do 0 (wk_fg σ) j n).1) / 100).toInt32))) ((28 + 0) + 0) := hG_8.trans (wk_g_tire (wk_feedL j (-((((wk_do 0 (wk_fg σ) j n).1) / 100).toInt32)) (wk_wk 0 (wk_fg σ) j n 0) i_4) i_4 (-((((wk_do 0 (wk_fg σ) j n).1) / 100).toInt32)))
              refine lv_iinc (v := nI (i_4 + 1)) (lv' := [(4, .int (nI (i_4 + 1))), (0, .ref (am 0)), (1, .int (nI j)), (2, .int n), (3, .int ((((wk_do 0 (wk_fg σ) j n).1) / 100).toInt32))]) hx hb dX12_feed_70 hl (k := 4) rfl (nI_1 _) (by decide) rfl (fun ls hl => ?_)
              refine lv_goto (tgt := 47) hx hb dX12_feed_73 (by decide) ?_
              have hij : ¬ i_4 = j := fun hq => c_10 (by rw [hq])
              have e1 : wk_feedL j (-((((wk_do 0 (wk_fg σ) j n).1) / 100).toInt32)) (wk_wk 0 (wk_fg σ) j n 0) (i_4 + 1) = wk_tire (wk_feedL j (-((((wk_do 0 (wk_fg σ) j n).1) / 100).toInt32)) (wk_wk 0 (wk_fg σ) j n 0) i_4) i_4 (-((((wk_do 0 (wk_fg σ) j n).1) / 100).toInt32)) := by rw [wk_feedL]; rw [if_neg hij]
              exact ih_i_4 _ _ _ ⟨by rw [e1]; exact hI, lv_sub hl [1, 2, 3, 4, 0] rfl⟩
      · have c_2 := wk_b0 c_2
        refine lv_ldc hx hb hown (hts _ (wk_in_M _ mw_533)) dX12_feed_22 ?_
        exact wk_ri σ hx hb hr hlk hK hI rfl (wk_post (by unfold wk_feed; rw [wk_clJ hV hj, wk_ifF (fun hq => c_2 hq.2.1)])) dX12_feed_24
  · have hK := hK
    refine lv_aload_n hx hb dX12_feed_0 rfl (lv_at hl 0 rfl) ?_
    refine lv_iconst (v := 0) hx hb dX12_feed_1 (by decide) ?_
    refine lv_iload_n hx hb dX12_feed_2 rfl (lv_at hl 1 rfl) ?_
    refine lv_iload_n hx hb dX12_feed_3 rfl (lv_at hl 2 rfl) ?_
    refine wk_kI hI hA (va_runV (As := [.int 0, .int k9, .int n]) (rest := []) ⟨hx, hb, hml, hown, hts⟩ (c_X12_may l D cI cJ cS am σ 0 k9 n _) (wk_cwV 3 hts wk_in_M mw_557 mw_559 mw_5 mw_45 mw_560 hdX12_may ⟨(Nat.le_of_ble_eq_true rfl), (Nat.le_of_ble_eq_true rfl)⟩) (wk_preV hN hK hI (ci := 11) rfl wm_e0) rfl rfl hl.1 rfl (lv_room (Nat.le_of_ble_eq_true rfl)) dX12_feed_4 ⟨(Nat.le_of_ble_eq_true rfl), (Nat.le_of_ble_eq_true rfl)⟩) (fun r u H locs hw hI => ?_)
    obtain ⟨rfl, hw⟩ := hw
    rw [hw] at hI
    refine lv_if_eq (tgt := 22) hx hb dX12_feed_7 (by decide) (fun c_12 => ?_) (fun c_12 => ?_)
    · have c_12 := wk_b0 c_12
      refine lv_ldc hx hb hown (hts _ (wk_in_M _ mw_533)) dX12_feed_22 ?_
      exact wk_ri σ hx hb hr hlk hK hI rfl (wk_post (by unfold wk_feed; rw [wk_ifF (fun hq => hno hq.1)])) dX12_feed_24
    · have c_12 := wk_b1 c_12
      exact absurd c_12.1 hno
set_option maxHeartbeats 4000000 in
set_option maxRecDepth 100000 in
theorem c_X12_told (l : Launch) (D : va_G) (cI cJ cS : ClassId) (am : Nat → Nat) (σ : wk_St) (k9 : Int32) (w9 : Int32) (hV : wk_V σ) : wk_Cl l D (wk_tys cI cJ cS) yX12_told (wk_M yX12_told cX12_told 3 (some .long)) ({ frames := 1, cells := 0, slots := 0, locals := 21 }) [.ref (am 0), .int k9, .int w9] (wm_W cI cJ am σ) (wm_W cI cJ am) (fun r0 u0 => r0 = (wk_told σ k9 w9).1 ∧ u0 = (wk_told σ k9 w9).2) := by
  intro sz
  refine Met.ofW (cc := cX12_told) (maxL := 3) (ret := (some .long)) (by decide) rfl ?_
  intro p e s m args below meth c s₁ B hml hv
  obtain ⟨rfl, hsz, hP, hK, hD0, hN⟩ := hv
  have hx := B.exec
  have hb := B.bytes
  have hr := B.returns
  have hts := atoms_spec (ws := wk_M yX12_told cX12_told 3 (some .long)) B.pre
  have hown : s.vm.findClass RX12 = some m.cls := findClass_of_methodNamed B.named
  have hlk := B.notSynchronized
  subst hsz
  have hI : wk_I D (va_A (wm_W cI cJ am σ) s.heap.size) s.heap s.heap [] (wm_W cI cJ am σ) := ⟨hP, hD0.self, va_S.rf⟩
  have hA : ∀ q : Nat, s.heap.size ≤ q → (va_A (wm_W cI cJ am σ) s.heap.size) q := fun q h => Or.inr h
  clear hP hD0
  generalize va_A (wm_W cI cJ am σ) s.heap.size = A at hI hA ⊢
  have hl := lv_entry ([.ref (am 0), .int k9, .int w9]) (n := 3) (Nat.le_of_ble_eq_true rfl)
  rw [lg_entry_eq]
  generalize (lg_sl ([.ref (am 0), .int k9, .int w9]) ++ List.replicate (3 - (lg_sl ([.ref (am 0), .int k9, .int w9])).length) Slot.unset).toArray = ls at hl ⊢
  have hl : lv_has ls 3 [(0, .ref (am 0)), (1, .int k9), (2, .int w9)] := hl
  rcases wk_okC hV k9 with ⟨j, hj, rfl⟩ | hno
  · have hK := hK
    have h8 := hV.rk hj
    refine lv_aload_n hx hb dX12_told_0 rfl (lv_at hl 0 rfl) ?_
    refine lv_iload_n hx hb dX12_told_1 rfl (lv_at hl 1 rfl) ?_
    refine wk_kI hI hA (va_runV (As := [.int (nI j)]) (rest := []) ⟨hx, hb, hml, hown, hts⟩ (c_X12_isMember l D cI cJ cS am σ (nI j) _) (wk_cwV 1 hts wk_in_M mw_538 mw_540 mw_3 mw_45 mw_541 hdX12_isMember ⟨(Nat.le_of_ble_eq_true rfl), (Nat.le_of_ble_eq_true rfl)⟩) (wk_preV hN hK hI (ci := 11) rfl wm_e0) rfl rfl hl.1 rfl (lv_room (Nat.le_of_ble_eq_true rfl)) dX12_told_2 ⟨(Nat.le_of_ble_eq_true rfl), (Nat.le_of_ble_eq_true rfl)⟩) (fun r u H locs hw hI => ?_)
    obtain ⟨rfl, hw⟩ := hw
    rw [hw] at hI
    refine lv_if_ne (tgt := 12) hx hb dX12_told_5 (by decide) (fun c_1 => ?_) (fun c_1 => ?_)
    · have c_1 := wk_b1 c_1
      refine lv_iload_n hx hb dX12_told_12 rfl (lv_at hl 2 rfl) ?_
      by_cases hs_2 : w9 = 0
      · refine lv_tableIn (tgt := 56) (off := 43) hx hb dX12_told_13 (by rw [hs_2]; decide) (by rw [hs_2]; decide) (by rw [hs_2]; rfl) (by decide) ?_
        refine lv_aload_n hx hb dX12_told_56 rfl (lv_at hl 0 rfl) ?_
        refine wk_get (v := .ref (am 1)) hx hb hts (fun w h => wk_in_M w (lay_X12 w h)) hown hK hI (0) wm_e0 rfl 1 (by decide) (hts _ (wk_in_M _ mw_495)) rfl rfl dX12_told_57 ?_
        refine lv_iload_n hx hb dX12_told_60 rfl (lv_at hl 1 rfl) ?_
        refine wk_iald (v := (nI (wk_rk σ j))) (j := j) hx hb hK hI 1 0 wm_e1 rfl rfl (by have hq12 := hV.1; omega) (by decide) rfl dX12_told_61 ?_
        refine lv_i2l hx hb dX12_told_62 rfl ?_
        exact wk_rl σ hx hb hr hlk hK hI rfl (wk_post (by unfold wk_told; rw [wk_clJ hV hj, wk_ifT (wk_okJ hV hj)]; first | (simp only [if_pos hs_2]; done) | (simp only [if_pos hs_2]; rfl))) dX12_told_63
      by_cases hs_3 : w9 = 1
      · refine lv_tableIn (tgt := 64) (off := 51) hx hb dX12_told_13 (by rw [hs_3]; decide) (by rw [hs_3]; decide) (by rw [hs_3]; rfl) (by decide) ?_
        refine lv_aload_n hx hb dX12_told_64 rfl (lv_at hl 0 rfl) ?_
        refine wk_get (v := .ref (am 2)) hx hb hts (fun w h => wk_in_M w (lay_X12 w h)) hown hK hI (0) wm_e0 rfl 2 (by decide) (hts _ (wk_in_M _ mw_496)) rfl rfl dX12_told_65 ?_
        refine lv_iload_n hx hb dX12_told_68 rfl (lv_at hl 1 rfl) ?_
        refine wk_iald (v := (wk_sk σ j)) (j := j) hx hb hK hI 2 0 wm_e2 rfl rfl (by have hq12 := hV.1; omega) (by decide) rfl dX12_told_69 ?_
        refine lv_i2l hx hb dX12_told_70 rfl ?_
        exact wk_rl σ hx hb hr hlk hK hI rfl (wk_post (by unfold wk_told; rw [wk_clJ hV hj, wk_ifT (wk_okJ hV hj)]; first | (simp only [if_neg hs_2, if_pos hs_3]; done) | (simp only [if_neg hs_2, if_pos hs_3]; rfl))) dX12_told_71
      by_cases hs_4 : w9 = 2
      · refine lv_tableIn (tgt := 72) (off := 59) hx hb dX12_told_13 (by rw [hs_4]; decide) (by rw [hs_4]; decide) (by rw [hs_4]; rfl) (by decide) ?_
        refine lv_aload_n hx hb dX12_told_72 rfl (lv_at hl 0 rfl) ?_
        refine wk_get (v := .ref (am 3)) hx hb hts (fun w h => wk_in_M w (lay_X12 w h)) hown hK hI (0) wm_e0 rfl 3 (by decide) (hts _ (wk_in_M _ mw_497)) rfl rfl dX12_told_73 ?_
        refine lv_iload_n hx hb dX12_told_76 rfl (lv_at hl 1 rfl) ?_
        refine wk_iald (v := (wk_we σ j)) (j := j) hx hb hK hI 3 0 wm_e3 rfl rfl (by have hq12 := hV.1; omega) (by decide) rfl dX12_told_77 ?_
        refine lv_i2l hx hb dX12_told_78 rfl ?_
        exact wk_rl σ hx hb hr hlk hK hI rfl (wk_post (by unfold wk_told; rw [wk_clJ hV hj, wk_ifT (wk_okJ hV hj)]; first | (simp only [if_neg hs_2, if_neg hs_3, if_pos hs_4]; done) | (simp only [if_neg hs_2, if_neg hs_3, if_pos hs_4]; rfl))) dX12_told_79
      by_cases hs_5 : w9 = 3
      · refine lv_tableIn (tgt := 80) (off := 67) hx hb dX12_told_13 (by rw [hs_5]; decide) (by rw [hs_5]; decide) (by rw [hs_5]; rfl) (by decide) ?_
        refine lv_aload_n hx hb dX12_told_80 rfl (lv_at hl 0 rfl) ?_
        refine wk_get (v := .ref (am 4)) hx hb hts (fun w h => wk_in_M w (lay_X12 w h)) hown hK hI (0) wm_e0 rfl 4 (by decide) (hts _ (wk_in_M _ mw_498)) rfl rfl dX12_told_81 ?_
        refine lv_iload_n hx hb dX12_told_84 rfl (lv_at hl 1 rfl) ?_
        refine wk_lald (v := (wk_pu σ j)) (j := j) hx hb hK hI 4 1 wm_e4 rfl rfl (by have hq12 := hV.1; omega) (by decide) rfl dX12_told_85 ?_
        exact wk_rl σ hx hb hr hlk hK hI rfl (wk_post (by unfold wk_told; rw [wk_clJ hV hj, wk_ifT (wk_okJ hV hj)]; first | (simp only [if_neg hs_2, if_neg hs_3, if_neg hs_4, if_pos hs_5]; done) | (simp only [if_neg hs_2, if_neg hs_3, if_neg hs_4, if_pos hs_5]; rfl))) dX12_told_86
      by_cases hs_6 : w9 = 4
      · refine lv_tableIn (tgt := 87) (off := 74) hx hb dX12_told_13 (by rw [hs_6]; decide) (by rw [hs_6]; decide) (by rw [hs_6]; rfl) (by decide) ?_
        refine lv_aload_n hx hb dX12_told_87 rfl (lv_at hl 0 rfl) ?_
        refine wk_get (v := .ref (am 1)) hx hb hts (fun w h => wk_in_M w (lay_X12 w h)) hown hK hI (0) wm_e0 rfl 1 (by decide) (hts _ (wk_in_M _ mw_495)) rfl rfl dX12_told_88 ?_
        refine lv_iload_n hx hb dX12_told_91 rfl (lv_at hl 1 rfl) ?_
        refine wk_iald (v := (nI (wk_rk σ j))) (j := j) hx hb hK hI 1 0 wm_e1 rfl rfl (by have hq12 := hV.1; omega) (by decide) rfl dX12_told_92 ?_
        refine wk_kI hI hA (va_runS (As := [.int (nI (wk_rk σ j))]) (rest := []) ⟨hx, hb, hml, hown, hts⟩ (c_X12_isClimber l D cI cJ cS am σ (wk_rk σ j) h8 _) (wk_cwS 1 hts wk_in_M mw_700 mw_701 mw_45 mw_702 (hdX12_isClimber).2 ⟨(Nat.le_of_ble_eq_true rfl), (Nat.le_of_ble_eq_true rfl)⟩) (wk_preS hN hK hI) rfl rfl hl.1 rfl (lv_room (Nat.le_of_ble_eq_true rfl)) dX12_told_93 ⟨(Nat.le_of_ble_eq_true rfl), (Nat.le_of_ble_eq_true rfl)⟩) (fun r u H locs hw hI => ?_)
        obtain ⟨rfl, hw⟩ := hw
        rw [hw] at hI
        refine lv_if_eq (tgt := 103) hx hb dX12_told_96 (by decide) (fun c_7 => ?_) (fun c_7 => ?_)
        · have c_7 := wk_b0 c_7
          refine lv_lconst (v := 0) hx hb dX12_told_103 (by decide) ?_
          exact wk_rl σ hx hb hr hlk hK hI rfl (wk_post (by unfold wk_told; rw [wk_clJ hV hj, wk_ifT (wk_okJ hV hj)]; first | (simp only [if_neg hs_2, if_neg hs_3, if_neg hs_4, if_neg hs_5, if_pos hs_6, if_neg c_7]; done) | (simp only [if_neg hs_2, if_neg hs_3, if_neg hs_4, if_neg hs_5, if_pos hs_6, if_neg c_7]; rfl))) dX12_told_104
        · have c_7 := wk_b1 c_7
          refine lv_lconst (v := 1) hx hb dX12_told_99 (by decide) ?_
          refine lv_goto (tgt := 104) hx hb dX12_told_100 (by decide) ?_
          exact wk_rl σ hx hb hr hlk hK hI rfl (wk_post (by unfold wk_told; rw [wk_clJ hV hj, wk_ifT (wk_okJ hV hj)]; first | (simp only [if_neg hs_2, if_neg hs_3, if_neg hs_4, if_neg hs_5, if_pos hs_6, if_pos c_7]; done) | (simp only [if_neg hs_2, if_neg hs_3, if_neg hs_4, if_neg hs_5, if_pos hs_6, if_pos c_7]; rfl))) dX12_told_104
      by_cases hs_8 : w9 = 5
      · refine lv_tableIn (tgt := 105) (off := 92) hx hb dX12_told_13 (by rw [hs_8]; decide) (by rw [hs_8]; decide) (by rw [hs_8]; rfl) (by decide) ?_
        refine lv_aload_n hx hb dX12_told_105 rfl (lv_at hl 0 rfl) ?_
        refine wk_get (v := .ref (am 1)) hx hb hts (fun w h => wk_in_M w (lay_X12 w h)) hown hK hI (0) wm_e0 rfl 1 (by decide) (hts _ (wk_in_M _ mw_495)) rfl rfl dX12_told_106 ?_
        refine lv_iload_n hx hb dX12_told_109 rfl (lv_at hl 1 rfl) ?_
        refine wk_iald (v := (nI (wk_rk σ j))) (j := j) hx hb hK hI 1 0 wm_e1 rfl rfl (by have hq12 := hV.1; omega) (by decide) rfl dX12_told_110 ?_
        refine lv_if_ne (tgt := 118) hx hb dX12_told_111 (by decide) (fun c_9 => ?_) (fun c_9 => ?_)
        · have h1 : 1 ≤ wk_rk σ j := by have hq := c_9; simp only [← Int32.toInt_inj, nI_toInt (show wk_rk σ j < 2 ^ 31 by omega), wk_lit0, wk_lit1, wk_lit2, wk_lit3, wk_lit5, wk_lit6, wk_lit7, wk_lit8, wk_lit64, wk_lit4, wk_lit12, wk_lit20, wk_lit99, wk_lit1000] at hq; omega
          refine lv_lconst (v := 1) hx hb dX12_told_118 (by decide) ?_
          exact wk_rl σ hx hb hr hlk hK hI rfl (wk_post (by unfold wk_told; rw [wk_clJ hV hj, wk_ifT (wk_okJ hV hj)]; first | (simp only [if_neg hs_2, if_neg hs_3, if_neg hs_4, if_neg hs_5, if_neg hs_6, if_pos hs_8, if_pos h1]; done) | (simp only [if_neg hs_2, if_neg hs_3, if_neg hs_4, if_neg hs_5, if_neg hs_6, if_pos hs_8, if_pos h1]; rfl))) dX12_told_119
        · have h1 : ¬ 1 ≤ wk_rk σ j := by have hq := c_9; simp only [← Int32.toInt_inj, nI_toInt (show wk_rk σ j < 2 ^ 31 by omega), wk_lit0, wk_lit1, wk_lit2, wk_lit3, wk_lit5, wk_lit6, wk_lit7, wk_lit8, wk_lit64, wk_lit4, wk_lit12, wk_lit20, wk_lit99, wk_lit1000] at hq; omega
          refine lv_lconst (v := 0) hx hb dX12_told_114 (by decide) ?_
          refine lv_goto (tgt := 119) hx hb dX12_told_115 (by decide) ?_
          exact wk_rl σ hx hb hr hlk hK hI rfl (wk_post (by unfold wk_told; rw [wk_clJ hV hj, wk_ifT (wk_okJ hV hj)]; first | (simp only [if_neg hs_2, if_neg hs_3, if_neg hs_4, if_neg hs_5, if_neg hs_6, if_pos hs_8, if_neg h1]; done) | (simp only [if_neg hs_2, if_neg hs_3, if_neg hs_4, if_neg hs_5, if_neg hs_6, if_pos hs_8, if_neg h1]; rfl))) dX12_told_119
      by_cases hs_10 : w9 = 6
      · refine lv_tableIn (tgt := 120) (off := 107) hx hb dX12_told_13 (by rw [hs_10]; decide) (by rw [hs_10]; decide) (by rw [hs_10]; rfl) (by decide) ?_
        refine lv_aload_n hx hb dX12_told_120 rfl (lv_at hl 0 rfl) ?_
        refine wk_get (v := .ref (am 1)) hx hb hts (fun w h => wk_in_M w (lay_X12 w h)) hown hK hI (0) wm_e0 rfl 1 (by decide) (hts _ (wk_in_M _ mw_495)) rfl rfl dX12_told_121 ?_
        refine lv_iload_n hx hb dX12_told_124 rfl (lv_at hl 1 rfl) ?_
        refine wk_iald (v := (nI (wk_rk σ j))) (j := j) hx hb hK hI 1 0 wm_e1 rfl rfl (by have hq12 := hV.1; omega) (by decide) rfl dX12_told_125 ?_
        refine wk_kI hI hA (va_runS (As := [.int (nI (wk_rk σ j))]) (rest := []) ⟨hx, hb, hml, hown, hts⟩ (c_X12_isCarer l D cI cJ cS am σ (wk_rk σ j) h8 _) (wk_cwS 1 hts wk_in_M mw_711 mw_712 mw_45 mw_713 (hdX12_isCarer).2 ⟨(Nat.le_of_ble_eq_true rfl), (Nat.le_of_ble_eq_true rfl)⟩) (wk_preS hN hK hI) rfl rfl hl.1 rfl (lv_room (Nat.le_of_ble_eq_true rfl)) dX12_told_126 ⟨(Nat.le_of_ble_eq_true rfl), (Nat.le_of_ble_eq_true rfl)⟩) (fun r u H locs hw hI => ?_)
        obtain ⟨rfl, hw⟩ := hw
        rw [hw] at hI
        refine lv_if_eq (tgt := 136) hx hb dX12_told_129 (by decide) (fun c_11 => ?_) (fun c_11 => ?_)
        · have c_11 := wk_b0 c_11
          refine lv_lconst (v := 0) hx hb dX12_told_136 (by decide) ?_
          exact wk_rl σ hx hb hr hlk hK hI rfl (wk_post (by unfold wk_told; rw [wk_clJ hV hj, wk_ifT (wk_okJ hV hj)]; first | (simp only [if_neg hs_2, if_neg hs_3, if_neg hs_4, if_neg hs_5, if_neg hs_6, if_neg hs_8, if_pos hs_10, if_neg c_11]; done) | (simp only [if_neg hs_2, if_neg hs_3, if_neg hs_4, if_neg hs_5, if_neg hs_6, if_neg hs_8, if_pos hs_10, if_neg c_11]; rfl))) dX12_told_137
        · have c_11 := wk_b1 c_11
          refine lv_lconst (v := 1) hx hb dX12_told_132 (by decide) ?_
          refine lv_goto (tgt := 137) hx hb dX12_told_133 (by decide) ?_
          exact wk_rl σ hx hb hr hlk hK hI rfl (wk_post (by unfold wk_told; rw [wk_clJ hV hj, wk_ifT (wk_okJ hV hj)]; first | (simp only [if_neg hs_2, if_neg hs_3, if_neg hs_4, if_neg hs_5, if_neg hs_6, if_neg hs_8, if_pos hs_10, if_pos c_11]; done) | (simp only [if_neg hs_2, if_neg hs_3, if_neg hs_4, if_neg hs_5, if_neg hs_6, if_neg hs_8, if_pos hs_10, if_pos c_11]; rfl))) dX12_told_137
      refine lv_tableOut (tgt := 138) hx hb dX12_told_13 (by have q0 := lv_neT hs_2 wk_lit0; have q1 := lv_neT hs_3 wk_lit1; have q2 := lv_neT hs_4 wk_lit2; have q3 := lv_neT hs_5 wk_lit3; have q4 := lv_neT hs_6 wk_lit4; have q5 := lv_neT hs_8 wk_lit5; have q6 := lv_neT hs_10 wk_lit6; omega) (by decide) ?_
      refine lv_ldc2 hx hb hown (hts _ (wk_in_M _ mw_567)) dX12_told_138 ?_
      exact wk_rl σ hx hb hr hlk hK hI rfl (wk_post (by unfold wk_told; rw [wk_clJ hV hj, wk_ifT (wk_okJ hV hj)]; first | (simp only [if_neg hs_2, if_neg hs_3, if_neg hs_4, if_neg hs_5, if_neg hs_6, if_neg hs_8, if_neg hs_10]; done) | (simp only [if_neg hs_2, if_neg hs_3, if_neg hs_4, if_neg hs_5, if_neg hs_6, if_neg hs_8, if_neg hs_10]; rfl))) dX12_told_141
    · have c_1 := wk_b0 c_1
      exact absurd (wk_okJ hV hj) c_1
  · have hK := hK
    refine lv_aload_n hx hb dX12_told_0 rfl (lv_at hl 0 rfl) ?_
    refine lv_iload_n hx hb dX12_told_1 rfl (lv_at hl 1 rfl) ?_
    refine wk_kI hI hA (va_runV (As := [.int k9]) (rest := []) ⟨hx, hb, hml, hown, hts⟩ (c_X12_isMember l D cI cJ cS am σ k9 _) (wk_cwV 1 hts wk_in_M mw_538 mw_540 mw_3 mw_45 mw_541 hdX12_isMember ⟨(Nat.le_of_ble_eq_true rfl), (Nat.le_of_ble_eq_true rfl)⟩) (wk_preV hN hK hI (ci := 11) rfl wm_e0) rfl rfl hl.1 rfl (lv_room (Nat.le_of_ble_eq_true rfl)) dX12_told_2 ⟨(Nat.le_of_ble_eq_true rfl), (Nat.le_of_ble_eq_true rfl)⟩) (fun r u H locs hw hI => ?_)
    obtain ⟨rfl, hw⟩ := hw
    rw [hw] at hI
    refine lv_if_ne (tgt := 12) hx hb dX12_told_5 (by decide) (fun c_12 => ?_) (fun c_12 => ?_)
    · have c_12 := wk_b1 c_12
      exact absurd c_12 hno
    · have c_12 := wk_b0 c_12
      refine lv_ldc2 hx hb hown (hts _ (wk_in_M _ mw_567)) dX12_told_8 ?_
      exact wk_rl σ hx hb hr hlk hK hI rfl (wk_post (by unfold wk_told; rw [wk_ifF hno])) dX12_told_11
set_option maxHeartbeats 4000000 in
set_option maxRecDepth 100000 in
theorem c_X12_notes (l : Launch) (D : va_G) (cI cJ cS : ClassId) (am : Nat → Nat) (σ : wk_St)   : wk_Ci l D (wk_tys cI cJ cS) yX12_notes (wk_M yX12_notes cX12_notes 1 (some .int)) ({ frames := 0, cells := 0, slots := 0, locals := 0 }) [.ref (am 0)] (wm_W cI cJ am σ) (wm_W cI cJ am) (fun r0 u0 => r0 = ((nI (wk_nt σ), σ)).1 ∧ u0 = ((nI (wk_nt σ), σ)).2) := by
  intro sz
  refine Met.ofW (cc := cX12_notes) (maxL := 1) (ret := (some .int)) (by decide) rfl ?_
  intro p e s m args below meth c s₁ B hml hv
  obtain ⟨rfl, hsz, hP, hK, hD0, hN⟩ := hv
  have hx := B.exec
  have hb := B.bytes
  have hr := B.returns
  have hts := atoms_spec (ws := wk_M yX12_notes cX12_notes 1 (some .int)) B.pre
  have hown : s.vm.findClass RX12 = some m.cls := findClass_of_methodNamed B.named
  have hlk := B.notSynchronized
  subst hsz
  have hI : wk_I D (va_A (wm_W cI cJ am σ) s.heap.size) s.heap s.heap [] (wm_W cI cJ am σ) := ⟨hP, hD0.self, va_S.rf⟩
  have hA : ∀ q : Nat, s.heap.size ≤ q → (va_A (wm_W cI cJ am σ) s.heap.size) q := fun q h => Or.inr h
  clear hP hD0
  generalize va_A (wm_W cI cJ am σ) s.heap.size = A at hI hA ⊢
  have hl := lv_entry ([.ref (am 0)]) (n := 1) (Nat.le_of_ble_eq_true rfl)
  rw [lg_entry_eq]
  generalize (lg_sl ([.ref (am 0)]) ++ List.replicate (1 - (lg_sl ([.ref (am 0)])).length) Slot.unset).toArray = ls at hl ⊢
  have hl : lv_has ls 1 [(0, .ref (am 0))] := hl
  refine lv_aload_n hx hb dX12_notes_0 rfl (lv_at hl 0 rfl) ?_
  refine wk_get (v := .int (nI (wk_nt σ))) hx hb hts (fun w h => wk_in_M w (lay_X12 w h)) hown hK hI (0) wm_e0 rfl 10 (by decide) (hts _ (wk_in_M _ mw_504)) rfl rfl dX12_notes_1 ?_
  exact wk_ri σ hx hb hr hlk hK hI rfl (wk_post (by first | rfl | (simp only []; done) | (simp only []; rfl))) dX12_notes_4
set_option maxHeartbeats 4000000 in
set_option maxRecDepth 100000 in
theorem c_X12_note (l : Launch) (D : va_G) (cI cJ cS : ClassId) (am : Nat → Nat) (σ : wk_St) (i9 : Int32)  : wk_Ci l D (wk_tys cI cJ cS) yX12_note (wk_M yX12_note cX12_note 2 (some .int)) ({ frames := 0, cells := 0, slots := 0, locals := 0 }) [.ref (am 0), .int i9] (wm_W cI cJ am σ) (wm_W cI cJ am) (fun r0 u0 => r0 = (wk_noteAt σ i9).1 ∧ u0 = (wk_noteAt σ i9).2) := by
  intro sz
  refine Met.ofW (cc := cX12_note) (maxL := 2) (ret := (some .int)) (by decide) rfl ?_
  intro p e s m args below meth c s₁ B hml hv
  obtain ⟨rfl, hsz, hP, hK, hD0, hN⟩ := hv
  have hx := B.exec
  have hb := B.bytes
  have hr := B.returns
  have hts := atoms_spec (ws := wk_M yX12_note cX12_note 2 (some .int)) B.pre
  have hown : s.vm.findClass RX12 = some m.cls := findClass_of_methodNamed B.named
  have hlk := B.notSynchronized
  subst hsz
  have hI : wk_I D (va_A (wm_W cI cJ am σ) s.heap.size) s.heap s.heap [] (wm_W cI cJ am σ) := ⟨hP, hD0.self, va_S.rf⟩
  have hA : ∀ q : Nat, s.heap.size ≤ q → (va_A (wm_W cI cJ am σ) s.heap.size) q := fun q h => Or.inr h
  clear hP hD0
  generalize va_A (wm_W cI cJ am σ) s.heap.size = A at hI hA ⊢
  have hl := lv_entry ([.ref (am 0), .int i9]) (n := 2) (Nat.le_of_ble_eq_true rfl)
  rw [lg_entry_eq]
  generalize (lg_sl ([.ref (am 0), .int i9]) ++ List.replicate (2 - (lg_sl ([.ref (am 0), .int i9])).length) Slot.unset).toArray = ls at hl ⊢
  have hl : lv_has ls 2 [(0, .ref (am 0)), (1, .int i9)] := hl
  refine lv_iload_n hx hb dX12_note_0 rfl (lv_at hl 1 rfl) ?_
  refine lv_if_lt (tgt := 18) hx hb dX12_note_1 (by decide) (fun c_1 => ?_) (fun c_1 => ?_)
  · refine lv_ldc hx hb hown (hts _ (wk_in_M _ mw_533)) dX12_note_18 ?_
    refine lv_goto (tgt := 29) hx hb dX12_note_20 (by decide) ?_
    exact wk_ri σ hx hb hr hlk hK hI rfl (wk_post (by unfold wk_noteAt; rw [wk_ifF (fun hq => wk_lnl c_1 hq.1)])) dX12_note_29
  · refine lv_iload_n hx hb dX12_note_4 rfl (lv_at hl 1 rfl) ?_
    refine lv_aload_n hx hb dX12_note_5 rfl (lv_at hl 0 rfl) ?_
    refine wk_get (v := .int (nI (wk_nt σ))) hx hb hts (fun w h => wk_in_M w (lay_X12 w h)) hown hK hI (0) wm_e0 rfl 10 (by decide) (hts _ (wk_in_M _ mw_504)) rfl rfl dX12_note_6 ?_
    refine lv_icmp_ge (tgt := 18) hx hb dX12_note_9 (by decide) (fun c_2 => ?_) (fun c_2 => ?_)
    · refine lv_ldc hx hb hown (hts _ (wk_in_M _ mw_533)) dX12_note_18 ?_
      refine lv_goto (tgt := 29) hx hb dX12_note_20 (by decide) ?_
      exact wk_ri σ hx hb hr hlk hK hI rfl (wk_post (by unfold wk_noteAt; rw [wk_ifF (fun hq => wk_lnl hq.2.1 c_2)])) dX12_note_29
    · refine lv_iload_n hx hb dX12_note_12 rfl (lv_at hl 1 rfl) ?_
      refine lv_bipush (v := 64) hx hb dX12_note_13 (by decide) ?_
      refine lv_icmp_lt (tgt := 23) hx hb dX12_note_15 (by decide) (fun c_3 => ?_) (fun c_3 => ?_)
      · obtain ⟨j, hj31, rfl⟩ := nI_of c_1
        have hj64 : j < 64 := by have hq := c_3; simp only [Int32.lt_iff_toInt_lt, Int32.le_iff_toInt_le, nI_toInt hj31, wk_lit0, wk_lit1, wk_lit2, wk_lit3, wk_lit5, wk_lit6, wk_lit7, wk_lit8, wk_lit64, wk_lit4, wk_lit12, wk_lit20, wk_lit99, wk_lit1000] at hq; omega
        refine lv_aload_n hx hb dX12_note_23 rfl (lv_at hl 0 rfl) ?_
        refine wk_get (v := .ref (am 9)) hx hb hts (fun w h => wk_in_M w (lay_X12 w h)) hown hK hI (0) wm_e0 rfl 9 (by decide) (hts _ (wk_in_M _ mw_503)) rfl rfl dX12_note_24 ?_
        refine lv_iload_n hx hb dX12_note_27 rfl (lv_at hl 1 rfl) ?_
        refine wk_iald (v := (wk_kp σ j)) (j := j) hx hb hK hI 9 0 wm_e9 rfl rfl hj64 (by decide) rfl dX12_note_28 ?_
        exact wk_ri σ hx hb hr hlk hK hI rfl (wk_post (by unfold wk_noteAt; rw [wk_ifT ⟨wk_nlt c_1, wk_nle c_2, c_3⟩, nI_clamp hj31])) dX12_note_29
      · refine lv_ldc hx hb hown (hts _ (wk_in_M _ mw_533)) dX12_note_18 ?_
        refine lv_goto (tgt := 29) hx hb dX12_note_20 (by decide) ?_
        exact wk_ri σ hx hb hr hlk hK hI rfl (wk_post (by unfold wk_noteAt; rw [wk_ifF (fun hq => c_3 hq.2.2)])) dX12_note_29
set_option maxHeartbeats 4000000 in
set_option maxRecDepth 100000 in
theorem c_X12_rest (l : Launch) (D : va_G) (cI cJ cS : ClassId) (am : Nat → Nat) (σ : wk_St) (n : Int32) (hV : wk_V σ) : wk_Ci l D (wk_tys cI cJ cS) yX12_rest (wk_M yX12_rest cX12_rest 3 (some .int)) ({ frames := 1, cells := 0, slots := 0, locals := 23 }) [.ref (am 0), .int n] (wm_W cI cJ am σ) (wm_W cI cJ am) (fun r0 u0 => r0 = (wk_rest σ n).1 ∧ u0 = (wk_rest σ n).2) := by
  intro sz
  refine Met.ofW (cc := cX12_rest) (maxL := 3) (ret := (some .int)) (by decide) rfl ?_
  intro p e s m args below meth c s₁ B hml hv
  obtain ⟨rfl, hsz, hP, hK, hD0, hN⟩ := hv
  have hx := B.exec
  have hb := B.bytes
  have hr := B.returns
  have hts := atoms_spec (ws := wk_M yX12_rest cX12_rest 3 (some .int)) B.pre
  have hown : s.vm.findClass RX12 = some m.cls := findClass_of_methodNamed B.named
  have hlk := B.notSynchronized
  subst hsz
  have hI : wk_I D (va_A (wm_W cI cJ am σ) s.heap.size) s.heap s.heap [] (wm_W cI cJ am σ) := ⟨hP, hD0.self, va_S.rf⟩
  have hA : ∀ q : Nat, s.heap.size ≤ q → (va_A (wm_W cI cJ am σ) s.heap.size) q := fun q h => Or.inr h
  clear hP hD0
  generalize va_A (wm_W cI cJ am σ) s.heap.size = A at hI hA ⊢
  have hl := lv_entry ([.ref (am 0), .int n]) (n := 3) (Nat.le_of_ble_eq_true rfl)
  rw [lg_entry_eq]
  generalize (lg_sl ([.ref (am 0), .int n]) ++ List.replicate (3 - (lg_sl ([.ref (am 0), .int n])).length) Slot.unset).toArray = ls at hl ⊢
  have hl : lv_has ls 3 [(0, .ref (am 0)), (1, .int n)] := hl
  refine lv_iload_n hx hb dX12_rest_0 rfl (lv_at hl 1 rfl) ?_
  refine lv_if_lt (tgt := 11) hx hb dX12_rest_1 (by decide) (fun c_1 => ?_) (fun c_1 => ?_)
  · refine lv_ldc hx hb hown (hts _ (wk_in_M _ mw_533)) dX12_rest_11 ?_
    exact wk_ri σ hx hb hr hlk hK hI rfl (wk_post (by unfold wk_rest; rw [wk_ifF (fun hq => wk_lnl c_1 hq.1)])) dX12_rest_13
  · refine lv_iload_n hx hb dX12_rest_4 rfl (lv_at hl 1 rfl) ?_
    refine lv_sipush (v := 1000) hx hb dX12_rest_5 (by decide) ?_
    refine lv_icmp_le (tgt := 14) hx hb dX12_rest_8 (by decide) (fun c_2 => ?_) (fun c_2 => ?_)
    · refine lv_iconst (v := 0) hx hb dX12_rest_14 (by decide) ?_
      refine lv_istore_n (lv' := [(2, .int 0), (0, .ref (am 0)), (1, .int n)]) hx hb dX12_rest_15 rfl hl (by decide) rfl (fun ls hl => ?_)
      have hN_4 : wk_n σ ≤ 12 := hV.1
      refine wk_loop (fun i H locs ls => wk_I D A s.heap H locs (wm_W cI cJ am (wk_restL (-n) σ i)) ∧ lv_has ls 3 [(0, .ref (am 0)), (1, .int n), (2, .int (nI i))]) (wk_n σ) ?_ ?_ (wk_n σ) 0 _ _ _ (Nat.zero_add _) ⟨hI, lv_sub hl [1, 2, 0] rfl⟩
      · intro H locs ls hinv
        obtain ⟨hI, hl⟩ := hinv
        have hG_5 : wk_G σ (wk_restL (-n) σ (wk_n σ)) 0 := wk_g_restL (-n) σ (wk_n σ)
        refine lv_iload_n hx hb dX12_rest_16 rfl (lv_at hl 2 rfl) ?_
        refine lv_aload_n hx hb dX12_rest_17 rfl (lv_at hl 0 rfl) ?_
        refine wk_get (v := .int (nI (wk_n (wk_restL (-n) σ (wk_n σ))))) hx hb hts (fun w h => wk_in_M w (lay_X12 w h)) hown hK hI (0) wm_e0 rfl 0 (by decide) (hts _ (wk_in_M _ mw_494)) rfl rfl dX12_rest_18 ?_
        refine lv_icmp_ge (tgt := 37) hx hb dX12_rest_21 (by decide) (fun c_6 => ?_) (fun c_6 => ?_)
        · refine lv_aload_n hx hb dX12_rest_37 rfl (lv_at hl 0 rfl) ?_
          refine wk_get (v := .int (nI (wk_n (wk_restL (-n) σ (wk_n σ))))) hx hb hts (fun w h => wk_in_M w (lay_X12 w h)) hown hK hI (0) wm_e0 rfl 0 (by decide) (hts _ (wk_in_M _ mw_494)) rfl rfl dX12_rest_38 ?_
          exact wk_ri (wk_restL (-n) σ (wk_n σ)) hx hb hr hlk hK hI rfl (wk_post (by unfold wk_rest; rw [wk_ifT ⟨wk_nlt c_1, c_2⟩, (wk_g_restL (-n) σ (wk_n σ)).n])) dX12_rest_41
        · exact absurd (by rw [show wk_n (wk_restL (-n) σ (wk_n σ)) = wk_n σ from (hG_5.n.trans rfl)]; exact nI_le (Nat.le_refl _) (by omega)) c_6
      · intro i_3 H locs ls hi_i_3 hinv ih_i_3
        obtain ⟨hI, hl⟩ := hinv
        have hs_i_3 : i_3 < wk_n σ := hi_i_3
        have hG_7 : wk_G σ (wk_restL (-n) σ i_3) 0 := wk_g_restL (-n) σ i_3
        refine lv_iload_n hx hb dX12_rest_16 rfl (lv_at hl 2 rfl) ?_
        refine lv_aload_n hx hb dX12_rest_17 rfl (lv_at hl 0 rfl) ?_
        refine wk_get (v := .int (nI (wk_n (wk_restL (-n) σ i_3)))) hx hb hts (fun w h => wk_in_M w (lay_X12 w h)) hown hK hI (0) wm_e0 rfl 0 (by decide) (hts _ (wk_in_M _ mw_494)) rfl rfl dX12_rest_18 ?_
        refine lv_icmp_ge (tgt := 37) hx hb dX12_rest_21 (by decide) (fun c_8 => ?_) (fun c_8 => ?_)
        · exact absurd c_8 (by rw [show wk_n (wk_restL (-n) σ i_3) = wk_n σ from (hG_7.n.trans rfl)]; exact nI_ge hi_i_3 (by omega))
        · refine lv_aload_n hx hb dX12_rest_24 rfl (lv_at hl 0 rfl) ?_
          refine lv_iload_n hx hb dX12_rest_25 rfl (lv_at hl 2 rfl) ?_
          refine lv_iload_n hx hb dX12_rest_26 rfl (lv_at hl 1 rfl) ?_
          refine lv_ineg hx hb dX12_rest_27 ?_
          refine wk_kV hI hA (va_runV (As := [.int (nI i_3), .int (-n)]) (rest := []) ⟨hx, hb, hml, hown, hts⟩ (c_X12_tire l D cI cJ cS am (wk_restL (-n) σ i_3) i_3 (-n) (hG_7.V hV) (hG_7.lt hs_i_3) _) (wk_cwV 2 hts wk_in_M mw_588 mw_590 mw_11 mw_45 mw_591 hdX12_tire ⟨(Nat.le_of_ble_eq_true rfl), (Nat.le_of_ble_eq_true rfl)⟩) (wk_preV hN hK hI (ci := 11) rfl wm_e0) rfl rfl hl.1 rfl (lv_room (Nat.le_of_ble_eq_true rfl)) dX12_rest_28 ⟨(Nat.le_of_ble_eq_true rfl), (Nat.le_of_ble_eq_true rfl)⟩) (fun u H locs hw hI => ?_)
          obtain rfl := hw
          have hG_9 : wk_G σ (wk_tire (wk_restL (-n) σ i_3) i_3 (-n)) (0 + 0) := hG_7.trans (wk_g_tire (wk_restL (-n) σ i_3) i_3 (-n))
          refine lv_iinc (v := nI (i_3 + 1)) (lv' := [(2, .int (nI (i_3 + 1))), (0, .ref (am 0)), (1, .int n)]) hx hb dX12_rest_31 hl (k := 2) rfl (nI_1 _) (by decide) rfl (fun ls hl => ?_)
          refine lv_goto (tgt := 16) hx hb dX12_rest_34 (by decide) ?_
          exact ih_i_3 _ _ _ ⟨hI, lv_sub hl [1, 2, 0] rfl⟩
    · refine lv_ldc hx hb hown (hts _ (wk_in_M _ mw_533)) dX12_rest_11 ?_
      exact wk_ri σ hx hb hr hlk hK hI rfl (wk_post (by unfold wk_rest; rw [wk_ifF (fun hq => c_2 hq.2)])) dX12_rest_13
set_option maxHeartbeats 4000000 in
set_option maxRecDepth 100000 in
theorem c_X12_watch (l : Launch) (D : va_G) (cI cJ cS : ClassId) (am : Nat → Nat) (σ : wk_St) (d9 n : Int32) (hV : wk_V σ) : wk_Cl l D (wk_tys cI cJ cS) yX12_watch (wk_M yX12_watch cX12_watch 6 (some .long)) ({ frames := 8, cells := 0, slots := 0, locals := 186 }) [.ref (am 0), .int d9, .int n] (wm_W cI cJ am σ) (wm_W cI cJ am) (fun r0 u0 => r0 = (wk_watch σ d9 n).1 ∧ u0 = (wk_watch σ d9 n).2) := by
  intro sz
  refine Met.ofW (cc := cX12_watch) (maxL := 6) (ret := (some .long)) (by decide) rfl ?_
  intro p e s m args below meth c s₁ B hml hv
  obtain ⟨rfl, hsz, hP, hK, hD0, hN⟩ := hv
  have hx := B.exec
  have hb := B.bytes
  have hr := B.returns
  have hts := atoms_spec (ws := wk_M yX12_watch cX12_watch 6 (some .long)) B.pre
  have hown : s.vm.findClass RX12 = some m.cls := findClass_of_methodNamed B.named
  have hlk := B.notSynchronized
  subst hsz
  have hI : wk_I D (va_A (wm_W cI cJ am σ) s.heap.size) s.heap s.heap [] (wm_W cI cJ am σ) := ⟨hP, hD0.self, va_S.rf⟩
  have hA : ∀ q : Nat, s.heap.size ≤ q → (va_A (wm_W cI cJ am σ) s.heap.size) q := fun q h => Or.inr h
  clear hP hD0
  generalize va_A (wm_W cI cJ am σ) s.heap.size = A at hI hA ⊢
  have hl := lv_entry ([.ref (am 0), .int d9, .int n]) (n := 6) (Nat.le_of_ble_eq_true rfl)
  rw [lg_entry_eq]
  generalize (lg_sl ([.ref (am 0), .int d9, .int n]) ++ List.replicate (6 - (lg_sl ([.ref (am 0), .int d9, .int n])).length) Slot.unset).toArray = ls at hl ⊢
  have hl : lv_has ls 6 [(0, .ref (am 0)), (1, .int d9), (2, .int n)] := hl
  refine lv_iload_n hx hb dX12_watch_0 rfl (lv_at hl 1 rfl) ?_
  refine lv_if_lt (tgt := 17) hx hb dX12_watch_1 (by decide) (fun c_1 => ?_) (fun c_1 => ?_)
  · refine lv_ldc2 hx hb hown (hts _ (wk_in_M _ mw_567)) dX12_watch_17 ?_
    exact wk_rl σ hx hb hr hlk hK hI rfl (wk_post (by unfold wk_watch; rw [wk_ifF (fun hq => wk_lnl c_1 hq.1.1)])) dX12_watch_20
  · refine lv_iload_n hx hb dX12_watch_4 rfl (lv_at hl 1 rfl) ?_
    refine lv_iconst (v := 3) hx hb dX12_watch_5 (by decide) ?_
    refine lv_icmp_gt (tgt := 17) hx hb dX12_watch_6 (by decide) (fun c_2 => ?_) (fun c_2 => ?_)
    · refine lv_ldc2 hx hb hown (hts _ (wk_in_M _ mw_567)) dX12_watch_17 ?_
      exact wk_rl σ hx hb hr hlk hK hI rfl (wk_post (by unfold wk_watch; rw [wk_ifF (fun hq => wk_lnl c_2 hq.1.2)])) dX12_watch_20
    · refine lv_iload_n hx hb dX12_watch_9 rfl (lv_at hl 1 rfl) ?_
      refine lv_iload_n hx hb dX12_watch_10 rfl (lv_at hl 2 rfl) ?_
      refine wk_kI hI hA (va_runS (As := [.int d9, .int n]) (rest := []) ⟨hx, hb, hml, hown, hts⟩ (c_X12_isWithin l D cI cJ cS am σ d9 n _) (wk_cwS 2 hts wk_in_M mw_561 mw_562 mw_45 mw_563 (hdX12_isWithin).2 ⟨(Nat.le_of_ble_eq_true rfl), (Nat.le_of_ble_eq_true rfl)⟩) (wk_preS hN hK hI) rfl rfl hl.1 rfl (lv_room (Nat.le_of_ble_eq_true rfl)) dX12_watch_11 ⟨(Nat.le_of_ble_eq_true rfl), (Nat.le_of_ble_eq_true rfl)⟩) (fun r u H locs hw hI => ?_)
      obtain ⟨rfl, hw⟩ := hw
      rw [hw] at hI
      refine lv_if_ne (tgt := 21) hx hb dX12_watch_14 (by decide) (fun c_3 => ?_) (fun c_3 => ?_)
      · have c_3 := wk_b1 c_3
        refine lv_aload_n hx hb dX12_watch_21 rfl (lv_at hl 0 rfl) ?_
        refine lv_iconst (v := 0) hx hb dX12_watch_22 (by decide) ?_
        refine wk_put (v := .int (nI 0)) (ty := .int) hx hb hts (fun w h => wk_in_M w (lay_X12 w h)) tyX12 tyX12_ok nmX12 hown hK hI (0) wm_e0 rfl 10 (by decide) (hts _ (wk_in_M _ mw_504)) rfl rfl (by decide +kernel) rfl rfl (Nat.le_of_ble_eq_true rfl) (wm_sNt _) dX12_watch_23 (fun H locs hI => ?_)
        refine lv_lconst (v := 0) hx hb dX12_watch_26 (by decide) ?_
        refine lv_lstore_n (lv' := [(3, .long 0), (0, .ref (am 0)), (1, .int d9), (2, .int n)]) hx hb dX12_watch_27 rfl hl (by decide) rfl (fun ls hl => ?_)
        refine lv_iconst (v := 0) hx hb dX12_watch_28 (by decide) ?_
        refine lv_istore (lv' := [(5, .int 0), (3, .long 0), (0, .ref (am 0)), (1, .int d9), (2, .int n)]) hx hb dX12_watch_29 hl (by decide) rfl (fun ls hl => ?_)
        have hN_5 : wk_n (wk_fg σ) ≤ 12 := hV.1
        refine wk_loop (fun i H locs ls => wk_I D A s.heap H locs (wm_W cI cJ am ((wk_watchL d9 n (wk_fg σ) i).2)) ∧ lv_has ls 6 [(0, .ref (am 0)), (1, .int d9), (2, .int n), (3, .long ((wk_watchL d9 n (wk_fg σ) i).1)), (5, .int (nI i))]) (wk_n (wk_fg σ)) ?_ ?_ (wk_n (wk_fg σ)) 0 _ _ _ (Nat.zero_add _) ⟨hI, lv_sub hl [2, 3, 4, 1, 0] rfl⟩
        · intro H locs ls hinv
          obtain ⟨hI, hl⟩ := hinv
          have hG_6 : wk_G (wk_fg σ) ((wk_watchL d9 n (wk_fg σ) (wk_n (wk_fg σ))).2) (28 * (wk_n (wk_fg σ))) := wk_g_watchL d9 n (wk_fg σ) hV.1 (wk_n (wk_fg σ))
          refine lv_iload hx hb dX12_watch_31 (lv_at hl 4 rfl) ?_
          refine lv_aload_n hx hb dX12_watch_33 rfl (lv_at hl 0 rfl) ?_
          refine wk_get (v := .int (nI (wk_n ((wk_watchL d9 n (wk_fg σ) (wk_n (wk_fg σ))).2)))) hx hb hts (fun w h => wk_in_M w (lay_X12 w h)) hown hK hI (0) wm_e0 rfl 0 (by decide) (hts _ (wk_in_M _ mw_494)) rfl rfl dX12_watch_34 ?_
          refine lv_icmp_ge (tgt := 58) hx hb dX12_watch_37 (by decide) (fun c_7 => ?_) (fun c_7 => ?_)
          · refine lv_lload_n hx hb dX12_watch_58 rfl (lv_at hl 3 rfl) ?_
            exact wk_rl ((wk_watchL d9 n (wk_fg σ) (wk_n (wk_fg σ))).2) hx hb hr hlk hK hI rfl (wk_post (by unfold wk_watch; rw [wk_ifT ⟨⟨wk_nlt c_1, wk_nlt c_2⟩, c_3⟩]; first | done | rfl)) dX12_watch_59
          · exact absurd (by rw [show wk_n ((wk_watchL d9 n (wk_fg σ) (wk_n (wk_fg σ))).2) = wk_n (wk_fg σ) from (hG_6.n.trans rfl)]; exact nI_le (Nat.le_refl _) (by omega)) c_7
        · intro i_4 H locs ls hi_i_4 hinv ih_i_4
          obtain ⟨hI, hl⟩ := hinv
          have hs_i_4 : i_4 < wk_n (wk_fg σ) := hi_i_4
          have hG_8 : wk_G (wk_fg σ) ((wk_watchL d9 n (wk_fg σ) i_4).2) (28 * i_4) := wk_g_watchL d9 n (wk_fg σ) hV.1 i_4
          refine lv_iload hx hb dX12_watch_31 (lv_at hl 4 rfl) ?_
          refine lv_aload_n hx hb dX12_watch_33 rfl (lv_at hl 0 rfl) ?_
          refine wk_get (v := .int (nI (wk_n ((wk_watchL d9 n (wk_fg σ) i_4).2)))) hx hb hts (fun w h => wk_in_M w (lay_X12 w h)) hown hK hI (0) wm_e0 rfl 0 (by decide) (hts _ (wk_in_M _ mw_494)) rfl rfl dX12_watch_34 ?_
          refine lv_icmp_ge (tgt := 58) hx hb dX12_watch_37 (by decide) (fun c_9 => ?_) (fun c_9 => ?_)
          · exact absurd c_9 (by rw [show wk_n ((wk_watchL d9 n (wk_fg σ) i_4).2) = wk_n (wk_fg σ) from (hG_8.n.trans rfl)]; exact nI_ge hi_i_4 (by omega))
          · refine lv_lload_n hx hb dX12_watch_40 rfl (lv_at hl 3 rfl) ?_
            refine lv_aload_n hx hb dX12_watch_41 rfl (lv_at hl 0 rfl) ?_
            refine lv_iload_n hx hb dX12_watch_42 rfl (lv_at hl 1 rfl) ?_
            refine lv_iload hx hb dX12_watch_43 (lv_at hl 4 rfl) ?_
            refine lv_iload_n hx hb dX12_watch_45 rfl (lv_at hl 2 rfl) ?_
            refine lv_iconst (v := 0) hx hb dX12_watch_46 (by decide) ?_
            refine wk_kL hI hA (va_runV (As := [.int d9, .int (nI i_4), .int n, .int 0]) (rest := [.long ((wk_watchL d9 n (wk_fg σ) i_4).1)]) ⟨hx, hb, hml, hown, hts⟩ (c_X12_work l D cI cJ cS am ((wk_watchL d9 n (wk_fg σ) i_4).2) d9 i_4 n 0 (hG_8.V hV) (hG_8.lt hs_i_4) (by have hq := hG_8.nt; have hq0 : wk_nt (wk_fg σ) = 0 := rfl; have hq12 : wk_n (wk_fg σ) ≤ 12 := hV.1; omega) c_3 _) (wk_cwV 4 hts wk_in_M mw_568 mw_570 mw_6 mw_45 mw_571 hdX12_work ⟨(Nat.le_of_ble_eq_true rfl), (Nat.le_of_ble_eq_true rfl)⟩) (wk_preV hN hK hI (ci := 11) rfl wm_e0) rfl rfl hl.1 rfl (lv_room (Nat.le_of_ble_eq_true rfl)) dX12_watch_47 ⟨(Nat.le_of_ble_eq_true rfl), (Nat.le_of_ble_eq_true rfl)⟩) (fun r u H locs hw hI => ?_)
            obtain ⟨rfl, rfl⟩ := hw
            have hG_10 : wk_G (wk_fg σ) (wk_wk d9 ((wk_watchL d9 n (wk_fg σ) i_4).2) i_4 n 0) ((28 * i_4) + 28) := hG_8.trans (wk_g_wk d9 ((wk_watchL d9 n (wk_fg σ) i_4).2) i_4 n 0 (hG_8.V hV).1)
            refine lv_ladd hx hb dX12_watch_50 ?_
            refine lv_lstore_n (lv' := [(3, .long (((wk_watchL d9 n (wk_fg σ) i_4).1) + ((wk_do d9 ((wk_watchL d9 n (wk_fg σ) i_4).2) i_4 n).1))), (0, .ref (am 0)), (1, .int d9), (2, .int n), (5, .int (nI i_4))]) hx hb dX12_watch_51 rfl hl (by decide) rfl (fun ls hl => ?_)
            refine lv_iinc (v := nI (i_4 + 1)) (lv' := [(5, .int (nI (i_4 + 1))), (3, .long (((wk_watchL d9 n (wk_fg σ) i_4).1) + ((wk_do d9 ((wk_watchL d9 n (wk_fg σ) i_4).2) i_4 n).1))), (0, .ref (am 0)), (1, .int d9), (2, .int n)]) hx hb dX12_watch_52 hl (k := 4) rfl (nI_1 _) (by decide) rfl (fun ls hl => ?_)
            refine lv_goto (tgt := 31) hx hb dX12_watch_55 (by decide) ?_
            exact ih_i_4 _ _ _ ⟨by rw [wk_wk0] at hI; exact hI, lv_sub hl [2, 3, 4, 1, 0] rfl⟩
      · have c_3 := wk_b0 c_3
        refine lv_ldc2 hx hb hown (hts _ (wk_in_M _ mw_567)) dX12_watch_17 ?_
        exact wk_rl σ hx hb hr hlk hK hI rfl (wk_post (by unfold wk_watch; rw [wk_ifF (fun hq => c_3 hq.2)])) dX12_watch_20
set_option maxHeartbeats 4000000 in
set_option maxRecDepth 100000 in
theorem c_X12_line (l : Launch) (D : va_G) (cI cJ cS : ClassId) (am : Nat → Nat) (σ : wk_St) (i9 d9 n lo9 hi9 : Int32)  : wk_Ci l D (wk_tys cI cJ cS) yX12_line (wk_M yX12_line cX12_line 6 (some .int)) ({ frames := 2, cells := 0, slots := 0, locals := 41 }) [.ref (am 0), .int i9, .int d9, .int n, .int lo9, .int hi9] (wm_W cI cJ am σ) (wm_W cI cJ am) (fun r0 u0 => r0 = (wk_line σ i9 d9 n lo9 hi9).1 ∧ u0 = (wk_line σ i9 d9 n lo9 hi9).2) := by
  intro sz
  refine Met.ofW (cc := cX12_line) (maxL := 6) (ret := (some .int)) (by decide) rfl ?_
  intro p e s m args below meth c s₁ B hml hv
  obtain ⟨rfl, hsz, hP, hK, hD0, hN⟩ := hv
  have hx := B.exec
  have hb := B.bytes
  have hr := B.returns
  have hts := atoms_spec (ws := wk_M yX12_line cX12_line 6 (some .int)) B.pre
  have hown : s.vm.findClass RX12 = some m.cls := findClass_of_methodNamed B.named
  have hlk := B.notSynchronized
  subst hsz
  have hI : wk_I D (va_A (wm_W cI cJ am σ) s.heap.size) s.heap s.heap [] (wm_W cI cJ am σ) := ⟨hP, hD0.self, va_S.rf⟩
  have hA : ∀ q : Nat, s.heap.size ≤ q → (va_A (wm_W cI cJ am σ) s.heap.size) q := fun q h => Or.inr h
  clear hP hD0
  generalize va_A (wm_W cI cJ am σ) s.heap.size = A at hI hA ⊢
  have hl := lv_entry ([.ref (am 0), .int i9, .int d9, .int n, .int lo9, .int hi9]) (n := 6) (Nat.le_of_ble_eq_true rfl)
  rw [lg_entry_eq]
  generalize (lg_sl ([.ref (am 0), .int i9, .int d9, .int n, .int lo9, .int hi9]) ++ List.replicate (6 - (lg_sl ([.ref (am 0), .int i9, .int d9, .int n, .int lo9, .int hi9])).length) Slot.unset).toArray = ls at hl ⊢
  have hl : lv_has ls 6 [(0, .ref (am 0)), (1, .int i9), (2, .int d9), (3, .int n), (4, .int lo9), (5, .int hi9)] := hl
  refine lv_iload_n hx hb dX12_line_0 rfl (lv_at hl 1 rfl) ?_
  refine lv_if_lt (tgt := 10) hx hb dX12_line_1 (by decide) (fun c_1 => ?_) (fun c_1 => ?_)
  · refine lv_ldc hx hb hown (hts _ (wk_in_M _ mw_533)) dX12_line_10 ?_
    exact wk_ri σ hx hb hr hlk hK hI rfl (wk_post (by unfold wk_line; rw [wk_ifF (fun hq => wk_lnl c_1 hq.1)])) dX12_line_12
  · refine lv_iload_n hx hb dX12_line_4 rfl (lv_at hl 1 rfl) ?_
    refine lv_bipush (v := 7) hx hb dX12_line_5 (by decide) ?_
    refine lv_icmp_le (tgt := 13) hx hb dX12_line_7 (by decide) (fun c_2 => ?_) (fun c_2 => ?_)
    · obtain ⟨j, hj31, rfl⟩ := nI_of c_1
      have hj8 : j < 8 := by have hq := c_2; simp only [Int32.lt_iff_toInt_lt, Int32.le_iff_toInt_le, nI_toInt hj31, wk_lit0, wk_lit1, wk_lit2, wk_lit3, wk_lit5, wk_lit6, wk_lit7, wk_lit8, wk_lit64, wk_lit4, wk_lit12, wk_lit20, wk_lit99, wk_lit1000] at hq; omega
      have hi8 : nI j < 8 := by have hq := c_2; simp only [Int32.lt_iff_toInt_lt, Int32.le_iff_toInt_le, nI_toInt hj31, wk_lit0, wk_lit1, wk_lit2, wk_lit3, wk_lit5, wk_lit6, wk_lit7, wk_lit8, wk_lit64, wk_lit4, wk_lit12, wk_lit20, wk_lit99, wk_lit1000] at hq ⊢; omega
      refine lv_iload_n hx hb dX12_line_13 rfl (lv_at hl 2 rfl) ?_
      refine lv_iconst (v := (-1)) hx hb dX12_line_14 (by decide) ?_
      refine lv_icmp_ne (tgt := 27) hx hb dX12_line_15 (by decide) (fun c_3 => ?_) (fun c_3 => ?_)
      · refine lv_iload_n hx hb dX12_line_27 rfl (lv_at hl 2 rfl) ?_
        refine lv_if_lt (tgt := 63) hx hb dX12_line_28 (by decide) (fun c_4 => ?_) (fun c_4 => ?_)
        · refine lv_ldc hx hb hown (hts _ (wk_in_M _ mw_533)) dX12_line_63 ?_
          exact wk_ri σ hx hb hr hlk hK hI rfl (wk_post (by unfold wk_line; rw [wk_ifT ⟨wk_nlt c_1, hi8⟩, wk_ifF c_3, wk_ifF (fun hq => wk_lnl c_4 hq.1.1)])) dX12_line_65
        · refine lv_iload_n hx hb dX12_line_31 rfl (lv_at hl 2 rfl) ?_
          refine lv_iconst (v := 3) hx hb dX12_line_32 (by decide) ?_
          refine lv_icmp_gt (tgt := 63) hx hb dX12_line_33 (by decide) (fun c_5 => ?_) (fun c_5 => ?_)
          · refine lv_ldc hx hb hown (hts _ (wk_in_M _ mw_533)) dX12_line_63 ?_
            exact wk_ri σ hx hb hr hlk hK hI rfl (wk_post (by unfold wk_line; rw [wk_ifT ⟨wk_nlt c_1, hi8⟩, wk_ifF c_3, wk_ifF (fun hq => wk_lnl c_5 hq.1.2)])) dX12_line_65
          · refine lv_iload_n hx hb dX12_line_36 rfl (lv_at hl 2 rfl) ?_
            refine lv_iload_n hx hb dX12_line_37 rfl (lv_at hl 3 rfl) ?_
            refine wk_kI hI hA (va_runS (As := [.int d9, .int n]) (rest := []) ⟨hx, hb, hml, hown, hts⟩ (c_X12_isWithin l D cI cJ cS am σ d9 n _) (wk_cwS 2 hts wk_in_M mw_561 mw_562 mw_45 mw_563 (hdX12_isWithin).2 ⟨(Nat.le_of_ble_eq_true rfl), (Nat.le_of_ble_eq_true rfl)⟩) (wk_preS hN hK hI) rfl rfl hl.1 rfl (lv_room (Nat.le_of_ble_eq_true rfl)) dX12_line_38 ⟨(Nat.le_of_ble_eq_true rfl), (Nat.le_of_ble_eq_true rfl)⟩) (fun r u H locs hw hI => ?_)
            obtain ⟨rfl, hw⟩ := hw
            rw [hw] at hI
            refine lv_if_eq (tgt := 63) hx hb dX12_line_41 (by decide) (fun c_6 => ?_) (fun c_6 => ?_)
            · have c_6 := wk_b0 c_6
              refine lv_ldc hx hb hown (hts _ (wk_in_M _ mw_533)) dX12_line_63 ?_
              exact wk_ri σ hx hb hr hlk hK hI rfl (wk_post (by unfold wk_line; rw [wk_ifT ⟨wk_nlt c_1, hi8⟩, wk_ifF c_3, wk_ifF (fun hq => c_6 hq.2.1)])) dX12_line_65
            · have c_6 := wk_b1 c_6
              refine lv_iload hx hb dX12_line_44 (lv_at hl 4 rfl) ?_
              refine lv_if_lt (tgt := 63) hx hb dX12_line_46 (by decide) (fun c_7 => ?_) (fun c_7 => ?_)
              · refine lv_ldc hx hb hown (hts _ (wk_in_M _ mw_533)) dX12_line_63 ?_
                exact wk_ri σ hx hb hr hlk hK hI rfl (wk_post (by unfold wk_line; rw [wk_ifT ⟨wk_nlt c_1, hi8⟩, wk_ifF c_3, wk_ifF (fun hq => wk_lnl c_7 hq.2.2.1.1)])) dX12_line_65
              · refine lv_iload hx hb dX12_line_49 (lv_at hl 5 rfl) ?_
                refine lv_bipush (v := 7) hx hb dX12_line_51 (by decide) ?_
                refine lv_icmp_gt (tgt := 63) hx hb dX12_line_53 (by decide) (fun c_8 => ?_) (fun c_8 => ?_)
                · refine lv_ldc hx hb hown (hts _ (wk_in_M _ mw_533)) dX12_line_63 ?_
                  exact wk_ri σ hx hb hr hlk hK hI rfl (wk_post (by unfold wk_line; rw [wk_ifT ⟨wk_nlt c_1, hi8⟩, wk_ifF c_3, wk_ifF (fun hq => wk_lnl c_8 hq.2.2.2.1.2)])) dX12_line_65
                · refine lv_iload hx hb dX12_line_56 (lv_at hl 4 rfl) ?_
                  refine lv_iload hx hb dX12_line_58 (lv_at hl 5 rfl) ?_
                  refine lv_icmp_le (tgt := 66) hx hb dX12_line_60 (by decide) (fun c_9 => ?_) (fun c_9 => ?_)
                  · refine lv_aload_n hx hb dX12_line_66 rfl (lv_at hl 0 rfl) ?_
                    refine wk_get (v := .ref (am 5)) hx hb hts (fun w h => wk_in_M w (lay_X12 w h)) hown hK hI (0) wm_e0 rfl 5 (by decide) (hts _ (wk_in_M _ mw_499)) rfl rfl dX12_line_67 ?_
                    refine lv_iload_n hx hb dX12_line_70 rfl (lv_at hl 1 rfl) ?_
                    refine lv_iload_n hx hb dX12_line_71 rfl (lv_at hl 2 rfl) ?_
                    refine wk_iast (j := j) hx hb hK hI 5 0 wm_e5 rfl rfl hj8 (by decide) (wm_sLd _) dX12_line_72 (fun H locs hI => ?_)
                    refine lv_aload_n hx hb dX12_line_73 rfl (lv_at hl 0 rfl) ?_
                    refine wk_get (v := .ref (am 6)) hx hb hts (fun w h => wk_in_M w (lay_X12 w h)) hown hK hI (0) wm_e0 rfl 6 (by decide) (hts _ (wk_in_M _ mw_500)) rfl rfl dX12_line_74 ?_
                    refine lv_iload_n hx hb dX12_line_77 rfl (lv_at hl 1 rfl) ?_
                    refine lv_iload_n hx hb dX12_line_78 rfl (lv_at hl 3 rfl) ?_
                    refine wk_iast (j := j) hx hb hK hI 6 0 wm_e6 rfl rfl hj8 (by decide) (wm_sLn _) dX12_line_79 (fun H locs hI => ?_)
                    refine lv_aload_n hx hb dX12_line_80 rfl (lv_at hl 0 rfl) ?_
                    refine wk_get (v := .ref (am 7)) hx hb hts (fun w h => wk_in_M w (lay_X12 w h)) hown hK hI (0) wm_e0 rfl 7 (by decide) (hts _ (wk_in_M _ mw_501)) rfl rfl dX12_line_81 ?_
                    refine lv_iload_n hx hb dX12_line_84 rfl (lv_at hl 1 rfl) ?_
                    refine lv_iload hx hb dX12_line_85 (lv_at hl 4 rfl) ?_
                    refine wk_iast (j := j) hx hb hK hI 7 0 wm_e7 rfl rfl hj8 (by decide) (wm_sLl _) dX12_line_87 (fun H locs hI => ?_)
                    refine lv_aload_n hx hb dX12_line_88 rfl (lv_at hl 0 rfl) ?_
                    refine wk_get (v := .ref (am 8)) hx hb hts (fun w h => wk_in_M w (lay_X12 w h)) hown hK hI (0) wm_e0 rfl 8 (by decide) (hts _ (wk_in_M _ mw_502)) rfl rfl dX12_line_89 ?_
                    refine lv_iload_n hx hb dX12_line_92 rfl (lv_at hl 1 rfl) ?_
                    refine lv_iload hx hb dX12_line_93 (lv_at hl 5 rfl) ?_
                    refine wk_iast (j := j) hx hb hK hI 8 0 wm_e8 rfl rfl hj8 (by decide) (wm_sLh _) dX12_line_95 (fun H locs hI => ?_)
                    refine lv_iconst (v := 1) hx hb dX12_line_96 (by decide) ?_
                    have hlo7 : lo9 ≤ 7 := by have q1 := c_7; have q2 := c_8; have q3 := c_9; simp only [Int32.lt_iff_toInt_lt, Int32.le_iff_toInt_le, wk_lit0, wk_lit1, wk_lit2, wk_lit3, wk_lit5, wk_lit6, wk_lit7, wk_lit8, wk_lit64, wk_lit4, wk_lit12, wk_lit20, wk_lit99, wk_lit1000] at q1 q2 q3 ⊢; omega
                    have hhi0 : 0 ≤ hi9 := by have q1 := c_7; have q2 := c_8; have q3 := c_9; simp only [Int32.lt_iff_toInt_lt, Int32.le_iff_toInt_le, wk_lit0, wk_lit1, wk_lit2, wk_lit3, wk_lit5, wk_lit6, wk_lit7, wk_lit8, wk_lit64, wk_lit4, wk_lit12, wk_lit20, wk_lit99, wk_lit1000] at q1 q2 q3 ⊢; omega
                    exact wk_ri (wk_sLh (wk_sLl (wk_sLn (wk_sLd σ (upd (wk_ld σ) j d9)) (upd (wk_ln (wk_sLd σ (upd (wk_ld σ) j d9))) j n)) (upd (wk_ll (wk_sLn (wk_sLd σ (upd (wk_ld σ) j d9)) (upd (wk_ln (wk_sLd σ (upd (wk_ld σ) j d9))) j n))) j lo9)) (upd (wk_lh (wk_sLl (wk_sLn (wk_sLd σ (upd (wk_ld σ) j d9)) (upd (wk_ln (wk_sLd σ (upd (wk_ld σ) j d9))) j n)) (upd (wk_ll (wk_sLn (wk_sLd σ (upd (wk_ld σ) j d9)) (upd (wk_ln (wk_sLd σ (upd (wk_ld σ) j d9))) j n))) j lo9))) j hi9)) hx hb hr hlk hK hI rfl (wk_post (by unfold wk_line; rw [wk_ifT ⟨wk_nlt c_1, hi8⟩, wk_ifF c_3, wk_ifT ⟨⟨wk_nlt c_4, wk_nlt c_5⟩, c_6, ⟨wk_nlt c_7, hlo7⟩, ⟨hhi0, wk_nlt c_8⟩, c_9⟩, nI_clamp hj31]; first | done | rfl)) dX12_line_97
                  · refine lv_ldc hx hb hown (hts _ (wk_in_M _ mw_533)) dX12_line_63 ?_
                    exact wk_ri σ hx hb hr hlk hK hI rfl (wk_post (by unfold wk_line; rw [wk_ifT ⟨wk_nlt c_1, hi8⟩, wk_ifF c_3, wk_ifF (fun hq => c_9 hq.2.2.2.2)])) dX12_line_65
      · refine lv_aload_n hx hb dX12_line_18 rfl (lv_at hl 0 rfl) ?_
        refine wk_get (v := .ref (am 5)) hx hb hts (fun w h => wk_in_M w (lay_X12 w h)) hown hK hI (0) wm_e0 rfl 5 (by decide) (hts _ (wk_in_M _ mw_499)) rfl rfl dX12_line_19 ?_
        refine lv_iload_n hx hb dX12_line_22 rfl (lv_at hl 1 rfl) ?_
        refine lv_iconst (v := (-1)) hx hb dX12_line_23 (by decide) ?_
        refine wk_iast (j := j) hx hb hK hI 5 0 wm_e5 rfl rfl hj8 (by decide) (wm_sLd _) dX12_line_24 (fun H locs hI => ?_)
        refine lv_iconst (v := 1) hx hb dX12_line_25 (by decide) ?_
        exact wk_ri (wk_sLd σ (upd (wk_ld σ) j (-1))) hx hb hr hlk hK hI rfl (wk_post (by unfold wk_line; rw [wk_ifT ⟨wk_nlt c_1, hi8⟩, wk_ifT c_3, nI_clamp hj31])) dX12_line_26
    · refine lv_ldc hx hb hown (hts _ (wk_in_M _ mw_533)) dX12_line_10 ?_
      exact wk_ri σ hx hb hr hlk hK hI rfl (wk_post (by unfold wk_line; rw [wk_ifF (fun hq => by obtain ⟨h1, h2⟩ := hq; simp only [Int32.lt_iff_toInt_lt, Int32.le_iff_toInt_le, wk_lit0, wk_lit1, wk_lit2, wk_lit3, wk_lit5, wk_lit6, wk_lit7, wk_lit8, wk_lit64, wk_lit4, wk_lit12, wk_lit20, wk_lit99, wk_lit1000] at c_2 h1 h2; omega)])) dX12_line_12
