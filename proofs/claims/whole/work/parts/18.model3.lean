set_option maxHeartbeats 4000000 in
set_option maxRecDepth 100000 in
theorem c_X12_does (l : Launch) (D : va_G) (cI cJ cS : ClassId) (am : Nat → Nat) (σ : wk_St) (d9 : Int32) (k : Nat) (n : Int32) (hV : wk_V σ) (hk : k < wk_n σ) (hc : wk_nt σ + 28 < 2147483648) (hin : wk_in d9 n) : wk_Cl l D (wk_tys cI cJ cS) yX12_does (wk_M yX12_does cX12_does 4 (some .long)) ({ frames := 6, cells := 0, slots := 0, locals := 137 }) [.ref (am 0), .int d9, .int (nI k), .int n] (wm_W cI cJ am σ) (wm_W cI cJ am) (fun r0 u0 => r0 = (wk_do d9 σ k n).1 ∧ u0 = (wk_do d9 σ k n).2) := by
  intro sz
  refine Met.ofW (cc := cX12_does) (maxL := 4) (ret := (some .long)) (by decide) rfl ?_
  intro p e s m args below meth c s₁ B hml hv
  obtain ⟨rfl, hsz, hP, hK, hD0, hN⟩ := hv
  have hx := B.exec
  have hb := B.bytes
  have hr := B.returns
  have hts := atoms_spec (ws := wk_M yX12_does cX12_does 4 (some .long)) B.pre
  have hown : s.vm.findClass RX12 = some m.cls := findClass_of_methodNamed B.named
  have hlk := B.notSynchronized
  subst hsz
  have hI : wk_I D (va_A (wm_W cI cJ am σ) s.heap.size) s.heap s.heap [] (wm_W cI cJ am σ) := ⟨hP, hD0.self, va_S.rf⟩
  have hA : ∀ q : Nat, s.heap.size ≤ q → (va_A (wm_W cI cJ am σ) s.heap.size) q := fun q h => Or.inr h
  clear hP hD0
  generalize va_A (wm_W cI cJ am σ) s.heap.size = A at hI hA ⊢
  have hl := lv_entry ([.ref (am 0), .int d9, .int (nI k), .int n]) (n := 4) (Nat.le_of_ble_eq_true rfl)
  rw [lg_entry_eq]
  generalize (lg_sl ([.ref (am 0), .int d9, .int (nI k), .int n]) ++ List.replicate (4 - (lg_sl ([.ref (am 0), .int d9, .int (nI k), .int n])).length) Slot.unset).toArray = ls at hl ⊢
  have hl : lv_has ls 4 [(0, .ref (am 0)), (1, .int d9), (2, .int (nI k)), (3, .int n)] := hl
  refine lv_iload_n hx hb dX12_does_0 rfl (lv_at hl 1 rfl) ?_
  by_cases hs_1 : d9 = 0
  · refine lv_tableIn (tgt := 28) (off := 27) hx hb dX12_does_1 (by rw [hs_1]; decide) (by rw [hs_1]; decide) (by rw [hs_1]; rfl) (by decide) ?_
    refine lv_aload_n hx hb dX12_does_28 rfl (lv_at hl 0 rfl) ?_
    refine lv_iload_n hx hb dX12_does_29 rfl (lv_at hl 2 rfl) ?_
    refine lv_iload_n hx hb dX12_does_30 rfl (lv_at hl 3 rfl) ?_
    refine wk_kL hI hA (va_runV (As := [.int (nI k), .int n]) (rest := []) ⟨hx, hb, hml, hown, hts⟩ (c_X12_toils l D cI cJ cS am σ k n hV hk (by have hq12 := hV.1; omega) _) (wk_cwV 2 hts wk_in_M mw_576 mw_578 mw_8 mw_45 mw_579 hdX12_toils ⟨(Nat.le_of_ble_eq_true rfl), (Nat.le_of_ble_eq_true rfl)⟩) (wk_preV hN hK hI (ci := 11) rfl wm_e0) rfl rfl hl.1 rfl (lv_room (Nat.le_of_ble_eq_true rfl)) dX12_does_31 ⟨(Nat.le_of_ble_eq_true rfl), (Nat.le_of_ble_eq_true rfl)⟩) (fun r u H locs hw hI => ?_)
    obtain ⟨rfl, rfl⟩ := hw
    have hG_2 : wk_G σ ((wk_toilR (wk_rk σ k) σ k n).2) 6 := wk_g_toilR (wk_rk σ k) σ k n
    exact wk_rl ((wk_toilR (wk_rk σ k) σ k n).2) hx hb hr hlk hK hI rfl (wk_post (by first | rfl | (simp only [wk_do, if_pos hs_1]; done) | (simp only [wk_do, if_pos hs_1]; rfl))) dX12_does_34
  by_cases hs_3 : d9 = 1
  · refine lv_tableIn (tgt := 35) (off := 34) hx hb dX12_does_1 (by rw [hs_3]; decide) (by rw [hs_3]; decide) (by rw [hs_3]; rfl) (by decide) ?_
    refine lv_aload_n hx hb dX12_does_35 rfl (lv_at hl 0 rfl) ?_
    refine lv_iload_n hx hb dX12_does_36 rfl (lv_at hl 2 rfl) ?_
    refine lv_iload_n hx hb dX12_does_37 rfl (lv_at hl 3 rfl) ?_
    refine wk_kL hI hA (va_runV (As := [.int (nI k), .int n]) (rest := []) ⟨hx, hb, hml, hown, hts⟩ (c_X12_isPaid l D cI cJ cS am σ k n hV hk (by have hq12 := hV.1; omega) _) (wk_cwV 2 hts wk_in_M mw_610 mw_612 mw_16 mw_45 mw_613 hdX12_isPaid ⟨(Nat.le_of_ble_eq_true rfl), (Nat.le_of_ble_eq_true rfl)⟩) (wk_preV hN hK hI (ci := 11) rfl wm_e0) rfl rfl hl.1 rfl (lv_room (Nat.le_of_ble_eq_true rfl)) dX12_does_38 ⟨(Nat.le_of_ble_eq_true rfl), (Nat.le_of_ble_eq_true rfl)⟩) (fun r u H locs hw hI => ?_)
    obtain ⟨rfl, rfl⟩ := hw
    have hG_4 : wk_G σ ((wk_payR (wk_rk σ k) σ k n).2) 3 := wk_g_payR (wk_rk σ k) σ k n
    exact wk_rl ((wk_payR (wk_rk σ k) σ k n).2) hx hb hr hlk hK hI rfl (wk_post (by first | rfl | (simp only [wk_do, if_neg hs_1, if_pos hs_3]; done) | (simp only [wk_do, if_neg hs_1, if_pos hs_3]; rfl))) dX12_does_41
  by_cases hs_5 : d9 = 2
  · refine lv_tableIn (tgt := 42) (off := 41) hx hb dX12_does_1 (by rw [hs_5]; decide) (by rw [hs_5]; decide) (by rw [hs_5]; rfl) (by decide) ?_
    refine lv_aload_n hx hb dX12_does_42 rfl (lv_at hl 0 rfl) ?_
    refine lv_iload_n hx hb dX12_does_43 rfl (lv_at hl 2 rfl) ?_
    refine lv_iload_n hx hb dX12_does_44 rfl (lv_at hl 3 rfl) ?_
    refine wk_kL hI hA (va_runV (As := [.int (nI k), .int n]) (rest := []) ⟨hx, hb, hml, hown, hts⟩ (c_X12_climbs l D cI cJ cS am σ k n hV hk (by have hq12 := hV.1; omega) (wk_in2 (hs_5 ▸ hin)) _) (wk_cwV 2 hts wk_in_M mw_636 mw_638 mw_22 mw_45 mw_639 hdX12_climbs ⟨(Nat.le_of_ble_eq_true rfl), (Nat.le_of_ble_eq_true rfl)⟩) (wk_preV hN hK hI (ci := 11) rfl wm_e0) rfl rfl hl.1 rfl (lv_room (Nat.le_of_ble_eq_true rfl)) dX12_does_45 ⟨(Nat.le_of_ble_eq_true rfl), (Nat.le_of_ble_eq_true rfl)⟩) (fun r u H locs hw hI => ?_)
    obtain ⟨rfl, rfl⟩ := hw
    have hG_6 : wk_G σ ((wk_climbR (wk_rk σ k) σ k n).2) 3 := wk_g_climbR (wk_rk σ k) σ k n
    exact wk_rl ((wk_climbR (wk_rk σ k) σ k n).2) hx hb hr hlk hK hI rfl (wk_post (by first | rfl | (simp only [wk_do, if_neg hs_1, if_neg hs_3, if_pos hs_5]; done) | (simp only [wk_do, if_neg hs_1, if_neg hs_3, if_pos hs_5]; rfl))) dX12_does_48
  refine lv_tableOut (tgt := 49) hx hb dX12_does_1 (by have q0 := lv_neT hs_1 wk_lit0; have q1 := lv_neT hs_3 wk_lit1; have q2 := lv_neT hs_5 wk_lit2; omega) (by decide) ?_
  refine lv_aload_n hx hb dX12_does_49 rfl (lv_at hl 0 rfl) ?_
  refine lv_iload_n hx hb dX12_does_50 rfl (lv_at hl 2 rfl) ?_
  refine lv_iload_n hx hb dX12_does_51 rfl (lv_at hl 3 rfl) ?_
  refine wk_kL hI hA (va_runV (As := [.int (nI k), .int n]) (rest := []) ⟨hx, hb, hml, hown, hts⟩ (c_X12_heeds l D cI cJ cS am σ k n hV hk (by have hq12 := hV.1; omega) (wk_in3 hs_1 hs_3 hs_5 hin) _) (wk_cwV 2 hts wk_in_M mw_657 mw_659 mw_27 mw_45 mw_660 hdX12_heeds ⟨(Nat.le_of_ble_eq_true rfl), (Nat.le_of_ble_eq_true rfl)⟩) (wk_preV hN hK hI (ci := 11) rfl wm_e0) rfl rfl hl.1 rfl (lv_room (Nat.le_of_ble_eq_true rfl)) dX12_does_52 ⟨(Nat.le_of_ble_eq_true rfl), (Nat.le_of_ble_eq_true rfl)⟩) (fun r u H locs hw hI => ?_)
  obtain ⟨rfl, rfl⟩ := hw
  have hG_7 : wk_G σ ((wk_heedR (wk_rk σ k) σ k n).2) 28 := wk_g_heedR (wk_rk σ k) σ k n hV.1
  exact wk_rl ((wk_heedR (wk_rk σ k) σ k n).2) hx hb hr hlk hK hI rfl (wk_post (by first | rfl | (simp only [wk_do, if_neg hs_1, if_neg hs_3, if_neg hs_5]; done) | (simp only [wk_do, if_neg hs_1, if_neg hs_3, if_neg hs_5]; rfl))) dX12_does_55
set_option maxHeartbeats 4000000 in
set_option maxRecDepth 100000 in
theorem c_X12_work (l : Launch) (D : va_G) (cI cJ cS : ClassId) (am : Nat → Nat) (σ : wk_St) (d9 : Int32) (k : Nat) (n b9 : Int32) (hV : wk_V σ) (hk : k < wk_n σ) (hc : wk_nt σ + 28 < 2147483648) (hin : wk_in d9 n) : wk_Cl l D (wk_tys cI cJ cS) yX12_work (wk_M yX12_work cX12_work 7 (some .long)) ({ frames := 7, cells := 0, slots := 0, locals := 160 }) [.ref (am 0), .int d9, .int (nI k), .int n, .int b9] (wm_W cI cJ am σ) (wm_W cI cJ am) (fun r0 u0 => r0 = (wk_do d9 σ k n).1 ∧ u0 = wk_wk d9 σ k n b9) := by
  intro sz
  refine Met.ofW (cc := cX12_work) (maxL := 7) (ret := (some .long)) (by decide) rfl ?_
  intro p e s m args below meth c s₁ B hml hv
  obtain ⟨rfl, hsz, hP, hK, hD0, hN⟩ := hv
  have hx := B.exec
  have hb := B.bytes
  have hr := B.returns
  have hts := atoms_spec (ws := wk_M yX12_work cX12_work 7 (some .long)) B.pre
  have hown : s.vm.findClass RX12 = some m.cls := findClass_of_methodNamed B.named
  have hlk := B.notSynchronized
  subst hsz
  have hI : wk_I D (va_A (wm_W cI cJ am σ) s.heap.size) s.heap s.heap [] (wm_W cI cJ am σ) := ⟨hP, hD0.self, va_S.rf⟩
  have hA : ∀ q : Nat, s.heap.size ≤ q → (va_A (wm_W cI cJ am σ) s.heap.size) q := fun q h => Or.inr h
  clear hP hD0
  generalize va_A (wm_W cI cJ am σ) s.heap.size = A at hI hA ⊢
  have hl := lv_entry ([.ref (am 0), .int d9, .int (nI k), .int n, .int b9]) (n := 7) (Nat.le_of_ble_eq_true rfl)
  rw [lg_entry_eq]
  generalize (lg_sl ([.ref (am 0), .int d9, .int (nI k), .int n, .int b9]) ++ List.replicate (7 - (lg_sl ([.ref (am 0), .int d9, .int (nI k), .int n, .int b9])).length) Slot.unset).toArray = ls at hl ⊢
  have hl : lv_has ls 7 [(0, .ref (am 0)), (1, .int d9), (2, .int (nI k)), (3, .int n), (4, .int b9)] := hl
  refine lv_aload_n hx hb dX12_work_0 rfl (lv_at hl 0 rfl) ?_
  refine lv_iload_n hx hb dX12_work_1 rfl (lv_at hl 1 rfl) ?_
  refine lv_iload_n hx hb dX12_work_2 rfl (lv_at hl 2 rfl) ?_
  refine lv_iload_n hx hb dX12_work_3 rfl (lv_at hl 3 rfl) ?_
  refine wk_kL hI hA (va_runV (As := [.int d9, .int (nI k), .int n]) (rest := []) ⟨hx, hb, hml, hown, hts⟩ (c_X12_does l D cI cJ cS am σ d9 k n hV hk (by have hq12 := hV.1; omega) hin _) (wk_cwV 3 hts wk_in_M mw_572 mw_574 mw_7 mw_45 mw_575 hdX12_does ⟨(Nat.le_of_ble_eq_true rfl), (Nat.le_of_ble_eq_true rfl)⟩) (wk_preV hN hK hI (ci := 11) rfl wm_e0) rfl rfl hl.1 rfl (lv_room (Nat.le_of_ble_eq_true rfl)) dX12_work_4 ⟨(Nat.le_of_ble_eq_true rfl), (Nat.le_of_ble_eq_true rfl)⟩) (fun r u H locs hw hI => ?_)
  obtain ⟨rfl, rfl⟩ := hw
  have hG_1 : wk_G σ ((wk_do d9 σ k n).2) 28 := wk_g_do d9 σ k n hV.1
  refine lv_lstore (lv' := [(5, .long ((wk_do d9 σ k n).1)), (0, .ref (am 0)), (1, .int d9), (2, .int (nI k)), (3, .int n), (4, .int b9)]) hx hb dX12_work_7 hl (by decide) rfl (fun ls hl => ?_)
  refine lv_iload_n hx hb dX12_work_9 rfl (lv_at hl 2 rfl) ?_
  refine lv_iconst (v := 1) hx hb dX12_work_10 (by decide) ?_
  refine lv_icmp_ne (tgt := 30) hx hb dX12_work_11 (by decide) (fun c_2 => ?_) (fun c_2 => ?_)
  · refine lv_lload hx hb dX12_work_30 (lv_at hl 0 rfl) ?_
    exact wk_rl ((wk_do d9 σ k n).2) hx hb hr hlk hK hI rfl ⟨rfl, by first | (simp only [wk_wk, wk_gain, if_neg c_2]; done) | (simp only [wk_wk, wk_gain, if_neg c_2, ite_self]; done)⟩ dX12_work_32
  · refine lv_iload hx hb dX12_work_14 (lv_at hl 5 rfl) ?_
    refine lv_if_eq (tgt := 30) hx hb dX12_work_16 (by decide) (fun c_3 => ?_) (fun c_3 => ?_)
    · refine lv_lload hx hb dX12_work_30 (lv_at hl 0 rfl) ?_
      exact wk_rl ((wk_do d9 σ k n).2) hx hb hr hlk hK hI rfl ⟨rfl, by first | (simp only [wk_wk, wk_gain, if_pos c_2, if_pos c_3]; done) | (simp only [wk_wk, wk_gain, if_pos c_2, if_pos c_3, ite_self]; done)⟩ dX12_work_32
    · refine lv_aload_n hx hb dX12_work_19 rfl (lv_at hl 1 rfl) ?_
      refine wk_get (v := .ref (am 4)) hx hb hts (fun w h => wk_in_M w (lay_X12 w h)) hown hK hI (0) wm_e0 rfl 4 (by decide) (hts _ (wk_in_M _ mw_498)) rfl rfl dX12_work_20 ?_
      refine lv_iload_n hx hb dX12_work_23 rfl (lv_at hl 3 rfl) ?_
      refine lv_dup2_11 hx hb dX12_work_24 rfl rfl ?_
      refine wk_lald (v := (wk_pu ((wk_do d9 σ k n).2) k)) (j := k) hx hb hK hI 4 1 wm_e4 rfl rfl (by have hq12 := hV.1; omega) (by decide) rfl dX12_work_25 ?_
      refine lv_lload hx hb dX12_work_26 (lv_at hl 0 rfl) ?_
      refine lv_ladd hx hb dX12_work_28 ?_
      refine wk_last (j := k) hx hb hK hI 4 1 wm_e4 rfl rfl (by have hq12 := hV.1; omega) (by decide) (wm_sPu _) dX12_work_29 (fun H locs hI => ?_)
      refine lv_lload hx hb dX12_work_30 (lv_at hl 0 rfl) ?_
      exact wk_rl (wk_sPu ((wk_do d9 σ k n).2) (vp_updL (wk_pu ((wk_do d9 σ k n).2)) k ((wk_pu ((wk_do d9 σ k n).2) k) + ((wk_do d9 σ k n).1)))) hx hb hr hlk hK hI rfl ⟨rfl, by first | (simp only [wk_wk, wk_gain, if_pos c_2, if_neg c_3]; done) | (simp only [wk_wk, wk_gain, if_pos c_2, if_neg c_3, ite_self]; done)⟩ dX12_work_32
set_option maxHeartbeats 4000000 in
set_option maxRecDepth 100000 in
theorem c_X12_boundOf (l : Launch) (D : va_G) (cI cJ cS : ClassId) (am : Nat → Nat) (σ : wk_St) (d9 : Int32)  : wk_Ci l D (wk_tys cI cJ cS) yX12_boundOf (wk_M yX12_boundOf cX12_boundOf 1 (some .int)) ({ frames := 0, cells := 0, slots := 0, locals := 0 }) [.int d9] (wm_W cI cJ am σ) (wm_W cI cJ am) (fun r u => r = wk_bound d9 ∧ u = σ) := by
  intro sz
  refine Met.ofW (cc := cX12_boundOf) (maxL := 1) (ret := (some .int)) (by decide) rfl ?_
  intro p e s m args below meth c s₁ B hml hv
  obtain ⟨rfl, hsz, hP, hK, hD0, hN⟩ := hv
  have hx := B.exec
  have hb := B.bytes
  have hr := B.returns
  have hts := atoms_spec (ws := wk_M yX12_boundOf cX12_boundOf 1 (some .int)) B.pre
  have hown : s.vm.findClass RX12 = some m.cls := findClass_of_methodNamed B.named
  have hlk := B.notSynchronized
  subst hsz
  have hI : wk_I D (va_A (wm_W cI cJ am σ) s.heap.size) s.heap s.heap [] (wm_W cI cJ am σ) := ⟨hP, hD0.self, va_S.rf⟩
  have hA : ∀ q : Nat, s.heap.size ≤ q → (va_A (wm_W cI cJ am σ) s.heap.size) q := fun q h => Or.inr h
  clear hP hD0
  generalize va_A (wm_W cI cJ am σ) s.heap.size = A at hI hA ⊢
  have hl := lv_entry ([.int d9]) (n := 1) (Nat.le_of_ble_eq_true rfl)
  rw [lg_entry_eq]
  generalize (lg_sl ([.int d9]) ++ List.replicate (1 - (lg_sl ([.int d9])).length) Slot.unset).toArray = ls at hl ⊢
  have hl : lv_has ls 1 [(0, .int d9)] := hl
  refine lv_iload_n hx hb dX12_boundOf_0 rfl (lv_at hl 0 rfl) ?_
  refine lv_if_ne (tgt := 9) hx hb dX12_boundOf_1 (by decide) (fun c_1 => ?_) (fun c_1 => ?_)
  · refine lv_iload_n hx hb dX12_boundOf_9 rfl (lv_at hl 0 rfl) ?_
    refine lv_iconst (v := 1) hx hb dX12_boundOf_10 (by decide) ?_
    refine lv_icmp_ne (tgt := 20) hx hb dX12_boundOf_11 (by decide) (fun c_2 => ?_) (fun c_2 => ?_)
    · refine lv_iload_n hx hb dX12_boundOf_20 rfl (lv_at hl 0 rfl) ?_
      refine lv_iconst (v := 2) hx hb dX12_boundOf_21 (by decide) ?_
      refine lv_icmp_ne (tgt := 31) hx hb dX12_boundOf_22 (by decide) (fun c_3 => ?_) (fun c_3 => ?_)
      · refine lv_sipush (v := 9999) hx hb dX12_boundOf_31 (by decide) ?_
        exact wk_ri σ hx hb hr hlk hK hI rfl ⟨by simp only [wk_bound, if_neg c_1, if_neg c_2, if_neg c_3], rfl⟩ dX12_boundOf_34
      · refine lv_sipush (v := 200) hx hb dX12_boundOf_25 (by decide) ?_
        refine lv_goto (tgt := 34) hx hb dX12_boundOf_28 (by decide) ?_
        exact wk_ri σ hx hb hr hlk hK hI rfl ⟨by simp only [wk_bound, if_neg c_1, if_neg c_2, if_pos c_3], rfl⟩ dX12_boundOf_34
    · refine lv_sipush (v := 1000) hx hb dX12_boundOf_14 (by decide) ?_
      refine lv_goto (tgt := 34) hx hb dX12_boundOf_17 (by decide) ?_
      exact wk_ri σ hx hb hr hlk hK hI rfl ⟨by simp only [wk_bound, if_neg c_1, if_pos c_2], rfl⟩ dX12_boundOf_34
  · refine lv_bipush (v := 100) hx hb dX12_boundOf_4 (by decide) ?_
    refine lv_goto (tgt := 34) hx hb dX12_boundOf_6 (by decide) ?_
    exact wk_ri σ hx hb hr hlk hK hI rfl ⟨by simp only [wk_bound, if_pos c_1], rfl⟩ dX12_boundOf_34
set_option maxHeartbeats 4000000 in
set_option maxRecDepth 100000 in
theorem c_X12_isMember (l : Launch) (D : va_G) (cI cJ cS : ClassId) (am : Nat → Nat) (σ : wk_St) (k9 : Int32)  : wk_Ci l D (wk_tys cI cJ cS) yX12_isMember (wk_M yX12_isMember cX12_isMember 2 (some .boolean)) ({ frames := 0, cells := 0, slots := 0, locals := 0 }) [.ref (am 0), .int k9] (wm_W cI cJ am σ) (wm_W cI cJ am) (fun r u => r = wk_b (wk_ok σ k9) ∧ u = σ) := by
  intro sz
  refine Met.ofW (cc := cX12_isMember) (maxL := 2) (ret := (some .boolean)) (by decide) rfl ?_
  intro p e s m args below meth c s₁ B hml hv
  obtain ⟨rfl, hsz, hP, hK, hD0, hN⟩ := hv
  have hx := B.exec
  have hb := B.bytes
  have hr := B.returns
  have hts := atoms_spec (ws := wk_M yX12_isMember cX12_isMember 2 (some .boolean)) B.pre
  have hown : s.vm.findClass RX12 = some m.cls := findClass_of_methodNamed B.named
  have hlk := B.notSynchronized
  subst hsz
  have hI : wk_I D (va_A (wm_W cI cJ am σ) s.heap.size) s.heap s.heap [] (wm_W cI cJ am σ) := ⟨hP, hD0.self, va_S.rf⟩
  have hA : ∀ q : Nat, s.heap.size ≤ q → (va_A (wm_W cI cJ am σ) s.heap.size) q := fun q h => Or.inr h
  clear hP hD0
  generalize va_A (wm_W cI cJ am σ) s.heap.size = A at hI hA ⊢
  have hl := lv_entry ([.ref (am 0), .int k9]) (n := 2) (Nat.le_of_ble_eq_true rfl)
  rw [lg_entry_eq]
  generalize (lg_sl ([.ref (am 0), .int k9]) ++ List.replicate (2 - (lg_sl ([.ref (am 0), .int k9])).length) Slot.unset).toArray = ls at hl ⊢
  have hl : lv_has ls 2 [(0, .ref (am 0)), (1, .int k9)] := hl
  refine lv_iload_n hx hb dX12_isMember_0 rfl (lv_at hl 1 rfl) ?_
  refine lv_if_lt (tgt := 16) hx hb dX12_isMember_1 (by decide) (fun c_1 => ?_) (fun c_1 => ?_)
  · refine lv_iconst (v := 0) hx hb dX12_isMember_16 (by decide) ?_
    exact wk_rz σ hx hb hr hlk (by decide) hK hI rfl ⟨wk_bF (fun hq => wk_lnl c_1 hq.1), rfl⟩ dX12_isMember_17
  · refine lv_iload_n hx hb dX12_isMember_4 rfl (lv_at hl 1 rfl) ?_
    refine lv_aload_n hx hb dX12_isMember_5 rfl (lv_at hl 0 rfl) ?_
    refine wk_get (v := .int (nI (wk_n σ))) hx hb hts (fun w h => wk_in_M w (lay_X12 w h)) hown hK hI (0) wm_e0 rfl 0 (by decide) (hts _ (wk_in_M _ mw_494)) rfl rfl dX12_isMember_6 ?_
    refine lv_icmp_ge (tgt := 16) hx hb dX12_isMember_9 (by decide) (fun c_2 => ?_) (fun c_2 => ?_)
    · refine lv_iconst (v := 0) hx hb dX12_isMember_16 (by decide) ?_
      exact wk_rz σ hx hb hr hlk (by decide) hK hI rfl ⟨wk_bF (fun hq => wk_lnl hq.2 c_2), rfl⟩ dX12_isMember_17
    · refine lv_iconst (v := 1) hx hb dX12_isMember_12 (by decide) ?_
      refine lv_goto (tgt := 17) hx hb dX12_isMember_13 (by decide) ?_
      exact wk_rz σ hx hb hr hlk (by decide) hK hI rfl ⟨wk_bT ⟨wk_nlt c_1, wk_nle c_2⟩, rfl⟩ dX12_isMember_17
set_option maxHeartbeats 4000000 in
set_option maxRecDepth 100000 in
theorem c_X12_isWithin (l : Launch) (D : va_G) (cI cJ cS : ClassId) (am : Nat → Nat) (σ : wk_St) (d9 n : Int32)  : wk_Ci l D (wk_tys cI cJ cS) yX12_isWithin (wk_M yX12_isWithin cX12_isWithin 2 (some .boolean)) ({ frames := 1, cells := 0, slots := 0, locals := 20 }) [.int d9, .int n] (wm_W cI cJ am σ) (wm_W cI cJ am) (fun r u => r = wk_b (wk_in d9 n) ∧ u = σ) := by
  intro sz
  refine Met.ofW (cc := cX12_isWithin) (maxL := 2) (ret := (some .boolean)) (by decide) rfl ?_
  intro p e s m args below meth c s₁ B hml hv
  obtain ⟨rfl, hsz, hP, hK, hD0, hN⟩ := hv
  have hx := B.exec
  have hb := B.bytes
  have hr := B.returns
  have hts := atoms_spec (ws := wk_M yX12_isWithin cX12_isWithin 2 (some .boolean)) B.pre
  have hown : s.vm.findClass RX12 = some m.cls := findClass_of_methodNamed B.named
  have hlk := B.notSynchronized
  subst hsz
  have hI : wk_I D (va_A (wm_W cI cJ am σ) s.heap.size) s.heap s.heap [] (wm_W cI cJ am σ) := ⟨hP, hD0.self, va_S.rf⟩
  have hA : ∀ q : Nat, s.heap.size ≤ q → (va_A (wm_W cI cJ am σ) s.heap.size) q := fun q h => Or.inr h
  clear hP hD0
  generalize va_A (wm_W cI cJ am σ) s.heap.size = A at hI hA ⊢
  have hl := lv_entry ([.int d9, .int n]) (n := 2) (Nat.le_of_ble_eq_true rfl)
  rw [lg_entry_eq]
  generalize (lg_sl ([.int d9, .int n]) ++ List.replicate (2 - (lg_sl ([.int d9, .int n])).length) Slot.unset).toArray = ls at hl ⊢
  have hl : lv_has ls 2 [(0, .int d9), (1, .int n)] := hl
  refine lv_iload_n hx hb dX12_isWithin_0 rfl (lv_at hl 1 rfl) ?_
  refine lv_if_lt (tgt := 16) hx hb dX12_isWithin_1 (by decide) (fun c_1 => ?_) (fun c_1 => ?_)
  · refine lv_iconst (v := 0) hx hb dX12_isWithin_16 (by decide) ?_
    exact wk_rz σ hx hb hr hlk (by decide) hK hI rfl ⟨wk_bF (fun hq => wk_lnl c_1 hq.1), rfl⟩ dX12_isWithin_17
  · refine lv_iload_n hx hb dX12_isWithin_4 rfl (lv_at hl 1 rfl) ?_
    refine lv_iload_n hx hb dX12_isWithin_5 rfl (lv_at hl 0 rfl) ?_
    refine wk_kI hI hA (va_runS (As := [.int d9]) (rest := [.int n]) ⟨hx, hb, hml, hown, hts⟩ (c_X12_boundOf l D cI cJ cS am σ d9 _) (wk_cwS 1 hts wk_in_M mw_564 mw_565 mw_45 mw_566 (hdX12_boundOf).2 ⟨(Nat.le_of_ble_eq_true rfl), (Nat.le_of_ble_eq_true rfl)⟩) (wk_preS hN hK hI) rfl rfl hl.1 rfl (lv_room (Nat.le_of_ble_eq_true rfl)) dX12_isWithin_6 ⟨(Nat.le_of_ble_eq_true rfl), (Nat.le_of_ble_eq_true rfl)⟩) (fun r u H locs hw hI => ?_)
    obtain ⟨rfl, hw⟩ := hw
    rw [hw] at hI
    refine lv_icmp_gt (tgt := 16) hx hb dX12_isWithin_9 (by decide) (fun c_2 => ?_) (fun c_2 => ?_)
    · refine lv_iconst (v := 0) hx hb dX12_isWithin_16 (by decide) ?_
      exact wk_rz σ hx hb hr hlk (by decide) hK hI rfl ⟨wk_bF (fun hq => wk_lnl c_2 hq.2), rfl⟩ dX12_isWithin_17
    · refine lv_iconst (v := 1) hx hb dX12_isWithin_12 (by decide) ?_
      refine lv_goto (tgt := 17) hx hb dX12_isWithin_13 (by decide) ?_
      exact wk_rz σ hx hb hr hlk (by decide) hK hI rfl ⟨wk_bT ⟨wk_nlt c_1, wk_nlt c_2⟩, rfl⟩ dX12_isWithin_17
set_option maxHeartbeats 4000000 in
set_option maxRecDepth 100000 in
theorem c_X12_isClimber (l : Launch) (D : va_G) (cI cJ cS : ClassId) (am : Nat → Nat) (σ : wk_St) (r9 : Nat) (h8 : r9 < 8) : wk_Ci l D (wk_tys cI cJ cS) yX12_isClimber (wk_M yX12_isClimber cX12_isClimber 1 (some .boolean)) ({ frames := 0, cells := 0, slots := 0, locals := 0 }) [.int (nI r9)] (wm_W cI cJ am σ) (wm_W cI cJ am) (fun r u => r = wk_b (2 ≤ r9 ∧ r9 ≤ 5) ∧ u = σ) := by
  intro sz
  refine Met.ofW (cc := cX12_isClimber) (maxL := 1) (ret := (some .boolean)) (by decide) rfl ?_
  intro p e s m args below meth c s₁ B hml hv
  obtain ⟨rfl, hsz, hP, hK, hD0, hN⟩ := hv
  have hx := B.exec
  have hb := B.bytes
  have hr := B.returns
  have hts := atoms_spec (ws := wk_M yX12_isClimber cX12_isClimber 1 (some .boolean)) B.pre
  have hown : s.vm.findClass RX12 = some m.cls := findClass_of_methodNamed B.named
  have hlk := B.notSynchronized
  subst hsz
  have hI : wk_I D (va_A (wm_W cI cJ am σ) s.heap.size) s.heap s.heap [] (wm_W cI cJ am σ) := ⟨hP, hD0.self, va_S.rf⟩
  have hA : ∀ q : Nat, s.heap.size ≤ q → (va_A (wm_W cI cJ am σ) s.heap.size) q := fun q h => Or.inr h
  clear hP hD0
  generalize va_A (wm_W cI cJ am σ) s.heap.size = A at hI hA ⊢
  have hl := lv_entry ([.int (nI r9)]) (n := 1) (Nat.le_of_ble_eq_true rfl)
  rw [lg_entry_eq]
  generalize (lg_sl ([.int (nI r9)]) ++ List.replicate (1 - (lg_sl ([.int (nI r9)])).length) Slot.unset).toArray = ls at hl ⊢
  have hl : lv_has ls 1 [(0, .int (nI r9))] := hl
  refine lv_iload_n hx hb dX12_isClimber_0 rfl (lv_at hl 0 rfl) ?_
  refine lv_iconst (v := 2) hx hb dX12_isClimber_1 (by decide) ?_
  refine lv_icmp_lt (tgt := 14) hx hb dX12_isClimber_2 (by decide) (fun c_1 => ?_) (fun c_1 => ?_)
  · refine lv_iconst (v := 0) hx hb dX12_isClimber_14 (by decide) ?_
    exact wk_rz σ hx hb hr hlk (by decide) hK hI rfl ⟨wk_bF (by simp only [Int32.lt_iff_toInt_lt, Int32.le_iff_toInt_le, ← Int32.toInt_inj, nI_toInt (show r9 < 2 ^ 31 by omega), wk_lit0, wk_lit1, wk_lit2, wk_lit3, wk_lit5, wk_lit6, wk_lit7, wk_lit8, wk_lit64, wk_lit4, wk_lit12, wk_lit20, wk_lit99, wk_lit1000] at c_1; omega), rfl⟩ dX12_isClimber_15
  · refine lv_iload_n hx hb dX12_isClimber_5 rfl (lv_at hl 0 rfl) ?_
    refine lv_iconst (v := 5) hx hb dX12_isClimber_6 (by decide) ?_
    refine lv_icmp_gt (tgt := 14) hx hb dX12_isClimber_7 (by decide) (fun c_2 => ?_) (fun c_2 => ?_)
    · refine lv_iconst (v := 0) hx hb dX12_isClimber_14 (by decide) ?_
      exact wk_rz σ hx hb hr hlk (by decide) hK hI rfl ⟨wk_bF (by simp only [Int32.lt_iff_toInt_lt, Int32.le_iff_toInt_le, ← Int32.toInt_inj, nI_toInt (show r9 < 2 ^ 31 by omega), wk_lit0, wk_lit1, wk_lit2, wk_lit3, wk_lit5, wk_lit6, wk_lit7, wk_lit8, wk_lit64, wk_lit4, wk_lit12, wk_lit20, wk_lit99, wk_lit1000] at c_1 c_2; omega), rfl⟩ dX12_isClimber_15
    · refine lv_iconst (v := 1) hx hb dX12_isClimber_10 (by decide) ?_
      refine lv_goto (tgt := 15) hx hb dX12_isClimber_11 (by decide) ?_
      exact wk_rz σ hx hb hr hlk (by decide) hK hI rfl ⟨wk_bT (by simp only [Int32.lt_iff_toInt_lt, Int32.le_iff_toInt_le, ← Int32.toInt_inj, nI_toInt (show r9 < 2 ^ 31 by omega), wk_lit0, wk_lit1, wk_lit2, wk_lit3, wk_lit5, wk_lit6, wk_lit7, wk_lit8, wk_lit64, wk_lit4, wk_lit12, wk_lit20, wk_lit99, wk_lit1000] at c_1 c_2; omega), rfl⟩ dX12_isClimber_15
set_option maxHeartbeats 4000000 in
set_option maxRecDepth 100000 in
theorem c_X12_isCarer (l : Launch) (D : va_G) (cI cJ cS : ClassId) (am : Nat → Nat) (σ : wk_St) (r9 : Nat) (h8 : r9 < 8) : wk_Ci l D (wk_tys cI cJ cS) yX12_isCarer (wk_M yX12_isCarer cX12_isCarer 1 (some .boolean)) ({ frames := 0, cells := 0, slots := 0, locals := 0 }) [.int (nI r9)] (wm_W cI cJ am σ) (wm_W cI cJ am) (fun r u => r = wk_b (6 ≤ r9) ∧ u = σ) := by
  intro sz
  refine Met.ofW (cc := cX12_isCarer) (maxL := 1) (ret := (some .boolean)) (by decide) rfl ?_
  intro p e s m args below meth c s₁ B hml hv
  obtain ⟨rfl, hsz, hP, hK, hD0, hN⟩ := hv
  have hx := B.exec
  have hb := B.bytes
  have hr := B.returns
  have hts := atoms_spec (ws := wk_M yX12_isCarer cX12_isCarer 1 (some .boolean)) B.pre
  have hown : s.vm.findClass RX12 = some m.cls := findClass_of_methodNamed B.named
  have hlk := B.notSynchronized
  subst hsz
  have hI : wk_I D (va_A (wm_W cI cJ am σ) s.heap.size) s.heap s.heap [] (wm_W cI cJ am σ) := ⟨hP, hD0.self, va_S.rf⟩
  have hA : ∀ q : Nat, s.heap.size ≤ q → (va_A (wm_W cI cJ am σ) s.heap.size) q := fun q h => Or.inr h
  clear hP hD0
  generalize va_A (wm_W cI cJ am σ) s.heap.size = A at hI hA ⊢
  have hl := lv_entry ([.int (nI r9)]) (n := 1) (Nat.le_of_ble_eq_true rfl)
  rw [lg_entry_eq]
  generalize (lg_sl ([.int (nI r9)]) ++ List.replicate (1 - (lg_sl ([.int (nI r9)])).length) Slot.unset).toArray = ls at hl ⊢
  have hl : lv_has ls 1 [(0, .int (nI r9))] := hl
  refine lv_iload_n hx hb dX12_isCarer_0 rfl (lv_at hl 0 rfl) ?_
  refine lv_bipush (v := 6) hx hb dX12_isCarer_1 (by decide) ?_
  refine lv_icmp_eq (tgt := 12) hx hb dX12_isCarer_3 (by decide) (fun c_1 => ?_) (fun c_1 => ?_)
  · refine lv_iconst (v := 1) hx hb dX12_isCarer_12 (by decide) ?_
    refine lv_goto (tgt := 17) hx hb dX12_isCarer_13 (by decide) ?_
    exact wk_rz σ hx hb hr hlk (by decide) hK hI rfl ⟨wk_bT (by simp only [Int32.lt_iff_toInt_lt, Int32.le_iff_toInt_le, ← Int32.toInt_inj, nI_toInt (show r9 < 2 ^ 31 by omega), wk_lit0, wk_lit1, wk_lit2, wk_lit3, wk_lit5, wk_lit6, wk_lit7, wk_lit8, wk_lit64, wk_lit4, wk_lit12, wk_lit20, wk_lit99, wk_lit1000] at c_1; omega), rfl⟩ dX12_isCarer_17
  · refine lv_iload_n hx hb dX12_isCarer_6 rfl (lv_at hl 0 rfl) ?_
    refine lv_bipush (v := 7) hx hb dX12_isCarer_7 (by decide) ?_
    refine lv_icmp_ne (tgt := 16) hx hb dX12_isCarer_9 (by decide) (fun c_2 => ?_) (fun c_2 => ?_)
    · refine lv_iconst (v := 0) hx hb dX12_isCarer_16 (by decide) ?_
      exact wk_rz σ hx hb hr hlk (by decide) hK hI rfl ⟨wk_bF (by simp only [Int32.lt_iff_toInt_lt, Int32.le_iff_toInt_le, ← Int32.toInt_inj, nI_toInt (show r9 < 2 ^ 31 by omega), wk_lit0, wk_lit1, wk_lit2, wk_lit3, wk_lit5, wk_lit6, wk_lit7, wk_lit8, wk_lit64, wk_lit4, wk_lit12, wk_lit20, wk_lit99, wk_lit1000] at c_1 c_2; omega), rfl⟩ dX12_isCarer_17
    · refine lv_iconst (v := 1) hx hb dX12_isCarer_12 (by decide) ?_
      refine lv_goto (tgt := 17) hx hb dX12_isCarer_13 (by decide) ?_
      exact wk_rz σ hx hb hr hlk (by decide) hK hI rfl ⟨wk_bT (by simp only [Int32.lt_iff_toInt_lt, Int32.le_iff_toInt_le, ← Int32.toInt_inj, nI_toInt (show r9 < 2 ^ 31 by omega), wk_lit0, wk_lit1, wk_lit2, wk_lit3, wk_lit5, wk_lit6, wk_lit7, wk_lit8, wk_lit64, wk_lit4, wk_lit12, wk_lit20, wk_lit99, wk_lit1000] at c_1 c_2; omega), rfl⟩ dX12_isCarer_17
set_option maxHeartbeats 4000000 in
set_option maxRecDepth 100000 in
theorem c_X12_elderOf (l : Launch) (D : va_G) (cI cJ cS : ClassId) (am : Nat → Nat) (σ : wk_St) (r9 : Nat) (h8 : r9 < 8) : wk_Ci l D (wk_tys cI cJ cS) yX12_elderOf (wk_M yX12_elderOf cX12_elderOf 1 (some .int)) ({ frames := 0, cells := 0, slots := 0, locals := 0 }) [.int (nI r9)] (wm_W cI cJ am σ) (wm_W cI cJ am) (fun r u => r = nI (if r9 = 0 then 8 else wk_down r9) ∧ u = σ) := by
  intro sz
  refine Met.ofW (cc := cX12_elderOf) (maxL := 1) (ret := (some .int)) (by decide) rfl ?_
  intro p e s m args below meth c s₁ B hml hv
  obtain ⟨rfl, hsz, hP, hK, hD0, hN⟩ := hv
  have hx := B.exec
  have hb := B.bytes
  have hr := B.returns
  have hts := atoms_spec (ws := wk_M yX12_elderOf cX12_elderOf 1 (some .int)) B.pre
  have hown : s.vm.findClass RX12 = some m.cls := findClass_of_methodNamed B.named
  have hlk := B.notSynchronized
  subst hsz
  have hI : wk_I D (va_A (wm_W cI cJ am σ) s.heap.size) s.heap s.heap [] (wm_W cI cJ am σ) := ⟨hP, hD0.self, va_S.rf⟩
  have hA : ∀ q : Nat, s.heap.size ≤ q → (va_A (wm_W cI cJ am σ) s.heap.size) q := fun q h => Or.inr h
  clear hP hD0
  generalize va_A (wm_W cI cJ am σ) s.heap.size = A at hI hA ⊢
  have hl := lv_entry ([.int (nI r9)]) (n := 1) (Nat.le_of_ble_eq_true rfl)
  rw [lg_entry_eq]
  generalize (lg_sl ([.int (nI r9)]) ++ List.replicate (1 - (lg_sl ([.int (nI r9)])).length) Slot.unset).toArray = ls at hl ⊢
  have hl : lv_has ls 1 [(0, .int (nI r9))] := hl
  refine lv_iload_n hx hb dX12_elderOf_0 rfl (lv_at hl 0 rfl) ?_
  by_cases hs_1 : (nI r9) = 0
  · refine lv_lookup (tgt := 28) (off := 27) hx hb dX12_elderOf_1 (by decide) (by rw [hs_1]; decide) (by decide) ?_
    refine lv_bipush (v := 8) hx hb dX12_elderOf_28 (by decide) ?_
    exact wk_ri σ hx hb hr hlk hK hI rfl ⟨by rw [(nI_eq (a := r9) (b := 0) (by omega) (by decide)).mp hs_1]; rfl, rfl⟩ dX12_elderOf_30
  by_cases hs_2 : (nI r9) = 6
  · refine lv_lookup (tgt := 31) (off := 30) hx hb dX12_elderOf_1 (by decide) (by rw [hs_2]; decide) (by decide) ?_
    refine lv_iconst (v := 0) hx hb dX12_elderOf_31 (by decide) ?_
    exact wk_ri σ hx hb hr hlk hK hI rfl ⟨by rw [(nI_eq (a := r9) (b := 6) (by omega) (by decide)).mp hs_2]; rfl, rfl⟩ dX12_elderOf_32
  refine lv_lookup (tgt := 33) (off := 32) hx hb dX12_elderOf_1 (by decide) (by rw [show Op.lookupswitch.offset _ _ _ = _ from lv_osw hs_1 wk_lit0]; rw [show Op.lookupswitch.offset _ _ _ = _ from lv_osw hs_2 wk_lit6]; rfl) (by decide) ?_
  have h0 : r9 ≠ 0 := fun hq => hs_1 (by rw [hq]; rfl)
  have h6 : r9 ≠ 6 := fun hq => hs_2 (by rw [hq]; rfl)
  refine lv_iload_n hx hb dX12_elderOf_33 rfl (lv_at hl 0 rfl) ?_
  refine lv_iconst (v := 1) hx hb dX12_elderOf_34 (by decide) ?_
  refine lv_isub hx hb dX12_elderOf_35 ?_
  exact wk_ri σ hx hb hr hlk hK hI rfl ⟨by rw [show nI r9 - 1 = nI (r9 - 1) from pk_sub (b := 1) (by omega)]; unfold wk_down; rw [if_neg h0, if_neg h6], rfl⟩ dX12_elderOf_36
set_option maxHeartbeats 4000000 in
set_option maxRecDepth 100000 in
theorem c_X12_may (l : Launch) (D : va_G) (cI cJ cS : ClassId) (am : Nat → Nat) (σ : wk_St) (d9 k9 n : Int32)  : wk_Ci l D (wk_tys cI cJ cS) yX12_may (wk_M yX12_may cX12_may 4 (some .boolean)) ({ frames := 2, cells := 0, slots := 0, locals := 41 }) [.ref (am 0), .int d9, .int k9, .int n] (wm_W cI cJ am σ) (wm_W cI cJ am) (fun r u => r = wk_b (wk_ok σ k9 ∧ wk_in d9 n) ∧ u = σ) := by
  intro sz
  refine Met.ofW (cc := cX12_may) (maxL := 4) (ret := (some .boolean)) (by decide) rfl ?_
  intro p e s m args below meth c s₁ B hml hv
  obtain ⟨rfl, hsz, hP, hK, hD0, hN⟩ := hv
  have hx := B.exec
  have hb := B.bytes
  have hr := B.returns
  have hts := atoms_spec (ws := wk_M yX12_may cX12_may 4 (some .boolean)) B.pre
  have hown : s.vm.findClass RX12 = some m.cls := findClass_of_methodNamed B.named
  have hlk := B.notSynchronized
  subst hsz
  have hI : wk_I D (va_A (wm_W cI cJ am σ) s.heap.size) s.heap s.heap [] (wm_W cI cJ am σ) := ⟨hP, hD0.self, va_S.rf⟩
  have hA : ∀ q : Nat, s.heap.size ≤ q → (va_A (wm_W cI cJ am σ) s.heap.size) q := fun q h => Or.inr h
  clear hP hD0
  generalize va_A (wm_W cI cJ am σ) s.heap.size = A at hI hA ⊢
  have hl := lv_entry ([.ref (am 0), .int d9, .int k9, .int n]) (n := 4) (Nat.le_of_ble_eq_true rfl)
  rw [lg_entry_eq]
  generalize (lg_sl ([.ref (am 0), .int d9, .int k9, .int n]) ++ List.replicate (4 - (lg_sl ([.ref (am 0), .int d9, .int k9, .int n])).length) Slot.unset).toArray = ls at hl ⊢
  have hl : lv_has ls 4 [(0, .ref (am 0)), (1, .int d9), (2, .int k9), (3, .int n)] := hl
  refine lv_aload_n hx hb dX12_may_0 rfl (lv_at hl 0 rfl) ?_
  refine lv_iload_n hx hb dX12_may_1 rfl (lv_at hl 2 rfl) ?_
  refine wk_kI hI hA (va_runV (As := [.int k9]) (rest := []) ⟨hx, hb, hml, hown, hts⟩ (c_X12_isMember l D cI cJ cS am σ k9 _) (wk_cwV 1 hts wk_in_M mw_538 mw_540 mw_3 mw_45 mw_541 hdX12_isMember ⟨(Nat.le_of_ble_eq_true rfl), (Nat.le_of_ble_eq_true rfl)⟩) (wk_preV hN hK hI (ci := 11) rfl wm_e0) rfl rfl hl.1 rfl (lv_room (Nat.le_of_ble_eq_true rfl)) dX12_may_2 ⟨(Nat.le_of_ble_eq_true rfl), (Nat.le_of_ble_eq_true rfl)⟩) (fun r u H locs hw hI => ?_)
  obtain ⟨rfl, hw⟩ := hw
  rw [hw] at hI
  refine lv_if_eq (tgt := 20) hx hb dX12_may_5 (by decide) (fun c_1 => ?_) (fun c_1 => ?_)
  · have c_1 := wk_b0 c_1
    refine lv_iconst (v := 0) hx hb dX12_may_20 (by decide) ?_
    exact wk_rz σ hx hb hr hlk (by decide) hK hI rfl ⟨wk_bF (fun hq => c_1 hq.1), rfl⟩ dX12_may_21
  · have c_1 := wk_b1 c_1
    refine lv_iload_n hx hb dX12_may_8 rfl (lv_at hl 1 rfl) ?_
    refine lv_iload_n hx hb dX12_may_9 rfl (lv_at hl 3 rfl) ?_
    refine wk_kI hI hA (va_runS (As := [.int d9, .int n]) (rest := []) ⟨hx, hb, hml, hown, hts⟩ (c_X12_isWithin l D cI cJ cS am σ d9 n _) (wk_cwS 2 hts wk_in_M mw_561 mw_562 mw_45 mw_563 (hdX12_isWithin).2 ⟨(Nat.le_of_ble_eq_true rfl), (Nat.le_of_ble_eq_true rfl)⟩) (wk_preS hN hK hI) rfl rfl hl.1 rfl (lv_room (Nat.le_of_ble_eq_true rfl)) dX12_may_10 ⟨(Nat.le_of_ble_eq_true rfl), (Nat.le_of_ble_eq_true rfl)⟩) (fun r u H locs hw hI => ?_)
    obtain ⟨rfl, hw⟩ := hw
    rw [hw] at hI
    refine lv_if_eq (tgt := 20) hx hb dX12_may_13 (by decide) (fun c_2 => ?_) (fun c_2 => ?_)
    · have c_2 := wk_b0 c_2
      refine lv_iconst (v := 0) hx hb dX12_may_20 (by decide) ?_
      exact wk_rz σ hx hb hr hlk (by decide) hK hI rfl ⟨wk_bF (fun hq => c_2 hq.2), rfl⟩ dX12_may_21
    · have c_2 := wk_b1 c_2
      refine lv_iconst (v := 1) hx hb dX12_may_16 (by decide) ?_
      refine lv_goto (tgt := 21) hx hb dX12_may_17 (by decide) ?_
      exact wk_rz σ hx hb hr hlk (by decide) hK hI rfl ⟨wk_bT ⟨c_1, c_2⟩, rfl⟩ dX12_may_21
set_option maxHeartbeats 4000000 in
set_option maxRecDepth 100000 in
theorem c_X12_begin (l : Launch) (D : va_G) (cI cJ cS : ClassId) (am : Nat → Nat) (σ : wk_St) (d9 k9 n : Int32) (hV : wk_V σ) : wk_Cl l D (wk_tys cI cJ cS) yX12_begin (wk_M yX12_begin cX12_begin 4 (some .long)) ({ frames := 8, cells := 0, slots := 0, locals := 186 }) [.ref (am 0), .int d9, .int k9, .int n] (wm_W cI cJ am σ) (wm_W cI cJ am) (fun r0 u0 => r0 = (wk_begin d9 σ k9 n).1 ∧ u0 = (wk_begin d9 σ k9 n).2) := by
  intro sz
  refine Met.ofW (cc := cX12_begin) (maxL := 4) (ret := (some .long)) (by decide) rfl ?_
  intro p e s m args below meth c s₁ B hml hv
  obtain ⟨rfl, hsz, hP, hK, hD0, hN⟩ := hv
  have hx := B.exec
  have hb := B.bytes
  have hr := B.returns
  have hts := atoms_spec (ws := wk_M yX12_begin cX12_begin 4 (some .long)) B.pre
  have hown : s.vm.findClass RX12 = some m.cls := findClass_of_methodNamed B.named
  have hlk := B.notSynchronized
  subst hsz
  have hI : wk_I D (va_A (wm_W cI cJ am σ) s.heap.size) s.heap s.heap [] (wm_W cI cJ am σ) := ⟨hP, hD0.self, va_S.rf⟩
  have hA : ∀ q : Nat, s.heap.size ≤ q → (va_A (wm_W cI cJ am σ) s.heap.size) q := fun q h => Or.inr h
  clear hP hD0
  generalize va_A (wm_W cI cJ am σ) s.heap.size = A at hI hA ⊢
  have hl := lv_entry ([.ref (am 0), .int d9, .int k9, .int n]) (n := 4) (Nat.le_of_ble_eq_true rfl)
  rw [lg_entry_eq]
  generalize (lg_sl ([.ref (am 0), .int d9, .int k9, .int n]) ++ List.replicate (4 - (lg_sl ([.ref (am 0), .int d9, .int k9, .int n])).length) Slot.unset).toArray = ls at hl ⊢
  have hl : lv_has ls 4 [(0, .ref (am 0)), (1, .int d9), (2, .int k9), (3, .int n)] := hl
  rcases wk_okC hV k9 with ⟨j, hj, rfl⟩ | hno
  · have hK := hK
    refine lv_aload_n hx hb dX12_begin_0 rfl (lv_at hl 0 rfl) ?_
    refine lv_iload_n hx hb dX12_begin_1 rfl (lv_at hl 1 rfl) ?_
    refine lv_iload_n hx hb dX12_begin_2 rfl (lv_at hl 2 rfl) ?_
    refine lv_iload_n hx hb dX12_begin_3 rfl (lv_at hl 3 rfl) ?_
    refine wk_kI hI hA (va_runV (As := [.int d9, .int (nI j), .int n]) (rest := []) ⟨hx, hb, hml, hown, hts⟩ (c_X12_may l D cI cJ cS am σ d9 (nI j) n _) (wk_cwV 3 hts wk_in_M mw_557 mw_559 mw_5 mw_45 mw_560 hdX12_may ⟨(Nat.le_of_ble_eq_true rfl), (Nat.le_of_ble_eq_true rfl)⟩) (wk_preV hN hK hI (ci := 11) rfl wm_e0) rfl rfl hl.1 rfl (lv_room (Nat.le_of_ble_eq_true rfl)) dX12_begin_4 ⟨(Nat.le_of_ble_eq_true rfl), (Nat.le_of_ble_eq_true rfl)⟩) (fun r u H locs hw hI => ?_)
    obtain ⟨rfl, hw⟩ := hw
    rw [hw] at hI
    refine lv_if_ne (tgt := 14) hx hb dX12_begin_7 (by decide) (fun c_1 => ?_) (fun c_1 => ?_)
    · have c_1 := wk_b1 c_1
      refine lv_aload_n hx hb dX12_begin_14 rfl (lv_at hl 0 rfl) ?_
      refine lv_iconst (v := 0) hx hb dX12_begin_15 (by decide) ?_
      refine wk_put (v := .int (nI 0)) (ty := .int) hx hb hts (fun w h => wk_in_M w (lay_X12 w h)) tyX12 tyX12_ok nmX12 hown hK hI (0) wm_e0 rfl 10 (by decide) (hts _ (wk_in_M _ mw_504)) rfl rfl (by decide +kernel) rfl rfl (Nat.le_of_ble_eq_true rfl) (wm_sNt _) dX12_begin_16 (fun H locs hI => ?_)
      refine lv_aload_n hx hb dX12_begin_19 rfl (lv_at hl 0 rfl) ?_
      refine lv_iload_n hx hb dX12_begin_20 rfl (lv_at hl 1 rfl) ?_
      refine lv_iload_n hx hb dX12_begin_21 rfl (lv_at hl 2 rfl) ?_
      refine lv_iload_n hx hb dX12_begin_22 rfl (lv_at hl 3 rfl) ?_
      refine lv_iconst (v := 1) hx hb dX12_begin_23 (by decide) ?_
      refine wk_kL hI hA (va_runV (As := [.int d9, .int (nI j), .int n, .int 1]) (rest := []) ⟨hx, hb, hml, hown, hts⟩ (c_X12_work l D cI cJ cS am (wk_fg σ) d9 j n 1 hV hj (by have hq0 : wk_nt (wk_fg σ) = 0 := rfl; have hq12 : wk_n (wk_fg σ) ≤ 12 := hV.1; omega) c_1.2 _) (wk_cwV 4 hts wk_in_M mw_568 mw_570 mw_6 mw_45 mw_571 hdX12_work ⟨(Nat.le_of_ble_eq_true rfl), (Nat.le_of_ble_eq_true rfl)⟩) (wk_preV hN hK hI (ci := 11) rfl wm_e0) rfl rfl hl.1 rfl (lv_room (Nat.le_of_ble_eq_true rfl)) dX12_begin_24 ⟨(Nat.le_of_ble_eq_true rfl), (Nat.le_of_ble_eq_true rfl)⟩) (fun r u H locs hw hI => ?_)
      obtain ⟨rfl, rfl⟩ := hw
      have hG_2 : wk_G (wk_fg σ) (wk_wk d9 (wk_fg σ) j n 1) 28 := wk_g_wk d9 (wk_fg σ) j n 1 hV.1
      exact wk_rl (wk_wk d9 (wk_fg σ) j n 1) hx hb hr hlk hK hI rfl (wk_post (by unfold wk_begin; rw [wk_clJ hV hj, wk_ifT c_1, wk_wk1])) dX12_begin_27
    · have c_1 := wk_b0 c_1
      refine lv_ldc2 hx hb hown (hts _ (wk_in_M _ mw_567)) dX12_begin_10 ?_
      exact wk_rl σ hx hb hr hlk hK hI rfl (wk_post (by unfold wk_begin; rw [wk_ifF c_1])) dX12_begin_13
  · have hK := hK
    refine lv_aload_n hx hb dX12_begin_0 rfl (lv_at hl 0 rfl) ?_
    refine lv_iload_n hx hb dX12_begin_1 rfl (lv_at hl 1 rfl) ?_
    refine lv_iload_n hx hb dX12_begin_2 rfl (lv_at hl 2 rfl) ?_
    refine lv_iload_n hx hb dX12_begin_3 rfl (lv_at hl 3 rfl) ?_
    refine wk_kI hI hA (va_runV (As := [.int d9, .int k9, .int n]) (rest := []) ⟨hx, hb, hml, hown, hts⟩ (c_X12_may l D cI cJ cS am σ d9 k9 n _) (wk_cwV 3 hts wk_in_M mw_557 mw_559 mw_5 mw_45 mw_560 hdX12_may ⟨(Nat.le_of_ble_eq_true rfl), (Nat.le_of_ble_eq_true rfl)⟩) (wk_preV hN hK hI (ci := 11) rfl wm_e0) rfl rfl hl.1 rfl (lv_room (Nat.le_of_ble_eq_true rfl)) dX12_begin_4 ⟨(Nat.le_of_ble_eq_true rfl), (Nat.le_of_ble_eq_true rfl)⟩) (fun r u H locs hw hI => ?_)
    obtain ⟨rfl, hw⟩ := hw
    rw [hw] at hI
    refine lv_if_ne (tgt := 14) hx hb dX12_begin_7 (by decide) (fun c_3 => ?_) (fun c_3 => ?_)
    · have c_3 := wk_b1 c_3
      exact absurd c_3.1 hno
    · have c_3 := wk_b0 c_3
      refine lv_ldc2 hx hb hown (hts _ (wk_in_M _ mw_567)) dX12_begin_10 ?_
      exact wk_rl σ hx hb hr hlk hK hI rfl (wk_post (by unfold wk_begin; rw [wk_ifF c_3])) dX12_begin_13
set_option maxHeartbeats 4000000 in
set_option maxRecDepth 100000 in
theorem c_X12_toil (l : Launch) (D : va_G) (cI cJ cS : ClassId) (am : Nat → Nat) (σ : wk_St) (k9 n : Int32) (hV : wk_V σ) : wk_Cl l D (wk_tys cI cJ cS) yX12_toil (wk_M yX12_toil cX12_toil 3 (some .long)) ({ frames := 9, cells := 0, slots := 0, locals := 209 }) [.ref (am 0), .int k9, .int n] (wm_W cI cJ am σ) (wm_W cI cJ am) (fun r0 u0 => r0 = (wk_toil σ k9 n).1 ∧ u0 = (wk_toil σ k9 n).2) := by
  intro sz
  refine Met.ofW (cc := cX12_toil) (maxL := 3) (ret := (some .long)) (by decide) rfl ?_
  intro p e s m args below meth c s₁ B hml hv
  obtain ⟨rfl, hsz, hP, hK, hD0, hN⟩ := hv
  have hx := B.exec
  have hb := B.bytes
  have hr := B.returns
  have hts := atoms_spec (ws := wk_M yX12_toil cX12_toil 3 (some .long)) B.pre
  have hown : s.vm.findClass RX12 = some m.cls := findClass_of_methodNamed B.named
  have hlk := B.notSynchronized
  subst hsz
  have hI : wk_I D (va_A (wm_W cI cJ am σ) s.heap.size) s.heap s.heap [] (wm_W cI cJ am σ) := ⟨hP, hD0.self, va_S.rf⟩
  have hA : ∀ q : Nat, s.heap.size ≤ q → (va_A (wm_W cI cJ am σ) s.heap.size) q := fun q h => Or.inr h
  clear hP hD0
  generalize va_A (wm_W cI cJ am σ) s.heap.size = A at hI hA ⊢
  have hl := lv_entry ([.ref (am 0), .int k9, .int n]) (n := 3) (Nat.le_of_ble_eq_true rfl)
  rw [lg_entry_eq]
  generalize (lg_sl ([.ref (am 0), .int k9, .int n]) ++ List.replicate (3 - (lg_sl ([.ref (am 0), .int k9, .int n])).length) Slot.unset).toArray = ls at hl ⊢
  have hl : lv_has ls 3 [(0, .ref (am 0)), (1, .int k9), (2, .int n)] := hl
  refine lv_aload_n hx hb dX12_toil_0 rfl (lv_at hl 0 rfl) ?_
  refine lv_iconst (v := 0) hx hb dX12_toil_1 (by decide) ?_
  refine lv_iload_n hx hb dX12_toil_2 rfl (lv_at hl 1 rfl) ?_
  refine lv_iload_n hx hb dX12_toil_3 rfl (lv_at hl 2 rfl) ?_
  refine wk_kL hI hA (va_runV (As := [.int 0, .int k9, .int n]) (rest := []) ⟨hx, hb, hml, hown, hts⟩ (c_X12_begin l D cI cJ cS am σ 0 k9 n hV _) (wk_cwV 3 hts wk_in_M mw_553 mw_555 mw_4 mw_45 mw_556 hdX12_begin ⟨(Nat.le_of_ble_eq_true rfl), (Nat.le_of_ble_eq_true rfl)⟩) (wk_preV hN hK hI (ci := 11) rfl wm_e0) rfl rfl hl.1 rfl (lv_room (Nat.le_of_ble_eq_true rfl)) dX12_toil_4 ⟨(Nat.le_of_ble_eq_true rfl), (Nat.le_of_ble_eq_true rfl)⟩) (fun r u H locs hw hI => ?_)
  obtain ⟨rfl, rfl⟩ := hw
  exact wk_rl ((wk_begin 0 σ k9 n).2) hx hb hr hlk hK hI rfl (by rw [wk_begin0]; exact ⟨rfl, rfl⟩) dX12_toil_7
set_option maxHeartbeats 4000000 in
set_option maxRecDepth 100000 in
theorem c_X12_pay (l : Launch) (D : va_G) (cI cJ cS : ClassId) (am : Nat → Nat) (σ : wk_St) (k9 n : Int32) (hV : wk_V σ) : wk_Cl l D (wk_tys cI cJ cS) yX12_pay (wk_M yX12_pay cX12_pay 3 (some .long)) ({ frames := 9, cells := 0, slots := 0, locals := 209 }) [.ref (am 0), .int k9, .int n] (wm_W cI cJ am σ) (wm_W cI cJ am) (fun r0 u0 => r0 = (wk_pay σ k9 n).1 ∧ u0 = (wk_pay σ k9 n).2) := by
  intro sz
  refine Met.ofW (cc := cX12_pay) (maxL := 3) (ret := (some .long)) (by decide) rfl ?_
  intro p e s m args below meth c s₁ B hml hv
  obtain ⟨rfl, hsz, hP, hK, hD0, hN⟩ := hv
  have hx := B.exec
  have hb := B.bytes
  have hr := B.returns
  have hts := atoms_spec (ws := wk_M yX12_pay cX12_pay 3 (some .long)) B.pre
  have hown : s.vm.findClass RX12 = some m.cls := findClass_of_methodNamed B.named
  have hlk := B.notSynchronized
  subst hsz
  have hI : wk_I D (va_A (wm_W cI cJ am σ) s.heap.size) s.heap s.heap [] (wm_W cI cJ am σ) := ⟨hP, hD0.self, va_S.rf⟩
  have hA : ∀ q : Nat, s.heap.size ≤ q → (va_A (wm_W cI cJ am σ) s.heap.size) q := fun q h => Or.inr h
  clear hP hD0
  generalize va_A (wm_W cI cJ am σ) s.heap.size = A at hI hA ⊢
  have hl := lv_entry ([.ref (am 0), .int k9, .int n]) (n := 3) (Nat.le_of_ble_eq_true rfl)
  rw [lg_entry_eq]
  generalize (lg_sl ([.ref (am 0), .int k9, .int n]) ++ List.replicate (3 - (lg_sl ([.ref (am 0), .int k9, .int n])).length) Slot.unset).toArray = ls at hl ⊢
  have hl : lv_has ls 3 [(0, .ref (am 0)), (1, .int k9), (2, .int n)] := hl
  refine lv_aload_n hx hb dX12_pay_0 rfl (lv_at hl 0 rfl) ?_
  refine lv_iconst (v := 1) hx hb dX12_pay_1 (by decide) ?_
  refine lv_iload_n hx hb dX12_pay_2 rfl (lv_at hl 1 rfl) ?_
  refine lv_iload_n hx hb dX12_pay_3 rfl (lv_at hl 2 rfl) ?_
  refine wk_kL hI hA (va_runV (As := [.int 1, .int k9, .int n]) (rest := []) ⟨hx, hb, hml, hown, hts⟩ (c_X12_begin l D cI cJ cS am σ 1 k9 n hV _) (wk_cwV 3 hts wk_in_M mw_553 mw_555 mw_4 mw_45 mw_556 hdX12_begin ⟨(Nat.le_of_ble_eq_true rfl), (Nat.le_of_ble_eq_true rfl)⟩) (wk_preV hN hK hI (ci := 11) rfl wm_e0) rfl rfl hl.1 rfl (lv_room (Nat.le_of_ble_eq_true rfl)) dX12_pay_4 ⟨(Nat.le_of_ble_eq_true rfl), (Nat.le_of_ble_eq_true rfl)⟩) (fun r u H locs hw hI => ?_)
  obtain ⟨rfl, rfl⟩ := hw
  exact wk_rl ((wk_begin 1 σ k9 n).2) hx hb hr hlk hK hI rfl (by rw [wk_begin1]; exact ⟨rfl, rfl⟩) dX12_pay_7
set_option maxHeartbeats 4000000 in
set_option maxRecDepth 100000 in
theorem c_X12_climb (l : Launch) (D : va_G) (cI cJ cS : ClassId) (am : Nat → Nat) (σ : wk_St) (k9 n : Int32) (hV : wk_V σ) : wk_Ci l D (wk_tys cI cJ cS) yX12_climb (wk_M yX12_climb cX12_climb 3 (some .int)) ({ frames := 9, cells := 0, slots := 0, locals := 209 }) [.ref (am 0), .int k9, .int n] (wm_W cI cJ am σ) (wm_W cI cJ am) (fun r0 u0 => r0 = (wk_climb σ k9 n).1 ∧ u0 = (wk_climb σ k9 n).2) := by
  intro sz
  refine Met.ofW (cc := cX12_climb) (maxL := 3) (ret := (some .int)) (by decide) rfl ?_
  intro p e s m args below meth c s₁ B hml hv
  obtain ⟨rfl, hsz, hP, hK, hD0, hN⟩ := hv
  have hx := B.exec
  have hb := B.bytes
  have hr := B.returns
  have hts := atoms_spec (ws := wk_M yX12_climb cX12_climb 3 (some .int)) B.pre
  have hown : s.vm.findClass RX12 = some m.cls := findClass_of_methodNamed B.named
  have hlk := B.notSynchronized
  subst hsz
  have hI : wk_I D (va_A (wm_W cI cJ am σ) s.heap.size) s.heap s.heap [] (wm_W cI cJ am σ) := ⟨hP, hD0.self, va_S.rf⟩
  have hA : ∀ q : Nat, s.heap.size ≤ q → (va_A (wm_W cI cJ am σ) s.heap.size) q := fun q h => Or.inr h
  clear hP hD0
  generalize va_A (wm_W cI cJ am σ) s.heap.size = A at hI hA ⊢
  have hl := lv_entry ([.ref (am 0), .int k9, .int n]) (n := 3) (Nat.le_of_ble_eq_true rfl)
  rw [lg_entry_eq]
  generalize (lg_sl ([.ref (am 0), .int k9, .int n]) ++ List.replicate (3 - (lg_sl ([.ref (am 0), .int k9, .int n])).length) Slot.unset).toArray = ls at hl ⊢
  have hl : lv_has ls 3 [(0, .ref (am 0)), (1, .int k9), (2, .int n)] := hl
  refine lv_aload_n hx hb dX12_climb_0 rfl (lv_at hl 0 rfl) ?_
  refine lv_iconst (v := 2) hx hb dX12_climb_1 (by decide) ?_
  refine lv_iload_n hx hb dX12_climb_2 rfl (lv_at hl 1 rfl) ?_
  refine lv_iload_n hx hb dX12_climb_3 rfl (lv_at hl 2 rfl) ?_
  refine wk_kL hI hA (va_runV (As := [.int 2, .int k9, .int n]) (rest := []) ⟨hx, hb, hml, hown, hts⟩ (c_X12_begin l D cI cJ cS am σ 2 k9 n hV _) (wk_cwV 3 hts wk_in_M mw_553 mw_555 mw_4 mw_45 mw_556 hdX12_begin ⟨(Nat.le_of_ble_eq_true rfl), (Nat.le_of_ble_eq_true rfl)⟩) (wk_preV hN hK hI (ci := 11) rfl wm_e0) rfl rfl hl.1 rfl (lv_room (Nat.le_of_ble_eq_true rfl)) dX12_climb_4 ⟨(Nat.le_of_ble_eq_true rfl), (Nat.le_of_ble_eq_true rfl)⟩) (fun r u H locs hw hI => ?_)
  obtain ⟨rfl, rfl⟩ := hw
  refine lv_l2i hx hb dX12_climb_7 rfl ?_
  exact wk_ri ((wk_begin 2 σ k9 n).2) hx hb hr hlk hK hI rfl (wk_begin2 σ k9 n) dX12_climb_8
set_option maxHeartbeats 4000000 in
set_option maxRecDepth 100000 in
theorem c_X12_heed (l : Launch) (D : va_G) (cI cJ cS : ClassId) (am : Nat → Nat) (σ : wk_St) (k9 n : Int32) (hV : wk_V σ) : wk_Ci l D (wk_tys cI cJ cS) yX12_heed (wk_M yX12_heed cX12_heed 3 (some .int)) ({ frames := 9, cells := 0, slots := 0, locals := 209 }) [.ref (am 0), .int k9, .int n] (wm_W cI cJ am σ) (wm_W cI cJ am) (fun r0 u0 => r0 = (wk_heed σ k9 n).1 ∧ u0 = (wk_heed σ k9 n).2) := by
  intro sz
  refine Met.ofW (cc := cX12_heed) (maxL := 3) (ret := (some .int)) (by decide) rfl ?_
  intro p e s m args below meth c s₁ B hml hv
  obtain ⟨rfl, hsz, hP, hK, hD0, hN⟩ := hv
  have hx := B.exec
  have hb := B.bytes
  have hr := B.returns
  have hts := atoms_spec (ws := wk_M yX12_heed cX12_heed 3 (some .int)) B.pre
  have hown : s.vm.findClass RX12 = some m.cls := findClass_of_methodNamed B.named
  have hlk := B.notSynchronized
  subst hsz
  have hI : wk_I D (va_A (wm_W cI cJ am σ) s.heap.size) s.heap s.heap [] (wm_W cI cJ am σ) := ⟨hP, hD0.self, va_S.rf⟩
  have hA : ∀ q : Nat, s.heap.size ≤ q → (va_A (wm_W cI cJ am σ) s.heap.size) q := fun q h => Or.inr h
  clear hP hD0
  generalize va_A (wm_W cI cJ am σ) s.heap.size = A at hI hA ⊢
  have hl := lv_entry ([.ref (am 0), .int k9, .int n]) (n := 3) (Nat.le_of_ble_eq_true rfl)
  rw [lg_entry_eq]
  generalize (lg_sl ([.ref (am 0), .int k9, .int n]) ++ List.replicate (3 - (lg_sl ([.ref (am 0), .int k9, .int n])).length) Slot.unset).toArray = ls at hl ⊢
  have hl : lv_has ls 3 [(0, .ref (am 0)), (1, .int k9), (2, .int n)] := hl
  refine lv_aload_n hx hb dX12_heed_0 rfl (lv_at hl 0 rfl) ?_
  refine lv_iconst (v := 3) hx hb dX12_heed_1 (by decide) ?_
  refine lv_iload_n hx hb dX12_heed_2 rfl (lv_at hl 1 rfl) ?_
  refine lv_iload_n hx hb dX12_heed_3 rfl (lv_at hl 2 rfl) ?_
  refine wk_kL hI hA (va_runV (As := [.int 3, .int k9, .int n]) (rest := []) ⟨hx, hb, hml, hown, hts⟩ (c_X12_begin l D cI cJ cS am σ 3 k9 n hV _) (wk_cwV 3 hts wk_in_M mw_553 mw_555 mw_4 mw_45 mw_556 hdX12_begin ⟨(Nat.le_of_ble_eq_true rfl), (Nat.le_of_ble_eq_true rfl)⟩) (wk_preV hN hK hI (ci := 11) rfl wm_e0) rfl rfl hl.1 rfl (lv_room (Nat.le_of_ble_eq_true rfl)) dX12_heed_4 ⟨(Nat.le_of_ble_eq_true rfl), (Nat.le_of_ble_eq_true rfl)⟩) (fun r u H locs hw hI => ?_)
  obtain ⟨rfl, rfl⟩ := hw
  refine lv_l2i hx hb dX12_heed_7 rfl ?_
  exact wk_ri ((wk_begin 3 σ k9 n).2) hx hb hr hlk hK hI rfl (wk_begin3 σ k9 n) dX12_heed_8
