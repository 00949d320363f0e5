set_option maxHeartbeats 4000000 in
set_option maxRecDepth 100000 in
theorem c_X11_toil (l : Launch) (D : va_G) (cI cJ cS : ClassId) (ad : Nat → Nat) (σ : wk_St) (k9 : Int32) (n : Int32) (hV : wk_V σ) : wk_Cl l D (wk_tys cI cJ cS) yX11_toil (wk_M yX11_toil cX11_toil 4 (some .long)) ({ frames := 5, cells := 0, slots := 0, locals := 119 }) [.ref (ad 0), .int k9, .int n] (wx_W cI cS ad σ) (wx_W cI cS ad) (fun r0 u0 => r0 = (wk_toil σ k9 n).1 ∧ u0 = (wk_toil σ k9 n).2) := by
  intro sz
  refine Met.ofW (cc := cX11_toil) (maxL := 4) (ret := (some .long)) (by decide) rfl ?_
  intro p e s m args below meth c s₁ B hml hv
  obtain ⟨rfl, hsz, hP, hK, hD0, hN⟩ := hv
  have hx := B.exec
  have hb := B.bytes
  have hr := B.returns
  have hts := atoms_spec (ws := wk_M yX11_toil cX11_toil 4 (some .long)) B.pre
  have hown : s.vm.findClass RX11 = some m.cls := findClass_of_methodNamed B.named
  have hlk := B.notSynchronized
  subst hsz
  have hI : wk_I D (va_A (wx_W cI cS ad σ) s.heap.size) s.heap s.heap [] (wx_W cI cS ad σ) := ⟨hP, hD0.self, va_S.rf⟩
  have hA : ∀ q : Nat, s.heap.size ≤ q → (va_A (wx_W cI cS ad σ) s.heap.size) q := fun q h => Or.inr h
  clear hP hD0
  generalize va_A (wx_W cI cS ad σ) s.heap.size = A at hI hA ⊢
  have hl := lv_entry ([.ref (ad 0), .int k9, .int n]) (n := 4) (Nat.le_of_ble_eq_true rfl)
  rw [lg_entry_eq]
  generalize (lg_sl ([.ref (ad 0), .int k9, .int n]) ++ List.replicate (4 - (lg_sl ([.ref (ad 0), .int k9, .int n])).length) Slot.unset).toArray = ls at hl ⊢
  have hl : lv_has ls 4 [(0, .ref (ad 0)), (1, .int k9), (2, .int n)] := hl
  rcases wk_okC hV k9 with ⟨j, hj, rfl⟩ | hno
  · have hK := hK
    refine lv_aload_n hx hb dX11_toil_0 rfl (lv_at hl 0 rfl) ?_
    refine wk_get (v := .ref (ad 1)) hx hb hts (fun w h => wk_in_M w (lay_X11 w h)) hown hK hI (0) wx_e0 rfl 0 (by decide) (hts _ (wk_in_M _ mw_145)) rfl rfl dX11_toil_1 ?_
    refine lv_iload_n hx hb dX11_toil_4 rfl (lv_at hl 1 rfl) ?_
    refine wk_kQ hI hA (va_runV (As := [.int (nI j)]) (rest := []) ⟨hx, hb, hml, hown, hts⟩ (c_X2_member l D cI cJ cS ad σ (nI j) hV _) (wk_cwV 1 hts wk_in_M mw_224 mw_225 mw_226 mw_35 mw_227 hdX2_member ⟨(Nat.le_of_ble_eq_true rfl), (Nat.le_of_ble_eq_true rfl)⟩) (wk_preV hN hK hI (ci := 2) rfl wx_e1) rfl rfl hl.1 rfl (lv_room (Nat.le_of_ble_eq_true rfl)) dX11_toil_5 ⟨(Nat.le_of_ble_eq_true rfl), (Nat.le_of_ble_eq_true rfl)⟩) (fun r u H locs hw hI => ?_)
    obtain ⟨rfl, hw⟩ := hw
    rw [hw] at hI
    rw [wx_findJ hV hj]
    refine W.eq (g2 := F0 m 8 ls [.ref (ad (16 + j))]) rfl ?_
    refine lv_astore_n (lv' := [(3, .ref (ad (16 + j))), (0, .ref (ad 0)), (1, .int (nI j)), (2, .int n)]) hx hb dX11_toil_8 rfl hl (by decide) rfl (fun ls hl => ?_)
    refine lv_aload_n hx hb dX11_toil_9 rfl (lv_at hl 0 rfl) ?_
    refine lv_ifnull hx hb dX11_toil_10 ?_
    refine lv_iconst (v := 0) hx hb dX11_toil_13 (by decide) ?_
    refine lv_iload_n hx hb dX11_toil_14 rfl (lv_at hl 3 rfl) ?_
    refine wk_kI hI hA (va_runS (As := [.int 0, .int n]) (rest := []) ⟨hx, hb, hml, hown, hts⟩ (c_X11_isBeyondBound l D cI cJ cS ad σ 0 n _) (wk_cwS 2 hts wk_in_M mw_240 mw_241 mw_34 mw_242 (hdX11_isBeyondBound).2 ⟨(Nat.le_of_ble_eq_true rfl), (Nat.le_of_ble_eq_true rfl)⟩) (wk_preS hN hK hI) rfl rfl hl.1 rfl (lv_room (Nat.le_of_ble_eq_true rfl)) dX11_toil_15 ⟨(Nat.le_of_ble_eq_true rfl), (Nat.le_of_ble_eq_true rfl)⟩) (fun r u H locs hw hI => ?_)
    obtain ⟨rfl, hw⟩ := hw
    rw [hw] at hI
    refine lv_if_eq (tgt := 25) hx hb dX11_toil_18 (by decide) (fun c_1 => ?_) (fun c_1 => ?_)
    · have c_1 := wk_b0 c_1
      refine lv_aload_n hx hb dX11_toil_25 rfl (lv_at hl 1 rfl) ?_
      refine wk_get (v := .ref (ad 1)) hx hb hts (fun w h => wk_in_M w (lay_X11 w h)) hown hK hI (0) wx_e0 rfl 0 (by decide) (hts _ (wk_in_M _ mw_145)) rfl rfl dX11_toil_26 ?_
      refine wk_kV hI hA (va_runV (As := []) (rest := []) ⟨hx, hb, hml, hown, hts⟩ (c_X2_forgetNotes l D cI cJ cS ad σ _) (wk_cwV 0 hts wk_in_M mw_247 mw_248 mw_249 mw_35 mw_250 hdX2_forgetNotes ⟨(Nat.le_of_ble_eq_true rfl), (Nat.le_of_ble_eq_true rfl)⟩) (wk_preV hN hK hI (ci := 2) rfl wx_e1) rfl rfl hl.1 rfl (lv_room (Nat.le_of_ble_eq_true rfl)) dX11_toil_29 ⟨(Nat.le_of_ble_eq_true rfl), (Nat.le_of_ble_eq_true rfl)⟩) (fun u H locs hw hI => ?_)
      obtain rfl := hw
      refine lv_aload_n hx hb dX11_toil_32 rfl (lv_at hl 0 rfl) ?_
      refine wk_get (v := .ref (ad (8 + wk_rk (wk_fg σ) j))) hx hb hts (fun w h => wk_in_M w (lay_X6 w h)) hown hK hI (16 + j) (wx_em hj) rfl 3 (by decide) (hts _ (wk_in_M _ mw_193)) rfl rfl dX11_toil_33 ?_
      refine lv_aload_n hx hb dX11_toil_36 rfl (lv_at hl 1 rfl) ?_
      refine wk_get (v := .ref (ad 1)) hx hb hts (fun w h => wk_in_M w (lay_X11 w h)) hown hK hI (0) wx_e0 rfl 0 (by decide) (hts _ (wk_in_M _ mw_145)) rfl rfl dX11_toil_37 ?_
      refine lv_aload_n hx hb dX11_toil_40 rfl (lv_at hl 0 rfl) ?_
      refine lv_iload_n hx hb dX11_toil_41 rfl (lv_at hl 3 rfl) ?_
      refine wk_kL hI hA (wd_X11_toilWay (wk_rk (wk_fg σ) j) j n (rest := []) ⟨hx, hb, hml, hown, hts⟩ wk_in_M hN hK hI hV (hV.rk hj) hj (by have hq0 : wk_nt (wk_fg σ) = 0 := rfl; have hq12 : wk_n (wk_fg σ) ≤ 12 := hV.1; omega) ⟨(Nat.le_of_ble_eq_true rfl), (Nat.le_of_ble_eq_true rfl)⟩ hl.1 (lv_room (Nat.le_of_ble_eq_true rfl)) dX11_toil_42 ⟨(Nat.le_of_ble_eq_true rfl), (Nat.le_of_ble_eq_true rfl)⟩) (fun r u H locs hw hI => ?_)
      obtain ⟨rfl, rfl⟩ := hw
      have hG_2 : wk_G (wk_fg σ) ((wk_toilR (wk_rk (wk_fg σ) j) (wk_fg σ) j n).2) 6 := wk_g_toilR (wk_rk (wk_fg σ) j) (wk_fg σ) j n
      exact wk_rl ((wk_toilR (wk_rk (wk_fg σ) j) (wk_fg σ) j n).2) hx hb hr hlk hK hI rfl (wk_post (by unfold wk_toil ; rw [wk_clJ hV hj, wk_ifT ⟨wk_okJ hV hj, Classical.not_not.mp c_1⟩]; first | done | rfl)) dX11_toil_45
    · have c_1 := wk_b1 c_1
      refine lv_ldc2 hx hb hown (hts _ (wk_in_M _ mw_246)) dX11_toil_21 ?_
      exact wk_rl σ hx hb hr hlk hK hI rfl (wk_post (by unfold wk_toil; rw [wk_clJ hV hj, wk_ifF (fun hq => c_1 hq.2)])) dX11_toil_24
  · have hK := hK
    refine lv_aload_n hx hb dX11_toil_0 rfl (lv_at hl 0 rfl) ?_
    refine wk_get (v := .ref (ad 1)) hx hb hts (fun w h => wk_in_M w (lay_X11 w h)) hown hK hI (0) wx_e0 rfl 0 (by decide) (hts _ (wk_in_M _ mw_145)) rfl rfl dX11_toil_1 ?_
    refine lv_iload_n hx hb dX11_toil_4 rfl (lv_at hl 1 rfl) ?_
    refine wk_kQ hI hA (va_runV (As := [.int k9]) (rest := []) ⟨hx, hb, hml, hown, hts⟩ (c_X2_member l D cI cJ cS ad σ k9 hV _) (wk_cwV 1 hts wk_in_M mw_224 mw_225 mw_226 mw_35 mw_227 hdX2_member ⟨(Nat.le_of_ble_eq_true rfl), (Nat.le_of_ble_eq_true rfl)⟩) (wk_preV hN hK hI (ci := 2) rfl wx_e1) rfl rfl hl.1 rfl (lv_room (Nat.le_of_ble_eq_true rfl)) dX11_toil_5 ⟨(Nat.le_of_ble_eq_true rfl), (Nat.le_of_ble_eq_true rfl)⟩) (fun r u H locs hw hI => ?_)
    obtain ⟨rfl, hw⟩ := hw
    rw [hw] at hI
    rw [wx_findN hno]
    refine W.eq (g2 := F0 m 8 ls [.null]) rfl ?_
    refine lv_astore_nN (lv' := [(3, .null), (0, .ref (ad 0)), (1, .int k9), (2, .int n)]) hx hb dX11_toil_8 rfl hl (by decide) rfl (fun ls hl => ?_)
    refine lv_aload_nN hx hb dX11_toil_9 rfl (lv_at hl 0 rfl) ?_
    refine lv_ifnullN (tgt := 21) hx hb dX11_toil_10 (by decide) ?_
    refine lv_ldc2 hx hb hown (hts _ (wk_in_M _ mw_246)) dX11_toil_21 ?_
    exact wk_rl σ hx hb hr hlk hK hI rfl (wk_post (by unfold wk_toil; rw [wk_ifF (fun hq => hno hq.1)])) dX11_toil_24
set_option maxHeartbeats 4000000 in
set_option maxRecDepth 100000 in
theorem c_X11_climb (l : Launch) (D : va_G) (cI cJ cS : ClassId) (ad : Nat → Nat) (σ : wk_St) (k9 : Int32) (n : Int32) (hV : wk_V σ) : wk_Ci l D (wk_tys cI cJ cS) yX11_climb (wk_M yX11_climb cX11_climb 4 (some .int)) ({ frames := 4, cells := 0, slots := 0, locals := 92 }) [.ref (ad 0), .int k9, .int n] (wx_W cI cS ad σ) (wx_W cI cS ad) (fun r0 u0 => r0 = (wk_climb σ k9 n).1 ∧ u0 = (wk_climb σ k9 n).2) := by
  intro sz
  refine Met.ofW (cc := cX11_climb) (maxL := 4) (ret := (some .int)) (by decide) rfl ?_
  intro p e s m args below meth c s₁ B hml hv
  obtain ⟨rfl, hsz, hP, hK, hD0, hN⟩ := hv
  have hx := B.exec
  have hb := B.bytes
  have hr := B.returns
  have hts := atoms_spec (ws := wk_M yX11_climb cX11_climb 4 (some .int)) B.pre
  have hown : s.vm.findClass RX11 = some m.cls := findClass_of_methodNamed B.named
  have hlk := B.notSynchronized
  subst hsz
  have hI : wk_I D (va_A (wx_W cI cS ad σ) s.heap.size) s.heap s.heap [] (wx_W cI cS ad σ) := ⟨hP, hD0.self, va_S.rf⟩
  have hA : ∀ q : Nat, s.heap.size ≤ q → (va_A (wx_W cI cS ad σ) s.heap.size) q := fun q h => Or.inr h
  clear hP hD0
  generalize va_A (wx_W cI cS ad σ) s.heap.size = A at hI hA ⊢
  have hl := lv_entry ([.ref (ad 0), .int k9, .int n]) (n := 4) (Nat.le_of_ble_eq_true rfl)
  rw [lg_entry_eq]
  generalize (lg_sl ([.ref (ad 0), .int k9, .int n]) ++ List.replicate (4 - (lg_sl ([.ref (ad 0), .int k9, .int n])).length) Slot.unset).toArray = ls at hl ⊢
  have hl : lv_has ls 4 [(0, .ref (ad 0)), (1, .int k9), (2, .int n)] := hl
  rcases wk_okC hV k9 with ⟨j, hj, rfl⟩ | hno
  · have hK := hK
    refine lv_aload_n hx hb dX11_climb_0 rfl (lv_at hl 0 rfl) ?_
    refine wk_get (v := .ref (ad 1)) hx hb hts (fun w h => wk_in_M w (lay_X11 w h)) hown hK hI (0) wx_e0 rfl 0 (by decide) (hts _ (wk_in_M _ mw_145)) rfl rfl dX11_climb_1 ?_
    refine lv_iload_n hx hb dX11_climb_4 rfl (lv_at hl 1 rfl) ?_
    refine wk_kQ hI hA (va_runV (As := [.int (nI j)]) (rest := []) ⟨hx, hb, hml, hown, hts⟩ (c_X2_member l D cI cJ cS ad σ (nI j) hV _) (wk_cwV 1 hts wk_in_M mw_224 mw_225 mw_226 mw_35 mw_227 hdX2_member ⟨(Nat.le_of_ble_eq_true rfl), (Nat.le_of_ble_eq_true rfl)⟩) (wk_preV hN hK hI (ci := 2) rfl wx_e1) rfl rfl hl.1 rfl (lv_room (Nat.le_of_ble_eq_true rfl)) dX11_climb_5 ⟨(Nat.le_of_ble_eq_true rfl), (Nat.le_of_ble_eq_true rfl)⟩) (fun r u H locs hw hI => ?_)
    obtain ⟨rfl, hw⟩ := hw
    rw [hw] at hI
    rw [wx_findJ hV hj]
    refine W.eq (g2 := F0 m 8 ls [.ref (ad (16 + j))]) rfl ?_
    refine lv_astore_n (lv' := [(3, .ref (ad (16 + j))), (0, .ref (ad 0)), (1, .int (nI j)), (2, .int n)]) hx hb dX11_climb_8 rfl hl (by decide) rfl (fun ls hl => ?_)
    refine lv_aload_n hx hb dX11_climb_9 rfl (lv_at hl 0 rfl) ?_
    refine lv_ifnull hx hb dX11_climb_10 ?_
    refine lv_iconst (v := 2) hx hb dX11_climb_13 (by decide) ?_
    refine lv_iload_n hx hb dX11_climb_14 rfl (lv_at hl 3 rfl) ?_
    refine wk_kI hI hA (va_runS (As := [.int 2, .int n]) (rest := []) ⟨hx, hb, hml, hown, hts⟩ (c_X11_isBeyondBound l D cI cJ cS ad σ 2 n _) (wk_cwS 2 hts wk_in_M mw_240 mw_241 mw_34 mw_242 (hdX11_isBeyondBound).2 ⟨(Nat.le_of_ble_eq_true rfl), (Nat.le_of_ble_eq_true rfl)⟩) (wk_preS hN hK hI) rfl rfl hl.1 rfl (lv_room (Nat.le_of_ble_eq_true rfl)) dX11_climb_15 ⟨(Nat.le_of_ble_eq_true rfl), (Nat.le_of_ble_eq_true rfl)⟩) (fun r u H locs hw hI => ?_)
    obtain ⟨rfl, hw⟩ := hw
    rw [hw] at hI
    refine lv_if_eq (tgt := 24) hx hb dX11_climb_18 (by decide) (fun c_1 => ?_) (fun c_1 => ?_)
    · have c_1 := wk_b0 c_1
      refine lv_aload_n hx hb dX11_climb_24 rfl (lv_at hl 1 rfl) ?_
      refine wk_get (v := .ref (ad 1)) hx hb hts (fun w h => wk_in_M w (lay_X11 w h)) hown hK hI (0) wx_e0 rfl 0 (by decide) (hts _ (wk_in_M _ mw_145)) rfl rfl dX11_climb_25 ?_
      refine wk_kV hI hA (va_runV (As := []) (rest := []) ⟨hx, hb, hml, hown, hts⟩ (c_X2_forgetNotes l D cI cJ cS ad σ _) (wk_cwV 0 hts wk_in_M mw_247 mw_248 mw_249 mw_35 mw_250 hdX2_forgetNotes ⟨(Nat.le_of_ble_eq_true rfl), (Nat.le_of_ble_eq_true rfl)⟩) (wk_preV hN hK hI (ci := 2) rfl wx_e1) rfl rfl hl.1 rfl (lv_room (Nat.le_of_ble_eq_true rfl)) dX11_climb_28 ⟨(Nat.le_of_ble_eq_true rfl), (Nat.le_of_ble_eq_true rfl)⟩) (fun u H locs hw hI => ?_)
      obtain rfl := hw
      refine lv_aload_n hx hb dX11_climb_31 rfl (lv_at hl 0 rfl) ?_
      refine wk_get (v := .ref (ad (8 + wk_rk (wk_fg σ) j))) hx hb hts (fun w h => wk_in_M w (lay_X6 w h)) hown hK hI (16 + j) (wx_em hj) rfl 3 (by decide) (hts _ (wk_in_M _ mw_193)) rfl rfl dX11_climb_32 ?_
      refine lv_aload_n hx hb dX11_climb_35 rfl (lv_at hl 1 rfl) ?_
      refine wk_get (v := .ref (ad 1)) hx hb hts (fun w h => wk_in_M w (lay_X11 w h)) hown hK hI (0) wx_e0 rfl 0 (by decide) (hts _ (wk_in_M _ mw_145)) rfl rfl dX11_climb_36 ?_
      refine lv_aload_n hx hb dX11_climb_39 rfl (lv_at hl 0 rfl) ?_
      refine lv_iload_n hx hb dX11_climb_40 rfl (lv_at hl 3 rfl) ?_
      refine wk_kI hI hA (wd_X11_climbWay (wk_rk (wk_fg σ) j) j n (rest := []) ⟨hx, hb, hml, hown, hts⟩ wk_in_M hN hK hI hV (hV.rk hj) hj (by have hq0 : wk_nt (wk_fg σ) = 0 := rfl; have hq12 : wk_n (wk_fg σ) ≤ 12 := hV.1; omega) ⟨(Nat.le_of_ble_eq_true rfl), (Nat.le_of_ble_eq_true rfl)⟩ hl.1 (lv_room (Nat.le_of_ble_eq_true rfl)) dX11_climb_41 ⟨(Nat.le_of_ble_eq_true rfl), (Nat.le_of_ble_eq_true rfl)⟩) (fun r u H locs hw hI => ?_)
      obtain ⟨rfl, rfl⟩ := hw
      have hG_2 : wk_G (wk_fg σ) ((wk_climbR (wk_rk (wk_fg σ) j) (wk_fg σ) j n).2) 3 := wk_g_climbR (wk_rk (wk_fg σ) j) (wk_fg σ) j n
      exact wk_ri ((wk_climbR (wk_rk (wk_fg σ) j) (wk_fg σ) j n).2) hx hb hr hlk hK hI rfl (wk_post (by unfold wk_climb ; rw [wk_clJ hV hj, wk_ifT ⟨wk_okJ hV hj, Classical.not_not.mp c_1⟩]; first | done | rfl)) dX11_climb_44
    · have c_1 := wk_b1 c_1
      refine lv_ldc hx hb hown (hts _ (wk_in_M _ mw_171)) dX11_climb_21 ?_
      exact wk_ri σ hx hb hr hlk hK hI rfl (wk_post (by unfold wk_climb; rw [wk_clJ hV hj, wk_ifF (fun hq => c_1 hq.2)])) dX11_climb_23
  · have hK := hK
    refine lv_aload_n hx hb dX11_climb_0 rfl (lv_at hl 0 rfl) ?_
    refine wk_get (v := .ref (ad 1)) hx hb hts (fun w h => wk_in_M w (lay_X11 w h)) hown hK hI (0) wx_e0 rfl 0 (by decide) (hts _ (wk_in_M _ mw_145)) rfl rfl dX11_climb_1 ?_
    refine lv_iload_n hx hb dX11_climb_4 rfl (lv_at hl 1 rfl) ?_
    refine wk_kQ hI hA (va_runV (As := [.int k9]) (rest := []) ⟨hx, hb, hml, hown, hts⟩ (c_X2_member l D cI cJ cS ad σ k9 hV _) (wk_cwV 1 hts wk_in_M mw_224 mw_225 mw_226 mw_35 mw_227 hdX2_member ⟨(Nat.le_of_ble_eq_true rfl), (Nat.le_of_ble_eq_true rfl)⟩) (wk_preV hN hK hI (ci := 2) rfl wx_e1) rfl rfl hl.1 rfl (lv_room (Nat.le_of_ble_eq_true rfl)) dX11_climb_5 ⟨(Nat.le_of_ble_eq_true rfl), (Nat.le_of_ble_eq_true rfl)⟩) (fun r u H locs hw hI => ?_)
    obtain ⟨rfl, hw⟩ := hw
    rw [hw] at hI
    rw [wx_findN hno]
    refine W.eq (g2 := F0 m 8 ls [.null]) rfl ?_
    refine lv_astore_nN (lv' := [(3, .null), (0, .ref (ad 0)), (1, .int k9), (2, .int n)]) hx hb dX11_climb_8 rfl hl (by decide) rfl (fun ls hl => ?_)
    refine lv_aload_nN hx hb dX11_climb_9 rfl (lv_at hl 0 rfl) ?_
    refine lv_ifnullN (tgt := 21) hx hb dX11_climb_10 (by decide) ?_
    refine lv_ldc hx hb hown (hts _ (wk_in_M _ mw_171)) dX11_climb_21 ?_
    exact wk_ri σ hx hb hr hlk hK hI rfl (wk_post (by unfold wk_climb; rw [wk_ifF (fun hq => hno hq.1)])) dX11_climb_23
set_option maxHeartbeats 4000000 in
set_option maxRecDepth 100000 in
theorem c_X11_heed (l : Launch) (D : va_G) (cI cJ cS : ClassId) (ad : Nat → Nat) (σ : wk_St) (k9 : Int32) (n : Int32) (hV : wk_V σ) : wk_Ci l D (wk_tys cI cJ cS) yX11_heed (wk_M yX11_heed cX11_heed 4 (some .int)) ({ frames := 5, cells := 0, slots := 0, locals := 116 }) [.ref (ad 0), .int k9, .int n] (wx_W cI cS ad σ) (wx_W cI cS ad) (fun r0 u0 => r0 = (wk_heed σ k9 n).1 ∧ u0 = (wk_heed σ k9 n).2) := by
  intro sz
  refine Met.ofW (cc := cX11_heed) (maxL := 4) (ret := (some .int)) (by decide) rfl ?_
  intro p e s m args below meth c s₁ B hml hv
  obtain ⟨rfl, hsz, hP, hK, hD0, hN⟩ := hv
  have hx := B.exec
  have hb := B.bytes
  have hr := B.returns
  have hts := atoms_spec (ws := wk_M yX11_heed cX11_heed 4 (some .int)) B.pre
  have hown : s.vm.findClass RX11 = some m.cls := findClass_of_methodNamed B.named
  have hlk := B.notSynchronized
  subst hsz
  have hI : wk_I D (va_A (wx_W cI cS ad σ) s.heap.size) s.heap s.heap [] (wx_W cI cS ad σ) := ⟨hP, hD0.self, va_S.rf⟩
  have hA : ∀ q : Nat, s.heap.size ≤ q → (va_A (wx_W cI cS ad σ) s.heap.size) q := fun q h => Or.inr h
  clear hP hD0
  generalize va_A (wx_W cI cS ad σ) s.heap.size = A at hI hA ⊢
  have hl := lv_entry ([.ref (ad 0), .int k9, .int n]) (n := 4) (Nat.le_of_ble_eq_true rfl)
  rw [lg_entry_eq]
  generalize (lg_sl ([.ref (ad 0), .int k9, .int n]) ++ List.replicate (4 - (lg_sl ([.ref (ad 0), .int k9, .int n])).length) Slot.unset).toArray = ls at hl ⊢
  have hl : lv_has ls 4 [(0, .ref (ad 0)), (1, .int k9), (2, .int n)] := hl
  rcases wk_okC hV k9 with ⟨j, hj, rfl⟩ | hno
  · have hK := hK
    refine lv_aload_n hx hb dX11_heed_0 rfl (lv_at hl 0 rfl) ?_
    refine wk_get (v := .ref (ad 1)) hx hb hts (fun w h => wk_in_M w (lay_X11 w h)) hown hK hI (0) wx_e0 rfl 0 (by decide) (hts _ (wk_in_M _ mw_145)) rfl rfl dX11_heed_1 ?_
    refine lv_iload_n hx hb dX11_heed_4 rfl (lv_at hl 1 rfl) ?_
    refine wk_kQ hI hA (va_runV (As := [.int (nI j)]) (rest := []) ⟨hx, hb, hml, hown, hts⟩ (c_X2_member l D cI cJ cS ad σ (nI j) hV _) (wk_cwV 1 hts wk_in_M mw_224 mw_225 mw_226 mw_35 mw_227 hdX2_member ⟨(Nat.le_of_ble_eq_true rfl), (Nat.le_of_ble_eq_true rfl)⟩) (wk_preV hN hK hI (ci := 2) rfl wx_e1) rfl rfl hl.1 rfl (lv_room (Nat.le_of_ble_eq_true rfl)) dX11_heed_5 ⟨(Nat.le_of_ble_eq_true rfl), (Nat.le_of_ble_eq_true rfl)⟩) (fun r u H locs hw hI => ?_)
    obtain ⟨rfl, hw⟩ := hw
    rw [hw] at hI
    rw [wx_findJ hV hj]
    refine W.eq (g2 := F0 m 8 ls [.ref (ad (16 + j))]) rfl ?_
    refine lv_astore_n (lv' := [(3, .ref (ad (16 + j))), (0, .ref (ad 0)), (1, .int (nI j)), (2, .int n)]) hx hb dX11_heed_8 rfl hl (by decide) rfl (fun ls hl => ?_)
    refine lv_aload_n hx hb dX11_heed_9 rfl (lv_at hl 0 rfl) ?_
    refine lv_ifnull hx hb dX11_heed_10 ?_
    refine lv_iconst (v := 3) hx hb dX11_heed_13 (by decide) ?_
    refine lv_iload_n hx hb dX11_heed_14 rfl (lv_at hl 3 rfl) ?_
    refine wk_kI hI hA (va_runS (As := [.int 3, .int n]) (rest := []) ⟨hx, hb, hml, hown, hts⟩ (c_X11_isBeyondBound l D cI cJ cS ad σ 3 n _) (wk_cwS 2 hts wk_in_M mw_240 mw_241 mw_34 mw_242 (hdX11_isBeyondBound).2 ⟨(Nat.le_of_ble_eq_true rfl), (Nat.le_of_ble_eq_true rfl)⟩) (wk_preS hN hK hI) rfl rfl hl.1 rfl (lv_room (Nat.le_of_ble_eq_true rfl)) dX11_heed_15 ⟨(Nat.le_of_ble_eq_true rfl), (Nat.le_of_ble_eq_true rfl)⟩) (fun r u H locs hw hI => ?_)
    obtain ⟨rfl, hw⟩ := hw
    rw [hw] at hI
    refine lv_if_eq (tgt := 24) hx hb dX11_heed_18 (by decide) (fun c_1 => ?_) (fun c_1 => ?_)
    · have c_1 := wk_b0 c_1
      refine lv_aload_n hx hb dX11_heed_24 rfl (lv_at hl 1 rfl) ?_
      refine wk_get (v := .ref (ad 1)) hx hb hts (fun w h => wk_in_M w (lay_X11 w h)) hown hK hI (0) wx_e0 rfl 0 (by decide) (hts _ (wk_in_M _ mw_145)) rfl rfl dX11_heed_25 ?_
      refine wk_kV hI hA (va_runV (As := []) (rest := []) ⟨hx, hb, hml, hown, hts⟩ (c_X2_forgetNotes l D cI cJ cS ad σ _) (wk_cwV 0 hts wk_in_M mw_247 mw_248 mw_249 mw_35 mw_250 hdX2_forgetNotes ⟨(Nat.le_of_ble_eq_true rfl), (Nat.le_of_ble_eq_true rfl)⟩) (wk_preV hN hK hI (ci := 2) rfl wx_e1) rfl rfl hl.1 rfl (lv_room (Nat.le_of_ble_eq_true rfl)) dX11_heed_28 ⟨(Nat.le_of_ble_eq_true rfl), (Nat.le_of_ble_eq_true rfl)⟩) (fun u H locs hw hI => ?_)
      obtain rfl := hw
      refine lv_aload_n hx hb dX11_heed_31 rfl (lv_at hl 0 rfl) ?_
      refine wk_get (v := .ref (ad (8 + wk_rk (wk_fg σ) j))) hx hb hts (fun w h => wk_in_M w (lay_X6 w h)) hown hK hI (16 + j) (wx_em hj) rfl 3 (by decide) (hts _ (wk_in_M _ mw_193)) rfl rfl dX11_heed_32 ?_
      refine lv_aload_n hx hb dX11_heed_35 rfl (lv_at hl 1 rfl) ?_
      refine wk_get (v := .ref (ad 1)) hx hb hts (fun w h => wk_in_M w (lay_X11 w h)) hown hK hI (0) wx_e0 rfl 0 (by decide) (hts _ (wk_in_M _ mw_145)) rfl rfl dX11_heed_36 ?_
      refine lv_aload_n hx hb dX11_heed_39 rfl (lv_at hl 0 rfl) ?_
      refine lv_iload_n hx hb dX11_heed_40 rfl (lv_at hl 3 rfl) ?_
      refine wk_kI hI hA (wd_X11_heedWay (wk_rk (wk_fg σ) j) j n (rest := []) ⟨hx, hb, hml, hown, hts⟩ wk_in_M hN hK hI hV (hV.rk hj) hj (by have hq0 : wk_nt (wk_fg σ) = 0 := rfl; have hq12 : wk_n (wk_fg σ) ≤ 12 := hV.1; omega) ⟨(Nat.le_of_ble_eq_true rfl), (Nat.le_of_ble_eq_true rfl)⟩ hl.1 (lv_room (Nat.le_of_ble_eq_true rfl)) dX11_heed_41 ⟨(Nat.le_of_ble_eq_true rfl), (Nat.le_of_ble_eq_true rfl)⟩) (fun r u H locs hw hI => ?_)
      obtain ⟨rfl, rfl⟩ := hw
      have hG_2 : wk_G (wk_fg σ) ((wk_heedR (wk_rk (wk_fg σ) j) (wk_fg σ) j n).2) 28 := wk_g_heedR (wk_rk (wk_fg σ) j) (wk_fg σ) j n hV.1
      exact wk_ri ((wk_heedR (wk_rk (wk_fg σ) j) (wk_fg σ) j n).2) hx hb hr hlk hK hI rfl (wk_post (by unfold wk_heed ; rw [wk_clJ hV hj, wk_ifT ⟨wk_okJ hV hj, Classical.not_not.mp c_1⟩]; first | done | rfl)) dX11_heed_44
    · have c_1 := wk_b1 c_1
      refine lv_ldc hx hb hown (hts _ (wk_in_M _ mw_171)) dX11_heed_21 ?_
      exact wk_ri σ hx hb hr hlk hK hI rfl (wk_post (by unfold wk_heed; rw [wk_clJ hV hj, wk_ifF (fun hq => c_1 hq.2)])) dX11_heed_23
  · have hK := hK
    refine lv_aload_n hx hb dX11_heed_0 rfl (lv_at hl 0 rfl) ?_
    refine wk_get (v := .ref (ad 1)) hx hb hts (fun w h => wk_in_M w (lay_X11 w h)) hown hK hI (0) wx_e0 rfl 0 (by decide) (hts _ (wk_in_M _ mw_145)) rfl rfl dX11_heed_1 ?_
    refine lv_iload_n hx hb dX11_heed_4 rfl (lv_at hl 1 rfl) ?_
    refine wk_kQ hI hA (va_runV (As := [.int k9]) (rest := []) ⟨hx, hb, hml, hown, hts⟩ (c_X2_member l D cI cJ cS ad σ k9 hV _) (wk_cwV 1 hts wk_in_M mw_224 mw_225 mw_226 mw_35 mw_227 hdX2_member ⟨(Nat.le_of_ble_eq_true rfl), (Nat.le_of_ble_eq_true rfl)⟩) (wk_preV hN hK hI (ci := 2) rfl wx_e1) rfl rfl hl.1 rfl (lv_room (Nat.le_of_ble_eq_true rfl)) dX11_heed_5 ⟨(Nat.le_of_ble_eq_true rfl), (Nat.le_of_ble_eq_true rfl)⟩) (fun r u H locs hw hI => ?_)
    obtain ⟨rfl, hw⟩ := hw
    rw [hw] at hI
    rw [wx_findN hno]
    refine W.eq (g2 := F0 m 8 ls [.null]) rfl ?_
    refine lv_astore_nN (lv' := [(3, .null), (0, .ref (ad 0)), (1, .int k9), (2, .int n)]) hx hb dX11_heed_8 rfl hl (by decide) rfl (fun ls hl => ?_)
    refine lv_aload_nN hx hb dX11_heed_9 rfl (lv_at hl 0 rfl) ?_
    refine lv_ifnullN (tgt := 21) hx hb dX11_heed_10 (by decide) ?_
    refine lv_ldc hx hb hown (hts _ (wk_in_M _ mw_171)) dX11_heed_21 ?_
    exact wk_ri σ hx hb hr hlk hK hI rfl (wk_post (by unfold wk_heed; rw [wk_ifF (fun hq => hno hq.1)])) dX11_heed_23
set_option maxHeartbeats 4000000 in
set_option maxRecDepth 100000 in
theorem c_X11_pay (l : Launch) (D : va_G) (cI cJ cS : ClassId) (ad : Nat → Nat) (σ : wk_St) (k9 : Int32) (n : Int32) (hV : wk_V σ) : wk_Cl l D (wk_tys cI cJ cS) yX11_pay (wk_M yX11_pay cX11_pay 6 (some .long)) ({ frames := 4, cells := 0, slots := 0, locals := 96 }) [.ref (ad 0), .int k9, .int n] (wx_W cI cS ad σ) (wx_W cI cS ad) (fun r0 u0 => r0 = (wk_pay σ k9 n).1 ∧ u0 = (wk_pay σ k9 n).2) := by
  intro sz
  refine Met.ofW (cc := cX11_pay) (maxL := 6) (ret := (some .long)) (by decide) rfl ?_
  intro p e s m args below meth c s₁ B hml hv
  obtain ⟨rfl, hsz, hP, hK, hD0, hN⟩ := hv
  have hx := B.exec
  have hb := B.bytes
  have hr := B.returns
  have hts := atoms_spec (ws := wk_M yX11_pay cX11_pay 6 (some .long)) B.pre
  have hown : s.vm.findClass RX11 = some m.cls := findClass_of_methodNamed B.named
  have hlk := B.notSynchronized
  subst hsz
  have hI : wk_I D (va_A (wx_W cI cS ad σ) s.heap.size) s.heap s.heap [] (wx_W cI cS ad σ) := ⟨hP, hD0.self, va_S.rf⟩
  have hA : ∀ q : Nat, s.heap.size ≤ q → (va_A (wx_W cI cS ad σ) s.heap.size) q := fun q h => Or.inr h
  clear hP hD0
  generalize va_A (wx_W cI cS ad σ) s.heap.size = A at hI hA ⊢
  have hl := lv_entry ([.ref (ad 0), .int k9, .int n]) (n := 6) (Nat.le_of_ble_eq_true rfl)
  rw [lg_entry_eq]
  generalize (lg_sl ([.ref (ad 0), .int k9, .int n]) ++ List.replicate (6 - (lg_sl ([.ref (ad 0), .int k9, .int n])).length) Slot.unset).toArray = ls at hl ⊢
  have hl : lv_has ls 6 [(0, .ref (ad 0)), (1, .int k9), (2, .int n)] := hl
  rcases wk_okC hV k9 with ⟨j, hj, rfl⟩ | hno
  · have hK := hK
    refine lv_aload_n hx hb dX11_pay_0 rfl (lv_at hl 0 rfl) ?_
    refine wk_get (v := .ref (ad 1)) hx hb hts (fun w h => wk_in_M w (lay_X11 w h)) hown hK hI (0) wx_e0 rfl 0 (by decide) (hts _ (wk_in_M _ mw_145)) rfl rfl dX11_pay_1 ?_
    refine lv_iload_n hx hb dX11_pay_4 rfl (lv_at hl 1 rfl) ?_
    refine wk_kQ hI hA (va_runV (As := [.int (nI j)]) (rest := []) ⟨hx, hb, hml, hown, hts⟩ (c_X2_member l D cI cJ cS ad σ (nI j) hV _) (wk_cwV 1 hts wk_in_M mw_224 mw_225 mw_226 mw_35 mw_227 hdX2_member ⟨(Nat.le_of_ble_eq_true rfl), (Nat.le_of_ble_eq_true rfl)⟩) (wk_preV hN hK hI (ci := 2) rfl wx_e1) rfl rfl hl.1 rfl (lv_room (Nat.le_of_ble_eq_true rfl)) dX11_pay_5 ⟨(Nat.le_of_ble_eq_true rfl), (Nat.le_of_ble_eq_true rfl)⟩) (fun r u H locs hw hI => ?_)
    obtain ⟨rfl, hw⟩ := hw
    rw [hw] at hI
    rw [wx_findJ hV hj]
    refine W.eq (g2 := F0 m 8 ls [.ref (ad (16 + j))]) rfl ?_
    refine lv_astore_n (lv' := [(3, .ref (ad (16 + j))), (0, .ref (ad 0)), (1, .int (nI j)), (2, .int n)]) hx hb dX11_pay_8 rfl hl (by decide) rfl (fun ls hl => ?_)
    refine lv_aload_n hx hb dX11_pay_9 rfl (lv_at hl 0 rfl) ?_
    refine lv_ifnull hx hb dX11_pay_10 ?_
    refine lv_iconst (v := 1) hx hb dX11_pay_13 (by decide) ?_
    refine lv_iload_n hx hb dX11_pay_14 rfl (lv_at hl 3 rfl) ?_
    refine wk_kI hI hA (va_runS (As := [.int 1, .int n]) (rest := []) ⟨hx, hb, hml, hown, hts⟩ (c_X11_isBeyondBound l D cI cJ cS ad σ 1 n _) (wk_cwS 2 hts wk_in_M mw_240 mw_241 mw_34 mw_242 (hdX11_isBeyondBound).2 ⟨(Nat.le_of_ble_eq_true rfl), (Nat.le_of_ble_eq_true rfl)⟩) (wk_preS hN hK hI) rfl rfl hl.1 rfl (lv_room (Nat.le_of_ble_eq_true rfl)) dX11_pay_15 ⟨(Nat.le_of_ble_eq_true rfl), (Nat.le_of_ble_eq_true rfl)⟩) (fun r u H locs hw hI => ?_)
    obtain ⟨rfl, hw⟩ := hw
    rw [hw] at hI
    refine lv_if_eq (tgt := 25) hx hb dX11_pay_18 (by decide) (fun c_1 => ?_) (fun c_1 => ?_)
    · have c_1 := wk_b0 c_1
      refine lv_aload_n hx hb dX11_pay_25 rfl (lv_at hl 1 rfl) ?_
      refine wk_get (v := .ref (ad 1)) hx hb hts (fun w h => wk_in_M w (lay_X11 w h)) hown hK hI (0) wx_e0 rfl 0 (by decide) (hts _ (wk_in_M _ mw_145)) rfl rfl dX11_pay_26 ?_
      refine wk_kV hI hA (va_runV (As := []) (rest := []) ⟨hx, hb, hml, hown, hts⟩ (c_X2_forgetNotes l D cI cJ cS ad σ _) (wk_cwV 0 hts wk_in_M mw_247 mw_248 mw_249 mw_35 mw_250 hdX2_forgetNotes ⟨(Nat.le_of_ble_eq_true rfl), (Nat.le_of_ble_eq_true rfl)⟩) (wk_preV hN hK hI (ci := 2) rfl wx_e1) rfl rfl hl.1 rfl (lv_room (Nat.le_of_ble_eq_true rfl)) dX11_pay_29 ⟨(Nat.le_of_ble_eq_true rfl), (Nat.le_of_ble_eq_true rfl)⟩) (fun u H locs hw hI => ?_)
      obtain rfl := hw
      refine lv_aload_n hx hb dX11_pay_32 rfl (lv_at hl 0 rfl) ?_
      refine wk_get (v := .ref (ad (8 + wk_rk (wk_fg σ) j))) hx hb hts (fun w h => wk_in_M w (lay_X6 w h)) hown hK hI (16 + j) (wx_em hj) rfl 3 (by decide) (hts _ (wk_in_M _ mw_193)) rfl rfl dX11_pay_33 ?_
      refine lv_aload_n hx hb dX11_pay_36 rfl (lv_at hl 1 rfl) ?_
      refine wk_get (v := .ref (ad 1)) hx hb hts (fun w h => wk_in_M w (lay_X11 w h)) hown hK hI (0) wx_e0 rfl 0 (by decide) (hts _ (wk_in_M _ mw_145)) rfl rfl dX11_pay_37 ?_
      refine lv_aload_n hx hb dX11_pay_40 rfl (lv_at hl 0 rfl) ?_
      refine lv_iload_n hx hb dX11_pay_41 rfl (lv_at hl 3 rfl) ?_
      refine wk_kL hI hA (wd_X11_payWay (wk_rk (wk_fg σ) j) j n (rest := []) ⟨hx, hb, hml, hown, hts⟩ wk_in_M hN hK hI hV (hV.rk hj) hj (by have hq0 : wk_nt (wk_fg σ) = 0 := rfl; have hq12 : wk_n (wk_fg σ) ≤ 12 := hV.1; omega) ⟨(Nat.le_of_ble_eq_true rfl), (Nat.le_of_ble_eq_true rfl)⟩ hl.1 (lv_room (Nat.le_of_ble_eq_true rfl)) dX11_pay_42 ⟨(Nat.le_of_ble_eq_true rfl), (Nat.le_of_ble_eq_true rfl)⟩) (fun r u H locs hw hI => ?_)
      obtain ⟨rfl, rfl⟩ := hw
      have hG_2 : wk_G (wk_fg σ) ((wk_payR (wk_rk (wk_fg σ) j) (wk_fg σ) j n).2) 3 := wk_g_payR (wk_rk (wk_fg σ) j) (wk_fg σ) j n
      refine lv_lstore (lv' := [(4, .long ((wk_payR (wk_rk (wk_fg σ) j) (wk_fg σ) j n).1)), (3, .ref (ad (16 + j))), (0, .ref (ad 0)), (1, .int (nI j)), (2, .int n)]) hx hb dX11_pay_45 hl (by decide) rfl (fun ls hl => ?_)
      refine lv_aload_n hx hb dX11_pay_47 rfl (lv_at hl 1 rfl) ?_
      refine lv_dup hx hb dX11_pay_48 rfl ?_
      refine wk_get (v := .long (wk_pu ((wk_payR (wk_rk (wk_fg σ) j) (wk_fg σ) j n).2) j)) hx hb hts (fun w h => wk_in_M w (lay_X6 w h)) hown hK hI (16 + j) (wx_em (hG_2.lt hj)) rfl 5 (by decide) (hts _ (wk_in_M _ mw_200)) rfl rfl dX11_pay_49 ?_
      refine lv_lload hx hb dX11_pay_52 (lv_at hl 0 rfl) ?_
      refine lv_ladd hx hb dX11_pay_54 ?_
      refine wk_put (v := .long ((wk_pu ((wk_payR (wk_rk (wk_fg σ) j) (wk_fg σ) j n).2) j) + ((wk_payR (wk_rk (wk_fg σ) j) (wk_fg σ) j n).1))) (ty := .long) hx hb hts (fun w h => wk_in_M w (lay_X6 w h)) tyX6 tyX6_ok nmX6 hown hK hI (16 + j) (wx_em (hG_2.lt hj)) rfl 5 (by decide) (hts _ (wk_in_M _ mw_200)) rfl rfl (by decide +kernel) rfl rfl (Nat.le_of_ble_eq_true rfl) (wx_sPu (hG_2.lt hj) _) dX11_pay_55 (fun H locs hI => ?_)
      refine lv_lload hx hb dX11_pay_58 (lv_at hl 0 rfl) ?_
      exact wk_rl (wk_sPu ((wk_payR (wk_rk (wk_fg σ) j) (wk_fg σ) j n).2) (vp_updL (wk_pu ((wk_payR (wk_rk (wk_fg σ) j) (wk_fg σ) j n).2)) j ((wk_pu ((wk_payR (wk_rk (wk_fg σ) j) (wk_fg σ) j n).2) j) + ((wk_payR (wk_rk (wk_fg σ) j) (wk_fg σ) j n).1)))) hx hb hr hlk hK hI rfl (wk_post (by unfold wk_pay wk_gain; rw [wk_clJ hV hj, wk_ifT ⟨wk_okJ hV hj, Classical.not_not.mp c_1⟩, if_pos rfl]; first | done | rfl)) dX11_pay_60
    · have c_1 := wk_b1 c_1
      refine lv_ldc2 hx hb hown (hts _ (wk_in_M _ mw_246)) dX11_pay_21 ?_
      exact wk_rl σ hx hb hr hlk hK hI rfl (wk_post (by unfold wk_pay; rw [wk_clJ hV hj, wk_ifF (fun hq => c_1 hq.2)])) dX11_pay_24
  · have hK := hK
    refine lv_aload_n hx hb dX11_pay_0 rfl (lv_at hl 0 rfl) ?_
    refine wk_get (v := .ref (ad 1)) hx hb hts (fun w h => wk_in_M w (lay_X11 w h)) hown hK hI (0) wx_e0 rfl 0 (by decide) (hts _ (wk_in_M _ mw_145)) rfl rfl dX11_pay_1 ?_
    refine lv_iload_n hx hb dX11_pay_4 rfl (lv_at hl 1 rfl) ?_
    refine wk_kQ hI hA (va_runV (As := [.int k9]) (rest := []) ⟨hx, hb, hml, hown, hts⟩ (c_X2_member l D cI cJ cS ad σ k9 hV _) (wk_cwV 1 hts wk_in_M mw_224 mw_225 mw_226 mw_35 mw_227 hdX2_member ⟨(Nat.le_of_ble_eq_true rfl), (Nat.le_of_ble_eq_true rfl)⟩) (wk_preV hN hK hI (ci := 2) rfl wx_e1) rfl rfl hl.1 rfl (lv_room (Nat.le_of_ble_eq_true rfl)) dX11_pay_5 ⟨(Nat.le_of_ble_eq_true rfl), (Nat.le_of_ble_eq_true rfl)⟩) (fun r u H locs hw hI => ?_)
    obtain ⟨rfl, hw⟩ := hw
    rw [hw] at hI
    rw [wx_findN hno]
    refine W.eq (g2 := F0 m 8 ls [.null]) rfl ?_
    refine lv_astore_nN (lv' := [(3, .null), (0, .ref (ad 0)), (1, .int k9), (2, .int n)]) hx hb dX11_pay_8 rfl hl (by decide) rfl (fun ls hl => ?_)
    refine lv_aload_nN hx hb dX11_pay_9 rfl (lv_at hl 0 rfl) ?_
    refine lv_ifnullN (tgt := 21) hx hb dX11_pay_10 (by decide) ?_
    refine lv_ldc2 hx hb hown (hts _ (wk_in_M _ mw_246)) dX11_pay_21 ?_
    exact wk_rl σ hx hb hr hlk hK hI rfl (wk_post (by unfold wk_pay; rw [wk_ifF (fun hq => hno hq.1)])) dX11_pay_24
set_option maxHeartbeats 4000000 in
set_option maxRecDepth 100000 in
theorem c_X11_race (l : Launch) (D : va_G) (cI cJ cS : ClassId) (ad : Nat → Nat) (σ : wk_St) (k9 : Int32) (n m9 : Int32) (hV : wk_V σ) : wk_Ci l D (wk_tys cI cJ cS) yX11_race (wk_M yX11_race cX11_race 5 (some .int)) ({ frames := 6, cells := 0, slots := 0, locals := 143 }) [.ref (ad 0), .int k9, .int n, .int m9] (wx_W cI cS ad σ) (wx_W cI cS ad) (fun r0 u0 => r0 = (wk_race σ k9 n m9).1 ∧ u0 = (wk_race σ k9 n m9).2) := by
  intro sz
  refine Met.ofW (cc := cX11_race) (maxL := 5) (ret := (some .int)) (by decide) rfl ?_
  intro p e s m args below meth c s₁ B hml hv
  obtain ⟨rfl, hsz, hP, hK, hD0, hN⟩ := hv
  have hx := B.exec
  have hb := B.bytes
  have hr := B.returns
  have hts := atoms_spec (ws := wk_M yX11_race cX11_race 5 (some .int)) B.pre
  have hown : s.vm.findClass RX11 = some m.cls := findClass_of_methodNamed B.named
  have hlk := B.notSynchronized
  subst hsz
  have hI : wk_I D (va_A (wx_W cI cS ad σ) s.heap.size) s.heap s.heap [] (wx_W cI cS ad σ) := ⟨hP, hD0.self, va_S.rf⟩
  have hA : ∀ q : Nat, s.heap.size ≤ q → (va_A (wx_W cI cS ad σ) s.heap.size) q := fun q h => Or.inr h
  clear hP hD0
  generalize va_A (wx_W cI cS ad σ) s.heap.size = A at hI hA ⊢
  have hl := lv_entry ([.ref (ad 0), .int k9, .int n, .int m9]) (n := 5) (Nat.le_of_ble_eq_true rfl)
  rw [lg_entry_eq]
  generalize (lg_sl ([.ref (ad 0), .int k9, .int n, .int m9]) ++ List.replicate (5 - (lg_sl ([.ref (ad 0), .int k9, .int n, .int m9])).length) Slot.unset).toArray = ls at hl ⊢
  have hl : lv_has ls 5 [(0, .ref (ad 0)), (1, .int k9), (2, .int n), (3, .int m9)] := hl
  rcases wk_okC hV k9 with ⟨j, hj, rfl⟩ | hno
  · have hK := hK
    refine lv_aload_n hx hb dX11_race_0 rfl (lv_at hl 0 rfl) ?_
    refine wk_get (v := .ref (ad 1)) hx hb hts (fun w h => wk_in_M w (lay_X11 w h)) hown hK hI (0) wx_e0 rfl 0 (by decide) (hts _ (wk_in_M _ mw_145)) rfl rfl dX11_race_1 ?_
    refine lv_iload_n hx hb dX11_race_4 rfl (lv_at hl 1 rfl) ?_
    refine wk_kQ hI hA (va_runV (As := [.int (nI j)]) (rest := []) ⟨hx, hb, hml, hown, hts⟩ (c_X2_member l D cI cJ cS ad σ (nI j) hV _) (wk_cwV 1 hts wk_in_M mw_224 mw_225 mw_226 mw_35 mw_227 hdX2_member ⟨(Nat.le_of_ble_eq_true rfl), (Nat.le_of_ble_eq_true rfl)⟩) (wk_preV hN hK hI (ci := 2) rfl wx_e1) rfl rfl hl.1 rfl (lv_room (Nat.le_of_ble_eq_true rfl)) dX11_race_5 ⟨(Nat.le_of_ble_eq_true rfl), (Nat.le_of_ble_eq_true rfl)⟩) (fun r u H locs hw hI => ?_)
    obtain ⟨rfl, hw⟩ := hw
    rw [hw] at hI
    rw [wx_findJ hV hj]
    refine W.eq (g2 := F0 m 8 ls [.ref (ad (16 + j))]) rfl ?_
    refine lv_astore (lv' := [(4, .ref (ad (16 + j))), (0, .ref (ad 0)), (1, .int (nI j)), (2, .int n), (3, .int m9)]) hx hb dX11_race_8 hl (by decide) rfl (fun ls hl => ?_)
    refine lv_aload hx hb dX11_race_10 (lv_at hl 0 rfl) ?_
    refine lv_ifnull hx hb dX11_race_12 ?_
    refine lv_aload hx hb dX11_race_15 (lv_at hl 0 rfl) ?_
    refine wk_kI hI hA (va_runV (As := []) (rest := []) ⟨hx, hb, hml, hown, hts⟩ (c_X6_isClimber l D cI cJ cS ad σ j hV hj _) (wk_cwV 0 hts wk_in_M mw_406 mw_407 mw_408 mw_46 mw_409 hdX6_isClimber ⟨(Nat.le_of_ble_eq_true rfl), (Nat.le_of_ble_eq_true rfl)⟩) (wk_preV hN hK hI (ci := 6) rfl (wx_em hj)) rfl rfl hl.1 rfl (lv_room (Nat.le_of_ble_eq_true rfl)) dX11_race_17 ⟨(Nat.le_of_ble_eq_true rfl), (Nat.le_of_ble_eq_true rfl)⟩) (fun r u H locs hw hI => ?_)
    obtain ⟨rfl, hw⟩ := hw
    rw [hw] at hI
    refine lv_if_eq (tgt := 38) hx hb dX11_race_20 (by decide) (fun c_1 => ?_) (fun c_1 => ?_)
    · have c_1 := wk_b0 c_1
      refine lv_ldc hx hb hown (hts _ (wk_in_M _ mw_171)) dX11_race_38 ?_
      exact wk_ri σ hx hb hr hlk hK hI rfl (wk_post (by unfold wk_race; rw [wk_clJ hV hj, wk_ifF (fun hq => c_1 hq.2.1)])) dX11_race_40
    · have c_1 := wk_b1 c_1
      refine lv_iconst (v := 2) hx hb dX11_race_23 (by decide) ?_
      refine lv_iload_n hx hb dX11_race_24 rfl (lv_at hl 3 rfl) ?_
      refine wk_kI hI hA (va_runS (As := [.int 2, .int n]) (rest := []) ⟨hx, hb, hml, hown, hts⟩ (c_X11_isBeyondBound l D cI cJ cS ad σ 2 n _) (wk_cwS 2 hts wk_in_M mw_240 mw_241 mw_34 mw_242 (hdX11_isBeyondBound).2 ⟨(Nat.le_of_ble_eq_true rfl), (Nat.le_of_ble_eq_true rfl)⟩) (wk_preS hN hK hI) rfl rfl hl.1 rfl (lv_room (Nat.le_of_ble_eq_true rfl)) dX11_race_25 ⟨(Nat.le_of_ble_eq_true rfl), (Nat.le_of_ble_eq_true rfl)⟩) (fun r u H locs hw hI => ?_)
      obtain ⟨rfl, hw⟩ := hw
      rw [hw] at hI
      refine lv_if_ne (tgt := 38) hx hb dX11_race_28 (by decide) (fun c_2 => ?_) (fun c_2 => ?_)
      · have c_2 := wk_b1 c_2
        refine lv_ldc hx hb hown (hts _ (wk_in_M _ mw_171)) dX11_race_38 ?_
        exact wk_ri σ hx hb hr hlk hK hI rfl (wk_post (by unfold wk_race; rw [wk_clJ hV hj, wk_ifF (fun hq => c_2 hq.2.2.1)])) dX11_race_40
      · have c_2 := wk_b0 c_2
        refine lv_iload_n hx hb dX11_race_31 rfl (lv_at hl 4 rfl) ?_
        refine wk_kI hI hA (va_runS (As := [.int m9]) (rest := []) ⟨hx, hb, hml, hown, hts⟩ (c_X11_isTimes l D cI cJ cS ad σ m9 _) (wk_cwS 1 hts wk_in_M mw_410 mw_411 mw_34 mw_412 (hdX11_isTimes).2 ⟨(Nat.le_of_ble_eq_true rfl), (Nat.le_of_ble_eq_true rfl)⟩) (wk_preS hN hK hI) rfl rfl hl.1 rfl (lv_room (Nat.le_of_ble_eq_true rfl)) dX11_race_32 ⟨(Nat.le_of_ble_eq_true rfl), (Nat.le_of_ble_eq_true rfl)⟩) (fun r u H locs hw hI => ?_)
        obtain ⟨rfl, hw⟩ := hw
        rw [hw] at hI
        refine lv_if_ne (tgt := 41) hx hb dX11_race_35 (by decide) (fun c_3 => ?_) (fun c_3 => ?_)
        · have c_3 := wk_b1 c_3
          refine lv_aload_n hx hb dX11_race_41 rfl (lv_at hl 1 rfl) ?_
          refine wk_get (v := .ref (ad 1)) hx hb hts (fun w h => wk_in_M w (lay_X11 w h)) hown hK hI (0) wx_e0 rfl 0 (by decide) (hts _ (wk_in_M _ mw_145)) rfl rfl dX11_race_42 ?_
          refine wk_kV hI hA (va_runV (As := []) (rest := []) ⟨hx, hb, hml, hown, hts⟩ (c_X2_forgetNotes l D cI cJ cS ad σ _) (wk_cwV 0 hts wk_in_M mw_247 mw_248 mw_249 mw_35 mw_250 hdX2_forgetNotes ⟨(Nat.le_of_ble_eq_true rfl), (Nat.le_of_ble_eq_true rfl)⟩) (wk_preV hN hK hI (ci := 2) rfl wx_e1) rfl rfl hl.1 rfl (lv_room (Nat.le_of_ble_eq_true rfl)) dX11_race_45 ⟨(Nat.le_of_ble_eq_true rfl), (Nat.le_of_ble_eq_true rfl)⟩) (fun u H locs hw hI => ?_)
          obtain rfl := hw
          refine lv_aload hx hb dX11_race_48 (lv_at hl 0 rfl) ?_
          refine wk_get (v := .ref (ad (8 + wk_rk (wk_fg σ) j))) hx hb hts (fun w h => wk_in_M w (lay_X6 w h)) hown hK hI (16 + j) (wx_em hj) rfl 3 (by decide) (hts _ (wk_in_M _ mw_193)) rfl rfl dX11_race_50 ?_
          refine lv_aload_n hx hb dX11_race_53 rfl (lv_at hl 1 rfl) ?_
          refine wk_get (v := .ref (ad 1)) hx hb hts (fun w h => wk_in_M w (lay_X11 w h)) hown hK hI (0) wx_e0 rfl 0 (by decide) (hts _ (wk_in_M _ mw_145)) rfl rfl dX11_race_54 ?_
          refine lv_aload hx hb dX11_race_57 (lv_at hl 0 rfl) ?_
          refine lv_iload_n hx hb dX11_race_59 rfl (lv_at hl 3 rfl) ?_
          refine lv_iload_n hx hb dX11_race_60 rfl (lv_at hl 4 rfl) ?_
          refine wk_kI hI hA (wd_X11_raceWay (wk_rk (wk_fg σ) j) j n m9 (rest := []) ⟨hx, hb, hml, hown, hts⟩ wk_in_M hN hK hI hV (hV.rk hj) hj (by have hq0 : wk_nt (wk_fg σ) = 0 := rfl; have hq12 : wk_n (wk_fg σ) ≤ 12 := hV.1; omega) c_3 ⟨(Nat.le_of_ble_eq_true rfl), (Nat.le_of_ble_eq_true rfl)⟩ hl.1 (lv_room (Nat.le_of_ble_eq_true rfl)) dX11_race_61 ⟨(Nat.le_of_ble_eq_true rfl), (Nat.le_of_ble_eq_true rfl)⟩) (fun r u H locs hw hI => ?_)
          obtain ⟨rfl, rfl⟩ := hw
          exact wk_ri ((wk_raceR (wk_rk (wk_fg σ) j) (wk_fg σ) j n m9).2) hx hb hr hlk hK hI rfl (wk_post (by unfold wk_race ; rw [wk_clJ hV hj, wk_ifT ⟨wk_okJ hV hj, c_1, Classical.not_not.mp c_2, c_3⟩]; first | done | rfl)) dX11_race_64
        · have c_3 := wk_b0 c_3
          refine lv_ldc hx hb hown (hts _ (wk_in_M _ mw_171)) dX11_race_38 ?_
          exact wk_ri σ hx hb hr hlk hK hI rfl (wk_post (by unfold wk_race; rw [wk_clJ hV hj, wk_ifF (fun hq => c_3 hq.2.2.2)])) dX11_race_40
  · have hK := hK
    refine lv_aload_n hx hb dX11_race_0 rfl (lv_at hl 0 rfl) ?_
    refine wk_get (v := .ref (ad 1)) hx hb hts (fun w h => wk_in_M w (lay_X11 w h)) hown hK hI (0) wx_e0 rfl 0 (by decide) (hts _ (wk_in_M _ mw_145)) rfl rfl dX11_race_1 ?_
    refine lv_iload_n hx hb dX11_race_4 rfl (lv_at hl 1 rfl) ?_
    refine wk_kQ hI hA (va_runV (As := [.int k9]) (rest := []) ⟨hx, hb, hml, hown, hts⟩ (c_X2_member l D cI cJ cS ad σ k9 hV _) (wk_cwV 1 hts wk_in_M mw_224 mw_225 mw_226 mw_35 mw_227 hdX2_member ⟨(Nat.le_of_ble_eq_true rfl), (Nat.le_of_ble_eq_true rfl)⟩) (wk_preV hN hK hI (ci := 2) rfl wx_e1) rfl rfl hl.1 rfl (lv_room (Nat.le_of_ble_eq_true rfl)) dX11_race_5 ⟨(Nat.le_of_ble_eq_true rfl), (Nat.le_of_ble_eq_true rfl)⟩) (fun r u H locs hw hI => ?_)
    obtain ⟨rfl, hw⟩ := hw
    rw [hw] at hI
    rw [wx_findN hno]
    refine W.eq (g2 := F0 m 8 ls [.null]) rfl ?_
    refine lv_astoreN (lv' := [(4, .null), (0, .ref (ad 0)), (1, .int k9), (2, .int n), (3, .int m9)]) hx hb dX11_race_8 hl (by decide) rfl (fun ls hl => ?_)
    refine lv_aloadN hx hb dX11_race_10 (lv_at hl 0 rfl) ?_
    refine lv_ifnullN (tgt := 38) hx hb dX11_race_12 (by decide) ?_
    refine lv_ldc hx hb hown (hts _ (wk_in_M _ mw_171)) dX11_race_38 ?_
    exact wk_ri σ hx hb hr hlk hK hI rfl (wk_post (by unfold wk_race; rw [wk_ifF (fun hq => hno hq.1)])) dX11_race_40
set_option maxHeartbeats 4000000 in
set_option maxRecDepth 100000 in
theorem c_X11_due (l : Launch) (D : va_G) (cI cJ cS : ClassId) (ad : Nat → Nat) (σ : wk_St) (k9 : Int32) (n x9 : Int32) (hV : wk_V σ) : wk_Cl l D (wk_tys cI cJ cS) yX11_due (wk_M yX11_due cX11_due 7 (some .long)) ({ frames := 4, cells := 0, slots := 0, locals := 96 }) [.ref (ad 0), .int k9, .int n, .int x9] (wx_W cI cS ad σ) (wx_W cI cS ad) (fun r0 u0 => r0 = (wk_due σ k9 n x9).1 ∧ u0 = (wk_due σ k9 n x9).2) := by
  intro sz
  refine Met.ofW (cc := cX11_due) (maxL := 7) (ret := (some .long)) (by decide) rfl ?_
  intro p e s m args below meth c s₁ B hml hv
  obtain ⟨rfl, hsz, hP, hK, hD0, hN⟩ := hv
  have hx := B.exec
  have hb := B.bytes
  have hr := B.returns
  have hts := atoms_spec (ws := wk_M yX11_due cX11_due 7 (some .long)) B.pre
  have hown : s.vm.findClass RX11 = some m.cls := findClass_of_methodNamed B.named
  have hlk := B.notSynchronized
  subst hsz
  have hI : wk_I D (va_A (wx_W cI cS ad σ) s.heap.size) s.heap s.heap [] (wx_W cI cS ad σ) := ⟨hP, hD0.self, va_S.rf⟩
  have hA : ∀ q : Nat, s.heap.size ≤ q → (va_A (wx_W cI cS ad σ) s.heap.size) q := fun q h => Or.inr h
  clear hP hD0
  generalize va_A (wx_W cI cS ad σ) s.heap.size = A at hI hA ⊢
  have hl := lv_entry ([.ref (ad 0), .int k9, .int n, .int x9]) (n := 7) (Nat.le_of_ble_eq_true rfl)
  rw [lg_entry_eq]
  generalize (lg_sl ([.ref (ad 0), .int k9, .int n, .int x9]) ++ List.replicate (7 - (lg_sl ([.ref (ad 0), .int k9, .int n, .int x9])).length) Slot.unset).toArray = ls at hl ⊢
  have hl : lv_has ls 7 [(0, .ref (ad 0)), (1, .int k9), (2, .int n), (3, .int x9)] := hl
  rcases wk_okC hV k9 with ⟨j, hj, rfl⟩ | hno
  · have hK := hK
    refine lv_aload_n hx hb dX11_due_0 rfl (lv_at hl 0 rfl) ?_
    refine wk_get (v := .ref (ad 1)) hx hb hts (fun w h => wk_in_M w (lay_X11 w h)) hown hK hI (0) wx_e0 rfl 0 (by decide) (hts _ (wk_in_M _ mw_145)) rfl rfl dX11_due_1 ?_
    refine lv_iload_n hx hb dX11_due_4 rfl (lv_at hl 1 rfl) ?_
    refine wk_kQ hI hA (va_runV (As := [.int (nI j)]) (rest := []) ⟨hx, hb, hml, hown, hts⟩ (c_X2_member l D cI cJ cS ad σ (nI j) hV _) (wk_cwV 1 hts wk_in_M mw_224 mw_225 mw_226 mw_35 mw_227 hdX2_member ⟨(Nat.le_of_ble_eq_true rfl), (Nat.le_of_ble_eq_true rfl)⟩) (wk_preV hN hK hI (ci := 2) rfl wx_e1) rfl rfl hl.1 rfl (lv_room (Nat.le_of_ble_eq_true rfl)) dX11_due_5 ⟨(Nat.le_of_ble_eq_true rfl), (Nat.le_of_ble_eq_true rfl)⟩) (fun r u H locs hw hI => ?_)
    obtain ⟨rfl, hw⟩ := hw
    rw [hw] at hI
    rw [wx_findJ hV hj]
    refine W.eq (g2 := F0 m 8 ls [.ref (ad (16 + j))]) rfl ?_
    refine lv_astore (lv' := [(4, .ref (ad (16 + j))), (0, .ref (ad 0)), (1, .int (nI j)), (2, .int n), (3, .int x9)]) hx hb dX11_due_8 hl (by decide) rfl (fun ls hl => ?_)
    refine lv_aload hx hb dX11_due_10 (lv_at hl 0 rfl) ?_
    refine lv_ifnull hx hb dX11_due_12 ?_
    refine lv_aload hx hb dX11_due_15 (lv_at hl 0 rfl) ?_
    refine wk_kI hI hA (va_runV (As := []) (rest := []) ⟨hx, hb, hml, hown, hts⟩ (c_X6_isPayee l D cI cJ cS ad σ j hV hj _) (wk_cwV 0 hts wk_in_M mw_435 mw_436 mw_437 mw_46 mw_438 hdX6_isPayee ⟨(Nat.le_of_ble_eq_true rfl), (Nat.le_of_ble_eq_true rfl)⟩) (wk_preV hN hK hI (ci := 6) rfl (wx_em hj)) rfl rfl hl.1 rfl (lv_room (Nat.le_of_ble_eq_true rfl)) dX11_due_17 ⟨(Nat.le_of_ble_eq_true rfl), (Nat.le_of_ble_eq_true rfl)⟩) (fun r u H locs hw hI => ?_)
    obtain ⟨rfl, hw⟩ := hw
    rw [hw] at hI
    refine lv_if_eq (tgt := 35) hx hb dX11_due_20 (by decide) (fun c_1 => ?_) (fun c_1 => ?_)
    · have c_1 := wk_b0 c_1
      refine lv_ldc2 hx hb hown (hts _ (wk_in_M _ mw_246)) dX11_due_35 ?_
      exact wk_rl σ hx hb hr hlk hK hI rfl (wk_post (by unfold wk_due; rw [wk_clJ hV hj, wk_ifF (fun hq => c_1 hq.2.1)])) dX11_due_38
    · have c_1 := wk_b1 c_1
      refine lv_iconst (v := 1) hx hb dX11_due_23 (by decide) ?_
      refine lv_iload_n hx hb dX11_due_24 rfl (lv_at hl 3 rfl) ?_
      refine wk_kI hI hA (va_runS (As := [.int 1, .int n]) (rest := []) ⟨hx, hb, hml, hown, hts⟩ (c_X11_isBeyondBound l D cI cJ cS ad σ 1 n _) (wk_cwS 2 hts wk_in_M mw_240 mw_241 mw_34 mw_242 (hdX11_isBeyondBound).2 ⟨(Nat.le_of_ble_eq_true rfl), (Nat.le_of_ble_eq_true rfl)⟩) (wk_preS hN hK hI) rfl rfl hl.1 rfl (lv_room (Nat.le_of_ble_eq_true rfl)) dX11_due_25 ⟨(Nat.le_of_ble_eq_true rfl), (Nat.le_of_ble_eq_true rfl)⟩) (fun r u H locs hw hI => ?_)
      obtain ⟨rfl, hw⟩ := hw
      rw [hw] at hI
      refine lv_if_ne (tgt := 35) hx hb dX11_due_28 (by decide) (fun c_2 => ?_) (fun c_2 => ?_)
      · have c_2 := wk_b1 c_2
        refine lv_ldc2 hx hb hown (hts _ (wk_in_M _ mw_246)) dX11_due_35 ?_
        exact wk_rl σ hx hb hr hlk hK hI rfl (wk_post (by unfold wk_due; rw [wk_clJ hV hj, wk_ifF (fun hq => c_2 hq.2.2.1)])) dX11_due_38
      · have c_2 := wk_b0 c_2
        refine lv_iload_n hx hb dX11_due_31 rfl (lv_at hl 4 rfl) ?_
        refine lv_if_ge (tgt := 39) hx hb dX11_due_32 (by decide) (fun c_3 => ?_) (fun c_3 => ?_)
        · refine lv_aload_n hx hb dX11_due_39 rfl (lv_at hl 1 rfl) ?_
          refine wk_get (v := .ref (ad 1)) hx hb hts (fun w h => wk_in_M w (lay_X11 w h)) hown hK hI (0) wx_e0 rfl 0 (by decide) (hts _ (wk_in_M _ mw_145)) rfl rfl dX11_due_40 ?_
          refine wk_kV hI hA (va_runV (As := []) (rest := []) ⟨hx, hb, hml, hown, hts⟩ (c_X2_forgetNotes l D cI cJ cS ad σ _) (wk_cwV 0 hts wk_in_M mw_247 mw_248 mw_249 mw_35 mw_250 hdX2_forgetNotes ⟨(Nat.le_of_ble_eq_true rfl), (Nat.le_of_ble_eq_true rfl)⟩) (wk_preV hN hK hI (ci := 2) rfl wx_e1) rfl rfl hl.1 rfl (lv_room (Nat.le_of_ble_eq_true rfl)) dX11_due_43 ⟨(Nat.le_of_ble_eq_true rfl), (Nat.le_of_ble_eq_true rfl)⟩) (fun u H locs hw hI => ?_)
          obtain rfl := hw
          refine lv_aload hx hb dX11_due_46 (lv_at hl 0 rfl) ?_
          refine wk_get (v := .ref (ad (8 + wk_rk (wk_fg σ) j))) hx hb hts (fun w h => wk_in_M w (lay_X6 w h)) hown hK hI (16 + j) (wx_em hj) rfl 3 (by decide) (hts _ (wk_in_M _ mw_193)) rfl rfl dX11_due_48 ?_
          refine lv_aload_n hx hb dX11_due_51 rfl (lv_at hl 1 rfl) ?_
          refine wk_get (v := .ref (ad 1)) hx hb hts (fun w h => wk_in_M w (lay_X11 w h)) hown hK hI (0) wx_e0 rfl 0 (by decide) (hts _ (wk_in_M _ mw_145)) rfl rfl dX11_due_52 ?_
          refine lv_aload hx hb dX11_due_55 (lv_at hl 0 rfl) ?_
          refine lv_iload_n hx hb dX11_due_57 rfl (lv_at hl 3 rfl) ?_
          refine wk_kL hI hA (wd_X11_payWay (wk_rk (wk_fg σ) j) j n (rest := []) ⟨hx, hb, hml, hown, hts⟩ wk_in_M hN hK hI hV (hV.rk hj) hj (by have hq0 : wk_nt (wk_fg σ) = 0 := rfl; have hq12 : wk_n (wk_fg σ) ≤ 12 := hV.1; omega) ⟨(Nat.le_of_ble_eq_true rfl), (Nat.le_of_ble_eq_true rfl)⟩ hl.1 (lv_room (Nat.le_of_ble_eq_true rfl)) dX11_due_58 ⟨(Nat.le_of_ble_eq_true rfl), (Nat.le_of_ble_eq_true rfl)⟩) (fun r u H locs hw hI => ?_)
          obtain ⟨rfl, rfl⟩ := hw
          have hG_4 : wk_G (wk_fg σ) ((wk_payR (wk_rk (wk_fg σ) j) (wk_fg σ) j n).2) 3 := wk_g_payR (wk_rk (wk_fg σ) j) (wk_fg σ) j n
          refine lv_iload_n hx hb dX11_due_61 rfl (lv_at hl 4 rfl) ?_
          refine lv_i2l hx hb dX11_due_62 rfl ?_
          refine lv_lsub hx hb dX11_due_63 ?_
          refine lv_lstore (lv' := [(5, .long (((wk_payR (wk_rk (wk_fg σ) j) (wk_fg σ) j n).1) - (x9.toInt64))), (4, .ref (ad (16 + j))), (0, .ref (ad 0)), (1, .int (nI j)), (2, .int n), (3, .int x9)]) hx hb dX11_due_64 hl (by decide) rfl (fun ls hl => ?_)
          refine lv_lload hx hb dX11_due_66 (lv_at hl 0 rfl) ?_
          refine lv_lconst (v := 0) hx hb dX11_due_68 (by decide) ?_
          refine W.lcmp hx hb dX11_due_69 ?_
          refine lv_if_ge (tgt := 77) hx hb dX11_due_70 (by decide) (fun c_5 => ?_) (fun c_5 => ?_)
          · have c_5 := (lg_cmp_ge _ _).mp c_5
            refine lv_lload hx hb dX11_due_77 (lv_at hl 0 rfl) ?_
            exact wk_rl ((wk_payR (wk_rk (wk_fg σ) j) (wk_fg σ) j n).2) hx hb hr hlk hK hI rfl (wk_post (by unfold wk_due wk_pos; rw [wk_clJ hV hj, wk_ifT ⟨wk_okJ hV hj, c_1, Classical.not_not.mp c_2, c_3⟩, show wk_rk σ = wk_rk (wk_fg σ) from rfl, if_pos c_5]; first | done | rfl)) dX11_due_79
          · have c_5 := fun hq => c_5 ((lg_cmp_ge _ _).mpr hq)
            refine lv_lconst (v := 0) hx hb dX11_due_73 (by decide) ?_
            refine lv_goto (tgt := 79) hx hb dX11_due_74 (by decide) ?_
            exact wk_rl ((wk_payR (wk_rk (wk_fg σ) j) (wk_fg σ) j n).2) hx hb hr hlk hK hI rfl (wk_post (by unfold wk_due wk_pos; rw [wk_clJ hV hj, wk_ifT ⟨wk_okJ hV hj, c_1, Classical.not_not.mp c_2, c_3⟩, show wk_rk σ = wk_rk (wk_fg σ) from rfl, if_neg c_5]; first | done | rfl)) dX11_due_79
        · refine lv_ldc2 hx hb hown (hts _ (wk_in_M _ mw_246)) dX11_due_35 ?_
          exact wk_rl σ hx hb hr hlk hK hI rfl (wk_post (by unfold wk_due; rw [wk_clJ hV hj, wk_ifF (fun hq => c_3 hq.2.2.2)])) dX11_due_38
  · have hK := hK
    refine lv_aload_n hx hb dX11_due_0 rfl (lv_at hl 0 rfl) ?_
    refine wk_get (v := .ref (ad 1)) hx hb hts (fun w h => wk_in_M w (lay_X11 w h)) hown hK hI (0) wx_e0 rfl 0 (by decide) (hts _ (wk_in_M _ mw_145)) rfl rfl dX11_due_1 ?_
    refine lv_iload_n hx hb dX11_due_4 rfl (lv_at hl 1 rfl) ?_
    refine wk_kQ hI hA (va_runV (As := [.int k9]) (rest := []) ⟨hx, hb, hml, hown, hts⟩ (c_X2_member l D cI cJ cS ad σ k9 hV _) (wk_cwV 1 hts wk_in_M mw_224 mw_225 mw_226 mw_35 mw_227 hdX2_member ⟨(Nat.le_of_ble_eq_true rfl), (Nat.le_of_ble_eq_true rfl)⟩) (wk_preV hN hK hI (ci := 2) rfl wx_e1) rfl rfl hl.1 rfl (lv_room (Nat.le_of_ble_eq_true rfl)) dX11_due_5 ⟨(Nat.le_of_ble_eq_true rfl), (Nat.le_of_ble_eq_true rfl)⟩) (fun r u H locs hw hI => ?_)
    obtain ⟨rfl, hw⟩ := hw
    rw [hw] at hI
    rw [wx_findN hno]
    refine W.eq (g2 := F0 m 8 ls [.null]) rfl ?_
    refine lv_astoreN (lv' := [(4, .null), (0, .ref (ad 0)), (1, .int k9), (2, .int n), (3, .int x9)]) hx hb dX11_due_8 hl (by decide) rfl (fun ls hl => ?_)
    refine lv_aloadN hx hb dX11_due_10 (lv_at hl 0 rfl) ?_
    refine lv_ifnullN (tgt := 35) hx hb dX11_due_12 (by decide) ?_
    refine lv_ldc2 hx hb hown (hts _ (wk_in_M _ mw_246)) dX11_due_35 ?_
    exact wk_rl σ hx hb hr hlk hK hI rfl (wk_post (by unfold wk_due; rw [wk_ifF (fun hq => hno hq.1)])) dX11_due_38
set_option maxHeartbeats 4000000 in
set_option maxRecDepth 100000 in
theorem c_X11_told (l : Launch) (D : va_G) (cI cJ cS : ClassId) (ad : Nat → Nat) (σ : wk_St) (k9 w9 : Int32) (hV : wk_V σ) : wk_Cl l D (wk_tys cI cJ cS) yX11_told (wk_M yX11_told cX11_told 4 (some .long)) ({ frames := 1, cells := 0, slots := 0, locals := 22 }) [.ref (ad 0), .int k9, .int w9] (wx_W cI cS ad σ) (wx_W cI cS ad) (fun r0 u0 => r0 = (wk_told σ k9 w9).1 ∧ u0 = (wk_told σ k9 w9).2) := by
  intro sz
  refine Met.ofW (cc := cX11_told) (maxL := 4) (ret := (some .long)) (by decide) rfl ?_
  intro p e s m args below meth c s₁ B hml hv
  obtain ⟨rfl, hsz, hP, hK, hD0, hN⟩ := hv
  have hx := B.exec
  have hb := B.bytes
  have hr := B.returns
  have hts := atoms_spec (ws := wk_M yX11_told cX11_told 4 (some .long)) B.pre
  have hown : s.vm.findClass RX11 = some m.cls := findClass_of_methodNamed B.named
  have hlk := B.notSynchronized
  subst hsz
  have hI : wk_I D (va_A (wx_W cI cS ad σ) s.heap.size) s.heap s.heap [] (wx_W cI cS ad σ) := ⟨hP, hD0.self, va_S.rf⟩
  have hA : ∀ q : Nat, s.heap.size ≤ q → (va_A (wx_W cI cS ad σ) s.heap.size) q := fun q h => Or.inr h
  clear hP hD0
  generalize va_A (wx_W cI cS ad σ) s.heap.size = A at hI hA ⊢
  have hl := lv_entry ([.ref (ad 0), .int k9, .int w9]) (n := 4) (Nat.le_of_ble_eq_true rfl)
  rw [lg_entry_eq]
  generalize (lg_sl ([.ref (ad 0), .int k9, .int w9]) ++ List.replicate (4 - (lg_sl ([.ref (ad 0), .int k9, .int w9])).length) Slot.unset).toArray = ls at hl ⊢
  have hl : lv_has ls 4 [(0, .ref (ad 0)), (1, .int k9), (2, .int w9)] := hl
  rcases wk_okC hV k9 with ⟨j, hj, rfl⟩ | hno
  · have hK := hK
    refine lv_aload_n hx hb dX11_told_0 rfl (lv_at hl 0 rfl) ?_
    refine wk_get (v := .ref (ad 1)) hx hb hts (fun w h => wk_in_M w (lay_X11 w h)) hown hK hI (0) wx_e0 rfl 0 (by decide) (hts _ (wk_in_M _ mw_145)) rfl rfl dX11_told_1 ?_
    refine lv_iload_n hx hb dX11_told_4 rfl (lv_at hl 1 rfl) ?_
    refine wk_kQ hI hA (va_runV (As := [.int (nI j)]) (rest := []) ⟨hx, hb, hml, hown, hts⟩ (c_X2_member l D cI cJ cS ad σ (nI j) hV _) (wk_cwV 1 hts wk_in_M mw_224 mw_225 mw_226 mw_35 mw_227 hdX2_member ⟨(Nat.le_of_ble_eq_true rfl), (Nat.le_of_ble_eq_true rfl)⟩) (wk_preV hN hK hI (ci := 2) rfl wx_e1) rfl rfl hl.1 rfl (lv_room (Nat.le_of_ble_eq_true rfl)) dX11_told_5 ⟨(Nat.le_of_ble_eq_true rfl), (Nat.le_of_ble_eq_true rfl)⟩) (fun r u H locs hw hI => ?_)
    obtain ⟨rfl, hw⟩ := hw
    rw [hw] at hI
    rw [wx_findJ hV hj]
    refine W.eq (g2 := F0 m 8 ls [.ref (ad (16 + j))]) rfl ?_
    refine lv_astore_n (lv' := [(3, .ref (ad (16 + j))), (0, .ref (ad 0)), (1, .int (nI j)), (2, .int w9)]) hx hb dX11_told_8 rfl hl (by decide) rfl (fun ls hl => ?_)
    refine lv_aload_n hx hb dX11_told_9 rfl (lv_at hl 0 rfl) ?_
    refine lv_ifnonnull (tgt := 17) hx hb dX11_told_10 (by decide) ?_
    refine lv_iload_n hx hb dX11_told_17 rfl (lv_at hl 3 rfl) ?_
    by_cases hs_1 : w9 = 0
    · refine lv_tableIn (tgt := 60) (off := 42) hx hb dX11_told_18 (by rw [hs_1]; decide) (by rw [hs_1]; decide) (by rw [hs_1]; rfl) (by decide) ?_
      refine lv_aload_n hx hb dX11_told_60 rfl (lv_at hl 0 rfl) ?_
      refine wk_get (v := .int (nI (wk_rk σ j))) hx hb hts (fun w h => wk_in_M w (lay_X6 w h)) hown hK hI (16 + j) (wx_em hj) rfl 2 (by decide) (hts _ (wk_in_M _ mw_190)) rfl rfl dX11_told_61 ?_
      refine lv_i2l hx hb dX11_told_64 rfl ?_
      exact wk_rl σ hx hb hr hlk hK hI rfl (wk_post (by unfold wk_told; rw [wk_clJ hV hj, wk_ifT (wk_okJ hV hj)]; first | (simp only [if_pos hs_1]; done) | (simp only [if_pos hs_1]; rfl))) dX11_told_65
    by_cases hs_2 : w9 = 1
    · refine lv_tableIn (tgt := 66) (off := 48) hx hb dX11_told_18 (by rw [hs_2]; decide) (by rw [hs_2]; decide) (by rw [hs_2]; rfl) (by decide) ?_
      refine lv_aload_n hx hb dX11_told_66 rfl (lv_at hl 0 rfl) ?_
      refine wk_get (v := .int (wk_sk σ j)) hx hb hts (fun w h => wk_in_M w (lay_X6 w h)) hown hK hI (16 + j) (wx_em hj) rfl 1 (by decide) (hts _ (wk_in_M _ mw_188)) rfl rfl dX11_told_67 ?_
      refine lv_i2l hx hb dX11_told_70 rfl ?_
      exact wk_rl σ hx hb hr hlk hK hI rfl (wk_post (by unfold wk_told; rw [wk_clJ hV hj, wk_ifT (wk_okJ hV hj)]; first | (simp only [if_neg hs_1, if_pos hs_2]; done) | (simp only [if_neg hs_1, if_pos hs_2]; rfl))) dX11_told_71
    by_cases hs_3 : w9 = 2
    · refine lv_tableIn (tgt := 72) (off := 54) hx hb dX11_told_18 (by rw [hs_3]; decide) (by rw [hs_3]; decide) (by rw [hs_3]; rfl) (by decide) ?_
      refine lv_aload_n hx hb dX11_told_72 rfl (lv_at hl 0 rfl) ?_
      refine wk_get (v := .int (wk_we σ j)) hx hb hts (fun w h => wk_in_M w (lay_X6 w h)) hown hK hI (16 + j) (wx_em hj) rfl 4 (by decide) (hts _ (wk_in_M _ mw_199)) rfl rfl dX11_told_73 ?_
      refine lv_i2l hx hb dX11_told_76 rfl ?_
      exact wk_rl σ hx hb hr hlk hK hI rfl (wk_post (by unfold wk_told; rw [wk_clJ hV hj, wk_ifT (wk_okJ hV hj)]; first | (simp only [if_neg hs_1, if_neg hs_2, if_pos hs_3]; done) | (simp only [if_neg hs_1, if_neg hs_2, if_pos hs_3]; rfl))) dX11_told_77
    by_cases hs_4 : w9 = 3
    · refine lv_tableIn (tgt := 78) (off := 60) hx hb dX11_told_18 (by rw [hs_4]; decide) (by rw [hs_4]; decide) (by rw [hs_4]; rfl) (by decide) ?_
      refine lv_aload_n hx hb dX11_told_78 rfl (lv_at hl 0 rfl) ?_
      refine wk_get (v := .long (wk_pu σ j)) hx hb hts (fun w h => wk_in_M w (lay_X6 w h)) hown hK hI (16 + j) (wx_em hj) rfl 5 (by decide) (hts _ (wk_in_M _ mw_200)) rfl rfl dX11_told_79 ?_
      exact wk_rl σ hx hb hr hlk hK hI rfl (wk_post (by unfold wk_told; rw [wk_clJ hV hj, wk_ifT (wk_okJ hV hj)]; first | (simp only [if_neg hs_1, if_neg hs_2, if_neg hs_3, if_pos hs_4]; done) | (simp only [if_neg hs_1, if_neg hs_2, if_neg hs_3, if_pos hs_4]; rfl))) dX11_told_82
    by_cases hs_5 : w9 = 4
    · refine lv_tableIn (tgt := 83) (off := 65) hx hb dX11_told_18 (by rw [hs_5]; decide) (by rw [hs_5]; decide) (by rw [hs_5]; rfl) (by decide) ?_
      refine lv_aload_n hx hb dX11_told_83 rfl (lv_at hl 0 rfl) ?_
      refine wk_kI hI hA (va_runV (As := []) (rest := []) ⟨hx, hb, hml, hown, hts⟩ (c_X6_isClimber l D cI cJ cS ad σ j hV hj _) (wk_cwV 0 hts wk_in_M mw_406 mw_407 mw_408 mw_46 mw_409 hdX6_isClimber ⟨(Nat.le_of_ble_eq_true rfl), (Nat.le_of_ble_eq_true rfl)⟩) (wk_preV hN hK hI (ci := 6) rfl (wx_em hj)) rfl rfl hl.1 rfl (lv_room (Nat.le_of_ble_eq_true rfl)) dX11_told_84 ⟨(Nat.le_of_ble_eq_true rfl), (Nat.le_of_ble_eq_true rfl)⟩) (fun r u H locs hw hI => ?_)
      obtain ⟨rfl, hw⟩ := hw
      rw [hw] at hI
      refine lv_if_eq (tgt := 94) hx hb dX11_told_87 (by decide) (fun c_6 => ?_) (fun c_6 => ?_)
      · have c_6 := wk_b0 c_6
        refine lv_lconst (v := 0) hx hb dX11_told_94 (by decide) ?_
        exact wk_rl σ hx hb hr hlk hK hI rfl (wk_post (by unfold wk_told; rw [wk_clJ hV hj, wk_ifT (wk_okJ hV hj)]; first | (simp only [if_neg hs_1, if_neg hs_2, if_neg hs_3, if_neg hs_4, if_pos hs_5, if_neg c_6]; done) | (simp only [if_neg hs_1, if_neg hs_2, if_neg hs_3, if_neg hs_4, if_pos hs_5, if_neg c_6]; rfl))) dX11_told_95
      · have c_6 := wk_b1 c_6
        refine lv_lconst (v := 1) hx hb dX11_told_90 (by decide) ?_
        refine lv_goto (tgt := 95) hx hb dX11_told_91 (by decide) ?_
        exact wk_rl σ hx hb hr hlk hK hI rfl (wk_post (by unfold wk_told; rw [wk_clJ hV hj, wk_ifT (wk_okJ hV hj)]; first | (simp only [if_neg hs_1, if_neg hs_2, if_neg hs_3, if_neg hs_4, if_pos hs_5, if_pos c_6]; done) | (simp only [if_neg hs_1, if_neg hs_2, if_neg hs_3, if_neg hs_4, if_pos hs_5, if_pos c_6]; rfl))) dX11_told_95
    by_cases hs_7 : w9 = 5
    · refine lv_tableIn (tgt := 96) (off := 78) hx hb dX11_told_18 (by rw [hs_7]; decide) (by rw [hs_7]; decide) (by rw [hs_7]; rfl) (by decide) ?_
      refine lv_aload_n hx hb dX11_told_96 rfl (lv_at hl 0 rfl) ?_
      refine wk_kI hI hA (va_runV (As := []) (rest := []) ⟨hx, hb, hml, hown, hts⟩ (c_X6_isPayee l D cI cJ cS ad σ j hV hj _) (wk_cwV 0 hts wk_in_M mw_435 mw_436 mw_437 mw_46 mw_438 hdX6_isPayee ⟨(Nat.le_of_ble_eq_true rfl), (Nat.le_of_ble_eq_true rfl)⟩) (wk_preV hN hK hI (ci := 6) rfl (wx_em hj)) rfl rfl hl.1 rfl (lv_room (Nat.le_of_ble_eq_true rfl)) dX11_told_97 ⟨(Nat.le_of_ble_eq_true rfl), (Nat.le_of_ble_eq_true rfl)⟩) (fun r u H locs hw hI => ?_)
      obtain ⟨rfl, hw⟩ := hw
      rw [hw] at hI
      refine lv_if_eq (tgt := 107) hx hb dX11_told_100 (by decide) (fun c_8 => ?_) (fun c_8 => ?_)
      · have c_8 := wk_b0 c_8
        refine lv_lconst (v := 0) hx hb dX11_told_107 (by decide) ?_
        exact wk_rl σ hx hb hr hlk hK hI rfl (wk_post (by unfold wk_told; rw [wk_clJ hV hj, wk_ifT (wk_okJ hV hj)]; first | (simp only [if_neg hs_1, if_neg hs_2, if_neg hs_3, if_neg hs_4, if_neg hs_5, if_pos hs_7, if_neg c_8]; done) | (simp only [if_neg hs_1, if_neg hs_2, if_neg hs_3, if_neg hs_4, if_neg hs_5, if_pos hs_7, if_neg c_8]; rfl))) dX11_told_108
      · have c_8 := wk_b1 c_8
        refine lv_lconst (v := 1) hx hb dX11_told_103 (by decide) ?_
        refine lv_goto (tgt := 108) hx hb dX11_told_104 (by decide) ?_
        exact wk_rl σ hx hb hr hlk hK hI rfl (wk_post (by unfold wk_told; rw [wk_clJ hV hj, wk_ifT (wk_okJ hV hj)]; first | (simp only [if_neg hs_1, if_neg hs_2, if_neg hs_3, if_neg hs_4, if_neg hs_5, if_pos hs_7, if_pos c_8]; done) | (simp only [if_neg hs_1, if_neg hs_2, if_neg hs_3, if_neg hs_4, if_neg hs_5, if_pos hs_7, if_pos c_8]; rfl))) dX11_told_108
    by_cases hs_9 : w9 = 6
    · refine lv_tableIn (tgt := 109) (off := 91) hx hb dX11_told_18 (by rw [hs_9]; decide) (by rw [hs_9]; decide) (by rw [hs_9]; rfl) (by decide) ?_
      refine lv_aload_n hx hb dX11_told_109 rfl (lv_at hl 0 rfl) ?_
      refine wk_kI hI hA (va_runV (As := []) (rest := []) ⟨hx, hb, hml, hown, hts⟩ (c_X6_isCarer l D cI cJ cS ad σ j hV hj _) (wk_cwV 0 hts wk_in_M mw_443 mw_444 mw_445 mw_46 mw_446 hdX6_isCarer ⟨(Nat.le_of_ble_eq_true rfl), (Nat.le_of_ble_eq_true rfl)⟩) (wk_preV hN hK hI (ci := 6) rfl (wx_em hj)) rfl rfl hl.1 rfl (lv_room (Nat.le_of_ble_eq_true rfl)) dX11_told_110 ⟨(Nat.le_of_ble_eq_true rfl), (Nat.le_of_ble_eq_true rfl)⟩) (fun r u H locs hw hI => ?_)
      obtain ⟨rfl, hw⟩ := hw
      rw [hw] at hI
      refine lv_if_eq (tgt := 120) hx hb dX11_told_113 (by decide) (fun c_10 => ?_) (fun c_10 => ?_)
      · have c_10 := wk_b0 c_10
        refine lv_lconst (v := 0) hx hb dX11_told_120 (by decide) ?_
        exact wk_rl σ hx hb hr hlk hK hI rfl (wk_post (by unfold wk_told; rw [wk_clJ hV hj, wk_ifT (wk_okJ hV hj)]; first | (simp only [if_neg hs_1, if_neg hs_2, if_neg hs_3, if_neg hs_4, if_neg hs_5, if_neg hs_7, if_pos hs_9, if_neg c_10]; done) | (simp only [if_neg hs_1, if_neg hs_2, if_neg hs_3, if_neg hs_4, if_neg hs_5, if_neg hs_7, if_pos hs_9, if_neg c_10]; rfl))) dX11_told_121
      · have c_10 := wk_b1 c_10
        refine lv_lconst (v := 1) hx hb dX11_told_116 (by decide) ?_
        refine lv_goto (tgt := 121) hx hb dX11_told_117 (by decide) ?_
        exact wk_rl σ hx hb hr hlk hK hI rfl (wk_post (by unfold wk_told; rw [wk_clJ hV hj, wk_ifT (wk_okJ hV hj)]; first | (simp only [if_neg hs_1, if_neg hs_2, if_neg hs_3, if_neg hs_4, if_neg hs_5, if_neg hs_7, if_pos hs_9, if_pos c_10]; done) | (simp only [if_neg hs_1, if_neg hs_2, if_neg hs_3, if_neg hs_4, if_neg hs_5, if_neg hs_7, if_pos hs_9, if_pos c_10]; rfl))) dX11_told_121
    refine lv_tableOut (tgt := 122) hx hb dX11_told_18 (by have q0 := lv_neT hs_1 wk_lit0; have q1 := lv_neT hs_2 wk_lit1; have q2 := lv_neT hs_3 wk_lit2; have q3 := lv_neT hs_4 wk_lit3; have q4 := lv_neT hs_5 wk_lit4; have q5 := lv_neT hs_7 wk_lit5; have q6 := lv_neT hs_9 wk_lit6; omega) (by decide) ?_
    refine lv_ldc2 hx hb hown (hts _ (wk_in_M _ mw_246)) dX11_told_122 ?_
    exact wk_rl σ hx hb hr hlk hK hI rfl (wk_post (by unfold wk_told; rw [wk_clJ hV hj, wk_ifT (wk_okJ hV hj)]; first | (simp only [if_neg hs_1, if_neg hs_2, if_neg hs_3, if_neg hs_4, if_neg hs_5, if_neg hs_7, if_neg hs_9]; done) | (simp only [if_neg hs_1, if_neg hs_2, if_neg hs_3, if_neg hs_4, if_neg hs_5, if_neg hs_7, if_neg hs_9]; rfl))) dX11_told_125
  · have hK := hK
    refine lv_aload_n hx hb dX11_told_0 rfl (lv_at hl 0 rfl) ?_
    refine wk_get (v := .ref (ad 1)) hx hb hts (fun w h => wk_in_M w (lay_X11 w h)) hown hK hI (0) wx_e0 rfl 0 (by decide) (hts _ (wk_in_M _ mw_145)) rfl rfl dX11_told_1 ?_
    refine lv_iload_n hx hb dX11_told_4 rfl (lv_at hl 1 rfl) ?_
    refine wk_kQ hI hA (va_runV (As := [.int k9]) (rest := []) ⟨hx, hb, hml, hown, hts⟩ (c_X2_member l D cI cJ cS ad σ k9 hV _) (wk_cwV 1 hts wk_in_M mw_224 mw_225 mw_226 mw_35 mw_227 hdX2_member ⟨(Nat.le_of_ble_eq_true rfl), (Nat.le_of_ble_eq_true rfl)⟩) (wk_preV hN hK hI (ci := 2) rfl wx_e1) rfl rfl hl.1 rfl (lv_room (Nat.le_of_ble_eq_true rfl)) dX11_told_5 ⟨(Nat.le_of_ble_eq_true rfl), (Nat.le_of_ble_eq_true rfl)⟩) (fun r u H locs hw hI => ?_)
    obtain ⟨rfl, hw⟩ := hw
    rw [hw] at hI
    rw [wx_findN hno]
    refine W.eq (g2 := F0 m 8 ls [.null]) rfl ?_
    refine lv_astore_nN (lv' := [(3, .null), (0, .ref (ad 0)), (1, .int k9), (2, .int w9)]) hx hb dX11_told_8 rfl hl (by decide) rfl (fun ls hl => ?_)
    refine lv_aload_nN hx hb dX11_told_9 rfl (lv_at hl 0 rfl) ?_
    refine lv_ifnonnullN hx hb dX11_told_10 ?_
    refine lv_ldc2 hx hb hown (hts _ (wk_in_M _ mw_246)) dX11_told_13 ?_
    exact wk_rl σ hx hb hr hlk hK hI rfl (wk_post (by unfold wk_told; rw [wk_ifF hno])) dX11_told_16
set_option maxHeartbeats 4000000 in
set_option maxRecDepth 100000 in
theorem c_X11_notes (l : Launch) (D : va_G) (cI cJ cS : ClassId) (ad : Nat → Nat) (σ : wk_St)   : wk_Ci l D (wk_tys cI cJ cS) yX11_notes (wk_M yX11_notes cX11_notes 1 (some .int)) ({ frames := 0, cells := 0, slots := 0, locals := 0 }) [.ref (ad 0)] (wx_W cI cS ad σ) (wx_W cI cS ad) (fun r0 u0 => r0 = ((nI (wk_nt σ), σ)).1 ∧ u0 = ((nI (wk_nt σ), σ)).2) := by
  intro sz
  refine Met.ofW (cc := cX11_notes) (maxL := 1) (ret := (some .int)) (by decide) rfl ?_
  intro p e s m args below meth c s₁ B hml hv
  obtain ⟨rfl, hsz, hP, hK, hD0, hN⟩ := hv
  have hx := B.exec
  have hb := B.bytes
  have hr := B.returns
  have hts := atoms_spec (ws := wk_M yX11_notes cX11_notes 1 (some .int)) B.pre
  have hown : s.vm.findClass RX11 = some m.cls := findClass_of_methodNamed B.named
  have hlk := B.notSynchronized
  subst hsz
  have hI : wk_I D (va_A (wx_W cI cS ad σ) s.heap.size) s.heap s.heap [] (wx_W cI cS ad σ) := ⟨hP, hD0.self, va_S.rf⟩
  have hA : ∀ q : Nat, s.heap.size ≤ q → (va_A (wx_W cI cS ad σ) s.heap.size) q := fun q h => Or.inr h
  clear hP hD0
  generalize va_A (wx_W cI cS ad σ) s.heap.size = A at hI hA ⊢
  have hl := lv_entry ([.ref (ad 0)]) (n := 1) (Nat.le_of_ble_eq_true rfl)
  rw [lg_entry_eq]
  generalize (lg_sl ([.ref (ad 0)]) ++ List.replicate (1 - (lg_sl ([.ref (ad 0)])).length) Slot.unset).toArray = ls at hl ⊢
  have hl : lv_has ls 1 [(0, .ref (ad 0))] := hl
  refine lv_aload_n hx hb dX11_notes_0 rfl (lv_at hl 0 rfl) ?_
  refine wk_get (v := .ref (ad 1)) hx hb hts (fun w h => wk_in_M w (lay_X11 w h)) hown hK hI (0) wx_e0 rfl 0 (by decide) (hts _ (wk_in_M _ mw_145)) rfl rfl dX11_notes_1 ?_
  refine wk_get (v := .int (nI (wk_nt σ))) hx hb hts (fun w h => wk_in_M w (lay_X2 w h)) hown hK hI (1) wx_e1 rfl 4 (by decide) (hts _ (wk_in_M _ mw_71)) rfl rfl dX11_notes_4 ?_
  exact wk_ri σ hx hb hr hlk hK hI rfl (wk_post (by first | rfl | (simp only []; done) | (simp only []; rfl))) dX11_notes_7
set_option maxHeartbeats 4000000 in
set_option maxRecDepth 100000 in
theorem c_X11_note (l : Launch) (D : va_G) (cI cJ cS : ClassId) (ad : Nat → Nat) (σ : wk_St) (i9 : Int32)  : wk_Ci l D (wk_tys cI cJ cS) yX11_note (wk_M yX11_note cX11_note 2 (some .int)) ({ frames := 0, cells := 0, slots := 0, locals := 0 }) [.ref (ad 0), .int i9] (wx_W cI cS ad σ) (wx_W cI cS ad) (fun r0 u0 => r0 = (wk_noteAt σ i9).1 ∧ u0 = (wk_noteAt σ i9).2) := by
  intro sz
  refine Met.ofW (cc := cX11_note) (maxL := 2) (ret := (some .int)) (by decide) rfl ?_
  intro p e s m args below meth c s₁ B hml hv
  obtain ⟨rfl, hsz, hP, hK, hD0, hN⟩ := hv
  have hx := B.exec
  have hb := B.bytes
  have hr := B.returns
  have hts := atoms_spec (ws := wk_M yX11_note cX11_note 2 (some .int)) B.pre
  have hown : s.vm.findClass RX11 = some m.cls := findClass_of_methodNamed B.named
  have hlk := B.notSynchronized
  subst hsz
  have hI : wk_I D (va_A (wx_W cI cS ad σ) s.heap.size) s.heap s.heap [] (wx_W cI cS ad σ) := ⟨hP, hD0.self, va_S.rf⟩
  have hA : ∀ q : Nat, s.heap.size ≤ q → (va_A (wx_W cI cS ad σ) s.heap.size) q := fun q h => Or.inr h
  clear hP hD0
  generalize va_A (wx_W cI cS ad σ) s.heap.size = A at hI hA ⊢
  have hl := lv_entry ([.ref (ad 0), .int i9]) (n := 2) (Nat.le_of_ble_eq_true rfl)
  rw [lg_entry_eq]
  generalize (lg_sl ([.ref (ad 0), .int i9]) ++ List.replicate (2 - (lg_sl ([.ref (ad 0), .int i9])).length) Slot.unset).toArray = ls at hl ⊢
  have hl : lv_has ls 2 [(0, .ref (ad 0)), (1, .int i9)] := hl
  refine lv_iload_n hx hb dX11_note_0 rfl (lv_at hl 1 rfl) ?_
  refine lv_if_lt (tgt := 21) hx hb dX11_note_1 (by decide) (fun c_1 => ?_) (fun c_1 => ?_)
  · refine lv_ldc hx hb hown (hts _ (wk_in_M _ mw_171)) dX11_note_21 ?_
    exact wk_ri σ hx hb hr hlk hK hI rfl (wk_post (by unfold wk_noteAt; rw [wk_ifF (fun hq => wk_lnl c_1 hq.1)])) dX11_note_23
  · refine lv_iload_n hx hb dX11_note_4 rfl (lv_at hl 1 rfl) ?_
    refine lv_aload_n hx hb dX11_note_5 rfl (lv_at hl 0 rfl) ?_
    refine wk_get (v := .ref (ad 1)) hx hb hts (fun w h => wk_in_M w (lay_X11 w h)) hown hK hI (0) wx_e0 rfl 0 (by decide) (hts _ (wk_in_M _ mw_145)) rfl rfl dX11_note_6 ?_
    refine wk_get (v := .int (nI (wk_nt σ))) hx hb hts (fun w h => wk_in_M w (lay_X2 w h)) hown hK hI (1) wx_e1 rfl 4 (by decide) (hts _ (wk_in_M _ mw_71)) rfl rfl dX11_note_9 ?_
    refine lv_icmp_ge (tgt := 21) hx hb dX11_note_12 (by decide) (fun c_2 => ?_) (fun c_2 => ?_)
    · refine lv_ldc hx hb hown (hts _ (wk_in_M _ mw_171)) dX11_note_21 ?_
      exact wk_ri σ hx hb hr hlk hK hI rfl (wk_post (by unfold wk_noteAt; rw [wk_ifF (fun hq => wk_lnl hq.2.1 c_2)])) dX11_note_23
    · refine lv_iload_n hx hb dX11_note_15 rfl (lv_at hl 1 rfl) ?_
      refine lv_bipush (v := 64) hx hb dX11_note_16 (by decide) ?_
      refine lv_icmp_lt (tgt := 24) hx hb dX11_note_18 (by decide) (fun c_3 => ?_) (fun c_3 => ?_)
      · obtain ⟨j, hj31, rfl⟩ := nI_of c_1
        have hj64 : j < 64 := by have hq := c_3; simp only [Int32.lt_iff_toInt_lt, Int32.le_iff_toInt_le, nI_toInt hj31, wk_lit0, wk_lit1, wk_lit2, wk_lit3, wk_lit5, wk_lit6, wk_lit7, wk_lit8, wk_lit64, wk_lit4, wk_lit12, wk_lit20, wk_lit99, wk_lit1000] at hq; omega
        refine lv_aload_n hx hb dX11_note_24 rfl (lv_at hl 0 rfl) ?_
        refine wk_get (v := .ref (ad 1)) hx hb hts (fun w h => wk_in_M w (lay_X11 w h)) hown hK hI (0) wx_e0 rfl 0 (by decide) (hts _ (wk_in_M _ mw_145)) rfl rfl dX11_note_25 ?_
        refine wk_get (v := .ref (ad 7)) hx hb hts (fun w h => wk_in_M w (lay_X2 w h)) hown hK hI (1) wx_e1 rfl 3 (by decide) (hts _ (wk_in_M _ mw_69)) rfl rfl dX11_note_28 ?_
        refine lv_iload_n hx hb dX11_note_31 rfl (lv_at hl 1 rfl) ?_
        refine wk_iald (v := (wk_kp σ j)) (j := j) hx hb hK hI 7 0 wx_e7 rfl rfl (by omega) (by decide) rfl dX11_note_32 ?_
        exact wk_ri σ hx hb hr hlk hK hI rfl (wk_post (by unfold wk_noteAt; rw [wk_ifT ⟨wk_nlt c_1, wk_nle c_2, c_3⟩, nI_clamp hj31])) dX11_note_33
      · refine lv_ldc hx hb hown (hts _ (wk_in_M _ mw_171)) dX11_note_21 ?_
        exact wk_ri σ hx hb hr hlk hK hI rfl (wk_post (by unfold wk_noteAt; rw [wk_ifF (fun hq => c_3 hq.2.2)])) dX11_note_23
set_option maxHeartbeats 4000000 in
set_option maxRecDepth 100000 in
theorem c_X11_rest (l : Launch) (D : va_G) (cI cJ cS : ClassId) (ad : Nat → Nat) (σ : wk_St) (n : Int32) (hV : wk_V σ) : wk_Ci l D (wk_tys cI cJ cS) yX11_rest (wk_M yX11_rest cX11_rest 3 (some .int)) ({ frames := 1, cells := 0, slots := 0, locals := 22 }) [.ref (ad 0), .int n] (wx_W cI cS ad σ) (wx_W cI cS ad) (fun r0 u0 => r0 = (wk_rest σ n).1 ∧ u0 = (wk_rest σ n).2) := by
  intro sz
  refine Met.ofW (cc := cX11_rest) (maxL := 3) (ret := (some .int)) (by decide) rfl ?_
  intro p e s m args below meth c s₁ B hml hv
  obtain ⟨rfl, hsz, hP, hK, hD0, hN⟩ := hv
  have hx := B.exec
  have hb := B.bytes
  have hr := B.returns
  have hts := atoms_spec (ws := wk_M yX11_rest cX11_rest 3 (some .int)) B.pre
  have hown : s.vm.findClass RX11 = some m.cls := findClass_of_methodNamed B.named
  have hlk := B.notSynchronized
  subst hsz
  have hI : wk_I D (va_A (wx_W cI cS ad σ) s.heap.size) s.heap s.heap [] (wx_W cI cS ad σ) := ⟨hP, hD0.self, va_S.rf⟩
  have hA : ∀ q : Nat, s.heap.size ≤ q → (va_A (wx_W cI cS ad σ) s.heap.size) q := fun q h => Or.inr h
  clear hP hD0
  generalize va_A (wx_W cI cS ad σ) s.heap.size = A at hI hA ⊢
  have hl := lv_entry ([.ref (ad 0), .int n]) (n := 3) (Nat.le_of_ble_eq_true rfl)
  rw [lg_entry_eq]
  generalize (lg_sl ([.ref (ad 0), .int n]) ++ List.replicate (3 - (lg_sl ([.ref (ad 0), .int n])).length) Slot.unset).toArray = ls at hl ⊢
  have hl : lv_has ls 3 [(0, .ref (ad 0)), (1, .int n)] := hl
  refine lv_iload_n hx hb dX11_rest_0 rfl (lv_at hl 1 rfl) ?_
  refine lv_if_lt (tgt := 11) hx hb dX11_rest_1 (by decide) (fun c_1 => ?_) (fun c_1 => ?_)
  · refine lv_ldc hx hb hown (hts _ (wk_in_M _ mw_171)) dX11_rest_11 ?_
    exact wk_ri σ hx hb hr hlk hK hI rfl (wk_post (by unfold wk_rest; rw [wk_ifF (fun hq => wk_lnl c_1 hq.1)])) dX11_rest_13
  · refine lv_iload_n hx hb dX11_rest_4 rfl (lv_at hl 1 rfl) ?_
    refine lv_sipush (v := 1000) hx hb dX11_rest_5 (by decide) ?_
    refine lv_icmp_le (tgt := 14) hx hb dX11_rest_8 (by decide) (fun c_2 => ?_) (fun c_2 => ?_)
    · refine lv_aload_n hx hb dX11_rest_14 rfl (lv_at hl 0 rfl) ?_
      refine wk_get (v := .ref (ad 1)) hx hb hts (fun w h => wk_in_M w (lay_X11 w h)) hown hK hI (0) wx_e0 rfl 0 (by decide) (hts _ (wk_in_M _ mw_145)) rfl rfl dX11_rest_15 ?_
      refine wk_get (v := va_rf (wx_mp ad (wk_n σ) 0)) hx hb hts (fun w h => wk_in_M w (lay_X2 w h)) hown hK hI (1) wx_e1 rfl 0 (by decide) (hts _ (wk_in_M _ mw_64)) rfl rfl dX11_rest_18 ?_
      refine wk_astore_n (lv' := [(2, va_rf (wx_mp ad (wk_n σ) 0)), (0, .ref (ad 0)), (1, .int n)]) hx hb dX11_rest_21 rfl hl (by decide) rfl (fun ls hl => ?_)
      refine wk_loop (fun i H locs ls => wk_I D A s.heap H locs (wx_W cI cS ad (wk_restL (-n) σ i)) ∧ lv_has ls 3 [(0, .ref (ad 0)), (1, .int n), (2, va_rf (wx_mp ad (wk_n σ) i))]) (wk_n σ) ?_ ?_ (wk_n σ) 0 _ _ _ (Nat.zero_add _) ⟨hI, lv_sub hl [1, 2, 0] rfl⟩
      · intro H locs ls hinv
        obtain ⟨hI, hl⟩ := hinv
        rw [wx_mpF (Nat.lt_irrefl _)] at hl
        have hl : lv_has ls 3 [(0, .ref (ad 0)), (1, .int n), (2, .null)] := hl
        have hG_3 : wk_G σ (wk_restL (-n) σ (wk_n σ)) 0 := wk_g_restL (-n) σ (wk_n σ)
        refine lv_aload_nN hx hb dX11_rest_22 rfl (lv_at hl 2 rfl) ?_
        refine lv_ifnullN (tgt := 40) hx hb dX11_rest_23 (by decide) ?_
        refine lv_aload_n hx hb dX11_rest_40 rfl (lv_at hl 0 rfl) ?_
        refine wk_get (v := .ref (ad 1)) hx hb hts (fun w h => wk_in_M w (lay_X11 w h)) hown hK hI (0) wx_e0 rfl 0 (by decide) (hts _ (wk_in_M _ mw_145)) rfl rfl dX11_rest_41 ?_
        refine wk_get (v := .int (nI (wk_n (wk_restL (-n) σ (wk_n σ))))) hx hb hts (fun w h => wk_in_M w (lay_X2 w h)) hown hK hI (1) wx_e1 rfl 2 (by decide) (hts _ (wk_in_M _ mw_67)) rfl rfl dX11_rest_44 ?_
        exact wk_ri (wk_restL (-n) σ (wk_n σ)) hx hb hr hlk hK hI rfl (wk_post (by unfold wk_rest; rw [wk_ifT ⟨wk_nlt c_1, c_2⟩, (wk_g_restL (-n) σ (wk_n σ)).n])) dX11_rest_47
      · intro i H locs ls hi hinv ih
        obtain ⟨hI, hl⟩ := hinv
        have hiσ : i < wk_n σ := hi
        rw [wx_mpT hi] at hl
        have hl : lv_has ls 3 [(0, .ref (ad 0)), (1, .int n), (2, .ref (ad (16 + i)))] := hl
        have hG_4 : wk_G σ (wk_restL (-n) σ i) 0 := wk_g_restL (-n) σ i
        refine lv_aload_n hx hb dX11_rest_22 rfl (lv_at hl 2 rfl) ?_
        refine lv_ifnull hx hb dX11_rest_23 ?_
        refine lv_aload_n hx hb dX11_rest_26 rfl (lv_at hl 2 rfl) ?_
        refine lv_iload_n hx hb dX11_rest_27 rfl (lv_at hl 1 rfl) ?_
        refine lv_ineg hx hb dX11_rest_28 ?_
        refine wk_kV hI hA (va_runV (As := [.int (-n)]) (rest := []) ⟨hx, hb, hml, hown, hts⟩ (c_X6_tire l D cI cJ cS ad (wk_restL (-n) σ i) i (-n) (hG_4.lt hiσ) _) (wk_cwV 1 hts wk_in_M mw_448 mw_272 mw_273 mw_46 mw_274 hdX6_tire ⟨(Nat.le_of_ble_eq_true rfl), (Nat.le_of_ble_eq_true rfl)⟩) (wk_preV hN hK hI (ci := 6) rfl (wx_em (hG_4.lt hiσ))) rfl rfl hl.1 rfl (lv_room (Nat.le_of_ble_eq_true rfl)) dX11_rest_29 ⟨(Nat.le_of_ble_eq_true rfl), (Nat.le_of_ble_eq_true rfl)⟩) (fun u H locs hw hI => ?_)
        obtain rfl := hw
        have hG_5 : wk_G σ (wk_tire (wk_restL (-n) σ i) i (-n)) (0 + 0) := hG_4.trans (wk_g_tire (wk_restL (-n) σ i) i (-n))
        refine lv_aload_n hx hb dX11_rest_32 rfl (lv_at hl 2 rfl) ?_
        refine wk_get (v := va_rf (wx_mp ad (wk_n (wk_tire (wk_restL (-n) σ i) i (-n))) (i + 1))) hx hb hts (fun w h => wk_in_M w (lay_X6 w h)) hown hK hI (16 + i) (wx_em (hG_5.lt hiσ)) rfl 6 (by decide) (hts _ (wk_in_M _ mw_204)) rfl rfl dX11_rest_33 ?_
        rw [show wk_n (wk_tire (wk_restL (-n) σ i) i (-n)) = wk_n σ from hG_5.n.trans rfl]
        refine wk_astore_n (lv' := [(2, va_rf (wx_mp ad (wk_n σ) (i + 1))), (0, .ref (ad 0)), (1, .int n)]) hx hb dX11_rest_36 rfl hl (by decide) rfl (fun ls hl => ?_)
        refine lv_goto (tgt := 22) hx hb dX11_rest_37 (by decide) ?_
        exact ih _ _ _ ⟨hI, lv_sub hl [1, 2, 0] rfl⟩
    · refine lv_ldc hx hb hown (hts _ (wk_in_M _ mw_171)) dX11_rest_11 ?_
      exact wk_ri σ hx hb hr hlk hK hI rfl (wk_post (by unfold wk_rest; rw [wk_ifF (fun hq => c_2 hq.2)])) dX11_rest_13
set_option maxHeartbeats 4000000 in
set_option maxRecDepth 100000 in
theorem c_X11_watch (l : Launch) (D : va_G) (cI cJ cS : ClassId) (ad : Nat → Nat) (σ : wk_St) (d9 n : Int32) (hV : wk_V σ) : wk_Cl l D (wk_tys cI cJ cS) yX11_watch (wk_M yX11_watch cX11_watch 6 (some .long)) ({ frames := 6, cells := 0, slots := 0, locals := 142 }) [.ref (ad 0), .int d9, .int n] (wx_W cI cS ad σ) (wx_W cI cS ad) (fun r0 u0 => r0 = (wk_watch σ d9 n).1 ∧ u0 = (wk_watch σ d9 n).2) := by
  intro sz
  refine Met.ofW (cc := cX11_watch) (maxL := 6) (ret := (some .long)) (by decide) rfl ?_
  intro p e s m args below meth c s₁ B hml hv
  obtain ⟨rfl, hsz, hP, hK, hD0, hN⟩ := hv
  have hx := B.exec
  have hb := B.bytes
  have hr := B.returns
  have hts := atoms_spec (ws := wk_M yX11_watch cX11_watch 6 (some .long)) B.pre
  have hown : s.vm.findClass RX11 = some m.cls := findClass_of_methodNamed B.named
  have hlk := B.notSynchronized
  subst hsz
  have hI : wk_I D (va_A (wx_W cI cS ad σ) s.heap.size) s.heap s.heap [] (wx_W cI cS ad σ) := ⟨hP, hD0.self, va_S.rf⟩
  have hA : ∀ q : Nat, s.heap.size ≤ q → (va_A (wx_W cI cS ad σ) s.heap.size) q := fun q h => Or.inr h
  clear hP hD0
  generalize va_A (wx_W cI cS ad σ) s.heap.size = A at hI hA ⊢
  have hl := lv_entry ([.ref (ad 0), .int d9, .int n]) (n := 6) (Nat.le_of_ble_eq_true rfl)
  rw [lg_entry_eq]
  generalize (lg_sl ([.ref (ad 0), .int d9, .int n]) ++ List.replicate (6 - (lg_sl ([.ref (ad 0), .int d9, .int n])).length) Slot.unset).toArray = ls at hl ⊢
  have hl : lv_has ls 6 [(0, .ref (ad 0)), (1, .int d9), (2, .int n)] := hl
  refine lv_iload_n hx hb dX11_watch_0 rfl (lv_at hl 1 rfl) ?_
  refine wk_kI hI hA (va_runS (As := [.int d9]) (rest := []) ⟨hx, hb, hml, hown, hts⟩ (c_X11_isDuty l D cI cJ cS ad σ d9 _) (wk_cwS 1 hts wk_in_M mw_453 mw_454 mw_34 mw_455 (hdX11_isDuty).2 ⟨(Nat.le_of_ble_eq_true rfl), (Nat.le_of_ble_eq_true rfl)⟩) (wk_preS hN hK hI) rfl rfl hl.1 rfl (lv_room (Nat.le_of_ble_eq_true rfl)) dX11_watch_1 ⟨(Nat.le_of_ble_eq_true rfl), (Nat.le_of_ble_eq_true rfl)⟩) (fun r u H locs hw hI => ?_)
  obtain ⟨rfl, hw⟩ := hw
  rw [hw] at hI
  refine lv_if_eq (tgt := 15) hx hb dX11_watch_4 (by decide) (fun c_1 => ?_) (fun c_1 => ?_)
  · have c_1 := wk_b0 c_1
    refine lv_ldc2 hx hb hown (hts _ (wk_in_M _ mw_246)) dX11_watch_15 ?_
    exact wk_rl σ hx hb hr hlk hK hI rfl (wk_post (by unfold wk_watch; rw [wk_ifF (fun hq => c_1 hq.1)])) dX11_watch_18
  · have c_1 := wk_b1 c_1
    refine lv_iload_n hx hb dX11_watch_7 rfl (lv_at hl 1 rfl) ?_
    refine lv_iload_n hx hb dX11_watch_8 rfl (lv_at hl 2 rfl) ?_
    refine wk_kI hI hA (va_runS (As := [.int d9, .int n]) (rest := []) ⟨hx, hb, hml, hown, hts⟩ (c_X11_isBeyondBound l D cI cJ cS ad σ d9 n _) (wk_cwS 2 hts wk_in_M mw_240 mw_241 mw_34 mw_242 (hdX11_isBeyondBound).2 ⟨(Nat.le_of_ble_eq_true rfl), (Nat.le_of_ble_eq_true rfl)⟩) (wk_preS hN hK hI) rfl rfl hl.1 rfl (lv_room (Nat.le_of_ble_eq_true rfl)) dX11_watch_9 ⟨(Nat.le_of_ble_eq_true rfl), (Nat.le_of_ble_eq_true rfl)⟩) (fun r u H locs hw hI => ?_)
    obtain ⟨rfl, hw⟩ := hw
    rw [hw] at hI
    refine lv_if_eq (tgt := 19) hx hb dX11_watch_12 (by decide) (fun c_2 => ?_) (fun c_2 => ?_)
    · have c_2 := wk_b0 c_2
      refine lv_aload_n hx hb dX11_watch_19 rfl (lv_at hl 0 rfl) ?_
      refine wk_get (v := .ref (ad 1)) hx hb hts (fun w h => wk_in_M w (lay_X11 w h)) hown hK hI (0) wx_e0 rfl 0 (by decide) (hts _ (wk_in_M _ mw_145)) rfl rfl dX11_watch_20 ?_
      refine wk_kV hI hA (va_runV (As := []) (rest := []) ⟨hx, hb, hml, hown, hts⟩ (c_X2_forgetNotes l D cI cJ cS ad σ _) (wk_cwV 0 hts wk_in_M mw_247 mw_248 mw_249 mw_35 mw_250 hdX2_forgetNotes ⟨(Nat.le_of_ble_eq_true rfl), (Nat.le_of_ble_eq_true rfl)⟩) (wk_preV hN hK hI (ci := 2) rfl wx_e1) rfl rfl hl.1 rfl (lv_room (Nat.le_of_ble_eq_true rfl)) dX11_watch_23 ⟨(Nat.le_of_ble_eq_true rfl), (Nat.le_of_ble_eq_true rfl)⟩) (fun u H locs hw hI => ?_)
      obtain rfl := hw
      refine lv_lconst (v := 0) hx hb dX11_watch_26 (by decide) ?_
      refine lv_lstore_n (lv' := [(3, .long 0), (0, .ref (ad 0)), (1, .int d9), (2, .int n)]) hx hb dX11_watch_27 rfl hl (by decide) rfl (fun ls hl => ?_)
      refine lv_aload_n hx hb dX11_watch_28 rfl (lv_at hl 1 rfl) ?_
      refine wk_get (v := .ref (ad 1)) hx hb hts (fun w h => wk_in_M w (lay_X11 w h)) hown hK hI (0) wx_e0 rfl 0 (by decide) (hts _ (wk_in_M _ mw_145)) rfl rfl dX11_watch_29 ?_
      refine wk_get (v := va_rf (wx_mp ad (wk_n (wk_fg σ)) 0)) hx hb hts (fun w h => wk_in_M w (lay_X2 w h)) hown hK hI (1) wx_e1 rfl 0 (by decide) (hts _ (wk_in_M _ mw_64)) rfl rfl dX11_watch_32 ?_
      refine wk_astore (lv' := [(5, va_rf (wx_mp ad (wk_n (wk_fg σ)) 0)), (3, .long 0), (0, .ref (ad 0)), (1, .int d9), (2, .int n)]) hx hb dX11_watch_35 hl (by decide) rfl (fun ls hl => ?_)
      refine wk_loop (fun i H locs ls => wk_I D A s.heap H locs (wx_W cI cS ad ((wk_watchL d9 n (wk_fg σ) i).2)) ∧ lv_has ls 6 [(0, .ref (ad 0)), (1, .int d9), (2, .int n), (3, .long ((wk_watchL d9 n (wk_fg σ) i).1)), (5, va_rf (wx_mp ad (wk_n (wk_fg σ)) i))]) (wk_n (wk_fg σ)) ?_ ?_ (wk_n (wk_fg σ)) 0 _ _ _ (Nat.zero_add _) ⟨hI, lv_sub hl [2, 3, 4, 1, 0] rfl⟩
      · intro H locs ls hinv
        obtain ⟨hI, hl⟩ := hinv
        rw [wx_mpF (Nat.lt_irrefl _)] at hl
        have hl : lv_has ls 6 [(0, .ref (ad 0)), (1, .int d9), (2, .int n), (3, .long ((wk_watchL d9 n (wk_fg σ) (wk_n (wk_fg σ))).1)), (5, .null)] := hl
        have hG_3 : wk_G (wk_fg σ) ((wk_watchL d9 n (wk_fg σ) (wk_n (wk_fg σ))).2) (28 * (wk_n (wk_fg σ))) := wk_g_watchL d9 n (wk_fg σ) hV.1 (wk_n (wk_fg σ))
        refine lv_aloadN hx hb dX11_watch_37 (lv_at hl 4 rfl) ?_
        refine lv_ifnullN (tgt := 63) hx hb dX11_watch_39 (by decide) ?_
        refine lv_lload_n hx hb dX11_watch_63 rfl (lv_at hl 3 rfl) ?_
        exact wk_rl ((wk_watchL d9 n (wk_fg σ) (wk_n (wk_fg σ))).2) hx hb hr hlk hK hI rfl (wk_post (by unfold wk_watch; rw [wk_ifT ⟨c_1, Classical.not_not.mp c_2⟩]; first | done | rfl)) dX11_watch_64
      · intro i H locs ls hi hinv ih
        obtain ⟨hI, hl⟩ := hinv
        have hiσ : i < wk_n (wk_fg σ) := hi
        rw [wx_mpT hi] at hl
        have hl : lv_has ls 6 [(0, .ref (ad 0)), (1, .int d9), (2, .int n), (3, .long ((wk_watchL d9 n (wk_fg σ) i).1)), (5, .ref (ad (16 + i)))] := hl
        have hG_4 : wk_G (wk_fg σ) ((wk_watchL d9 n (wk_fg σ) i).2) (28 * i) := wk_g_watchL d9 n (wk_fg σ) hV.1 i
        refine lv_aload hx hb dX11_watch_37 (lv_at hl 4 rfl) ?_
        refine lv_ifnull hx hb dX11_watch_39 ?_
        refine lv_lload_n hx hb dX11_watch_42 rfl (lv_at hl 3 rfl) ?_
        refine lv_aload_n hx hb dX11_watch_43 rfl (lv_at hl 0 rfl) ?_
        refine lv_aload hx hb dX11_watch_44 (lv_at hl 4 rfl) ?_
        refine lv_iload_n hx hb dX11_watch_46 rfl (lv_at hl 1 rfl) ?_
        refine lv_iload_n hx hb dX11_watch_47 rfl (lv_at hl 2 rfl) ?_
        refine wk_kL hI hA (va_runV (As := [.ref (ad (16 + i)), .int d9, .int n]) (rest := [.long ((wk_watchL d9 n (wk_fg σ) i).1)]) ⟨hx, hb, hml, hown, hts⟩ (c_X11_doDuty l D cI cJ cS ad ((wk_watchL d9 n (wk_fg σ) i).2) i d9 n (hG_4.V hV) (hG_4.lt hiσ) (by have hq := hG_4.nt; have hq0 : wk_nt (wk_fg σ) = 0 := rfl; have hq12 : wk_n (wk_fg σ) ≤ 12 := hV.1; omega) _) (wk_cwV 3 hts wk_in_M mw_456 mw_458 mw_1 mw_34 mw_459 hdX11_doDuty ⟨(Nat.le_of_ble_eq_true rfl), (Nat.le_of_ble_eq_true rfl)⟩) (wk_preV hN hK hI (ci := 10) rfl wx_e0) rfl rfl hl.1 rfl (lv_room (Nat.le_of_ble_eq_true rfl)) dX11_watch_48 ⟨(Nat.le_of_ble_eq_true rfl), (Nat.le_of_ble_eq_true rfl)⟩) (fun r u H locs hw hI => ?_)
        obtain ⟨rfl, rfl⟩ := hw
        have hG_5 : wk_G (wk_fg σ) ((wk_do d9 ((wk_watchL d9 n (wk_fg σ) i).2) i n).2) ((28 * i) + 28) := hG_4.trans (wk_g_do d9 ((wk_watchL d9 n (wk_fg σ) i).2) i n (hG_4.V hV).1)
        refine lv_ladd hx hb dX11_watch_51 ?_
        refine lv_lstore_n (lv' := [(3, .long (((wk_watchL d9 n (wk_fg σ) i).1) + ((wk_do d9 ((wk_watchL d9 n (wk_fg σ) i).2) i n).1))), (0, .ref (ad 0)), (1, .int d9), (2, .int n), (5, .ref (ad (16 + i)))]) hx hb dX11_watch_52 rfl hl (by decide) rfl (fun ls hl => ?_)
        refine lv_aload hx hb dX11_watch_53 (lv_at hl 4 rfl) ?_
        refine wk_get (v := va_rf (wx_mp ad (wk_n ((wk_do d9 ((wk_watchL d9 n (wk_fg σ) i).2) i n).2)) (i + 1))) hx hb hts (fun w h => wk_in_M w (lay_X6 w h)) hown hK hI (16 + i) (wx_em (hG_5.lt hiσ)) rfl 6 (by decide) (hts _ (wk_in_M _ mw_204)) rfl rfl dX11_watch_55 ?_
        rw [show wk_n ((wk_do d9 ((wk_watchL d9 n (wk_fg σ) i).2) i n).2) = wk_n (wk_fg σ) from hG_5.n.trans rfl]
        refine wk_astore (lv' := [(5, va_rf (wx_mp ad (wk_n (wk_fg σ)) (i + 1))), (3, .long (((wk_watchL d9 n (wk_fg σ) i).1) + ((wk_do d9 ((wk_watchL d9 n (wk_fg σ) i).2) i n).1))), (0, .ref (ad 0)), (1, .int d9), (2, .int n)]) hx hb dX11_watch_58 hl (by decide) rfl (fun ls hl => ?_)
        refine lv_goto (tgt := 37) hx hb dX11_watch_60 (by decide) ?_
        exact ih _ _ _ ⟨hI, lv_sub hl [2, 3, 4, 1, 0] rfl⟩
    · have c_2 := wk_b1 c_2
      refine lv_ldc2 hx hb hown (hts _ (wk_in_M _ mw_246)) dX11_watch_15 ?_
      exact wk_rl σ hx hb hr hlk hK hI rfl (wk_post (by unfold wk_watch; rw [wk_ifF (fun hq => c_2 hq.2)])) dX11_watch_18
set_option maxHeartbeats 4000000 in
set_option maxRecDepth 100000 in
theorem c_X11_feed (l : Launch) (D : va_G) (cI cJ cS : ClassId) (ad : Nat → Nat) (σ : wk_St) (k9 : Int32) (n : Int32) (hV : wk_V σ) : wk_Ci l D (wk_tys cI cJ cS) yX11_feed (wk_M yX11_feed cX11_feed 6 (some .int)) ({ frames := 5, cells := 0, slots := 0, locals := 119 }) [.ref (ad 0), .int k9, .int n] (wx_W cI cS ad σ) (wx_W cI cS ad) (fun r0 u0 => r0 = (wk_feed σ k9 n).1 ∧ u0 = (wk_feed σ k9 n).2) := by
  intro sz
  refine Met.ofW (cc := cX11_feed) (maxL := 6) (ret := (some .int)) (by decide) rfl ?_
  intro p e s m args below meth c s₁ B hml hv
  obtain ⟨rfl, hsz, hP, hK, hD0, hN⟩ := hv
  have hx := B.exec
  have hb := B.bytes
  have hr := B.returns
  have hts := atoms_spec (ws := wk_M yX11_feed cX11_feed 6 (some .int)) B.pre
  have hown : s.vm.findClass RX11 = some m.cls := findClass_of_methodNamed B.named
  have hlk := B.notSynchronized
  subst hsz
  have hI : wk_I D (va_A (wx_W cI cS ad σ) s.heap.size) s.heap s.heap [] (wx_W cI cS ad σ) := ⟨hP, hD0.self, va_S.rf⟩
  have hA : ∀ q : Nat, s.heap.size ≤ q → (va_A (wx_W cI cS ad σ) s.heap.size) q := fun q h => Or.inr h
  clear hP hD0
  generalize va_A (wx_W cI cS ad σ) s.heap.size = A at hI hA ⊢
  have hl := lv_entry ([.ref (ad 0), .int k9, .int n]) (n := 6) (Nat.le_of_ble_eq_true rfl)
  rw [lg_entry_eq]
  generalize (lg_sl ([.ref (ad 0), .int k9, .int n]) ++ List.replicate (6 - (lg_sl ([.ref (ad 0), .int k9, .int n])).length) Slot.unset).toArray = ls at hl ⊢
  have hl : lv_has ls 6 [(0, .ref (ad 0)), (1, .int k9), (2, .int n)] := hl
  rcases wk_okC hV k9 with ⟨j, hj, rfl⟩ | hno
  · have hK := hK
    refine lv_aload_n hx hb dX11_feed_0 rfl (lv_at hl 0 rfl) ?_
    refine wk_get (v := .ref (ad 1)) hx hb hts (fun w h => wk_in_M w (lay_X11 w h)) hown hK hI (0) wx_e0 rfl 0 (by decide) (hts _ (wk_in_M _ mw_145)) rfl rfl dX11_feed_1 ?_
    refine lv_iload_n hx hb dX11_feed_4 rfl (lv_at hl 1 rfl) ?_
    refine wk_kQ hI hA (va_runV (As := [.int (nI j)]) (rest := []) ⟨hx, hb, hml, hown, hts⟩ (c_X2_member l D cI cJ cS ad σ (nI j) hV _) (wk_cwV 1 hts wk_in_M mw_224 mw_225 mw_226 mw_35 mw_227 hdX2_member ⟨(Nat.le_of_ble_eq_true rfl), (Nat.le_of_ble_eq_true rfl)⟩) (wk_preV hN hK hI (ci := 2) rfl wx_e1) rfl rfl hl.1 rfl (lv_room (Nat.le_of_ble_eq_true rfl)) dX11_feed_5 ⟨(Nat.le_of_ble_eq_true rfl), (Nat.le_of_ble_eq_true rfl)⟩) (fun r u H locs hw hI => ?_)
    obtain ⟨rfl, hw⟩ := hw
    rw [hw] at hI
    rw [wx_findJ hV hj]
    refine W.eq (g2 := F0 m 8 ls [.ref (ad (16 + j))]) rfl ?_
    refine lv_astore_n (lv' := [(3, .ref (ad (16 + j))), (0, .ref (ad 0)), (1, .int (nI j)), (2, .int n)]) hx hb dX11_feed_8 rfl hl (by decide) rfl (fun ls hl => ?_)
    refine lv_aload_n hx hb dX11_feed_9 rfl (lv_at hl 0 rfl) ?_
    refine lv_ifnull hx hb dX11_feed_10 ?_
    refine lv_aload_n hx hb dX11_feed_13 rfl (lv_at hl 0 rfl) ?_
    refine wk_kI hI hA (va_runV (As := []) (rest := []) ⟨hx, hb, hml, hown, hts⟩ (c_X6_isCarer l D cI cJ cS ad σ j hV hj _) (wk_cwV 0 hts wk_in_M mw_443 mw_444 mw_445 mw_46 mw_446 hdX6_isCarer ⟨(Nat.le_of_ble_eq_true rfl), (Nat.le_of_ble_eq_true rfl)⟩) (wk_preV hN hK hI (ci := 6) rfl (wx_em hj)) rfl rfl hl.1 rfl (lv_room (Nat.le_of_ble_eq_true rfl)) dX11_feed_14 ⟨(Nat.le_of_ble_eq_true rfl), (Nat.le_of_ble_eq_true rfl)⟩) (fun r u H locs hw hI => ?_)
    obtain ⟨rfl, hw⟩ := hw
    rw [hw] at hI
    refine lv_if_eq (tgt := 28) hx hb dX11_feed_17 (by decide) (fun c_1 => ?_) (fun c_1 => ?_)
    · have c_1 := wk_b0 c_1
      refine lv_ldc hx hb hown (hts _ (wk_in_M _ mw_171)) dX11_feed_28 ?_
      exact wk_ri σ hx hb hr hlk hK hI rfl (wk_post (by unfold wk_feed; rw [wk_clJ hV hj, wk_ifF (fun hq => c_1 hq.2.1)])) dX11_feed_30
    · have c_1 := wk_b1 c_1
      refine lv_iconst (v := 0) hx hb dX11_feed_20 (by decide) ?_
      refine lv_iload_n hx hb dX11_feed_21 rfl (lv_at hl 3 rfl) ?_
      refine wk_kI hI hA (va_runS (As := [.int 0, .int n]) (rest := []) ⟨hx, hb, hml, hown, hts⟩ (c_X11_isBeyondBound l D cI cJ cS ad σ 0 n _) (wk_cwS 2 hts wk_in_M mw_240 mw_241 mw_34 mw_242 (hdX11_isBeyondBound).2 ⟨(Nat.le_of_ble_eq_true rfl), (Nat.le_of_ble_eq_true rfl)⟩) (wk_preS hN hK hI) rfl rfl hl.1 rfl (lv_room (Nat.le_of_ble_eq_true rfl)) dX11_feed_22 ⟨(Nat.le_of_ble_eq_true rfl), (Nat.le_of_ble_eq_true rfl)⟩) (fun r u H locs hw hI => ?_)
      obtain ⟨rfl, hw⟩ := hw
      rw [hw] at hI
      refine lv_if_eq (tgt := 31) hx hb dX11_feed_25 (by decide) (fun c_2 => ?_) (fun c_2 => ?_)
      · have c_2 := wk_b0 c_2
        refine lv_aload_n hx hb dX11_feed_31 rfl (lv_at hl 1 rfl) ?_
        refine wk_get (v := .ref (ad 1)) hx hb hts (fun w h => wk_in_M w (lay_X11 w h)) hown hK hI (0) wx_e0 rfl 0 (by decide) (hts _ (wk_in_M _ mw_145)) rfl rfl dX11_feed_32 ?_
        refine wk_kV hI hA (va_runV (As := []) (rest := []) ⟨hx, hb, hml, hown, hts⟩ (c_X2_forgetNotes l D cI cJ cS ad σ _) (wk_cwV 0 hts wk_in_M mw_247 mw_248 mw_249 mw_35 mw_250 hdX2_forgetNotes ⟨(Nat.le_of_ble_eq_true rfl), (Nat.le_of_ble_eq_true rfl)⟩) (wk_preV hN hK hI (ci := 2) rfl wx_e1) rfl rfl hl.1 rfl (lv_room (Nat.le_of_ble_eq_true rfl)) dX11_feed_35 ⟨(Nat.le_of_ble_eq_true rfl), (Nat.le_of_ble_eq_true rfl)⟩) (fun u H locs hw hI => ?_)
        obtain rfl := hw
        refine lv_aload_n hx hb dX11_feed_38 rfl (lv_at hl 0 rfl) ?_
        refine wk_get (v := .ref (ad (8 + wk_rk (wk_fg σ) j))) hx hb hts (fun w h => wk_in_M w (lay_X6 w h)) hown hK hI (16 + j) (wx_em hj) rfl 3 (by decide) (hts _ (wk_in_M _ mw_193)) rfl rfl dX11_feed_39 ?_
        refine lv_aload_n hx hb dX11_feed_42 rfl (lv_at hl 1 rfl) ?_
        refine wk_get (v := .ref (ad 1)) hx hb hts (fun w h => wk_in_M w (lay_X11 w h)) hown hK hI (0) wx_e0 rfl 0 (by decide) (hts _ (wk_in_M _ mw_145)) rfl rfl dX11_feed_43 ?_
        refine lv_aload_n hx hb dX11_feed_46 rfl (lv_at hl 0 rfl) ?_
        refine lv_iload_n hx hb dX11_feed_47 rfl (lv_at hl 3 rfl) ?_
        refine wk_kL hI hA (wd_X11_toilWay (wk_rk (wk_fg σ) j) j n (rest := []) ⟨hx, hb, hml, hown, hts⟩ wk_in_M hN hK hI hV (hV.rk hj) hj (by have hq0 : wk_nt (wk_fg σ) = 0 := rfl; have hq12 : wk_n (wk_fg σ) ≤ 12 := hV.1; omega) ⟨(Nat.le_of_ble_eq_true rfl), (Nat.le_of_ble_eq_true rfl)⟩ hl.1 (lv_room (Nat.le_of_ble_eq_true rfl)) dX11_feed_48 ⟨(Nat.le_of_ble_eq_true rfl), (Nat.le_of_ble_eq_true rfl)⟩) (fun r u H locs hw hI => ?_)
        obtain ⟨rfl, rfl⟩ := hw
        have hG_3 : wk_G (wk_fg σ) ((wk_toilR (wk_rk (wk_fg σ) j) (wk_fg σ) j n).2) 6 := wk_g_toilR (wk_rk (wk_fg σ) j) (wk_fg σ) j n
        refine lv_ldc2 hx hb hown (hts _ (wk_in_M _ mw_447)) dX11_feed_51 ?_
        refine lv_ldiv hx hb dX11_feed_54 (by decide) ?_
        refine lv_l2i hx hb dX11_feed_55 rfl ?_
        refine lv_istore (lv' := [(4, .int ((((wk_toilR (wk_rk (wk_fg σ) j) (wk_fg σ) j n).1) / 100).toInt32)), (3, .ref (ad (16 + j))), (0, .ref (ad 0)), (1, .int (nI j)), (2, .int n)]) hx hb dX11_feed_56 hl (by decide) rfl (fun ls hl => ?_)
        refine lv_aload_n hx hb dX11_feed_58 rfl (lv_at hl 2 rfl) ?_
        refine wk_get (v := .ref (ad 1)) hx hb hts (fun w h => wk_in_M w (lay_X11 w h)) hown hK hI (0) wx_e0 rfl 0 (by decide) (hts _ (wk_in_M _ mw_145)) rfl rfl dX11_feed_59 ?_
        refine wk_get (v := va_rf (wx_mp ad (wk_n ((wk_toilR (wk_rk (wk_fg σ) j) (wk_fg σ) j n).2)) 0)) hx hb hts (fun w h => wk_in_M w (lay_X2 w h)) hown hK hI (1) wx_e1 rfl 0 (by decide) (hts _ (wk_in_M _ mw_64)) rfl rfl dX11_feed_62 ?_
        refine wk_astore (lv' := [(5, va_rf (wx_mp ad (wk_n ((wk_toilR (wk_rk (wk_fg σ) j) (wk_fg σ) j n).2)) 0)), (4, .int ((((wk_toilR (wk_rk (wk_fg σ) j) (wk_fg σ) j n).1) / 100).toInt32)), (3, .ref (ad (16 + j))), (0, .ref (ad 0)), (1, .int (nI j)), (2, .int n)]) hx hb dX11_feed_65 hl (by decide) rfl (fun ls hl => ?_)
        refine wk_loop (fun i H locs ls => wk_I D A s.heap H locs (wx_W cI cS ad (wk_feedL j (-((((wk_toilR (wk_rk (wk_fg σ) j) (wk_fg σ) j n).1) / 100).toInt32)) ((wk_toilR (wk_rk (wk_fg σ) j) (wk_fg σ) j n).2) i)) ∧ lv_has ls 6 [(0, .ref (ad 0)), (1, .int (nI j)), (2, .int n), (3, .ref (ad (16 + j))), (4, .int ((((wk_toilR (wk_rk (wk_fg σ) j) (wk_fg σ) j n).1) / 100).toInt32)), (5, va_rf (wx_mp ad (wk_n ((wk_toilR (wk_rk (wk_fg σ) j) (wk_fg σ) j n).2)) i))]) (wk_n ((wk_toilR (wk_rk (wk_fg σ) j) (wk_fg σ) j n).2)) ?_ ?_ (wk_n ((wk_toilR (wk_rk (wk_fg σ) j) (wk_fg σ) j n).2)) 0 _ _ _ (Nat.zero_add _) ⟨hI, lv_sub hl [3, 4, 5, 2, 1, 0] rfl⟩
        · intro H locs ls hinv
          obtain ⟨hI, hl⟩ := hinv
          rw [wx_mpF (Nat.lt_irrefl _)] at hl
          have hl : lv_has ls 6 [(0, .ref (ad 0)), (1, .int (nI j)), (2, .int n), (3, .ref (ad (16 + j))), (4, .int ((((wk_toilR (wk_rk (wk_fg σ) j) (wk_fg σ) j n).1) / 100).toInt32)), (5, .null)] := hl
          have hG_4 : wk_G (wk_fg σ) (wk_feedL j (-((((wk_toilR (wk_rk (wk_fg σ) j) (wk_fg σ) j n).1) / 100).toInt32)) ((wk_toilR (wk_rk (wk_fg σ) j) (wk_fg σ) j n).2) (wk_n ((wk_toilR (wk_rk (wk_fg σ) j) (wk_fg σ) j n).2))) (6 + 0) := hG_3.trans (wk_g_feedL j (-((((wk_toilR (wk_rk (wk_fg σ) j) (wk_fg σ) j n).1) / 100).toInt32)) ((wk_toilR (wk_rk (wk_fg σ) j) (wk_fg σ) j n).2) (wk_n ((wk_toilR (wk_rk (wk_fg σ) j) (wk_fg σ) j n).2)))
          refine lv_aloadN hx hb dX11_feed_67 (lv_at hl 5 rfl) ?_
          refine lv_ifnullN (tgt := 96) hx hb dX11_feed_69 (by decide) ?_
          refine lv_iload hx hb dX11_feed_96 (lv_at hl 4 rfl) ?_
          exact wk_ri (wk_feedL j (-((((wk_toilR (wk_rk (wk_fg σ) j) (wk_fg σ) j n).1) / 100).toInt32)) ((wk_toilR (wk_rk (wk_fg σ) j) (wk_fg σ) j n).2) (wk_n ((wk_toilR (wk_rk (wk_fg σ) j) (wk_fg σ) j n).2))) hx hb hr hlk hK hI rfl (wk_post (by unfold wk_feed ; rw [wk_clJ hV hj, wk_ifT ⟨wk_okJ hV hj, c_1, Classical.not_not.mp c_2⟩, hG_3.n]; first | done | rfl)) dX11_feed_98
        · intro i H locs ls hi hinv ih
          obtain ⟨hI, hl⟩ := hinv
          have hiσ : i < wk_n (wk_fg σ) := by have hq := hG_3.n; omega
          rw [wx_mpT hi] at hl
          have hl : lv_has ls 6 [(0, .ref (ad 0)), (1, .int (nI j)), (2, .int n), (3, .ref (ad (16 + j))), (4, .int ((((wk_toilR (wk_rk (wk_fg σ) j) (wk_fg σ) j n).1) / 100).toInt32)), (5, .ref (ad (16 + i)))] := hl
          have hG_5 : wk_G (wk_fg σ) (wk_feedL j (-((((wk_toilR (wk_rk (wk_fg σ) j) (wk_fg σ) j n).1) / 100).toInt32)) ((wk_toilR (wk_rk (wk_fg σ) j) (wk_fg σ) j n).2) i) (6 + 0) := hG_3.trans (wk_g_feedL j (-((((wk_toilR (wk_rk (wk_fg σ) j) (wk_fg σ) j n).1) / 100).toInt32)) ((wk_toilR (wk_rk (wk_fg σ) j) (wk_fg σ) j n).2) i)
          refine lv_aload hx hb dX11_feed_67 (lv_at hl 5 rfl) ?_
          refine lv_ifnull hx hb dX11_feed_69 ?_
          refine lv_aload hx hb dX11_feed_72 (lv_at hl 5 rfl) ?_
          refine lv_aload_n hx hb dX11_feed_74 rfl (lv_at hl 3 rfl) ?_
          refine lv_acmp_eq (rx := some (ad (16 + i))) (ry := some (ad (16 + j))) (tgt := 86) hx hb dX11_feed_75 (by decide) (fun c_6 => ?_) (fun c_6 => ?_)
          · have c_6 : i = j := wx_apart hI (hG_5.lt hiσ) (hG_5.lt hj) (Option.some.inj c_6)
            refine lv_aload hx hb dX11_feed_86 (lv_at hl 5 rfl) ?_
            refine wk_get (v := va_rf (wx_mp ad (wk_n (wk_feedL j (-((((wk_toilR (wk_rk (wk_fg σ) j) (wk_fg σ) j n).1) / 100).toInt32)) ((wk_toilR (wk_rk (wk_fg σ) j) (wk_fg σ) j n).2) i)) (i + 1))) hx hb hts (fun w h => wk_in_M w (lay_X6 w h)) hown hK hI (16 + i) (wx_em (hG_5.lt hiσ)) rfl 6 (by decide) (hts _ (wk_in_M _ mw_204)) rfl rfl dX11_feed_88 ?_
            rw [show wk_n (wk_feedL j (-((((wk_toilR (wk_rk (wk_fg σ) j) (wk_fg σ) j n).1) / 100).toInt32)) ((wk_toilR (wk_rk (wk_fg σ) j) (wk_fg σ) j n).2) i) = wk_n ((wk_toilR (wk_rk (wk_fg σ) j) (wk_fg σ) j n).2) from hG_5.n.trans hG_3.n.symm]
            refine wk_astore (lv' := [(5, va_rf (wx_mp ad (wk_n ((wk_toilR (wk_rk (wk_fg σ) j) (wk_fg σ) j n).2)) (i + 1))), (0, .ref (ad 0)), (1, .int (nI j)), (2, .int n), (3, .ref (ad (16 + j))), (4, .int ((((wk_toilR (wk_rk (wk_fg σ) j) (wk_fg σ) j n).1) / 100).toInt32))]) hx hb dX11_feed_91 hl (by decide) rfl (fun ls hl => ?_)
            refine lv_goto (tgt := 67) hx hb dX11_feed_93 (by decide) ?_
            have e1 : wk_feedL j (-((((wk_toilR (wk_rk (wk_fg σ) j) (wk_fg σ) j n).1) / 100).toInt32)) ((wk_toilR (wk_rk (wk_fg σ) j) (wk_fg σ) j n).2) (i + 1) = wk_feedL j (-((((wk_toilR (wk_rk (wk_fg σ) j) (wk_fg σ) j n).1) / 100).toInt32)) ((wk_toilR (wk_rk (wk_fg σ) j) (wk_fg σ) j n).2) i := by rw [wk_feedL]; rw [if_pos c_6]
            exact ih _ _ _ ⟨by rw [e1]; exact hI, lv_sub hl [1, 2, 3, 4, 5, 0] rfl⟩
          · have c_6 : ¬ i = j := fun hq => c_6 (by rw [hq])
            refine lv_aload hx hb dX11_feed_78 (lv_at hl 5 rfl) ?_
            refine lv_iload hx hb dX11_feed_80 (lv_at hl 4 rfl) ?_
            refine lv_ineg hx hb dX11_feed_82 ?_
            refine wk_kV hI hA (va_runV (As := [.int (-((((wk_toilR (wk_rk (wk_fg σ) j) (wk_fg σ) j n).1) / 100).toInt32))]) (rest := []) ⟨hx, hb, hml, hown, hts⟩ (c_X6_tire l D cI cJ cS ad (wk_feedL j (-((((wk_toilR (wk_rk (wk_fg σ) j) (wk_fg σ) j n).1) / 100).toInt32)) ((wk_toilR (wk_rk (wk_fg σ) j) (wk_fg σ) j n).2) i) i (-((((wk_toilR (wk_rk (wk_fg σ) j) (wk_fg σ) j n).1) / 100).toInt32)) (hG_5.lt hiσ) _) (wk_cwV 1 hts wk_in_M mw_448 mw_272 mw_273 mw_46 mw_274 hdX6_tire ⟨(Nat.le_of_ble_eq_true rfl), (Nat.le_of_ble_eq_true rfl)⟩) (wk_preV hN hK hI (ci := 6) rfl (wx_em (hG_5.lt hiσ))) rfl rfl hl.1 rfl (lv_room (Nat.le_of_ble_eq_true rfl)) dX11_feed_83 ⟨(Nat.le_of_ble_eq_true rfl), (Nat.le_of_ble_eq_true rfl)⟩) (fun u H locs hw hI => ?_)
            obtain rfl := hw
            have hG_7 : wk_G (wk_fg σ) (wk_tire (wk_feedL j (-((((wk_toilR (wk_rk (wk_fg σ) j) (wk_fg σ) j n).1) / 100).toInt32)) ((wk_toilR (wk_rk (wk_fg σ) j) (wk_fg σ) j n).2) i) i (-((((wk_toilR (wk_rk (wk_fg σ) j) (wk_fg σ) j n).1) / 100).toInt32))) ((6 + 0) + 0) := hG_5.trans (wk_g_tire (wk_feedL j (-((((wk_toilR (wk_rk (wk_fg σ) j) (wk_fg σ) j n).1) / 100).toInt32)) ((wk_toilR (wk_rk (wk_fg σ) j) (wk_fg σ) j n).2) i) i (-((((wk_toilR (wk_rk (wk_fg σ) j) (wk_fg σ) j n).1) / 100).toInt32)))
            refine lv_aload hx hb dX11_feed_86 (lv_at hl 5 rfl) ?_
            refine wk_get (v := va_rf (wx_mp ad (wk_n (wk_tire (wk_feedL j (-((((wk_toilR (wk_rk (wk_fg σ) j) (wk_fg σ) j n).1) / 100).toInt32)) ((wk_toilR (wk_rk (wk_fg σ) j) (wk_fg σ) j n).2) i) i (-((((wk_toilR (wk_rk (wk_fg σ) j) (wk_fg σ) j n).1) / 100).toInt32)))) (i + 1))) hx hb hts (fun w h => wk_in_M w (lay_X6 w h)) hown hK hI (16 + i) (wx_em (hG_7.lt hiσ)) rfl 6 (by decide) (hts _ (wk_in_M _ mw_204)) rfl rfl dX11_feed_88 ?_
            rw [show wk_n (wk_tire (wk_feedL j (-((((wk_toilR (wk_rk (wk_fg σ) j) (wk_fg σ) j n).1) / 100).toInt32)) ((wk_toilR (wk_rk (wk_fg σ) j) (wk_fg σ) j n).2) i) i (-((((wk_toilR (wk_rk (wk_fg σ) j) (wk_fg σ) j n).1) / 100).toInt32))) = wk_n ((wk_toilR (wk_rk (wk_fg σ) j) (wk_fg σ) j n).2) from hG_7.n.trans hG_3.n.symm]
            refine wk_astore (lv' := [(5, va_rf (wx_mp ad (wk_n ((wk_toilR (wk_rk (wk_fg σ) j) (wk_fg σ) j n).2)) (i + 1))), (0, .ref (ad 0)), (1, .int (nI j)), (2, .int n), (3, .ref (ad (16 + j))), (4, .int ((((wk_toilR (wk_rk (wk_fg σ) j) (wk_fg σ) j n).1) / 100).toInt32))]) hx hb dX11_feed_91 hl (by decide) rfl (fun ls hl => ?_)
            refine lv_goto (tgt := 67) hx hb dX11_feed_93 (by decide) ?_
            have e1 : wk_feedL j (-((((wk_toilR (wk_rk (wk_fg σ) j) (wk_fg σ) j n).1) / 100).toInt32)) ((wk_toilR (wk_rk (wk_fg σ) j) (wk_fg σ) j n).2) (i + 1) = wk_tire (wk_feedL j (-((((wk_toilR (wk_rk (wk_fg σ) j) (wk_fg σ) j n).1) / 100).toInt32)) ((wk_toilR (wk_rk (wk_fg σ) j) (wk_fg σ) j n).2) i) i (-((((wk_toilR (wk_rk (wk_fg σ) j) (wk_fg σ) j n).1) / 100).toInt32)) := by rw [wk_feedL]; rw [if_neg c_6]
            exact ih _ _ _ ⟨by rw [e1]; exact hI, lv_sub hl [1, 2, 3, 4, 5, 0] rfl⟩
      · have c_2 := wk_b1 c_2
        refine lv_ldc hx hb hown (hts _ (wk_in_M _ mw_171)) dX11_feed_28 ?_
        exact wk_ri σ hx hb hr hlk hK hI rfl (wk_post (by unfold wk_feed; rw [wk_clJ hV hj, wk_ifF (fun hq => c_2 hq.2.2)])) dX11_feed_30
  · have hK := hK
    refine lv_aload_n hx hb dX11_feed_0 rfl (lv_at hl 0 rfl) ?_
    refine wk_get (v := .ref (ad 1)) hx hb hts (fun w h => wk_in_M w (lay_X11 w h)) hown hK hI (0) wx_e0 rfl 0 (by decide) (hts _ (wk_in_M _ mw_145)) rfl rfl dX11_feed_1 ?_
    refine lv_iload_n hx hb dX11_feed_4 rfl (lv_at hl 1 rfl) ?_
    refine wk_kQ hI hA (va_runV (As := [.int k9]) (rest := []) ⟨hx, hb, hml, hown, hts⟩ (c_X2_member l D cI cJ cS ad σ k9 hV _) (wk_cwV 1 hts wk_in_M mw_224 mw_225 mw_226 mw_35 mw_227 hdX2_member ⟨(Nat.le_of_ble_eq_true rfl), (Nat.le_of_ble_eq_true rfl)⟩) (wk_preV hN hK hI (ci := 2) rfl wx_e1) rfl rfl hl.1 rfl (lv_room (Nat.le_of_ble_eq_true rfl)) dX11_feed_5 ⟨(Nat.le_of_ble_eq_true rfl), (Nat.le_of_ble_eq_true rfl)⟩) (fun r u H locs hw hI => ?_)
    obtain ⟨rfl, hw⟩ := hw
    rw [hw] at hI
    rw [wx_findN hno]
    refine W.eq (g2 := F0 m 8 ls [.null]) rfl ?_
    refine lv_astore_nN (lv' := [(3, .null), (0, .ref (ad 0)), (1, .int k9), (2, .int n)]) hx hb dX11_feed_8 rfl hl (by decide) rfl (fun ls hl => ?_)
    refine lv_aload_nN hx hb dX11_feed_9 rfl (lv_at hl 0 rfl) ?_
    refine lv_ifnullN (tgt := 28) hx hb dX11_feed_10 (by decide) ?_
    refine lv_ldc hx hb hown (hts _ (wk_in_M _ mw_171)) dX11_feed_28 ?_
    exact wk_ri σ hx hb hr hlk hK hI rfl (wk_post (by unfold wk_feed; rw [wk_ifF (fun hq => hno hq.1)])) dX11_feed_30
set_option maxHeartbeats 4000000 in
set_option maxRecDepth 100000 in
theorem c_X11_line (l : Launch) (D : va_G) (cI cJ cS : ClassId) (ad : Nat → Nat) (σ : wk_St) (i9 d9 n lo hi : Int32)  : wk_Ci l D (wk_tys cI cJ cS) yX11_line (wk_M yX11_line cX11_line 6 (some .int)) ({ frames := 2, cells := 0, slots := 0, locals := 41 }) [.ref (ad 0), .int i9, .int d9, .int n, .int lo, .int hi] (wx_W cI cS ad σ) (wx_W cI cS ad) (fun r0 u0 => r0 = (wk_line σ i9 d9 n lo hi).1 ∧ u0 = (wk_line σ i9 d9 n lo hi).2) := by
  intro sz
  refine Met.ofW (cc := cX11_line) (maxL := 6) (ret := (some .int)) (by decide) rfl ?_
  intro p e s m args below meth c s₁ B hml hv
  obtain ⟨rfl, hsz, hP, hK, hD0, hN⟩ := hv
  have hx := B.exec
  have hb := B.bytes
  have hr := B.returns
  have hts := atoms_spec (ws := wk_M yX11_line cX11_line 6 (some .int)) B.pre
  have hown : s.vm.findClass RX11 = some m.cls := findClass_of_methodNamed B.named
  have hlk := B.notSynchronized
  subst hsz
  have hI : wk_I D (va_A (wx_W cI cS ad σ) s.heap.size) s.heap s.heap [] (wx_W cI cS ad σ) := ⟨hP, hD0.self, va_S.rf⟩
  have hA : ∀ q : Nat, s.heap.size ≤ q → (va_A (wx_W cI cS ad σ) s.heap.size) q := fun q h => Or.inr h
  clear hP hD0
  generalize va_A (wx_W cI cS ad σ) s.heap.size = A at hI hA ⊢
  have hl := lv_entry ([.ref (ad 0), .int i9, .int d9, .int n, .int lo, .int hi]) (n := 6) (Nat.le_of_ble_eq_true rfl)
  rw [lg_entry_eq]
  generalize (lg_sl ([.ref (ad 0), .int i9, .int d9, .int n, .int lo, .int hi]) ++ List.replicate (6 - (lg_sl ([.ref (ad 0), .int i9, .int d9, .int n, .int lo, .int hi])).length) Slot.unset).toArray = ls at hl ⊢
  have hl : lv_has ls 6 [(0, .ref (ad 0)), (1, .int i9), (2, .int d9), (3, .int n), (4, .int lo), (5, .int hi)] := hl
  refine lv_iload_n hx hb dX11_line_0 rfl (lv_at hl 1 rfl) ?_
  refine lv_if_lt (tgt := 10) hx hb dX11_line_1 (by decide) (fun c_1 => ?_) (fun c_1 => ?_)
  · refine lv_ldc hx hb hown (hts _ (wk_in_M _ mw_171)) dX11_line_10 ?_
    exact wk_ri σ hx hb hr hlk hK hI rfl (wk_post (by unfold wk_line; rw [wk_ifF (fun hq => wk_lnl c_1 hq.1)])) dX11_line_12
  · refine lv_iload_n hx hb dX11_line_4 rfl (lv_at hl 1 rfl) ?_
    refine lv_bipush (v := 8) hx hb dX11_line_5 (by decide) ?_
    refine lv_icmp_lt (tgt := 13) hx hb dX11_line_7 (by decide) (fun c_2 => ?_) (fun c_2 => ?_)
    · obtain ⟨j, hj31, rfl⟩ := nI_of c_1
      have hj8 : j < 8 := by have hq := c_2; simp only [Int32.lt_iff_toInt_lt, Int32.le_iff_toInt_le, nI_toInt hj31, wk_lit0, wk_lit1, wk_lit2, wk_lit3, wk_lit5, wk_lit6, wk_lit7, wk_lit8, wk_lit64, wk_lit4, wk_lit12, wk_lit20, wk_lit99, wk_lit1000] at hq; omega
      refine lv_iload_n hx hb dX11_line_13 rfl (lv_at hl 2 rfl) ?_
      refine lv_iconst (v := (-1)) hx hb dX11_line_14 (by decide) ?_
      refine lv_icmp_ne (tgt := 27) hx hb dX11_line_15 (by decide) (fun c_3 => ?_) (fun c_3 => ?_)
      · refine lv_iload_n hx hb dX11_line_27 rfl (lv_at hl 2 rfl) ?_
        refine wk_kI hI hA (va_runS (As := [.int d9]) (rest := []) ⟨hx, hb, hml, hown, hts⟩ (c_X11_isDuty l D cI cJ cS ad σ d9 _) (wk_cwS 1 hts wk_in_M mw_453 mw_454 mw_34 mw_455 (hdX11_isDuty).2 ⟨(Nat.le_of_ble_eq_true rfl), (Nat.le_of_ble_eq_true rfl)⟩) (wk_preS hN hK hI) rfl rfl hl.1 rfl (lv_room (Nat.le_of_ble_eq_true rfl)) dX11_line_28 ⟨(Nat.le_of_ble_eq_true rfl), (Nat.le_of_ble_eq_true rfl)⟩) (fun r u H locs hw hI => ?_)
        obtain ⟨rfl, hw⟩ := hw
        rw [hw] at hI
        refine lv_if_eq (tgt := 65) hx hb dX11_line_31 (by decide) (fun c_4 => ?_) (fun c_4 => ?_)
        · have c_4 := wk_b0 c_4
          refine lv_ldc hx hb hown (hts _ (wk_in_M _ mw_171)) dX11_line_65 ?_
          exact wk_ri σ hx hb hr hlk hK hI rfl (wk_post (by unfold wk_line; rw [wk_ifT ⟨wk_nlt c_1, c_2⟩, wk_ifF c_3, wk_ifF (fun hq => c_4 hq.1)])) dX11_line_67
        · have c_4 := wk_b1 c_4
          refine lv_iload_n hx hb dX11_line_34 rfl (lv_at hl 2 rfl) ?_
          refine lv_iload_n hx hb dX11_line_35 rfl (lv_at hl 3 rfl) ?_
          refine wk_kI hI hA (va_runS (As := [.int d9, .int n]) (rest := []) ⟨hx, hb, hml, hown, hts⟩ (c_X11_isBeyondBound l D cI cJ cS ad σ d9 n _) (wk_cwS 2 hts wk_in_M mw_240 mw_241 mw_34 mw_242 (hdX11_isBeyondBound).2 ⟨(Nat.le_of_ble_eq_true rfl), (Nat.le_of_ble_eq_true rfl)⟩) (wk_preS hN hK hI) rfl rfl hl.1 rfl (lv_room (Nat.le_of_ble_eq_true rfl)) dX11_line_36 ⟨(Nat.le_of_ble_eq_true rfl), (Nat.le_of_ble_eq_true rfl)⟩) (fun r u H locs hw hI => ?_)
          obtain ⟨rfl, hw⟩ := hw
          rw [hw] at hI
          refine lv_if_ne (tgt := 65) hx hb dX11_line_39 (by decide) (fun c_5 => ?_) (fun c_5 => ?_)
          · have c_5 := wk_b1 c_5
            refine lv_ldc hx hb hown (hts _ (wk_in_M _ mw_171)) dX11_line_65 ?_
            exact wk_ri σ hx hb hr hlk hK hI rfl (wk_post (by unfold wk_line; rw [wk_ifT ⟨wk_nlt c_1, c_2⟩, wk_ifF c_3, wk_ifF (fun hq => c_5 hq.2.1)])) dX11_line_67
          · have c_5 := wk_b0 c_5
            refine lv_iload hx hb dX11_line_42 (lv_at hl 4 rfl) ?_
            refine wk_kI hI hA (va_runS (As := [.int lo]) (rest := []) ⟨hx, hb, hml, hown, hts⟩ (c_X11_isRank l D cI cJ cS ad σ lo _) (wk_cwS 1 hts wk_in_M mw_168 mw_169 mw_34 mw_170 (hdX11_isRank).2 ⟨(Nat.le_of_ble_eq_true rfl), (Nat.le_of_ble_eq_true rfl)⟩) (wk_preS hN hK hI) rfl rfl hl.1 rfl (lv_room (Nat.le_of_ble_eq_true rfl)) dX11_line_44 ⟨(Nat.le_of_ble_eq_true rfl), (Nat.le_of_ble_eq_true rfl)⟩) (fun r u H locs hw hI => ?_)
            obtain ⟨rfl, hw⟩ := hw
            rw [hw] at hI
            refine lv_if_eq (tgt := 65) hx hb dX11_line_47 (by decide) (fun c_6 => ?_) (fun c_6 => ?_)
            · have c_6 := wk_b0 c_6
              refine lv_ldc hx hb hown (hts _ (wk_in_M _ mw_171)) dX11_line_65 ?_
              exact wk_ri σ hx hb hr hlk hK hI rfl (wk_post (by unfold wk_line; rw [wk_ifT ⟨wk_nlt c_1, c_2⟩, wk_ifF c_3, wk_ifF (fun hq => c_6 hq.2.2.1)])) dX11_line_67
            · have c_6 := wk_b1 c_6
              refine lv_iload hx hb dX11_line_50 (lv_at hl 5 rfl) ?_
              refine wk_kI hI hA (va_runS (As := [.int hi]) (rest := []) ⟨hx, hb, hml, hown, hts⟩ (c_X11_isRank l D cI cJ cS ad σ hi _) (wk_cwS 1 hts wk_in_M mw_168 mw_169 mw_34 mw_170 (hdX11_isRank).2 ⟨(Nat.le_of_ble_eq_true rfl), (Nat.le_of_ble_eq_true rfl)⟩) (wk_preS hN hK hI) rfl rfl hl.1 rfl (lv_room (Nat.le_of_ble_eq_true rfl)) dX11_line_52 ⟨(Nat.le_of_ble_eq_true rfl), (Nat.le_of_ble_eq_true rfl)⟩) (fun r u H locs hw hI => ?_)
              obtain ⟨rfl, hw⟩ := hw
              rw [hw] at hI
              refine lv_if_eq (tgt := 65) hx hb dX11_line_55 (by decide) (fun c_7 => ?_) (fun c_7 => ?_)
              · have c_7 := wk_b0 c_7
                refine lv_ldc hx hb hown (hts _ (wk_in_M _ mw_171)) dX11_line_65 ?_
                exact wk_ri σ hx hb hr hlk hK hI rfl (wk_post (by unfold wk_line; rw [wk_ifT ⟨wk_nlt c_1, c_2⟩, wk_ifF c_3, wk_ifF (fun hq => c_7 hq.2.2.2.1)])) dX11_line_67
              · have c_7 := wk_b1 c_7
                refine lv_iload hx hb dX11_line_58 (lv_at hl 4 rfl) ?_
                refine lv_iload hx hb dX11_line_60 (lv_at hl 5 rfl) ?_
                refine lv_icmp_le (tgt := 68) hx hb dX11_line_62 (by decide) (fun c_8 => ?_) (fun c_8 => ?_)
                · refine lv_aload_n hx hb dX11_line_68 rfl (lv_at hl 0 rfl) ?_
                  refine wk_get (v := .ref (ad 3)) hx hb hts (fun w h => wk_in_M w (lay_X11 w h)) hown hK hI (0) wx_e0 rfl 2 (by decide) (hts _ (wk_in_M _ mw_147)) rfl rfl dX11_line_69 ?_
                  refine lv_iload_n hx hb dX11_line_72 rfl (lv_at hl 1 rfl) ?_
                  refine lv_iload_n hx hb dX11_line_73 rfl (lv_at hl 2 rfl) ?_
                  refine wk_iast (j := j) hx hb hK hI 3 0 wx_e3 rfl rfl (by omega) (by decide) (wx_sLd _) dX11_line_74 (fun H locs hI => ?_)
                  refine lv_aload_n hx hb dX11_line_75 rfl (lv_at hl 0 rfl) ?_
                  refine wk_get (v := .ref (ad 4)) hx hb hts (fun w h => wk_in_M w (lay_X11 w h)) hown hK hI (0) wx_e0 rfl 3 (by decide) (hts _ (wk_in_M _ mw_148)) rfl rfl dX11_line_76 ?_
                  refine lv_iload_n hx hb dX11_line_79 rfl (lv_at hl 1 rfl) ?_
                  refine lv_iload_n hx hb dX11_line_80 rfl (lv_at hl 3 rfl) ?_
                  refine wk_iast (j := j) hx hb hK hI 4 0 wx_e4 rfl rfl (by omega) (by decide) (wx_sLn _) dX11_line_81 (fun H locs hI => ?_)
                  refine lv_aload_n hx hb dX11_line_82 rfl (lv_at hl 0 rfl) ?_
                  refine wk_get (v := .ref (ad 5)) hx hb hts (fun w h => wk_in_M w (lay_X11 w h)) hown hK hI (0) wx_e0 rfl 4 (by decide) (hts _ (wk_in_M _ mw_149)) rfl rfl dX11_line_83 ?_
                  refine lv_iload_n hx hb dX11_line_86 rfl (lv_at hl 1 rfl) ?_
                  refine lv_iload hx hb dX11_line_87 (lv_at hl 4 rfl) ?_
                  refine wk_iast (j := j) hx hb hK hI 5 0 wx_e5 rfl rfl (by omega) (by decide) (wx_sLl _) dX11_line_89 (fun H locs hI => ?_)
                  refine lv_aload_n hx hb dX11_line_90 rfl (lv_at hl 0 rfl) ?_
                  refine wk_get (v := .ref (ad 6)) hx hb hts (fun w h => wk_in_M w (lay_X11 w h)) hown hK hI (0) wx_e0 rfl 5 (by decide) (hts _ (wk_in_M _ mw_150)) rfl rfl dX11_line_91 ?_
                  refine lv_iload_n hx hb dX11_line_94 rfl (lv_at hl 1 rfl) ?_
                  refine lv_iload hx hb dX11_line_95 (lv_at hl 5 rfl) ?_
                  refine wk_iast (j := j) hx hb hK hI 6 0 wx_e6 rfl rfl (by omega) (by decide) (wx_sLh _) dX11_line_97 (fun H locs hI => ?_)
                  refine lv_iconst (v := 1) hx hb dX11_line_98 (by decide) ?_
                  exact wk_ri (wk_sLh (wk_sLl (wk_sLn (wk_sLd σ (upd (wk_ld σ) j d9)) (upd (wk_ln (wk_sLd σ (upd (wk_ld σ) j d9))) j n)) (upd (wk_ll (wk_sLn (wk_sLd σ (upd (wk_ld σ) j d9)) (upd (wk_ln (wk_sLd σ (upd (wk_ld σ) j d9))) j n))) j lo)) (upd (wk_lh (wk_sLl (wk_sLn (wk_sLd σ (upd (wk_ld σ) j d9)) (upd (wk_ln (wk_sLd σ (upd (wk_ld σ) j d9))) j n)) (upd (wk_ll (wk_sLn (wk_sLd σ (upd (wk_ld σ) j d9)) (upd (wk_ln (wk_sLd σ (upd (wk_ld σ) j d9))) j n))) j lo))) j hi)) hx hb hr hlk hK hI rfl (wk_post (by unfold wk_line; rw [wk_ifT ⟨wk_nlt c_1, c_2⟩, wk_ifF c_3, wk_ifT ⟨c_4, Classical.not_not.mp c_5, c_6, c_7, c_8⟩, nI_clamp hj31]; first | done | rfl)) dX11_line_99
                · refine lv_ldc hx hb hown (hts _ (wk_in_M _ mw_171)) dX11_line_65 ?_
                  exact wk_ri σ hx hb hr hlk hK hI rfl (wk_post (by unfold wk_line; rw [wk_ifT ⟨wk_nlt c_1, c_2⟩, wk_ifF c_3, wk_ifF (fun hq => c_8 hq.2.2.2.2)])) dX11_line_67
      · refine lv_aload_n hx hb dX11_line_18 rfl (lv_at hl 0 rfl) ?_
        refine wk_get (v := .ref (ad 3)) hx hb hts (fun w h => wk_in_M w (lay_X11 w h)) hown hK hI (0) wx_e0 rfl 2 (by decide) (hts _ (wk_in_M _ mw_147)) rfl rfl dX11_line_19 ?_
        refine lv_iload_n hx hb dX11_line_22 rfl (lv_at hl 1 rfl) ?_
        refine lv_iconst (v := (-1)) hx hb dX11_line_23 (by decide) ?_
        refine wk_iast (j := j) hx hb hK hI 3 0 wx_e3 rfl rfl (by omega) (by decide) (wx_sLd _) dX11_line_24 (fun H locs hI => ?_)
        refine lv_iconst (v := 1) hx hb dX11_line_25 (by decide) ?_
        exact wk_ri (wk_sLd σ (upd (wk_ld σ) j (-1))) hx hb hr hlk hK hI rfl (wk_post (by unfold wk_line; rw [wk_ifT ⟨wk_nlt c_1, c_2⟩, wk_ifT c_3, nI_clamp hj31])) dX11_line_26
    · refine lv_ldc hx hb hown (hts _ (wk_in_M _ mw_171)) dX11_line_10 ?_
      exact wk_ri σ hx hb hr hlk hK hI rfl (wk_post (by unfold wk_line; rw [wk_ifF (fun hq => c_2 hq.2)])) dX11_line_12
