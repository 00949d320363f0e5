set_option maxHeartbeats 4000000 in
set_option maxRecDepth 100000 in
theorem c_X11_sailLine (l : Launch) (D : va_G) (cI cJ cS : ClassId) (ad : Nat → Nat) (σ : wk_St) (d9 n lo9 hi9 : Int32) (hV : wk_V σ) (hc : wk_nt σ + 336 < 2147483648) : wk_Cl l D (wk_tys cI cJ cS) yX11_sailLine (wk_M yX11_sailLine cX11_sailLine 10 (some .long)) ({ frames := 6, cells := 0, slots := 0, locals := 142 }) [.ref (ad 0), .int d9, .int n, .int lo9, .int hi9] (wx_W cI cS ad σ) (wx_W cI cS ad) (fun r0 u0 => r0 = (wk_lineL d9 n lo9 hi9 (0, σ) (wk_n σ)).1 ∧ u0 = (wk_lineL d9 n lo9 hi9 (0, σ) (wk_n σ)).2) := by
  intro sz
  refine Met.ofW (cc := cX11_sailLine) (maxL := 10) (ret := (some .long)) (by decide) rfl ?_
  intro p e s m args below meth c s₁ B hml hv
  obtain ⟨rfl, hsz, hP, hK, hD0, hN⟩ := hv
  have hx := B.exec
  have hb := B.bytes
  have hr := B.returns
  have hts := atoms_spec (ws := wk_M yX11_sailLine cX11_sailLine 10 (some .long)) B.pre
  have hown : s.vm.findClass RX11 = some m.cls := findClass_of_methodNamed B.named
  have hlk := B.notSynchronized
  subst hsz
  have hI : wk_I D (va_A (wx_W cI cS ad σ) s.heap.size) s.heap s.heap [] (wx_W cI cS ad σ) := ⟨hP, hD0.self, va_S.rf⟩
  have hA : ∀ q : Nat, s.heap.size ≤ q → (va_A (wx_W cI cS ad σ) s.heap.size) q := fun q h => Or.inr h
  clear hP hD0
  generalize va_A (wx_W cI cS ad σ) s.heap.size = A at hI hA ⊢
  have hl := lv_entry ([.ref (ad 0), .int d9, .int n, .int lo9, .int hi9]) (n := 10) (Nat.le_of_ble_eq_true rfl)
  rw [lg_entry_eq]
  generalize (lg_sl ([.ref (ad 0), .int d9, .int n, .int lo9, .int hi9]) ++ List.replicate (10 - (lg_sl ([.ref (ad 0), .int d9, .int n, .int lo9, .int hi9])).length) Slot.unset).toArray = ls at hl ⊢
  have hl : lv_has ls 10 [(0, .ref (ad 0)), (1, .int d9), (2, .int n), (3, .int lo9), (4, .int hi9)] := hl
  refine lv_lconst (v := 0) hx hb dX11_sailLine_0 (by decide) ?_
  refine lv_lstore (lv' := [(5, .long 0), (0, .ref (ad 0)), (1, .int d9), (2, .int n), (3, .int lo9), (4, .int hi9)]) hx hb dX11_sailLine_1 hl (by decide) rfl (fun ls hl => ?_)
  refine lv_aload_n hx hb dX11_sailLine_3 rfl (lv_at hl 1 rfl) ?_
  refine wk_get (v := .ref (ad 1)) hx hb hts (fun w h => wk_in_M w (lay_X11 w h)) hown hK hI (0) wx_e0 rfl 0 (by decide) (hts _ (wk_in_M _ mw_145)) rfl rfl dX11_sailLine_4 ?_
  refine wk_get (v := va_rf (wx_mp ad (wk_n σ) 0)) hx hb hts (fun w h => wk_in_M w (lay_X2 w h)) hown hK hI (1) wx_e1 rfl 0 (by decide) (hts _ (wk_in_M _ mw_64)) rfl rfl dX11_sailLine_7 ?_
  refine wk_astore (lv' := [(7, va_rf (wx_mp ad (wk_n σ) 0)), (5, .long 0), (0, .ref (ad 0)), (1, .int d9), (2, .int n), (3, .int lo9), (4, .int hi9)]) hx hb dX11_sailLine_10 hl (by decide) rfl (fun ls hl => ?_)
  refine wk_loop (fun i H locs ls => wk_I D A s.heap H locs (wx_W cI cS ad ((wk_lineL d9 n lo9 hi9 (0, σ) i).2)) ∧ lv_has ls 10 [(0, .ref (ad 0)), (1, .int d9), (2, .int n), (3, .int lo9), (4, .int hi9), (5, .long ((wk_lineL d9 n lo9 hi9 (0, σ) i).1)), (7, va_rf (wx_mp ad (wk_n σ) i))]) (wk_n σ) ?_ ?_ (wk_n σ) 0 _ _ _ (Nat.zero_add _) ⟨hI, lv_sub hl [2, 3, 4, 5, 6, 1, 0] rfl⟩
  · intro H locs ls hinv
    obtain ⟨hI, hl⟩ := hinv
    rw [wx_mpF (Nat.lt_irrefl _)] at hl
    have hl : lv_has ls 10 [(0, .ref (ad 0)), (1, .int d9), (2, .int n), (3, .int lo9), (4, .int hi9), (5, .long ((wk_lineL d9 n lo9 hi9 (0, σ) (wk_n σ)).1)), (7, .null)] := hl
    have hG_1 : wk_G σ ((wk_lineL d9 n lo9 hi9 (0, σ) (wk_n σ)).2) (28 * (wk_n σ)) := wk_g_lineL d9 n lo9 hi9 (0, σ) hV.1 (wk_n σ)
    refine lv_aloadN hx hb dX11_sailLine_12 (lv_at hl 6 rfl) ?_
    refine lv_ifnullN (tgt := 80) hx hb dX11_sailLine_14 (by decide) ?_
    refine lv_lload hx hb dX11_sailLine_80 (lv_at hl 5 rfl) ?_
    exact wk_rl ((wk_lineL d9 n lo9 hi9 (0, σ) (wk_n σ)).2) hx hb hr hlk hK hI rfl (wk_post (by first | rfl | (simp only []; done) | (simp only []; rfl))) dX11_sailLine_82
  · intro i H locs ls hi hinv ih
    obtain ⟨hI, hl⟩ := hinv
    have hiσ : i < wk_n σ := hi
    rw [wx_mpT hi] at hl
    have hl : lv_has ls 10 [(0, .ref (ad 0)), (1, .int d9), (2, .int n), (3, .int lo9), (4, .int hi9), (5, .long ((wk_lineL d9 n lo9 hi9 (0, σ) i).1)), (7, .ref (ad (16 + i)))] := hl
    have hG_2 : wk_G σ ((wk_lineL d9 n lo9 hi9 (0, σ) i).2) (28 * i) := wk_g_lineL d9 n lo9 hi9 (0, σ) hV.1 i
    refine lv_aload hx hb dX11_sailLine_12 (lv_at hl 6 rfl) ?_
    refine lv_ifnull hx hb dX11_sailLine_14 ?_
    refine lv_aload hx hb dX11_sailLine_17 (lv_at hl 6 rfl) ?_
    refine wk_get (v := .int (nI (wk_rk ((wk_lineL d9 n lo9 hi9 (0, σ) i).2) i))) hx hb hts (fun w h => wk_in_M w (lay_X6 w h)) hown hK hI (16 + i) (wx_em (hG_2.lt hiσ)) rfl 2 (by decide) (hts _ (wk_in_M _ mw_190)) rfl rfl dX11_sailLine_19 ?_
    refine lv_iload_n hx hb dX11_sailLine_22 rfl (lv_at hl 3 rfl) ?_
    refine lv_icmp_lt (tgt := 70) hx hb dX11_sailLine_23 (by decide) (fun c_3 => ?_) (fun c_3 => ?_)
    · refine lv_aload hx hb dX11_sailLine_70 (lv_at hl 6 rfl) ?_
      refine wk_get (v := va_rf (wx_mp ad (wk_n ((wk_lineL d9 n lo9 hi9 (0, σ) i).2)) (i + 1))) hx hb hts (fun w h => wk_in_M w (lay_X6 w h)) hown hK hI (16 + i) (wx_em (hG_2.lt hiσ)) rfl 6 (by decide) (hts _ (wk_in_M _ mw_204)) rfl rfl dX11_sailLine_72 ?_
      rw [show wk_n ((wk_lineL d9 n lo9 hi9 (0, σ) i).2) = wk_n σ from hG_2.n.trans rfl]
      refine wk_astore (lv' := [(7, va_rf (wx_mp ad (wk_n σ) (i + 1))), (0, .ref (ad 0)), (1, .int d9), (2, .int n), (3, .int lo9), (4, .int hi9), (5, .long ((wk_lineL d9 n lo9 hi9 (0, σ) i).1))]) hx hb dX11_sailLine_75 hl (by decide) rfl (fun ls hl => ?_)
      refine lv_goto (tgt := 12) hx hb dX11_sailLine_77 (by decide) ?_
      have e1 : wk_lineL d9 n lo9 hi9 (0, σ) (i + 1) = ((wk_lineL d9 n lo9 hi9 (0, σ) i).1, (wk_lineL d9 n lo9 hi9 (0, σ) i).2) := by rw [wk_lineL]; rw [if_neg (fun hq => wk_lnl c_3 hq.1)]
      exact ih _ _ _ (by rw [e1]; exact ⟨hI, lv_sub hl [1, 2, 3, 4, 5, 6, 0] rfl⟩)
    · refine lv_aload hx hb dX11_sailLine_26 (lv_at hl 6 rfl) ?_
      refine wk_get (v := .int (nI (wk_rk ((wk_lineL d9 n lo9 hi9 (0, σ) i).2) i))) hx hb hts (fun w h => wk_in_M w (lay_X6 w h)) hown hK hI (16 + i) (wx_em (hG_2.lt hiσ)) rfl 2 (by decide) (hts _ (wk_in_M _ mw_190)) rfl rfl dX11_sailLine_28 ?_
      refine lv_iload hx hb dX11_sailLine_31 (lv_at hl 4 rfl) ?_
      refine lv_icmp_gt (tgt := 70) hx hb dX11_sailLine_33 (by decide) (fun c_4 => ?_) (fun c_4 => ?_)
      · refine lv_aload hx hb dX11_sailLine_70 (lv_at hl 6 rfl) ?_
        refine wk_get (v := va_rf (wx_mp ad (wk_n ((wk_lineL d9 n lo9 hi9 (0, σ) i).2)) (i + 1))) hx hb hts (fun w h => wk_in_M w (lay_X6 w h)) hown hK hI (16 + i) (wx_em (hG_2.lt hiσ)) rfl 6 (by decide) (hts _ (wk_in_M _ mw_204)) rfl rfl dX11_sailLine_72 ?_
        rw [show wk_n ((wk_lineL d9 n lo9 hi9 (0, σ) i).2) = wk_n σ from hG_2.n.trans rfl]
        refine wk_astore (lv' := [(7, va_rf (wx_mp ad (wk_n σ) (i + 1))), (0, .ref (ad 0)), (1, .int d9), (2, .int n), (3, .int lo9), (4, .int hi9), (5, .long ((wk_lineL d9 n lo9 hi9 (0, σ) i).1))]) hx hb dX11_sailLine_75 hl (by decide) rfl (fun ls hl => ?_)
        refine lv_goto (tgt := 12) hx hb dX11_sailLine_77 (by decide) ?_
        have e1 : wk_lineL d9 n lo9 hi9 (0, σ) (i + 1) = ((wk_lineL d9 n lo9 hi9 (0, σ) i).1, (wk_lineL d9 n lo9 hi9 (0, σ) i).2) := by rw [wk_lineL]; rw [if_neg (fun hq => wk_lnl c_4 hq.2)]
        exact ih _ _ _ (by rw [e1]; exact ⟨hI, lv_sub hl [1, 2, 3, 4, 5, 6, 0] rfl⟩)
      · refine lv_aload_n hx hb dX11_sailLine_36 rfl (lv_at hl 0 rfl) ?_
        refine lv_aload hx hb dX11_sailLine_37 (lv_at hl 6 rfl) ?_
        refine lv_iload_n hx hb dX11_sailLine_39 rfl (lv_at hl 1 rfl) ?_
        refine lv_iload_n hx hb dX11_sailLine_40 rfl (lv_at hl 2 rfl) ?_
        refine wk_kL hI hA (va_runV (As := [.ref (ad (16 + i)), .int d9, .int n]) (rest := []) ⟨hx, hb, hml, hown, hts⟩ (c_X11_doDuty l D cI cJ cS ad ((wk_lineL d9 n lo9 hi9 (0, σ) i).2) i d9 n (hG_2.V hV) (hG_2.lt hiσ) (by have hq := hG_2.nt; have hq12 := hV.1; omega) _) (wk_cwV 3 hts wk_in_M mw_456 mw_458 mw_1 mw_34 mw_459 hdX11_doDuty ⟨(Nat.le_of_ble_eq_true rfl), (Nat.le_of_ble_eq_true rfl)⟩) (wk_preV hN hK hI (ci := 10) rfl wx_e0) rfl rfl hl.1 rfl (lv_room (Nat.le_of_ble_eq_true rfl)) dX11_sailLine_41 ⟨(Nat.le_of_ble_eq_true rfl), (Nat.le_of_ble_eq_true rfl)⟩) (fun r u H locs hw hI => ?_)
        obtain ⟨rfl, rfl⟩ := hw
        have hG_5 : wk_G σ ((wk_do d9 ((wk_lineL d9 n lo9 hi9 (0, σ) i).2) i n).2) ((28 * i) + 28) := hG_2.trans (wk_g_do d9 ((wk_lineL d9 n lo9 hi9 (0, σ) i).2) i n (hG_2.V hV).1)
        refine lv_lstore (lv' := [(8, .long ((wk_do d9 ((wk_lineL d9 n lo9 hi9 (0, σ) i).2) i n).1)), (0, .ref (ad 0)), (1, .int d9), (2, .int n), (3, .int lo9), (4, .int hi9), (5, .long ((wk_lineL d9 n lo9 hi9 (0, σ) i).1)), (7, .ref (ad (16 + i)))]) hx hb dX11_sailLine_44 hl (by decide) rfl (fun ls hl => ?_)
        refine lv_iload_n hx hb dX11_sailLine_46 rfl (lv_at hl 2 rfl) ?_
        refine lv_iconst (v := 1) hx hb dX11_sailLine_47 (by decide) ?_
        refine lv_icmp_ne (tgt := 63) hx hb dX11_sailLine_48 (by decide) (fun c_6 => ?_) (fun c_6 => ?_)
        · refine lv_lload hx hb dX11_sailLine_63 (lv_at hl 6 rfl) ?_
          refine lv_lload hx hb dX11_sailLine_65 (lv_at hl 0 rfl) ?_
          refine lv_ladd hx hb dX11_sailLine_67 ?_
          refine lv_lstore (lv' := [(5, .long (((wk_lineL d9 n lo9 hi9 (0, σ) i).1) + ((wk_do d9 ((wk_lineL d9 n lo9 hi9 (0, σ) i).2) i n).1))), (8, .long ((wk_do d9 ((wk_lineL d9 n lo9 hi9 (0, σ) i).2) i n).1)), (0, .ref (ad 0)), (1, .int d9), (2, .int n), (3, .int lo9), (4, .int hi9), (7, .ref (ad (16 + i)))]) hx hb dX11_sailLine_68 hl (by decide) rfl (fun ls hl => ?_)
          refine lv_aload hx hb dX11_sailLine_70 (lv_at hl 7 rfl) ?_
          refine wk_get (v := va_rf (wx_mp ad (wk_n ((wk_do d9 ((wk_lineL d9 n lo9 hi9 (0, σ) i).2) i n).2)) (i + 1))) hx hb hts (fun w h => wk_in_M w (lay_X6 w h)) hown hK hI (16 + i) (wx_em (hG_5.lt hiσ)) rfl 6 (by decide) (hts _ (wk_in_M _ mw_204)) rfl rfl dX11_sailLine_72 ?_
          rw [show wk_n ((wk_do d9 ((wk_lineL d9 n lo9 hi9 (0, σ) i).2) i n).2) = wk_n σ from hG_5.n.trans rfl]
          refine wk_astore (lv' := [(7, va_rf (wx_mp ad (wk_n σ) (i + 1))), (5, .long (((wk_lineL d9 n lo9 hi9 (0, σ) i).1) + ((wk_do d9 ((wk_lineL d9 n lo9 hi9 (0, σ) i).2) i n).1))), (8, .long ((wk_do d9 ((wk_lineL d9 n lo9 hi9 (0, σ) i).2) i n).1)), (0, .ref (ad 0)), (1, .int d9), (2, .int n), (3, .int lo9), (4, .int hi9)]) hx hb dX11_sailLine_75 hl (by decide) rfl (fun ls hl => ?_)
          refine lv_goto (tgt := 12) hx hb dX11_sailLine_77 (by decide) ?_
          have e1 : wk_lineL d9 n lo9 hi9 (0, σ) (i + 1) = (((wk_lineL d9 n lo9 hi9 (0, σ) i).1) + ((wk_do d9 ((wk_lineL d9 n lo9 hi9 (0, σ) i).2) i n).1), (wk_do d9 ((wk_lineL d9 n lo9 hi9 (0, σ) i).2) i n).2) := by rw [wk_lineL]; rw [if_pos ⟨wk_nlt c_3, wk_nlt c_4⟩]; unfold wk_gain; rw [if_neg c_6]
          exact ih _ _ _ (by rw [e1]; exact ⟨hI, lv_sub hl [3, 4, 5, 6, 7, 1, 0] rfl⟩)
        · refine lv_aload hx hb dX11_sailLine_51 (lv_at hl 7 rfl) ?_
          refine lv_dup hx hb dX11_sailLine_53 rfl ?_
          refine wk_get (v := .long (wk_pu ((wk_do d9 ((wk_lineL d9 n lo9 hi9 (0, σ) i).2) i n).2) i)) hx hb hts (fun w h => wk_in_M w (lay_X6 w h)) hown hK hI (16 + i) (wx_em (hG_5.lt hiσ)) rfl 5 (by decide) (hts _ (wk_in_M _ mw_200)) rfl rfl dX11_sailLine_54 ?_
          refine lv_lload hx hb dX11_sailLine_57 (lv_at hl 0 rfl) ?_
          refine lv_ladd hx hb dX11_sailLine_59 ?_
          refine wk_put (v := .long ((wk_pu ((wk_do d9 ((wk_lineL d9 n lo9 hi9 (0, σ) i).2) i n).2) i) + ((wk_do d9 ((wk_lineL d9 n lo9 hi9 (0, σ) i).2) i n).1))) (ty := .long) hx hb hts (fun w h => wk_in_M w (lay_X6 w h)) tyX6 tyX6_ok nmX6 hown hK hI (16 + i) (wx_em (hG_5.lt hiσ)) rfl 5 (by decide) (hts _ (wk_in_M _ mw_200)) rfl rfl (by decide +kernel) rfl rfl (Nat.le_of_ble_eq_true rfl) (wx_sPu (hG_5.lt hiσ) _) dX11_sailLine_60 (fun H locs hI => ?_)
          refine lv_lload hx hb dX11_sailLine_63 (lv_at hl 6 rfl) ?_
          refine lv_lload hx hb dX11_sailLine_65 (lv_at hl 0 rfl) ?_
          refine lv_ladd hx hb dX11_sailLine_67 ?_
          refine lv_lstore (lv' := [(5, .long (((wk_lineL d9 n lo9 hi9 (0, σ) i).1) + ((wk_do d9 ((wk_lineL d9 n lo9 hi9 (0, σ) i).2) i n).1))), (8, .long ((wk_do d9 ((wk_lineL d9 n lo9 hi9 (0, σ) i).2) i n).1)), (0, .ref (ad 0)), (1, .int d9), (2, .int n), (3, .int lo9), (4, .int hi9), (7, .ref (ad (16 + i)))]) hx hb dX11_sailLine_68 hl (by decide) rfl (fun ls hl => ?_)
          refine lv_aload hx hb dX11_sailLine_70 (lv_at hl 7 rfl) ?_
          refine wk_get (v := va_rf (wx_mp ad (wk_n (wk_sPu ((wk_do d9 ((wk_lineL d9 n lo9 hi9 (0, σ) i).2) i n).2) (vp_updL (wk_pu ((wk_do d9 ((wk_lineL d9 n lo9 hi9 (0, σ) i).2) i n).2)) i ((wk_pu ((wk_do d9 ((wk_lineL d9 n lo9 hi9 (0, σ) i).2) i n).2) i) + ((wk_do d9 ((wk_lineL d9 n lo9 hi9 (0, σ) i).2) i n).1))))) (i + 1))) hx hb hts (fun w h => wk_in_M w (lay_X6 w h)) hown hK hI (16 + i) (wx_em (hG_5.lt hiσ)) rfl 6 (by decide) (hts _ (wk_in_M _ mw_204)) rfl rfl dX11_sailLine_72 ?_
          rw [show wk_n (wk_sPu ((wk_do d9 ((wk_lineL d9 n lo9 hi9 (0, σ) i).2) i n).2) (vp_updL (wk_pu ((wk_do d9 ((wk_lineL d9 n lo9 hi9 (0, σ) i).2) i n).2)) i ((wk_pu ((wk_do d9 ((wk_lineL d9 n lo9 hi9 (0, σ) i).2) i n).2) i) + ((wk_do d9 ((wk_lineL d9 n lo9 hi9 (0, σ) i).2) i n).1)))) = wk_n σ from hG_5.n.trans rfl]
          refine wk_astore (lv' := [(7, va_rf (wx_mp ad (wk_n σ) (i + 1))), (5, .long (((wk_lineL d9 n lo9 hi9 (0, σ) i).1) + ((wk_do d9 ((wk_lineL d9 n lo9 hi9 (0, σ) i).2) i n).1))), (8, .long ((wk_do d9 ((wk_lineL d9 n lo9 hi9 (0, σ) i).2) i n).1)), (0, .ref (ad 0)), (1, .int d9), (2, .int n), (3, .int lo9), (4, .int hi9)]) hx hb dX11_sailLine_75 hl (by decide) rfl (fun ls hl => ?_)
          refine lv_goto (tgt := 12) hx hb dX11_sailLine_77 (by decide) ?_
          have e1 : wk_lineL d9 n lo9 hi9 (0, σ) (i + 1) = (((wk_lineL d9 n lo9 hi9 (0, σ) i).1) + ((wk_do d9 ((wk_lineL d9 n lo9 hi9 (0, σ) i).2) i n).1), wk_sPu ((wk_do d9 ((wk_lineL d9 n lo9 hi9 (0, σ) i).2) i n).2) (vp_updL (wk_pu ((wk_do d9 ((wk_lineL d9 n lo9 hi9 (0, σ) i).2) i n).2)) i ((wk_pu ((wk_do d9 ((wk_lineL d9 n lo9 hi9 (0, σ) i).2) i n).2) i) + ((wk_do d9 ((wk_lineL d9 n lo9 hi9 (0, σ) i).2) i n).1)))) := by rw [wk_lineL]; rw [if_pos ⟨wk_nlt c_3, wk_nlt c_4⟩]; unfold wk_gain; rw [if_pos c_6]
          exact ih _ _ _ (by rw [e1]; exact ⟨hI, lv_sub hl [3, 4, 5, 6, 7, 1, 0] rfl⟩)
set_option maxHeartbeats 4000000 in
set_option maxRecDepth 100000 in
theorem c_X11_sail (l : Launch) (D : va_G) (cI cJ cS : ClassId) (ad : Nat → Nat) (σ : wk_St) (t9 : Int32) (hV : wk_V σ) : wk_Cl l D (wk_tys cI cJ cS) yX11_sail (wk_M yX11_sail cX11_sail 6 (some .long)) ({ frames := 7, cells := 0, slots := 0, locals := 171 }) [.ref (ad 0), .int t9] (wx_W cI cS ad σ) (wx_W cI cS ad) (fun r0 u0 => r0 = (wk_sail σ t9).1 ∧ u0 = (wk_sail σ t9).2) := by
  intro sz
  refine Met.ofW (cc := cX11_sail) (maxL := 6) (ret := (some .long)) (by decide) rfl ?_
  intro p e s m args below meth c s₁ B hml hv
  obtain ⟨rfl, hsz, hP, hK, hD0, hN⟩ := hv
  have hx := B.exec
  have hb := B.bytes
  have hr := B.returns
  have hts := atoms_spec (ws := wk_M yX11_sail cX11_sail 6 (some .long)) B.pre
  have hown : s.vm.findClass RX11 = some m.cls := findClass_of_methodNamed B.named
  have hlk := B.notSynchronized
  subst hsz
  have hI : wk_I D (va_A (wx_W cI cS ad σ) s.heap.size) s.heap s.heap [] (wx_W cI cS ad σ) := ⟨hP, hD0.self, va_S.rf⟩
  have hA : ∀ q : Nat, s.heap.size ≤ q → (va_A (wx_W cI cS ad σ) s.heap.size) q := fun q h => Or.inr h
  clear hP hD0
  generalize va_A (wx_W cI cS ad σ) s.heap.size = A at hI hA ⊢
  have hl := lv_entry ([.ref (ad 0), .int t9]) (n := 6) (Nat.le_of_ble_eq_true rfl)
  rw [lg_entry_eq]
  generalize (lg_sl ([.ref (ad 0), .int t9]) ++ List.replicate (6 - (lg_sl ([.ref (ad 0), .int t9])).length) Slot.unset).toArray = ls at hl ⊢
  have hl : lv_has ls 6 [(0, .ref (ad 0)), (1, .int t9)] := hl
  refine lv_iload_n hx hb dX11_sail_0 rfl (lv_at hl 1 rfl) ?_
  refine wk_kI hI hA (va_runS (As := [.int t9]) (rest := []) ⟨hx, hb, hml, hown, hts⟩ (c_X11_isTimes l D cI cJ cS ad σ t9 _) (wk_cwS 1 hts wk_in_M mw_410 mw_411 mw_34 mw_412 (hdX11_isTimes).2 ⟨(Nat.le_of_ble_eq_true rfl), (Nat.le_of_ble_eq_true rfl)⟩) (wk_preS hN hK hI) rfl rfl hl.1 rfl (lv_room (Nat.le_of_ble_eq_true rfl)) dX11_sail_1 ⟨(Nat.le_of_ble_eq_true rfl), (Nat.le_of_ble_eq_true rfl)⟩) (fun r u H locs hw hI => ?_)
  obtain ⟨rfl, hw⟩ := hw
  rw [hw] at hI
  refine lv_if_ne (tgt := 11) hx hb dX11_sail_4 (by decide) (fun c_1 => ?_) (fun c_1 => ?_)
  · have c_1 := wk_b1 c_1
    obtain ⟨T, hT, rfl⟩ := nI_of2 (x := t9) (M := 20) (n := 20) (by decide) (fun q => wk_lnl q c_1.1) c_1.2
    refine lv_aload_n hx hb dX11_sail_11 rfl (lv_at hl 0 rfl) ?_
    refine wk_get (v := .ref (ad 1)) hx hb hts (fun w h => wk_in_M w (lay_X11 w h)) hown hK hI (0) wx_e0 rfl 0 (by decide) (hts _ (wk_in_M _ mw_145)) rfl rfl dX11_sail_12 ?_
    refine wk_kV hI hA (va_runV (As := []) (rest := []) ⟨hx, hb, hml, hown, hts⟩ (c_X2_forgetNotes l D cI cJ cS ad σ _) (wk_cwV 0 hts wk_in_M mw_247 mw_248 mw_249 mw_35 mw_250 hdX2_forgetNotes ⟨(Nat.le_of_ble_eq_true rfl), (Nat.le_of_ble_eq_true rfl)⟩) (wk_preV hN hK hI (ci := 2) rfl wx_e1) rfl rfl hl.1 rfl (lv_room (Nat.le_of_ble_eq_true rfl)) dX11_sail_15 ⟨(Nat.le_of_ble_eq_true rfl), (Nat.le_of_ble_eq_true rfl)⟩) (fun u H locs hw hI => ?_)
    obtain rfl := hw
    refine lv_lconst (v := 0) hx hb dX11_sail_18 (by decide) ?_
    refine lv_lstore_n (lv' := [(2, .long 0), (0, .ref (ad 0)), (1, .int (nI T))]) hx hb dX11_sail_19 rfl hl (by decide) rfl (fun ls hl => ?_)
    refine lv_iconst (v := 0) hx hb dX11_sail_20 (by decide) ?_
    refine lv_istore (lv' := [(4, .int 0), (2, .long 0), (0, .ref (ad 0)), (1, .int (nI T))]) hx hb dX11_sail_21 hl (by decide) rfl (fun ls hl => ?_)
    refine wk_loop (fun i H locs ls => wk_I D A s.heap H locs (wx_W cI cS ad ((wk_sailT (0, wk_fg σ) i).2)) ∧ lv_has ls 6 [(0, .ref (ad 0)), (1, .int (nI T)), (2, .long ((wk_sailT (0, wk_fg σ) i).1)), (4, .int (nI i))]) (T) ?_ ?_ (T) 0 _ _ _ (Nat.zero_add _) ⟨hI, lv_sub hl [2, 3, 1, 0] rfl⟩
    · intro H locs ls hinv
      obtain ⟨hI, hl⟩ := hinv
      have hG_3 : wk_G (wk_fg σ) ((wk_sailT (0, wk_fg σ) T).2) (2688 * T) := wk_g_sailT (0, wk_fg σ) hV.1 T
      refine lv_iload hx hb dX11_sail_23 (lv_at hl 3 rfl) ?_
      refine lv_iload_n hx hb dX11_sail_25 rfl (lv_at hl 1 rfl) ?_
      refine lv_icmp_ge (tgt := 97) hx hb dX11_sail_26 (by decide) (fun c_4 => ?_) (fun c_4 => ?_)
      · refine lv_lload_n hx hb dX11_sail_97 rfl (lv_at hl 2 rfl) ?_
        exact wk_rl ((wk_sailT (0, wk_fg σ) T).2) hx hb hr hlk hK hI rfl (wk_post (by unfold wk_sail; rw [wk_ifT c_1, nI_clamp (by omega)]; first | done | rfl)) dX11_sail_98
      · exact absurd (by simp only [Int32.lt_iff_toInt_lt, Int32.le_iff_toInt_le, nI_toInt (show T < 2 ^ 31 by omega), nI_toInt (show T < 2 ^ 31 by omega)]; omega) c_4
    · intro i_2 H locs ls hi_i_2 hinv ih_i_2
      obtain ⟨hI, hl⟩ := hinv
      have hG_5 : wk_G (wk_fg σ) ((wk_sailT (0, wk_fg σ) i_2).2) (2688 * i_2) := wk_g_sailT (0, wk_fg σ) hV.1 i_2
      refine lv_iload hx hb dX11_sail_23 (lv_at hl 3 rfl) ?_
      refine lv_iload_n hx hb dX11_sail_25 rfl (lv_at hl 1 rfl) ?_
      refine lv_icmp_ge (tgt := 97) hx hb dX11_sail_26 (by decide) (fun c_6 => ?_) (fun c_6 => ?_)
      · exact absurd c_6 (by simp only [Int32.lt_iff_toInt_lt, Int32.le_iff_toInt_le, nI_toInt (show T < 2 ^ 31 by omega), nI_toInt (show i_2 < 2 ^ 31 by omega)]; omega)
      · refine lv_iconst (v := 0) hx hb dX11_sail_29 (by decide) ?_
        refine lv_istore (lv' := [(5, .int 0), (0, .ref (ad 0)), (1, .int (nI T)), (2, .long ((wk_sailT (0, wk_fg σ) i_2).1)), (4, .int (nI i_2))]) hx hb dX11_sail_30 hl (by decide) rfl (fun ls hl => ?_)
        refine wk_loop (fun i H locs ls => wk_I D A s.heap H locs (wx_W cI cS ad ((wk_sailI (wk_sailT (0, wk_fg σ) i_2) i).2)) ∧ lv_has ls 6 [(0, .ref (ad 0)), (1, .int (nI T)), (4, .int (nI i_2)), (2, .long ((wk_sailI (wk_sailT (0, wk_fg σ) i_2) i).1)), (5, .int (nI i))]) (8) ?_ ?_ (8) 0 _ _ _ (Nat.zero_add _) ⟨hI, lv_sub hl [1, 2, 4, 3, 0] rfl⟩
        · intro H locs ls hinv
          obtain ⟨hI, hl⟩ := hinv
          have hG_8 : wk_G (wk_fg σ) ((wk_sailI (wk_sailT (0, wk_fg σ) i_2) 8).2) ((2688 * i_2) + (336 * 8)) := hG_5.trans (wk_g_sailI (wk_sailT (0, wk_fg σ) i_2) (by rw [hG_5.n]; exact hV.1) 8)
          refine lv_iload hx hb dX11_sail_32 (lv_at hl 4 rfl) ?_
          refine lv_bipush (v := 8) hx hb dX11_sail_34 (by decide) ?_
          refine lv_icmp_ge (tgt := 91) hx hb dX11_sail_36 (by decide) (fun c_9 => ?_) (fun c_9 => ?_)
          · refine lv_iinc (v := nI (i_2 + 1)) (lv' := [(4, .int (nI (i_2 + 1))), (0, .ref (ad 0)), (1, .int (nI T)), (2, .long ((wk_sailI (wk_sailT (0, wk_fg σ) i_2) 8).1)), (5, .int (nI 8))]) hx hb dX11_sail_91 hl (k := 2) rfl (nI_1 _) (by decide) rfl (fun ls hl => ?_)
            refine lv_goto (tgt := 23) hx hb dX11_sail_94 (by decide) ?_
            exact ih_i_2 _ _ _ ⟨hI, lv_sub hl [1, 2, 3, 0] rfl⟩
          · exact absurd (by simp only [Int32.lt_iff_toInt_lt, Int32.le_iff_toInt_le, nI_toInt (show 8 < 2 ^ 31 by omega), wk_lit8]; omega) c_9
        · intro i_7 H locs ls hi_i_7 hinv ih_i_7
          obtain ⟨hI, hl⟩ := hinv
          have hG_10 : wk_G (wk_fg σ) ((wk_sailI (wk_sailT (0, wk_fg σ) i_2) i_7).2) ((2688 * i_2) + (336 * i_7)) := hG_5.trans (wk_g_sailI (wk_sailT (0, wk_fg σ) i_2) (by rw [hG_5.n]; exact hV.1) i_7)
          refine lv_iload hx hb dX11_sail_32 (lv_at hl 4 rfl) ?_
          refine lv_bipush (v := 8) hx hb dX11_sail_34 (by decide) ?_
          refine lv_icmp_ge (tgt := 91) hx hb dX11_sail_36 (by decide) (fun c_11 => ?_) (fun c_11 => ?_)
          · exact absurd c_11 (by simp only [Int32.lt_iff_toInt_lt, Int32.le_iff_toInt_le, nI_toInt (show i_7 < 2 ^ 31 by omega), wk_lit8]; omega)
          · refine lv_aload_n hx hb dX11_sail_39 rfl (lv_at hl 0 rfl) ?_
            refine wk_get (v := .ref (ad 3)) hx hb hts (fun w h => wk_in_M w (lay_X11 w h)) hown hK hI (0) wx_e0 rfl 2 (by decide) (hts _ (wk_in_M _ mw_147)) rfl rfl dX11_sail_40 ?_
            refine lv_iload hx hb dX11_sail_43 (lv_at hl 4 rfl) ?_
            refine wk_iald (v := (wk_ld ((wk_sailI (wk_sailT (0, wk_fg σ) i_2) i_7).2) i_7)) (j := i_7) hx hb hK hI 3 0 wx_e3 rfl rfl (by omega) (by decide) rfl dX11_sail_45 ?_
            refine lv_iconst (v := (-1)) hx hb dX11_sail_46 (by decide) ?_
            refine lv_icmp_eq (tgt := 85) hx hb dX11_sail_47 (by decide) (fun c_12 => ?_) (fun c_12 => ?_)
            · refine lv_iinc (v := nI (i_7 + 1)) (lv' := [(5, .int (nI (i_7 + 1))), (0, .ref (ad 0)), (1, .int (nI T)), (4, .int (nI i_2)), (2, .long ((wk_sailI (wk_sailT (0, wk_fg σ) i_2) i_7).1))]) hx hb dX11_sail_85 hl (k := 4) rfl (nI_1 _) (by decide) rfl (fun ls hl => ?_)
              refine lv_goto (tgt := 32) hx hb dX11_sail_88 (by decide) ?_
              have e1 : wk_sailI (wk_sailT (0, wk_fg σ) i_2) (i_7 + 1) = ((wk_sailI (wk_sailT (0, wk_fg σ) i_2) i_7).1, (wk_sailI (wk_sailT (0, wk_fg σ) i_2) i_7).2) := by rw [wk_sailI]; rw [if_pos c_12]
              exact ih_i_7 _ _ _ (by rw [e1]; exact ⟨hI, lv_sub hl [1, 2, 3, 4, 0] rfl⟩)
            · refine lv_lload_n hx hb dX11_sail_50 rfl (lv_at hl 3 rfl) ?_
              refine lv_aload_n hx hb dX11_sail_51 rfl (lv_at hl 0 rfl) ?_
              refine lv_aload_n hx hb dX11_sail_52 rfl (lv_at hl 0 rfl) ?_
              refine wk_get (v := .ref (ad 3)) hx hb hts (fun w h => wk_in_M w (lay_X11 w h)) hown hK hI (0) wx_e0 rfl 2 (by decide) (hts _ (wk_in_M _ mw_147)) rfl rfl dX11_sail_53 ?_
              refine lv_iload hx hb dX11_sail_56 (lv_at hl 4 rfl) ?_
              refine wk_iald (v := (wk_ld ((wk_sailI (wk_sailT (0, wk_fg σ) i_2) i_7).2) i_7)) (j := i_7) hx hb hK hI 3 0 wx_e3 rfl rfl (by omega) (by decide) rfl dX11_sail_58 ?_
              refine lv_aload_n hx hb dX11_sail_59 rfl (lv_at hl 0 rfl) ?_
              refine wk_get (v := .ref (ad 4)) hx hb hts (fun w h => wk_in_M w (lay_X11 w h)) hown hK hI (0) wx_e0 rfl 3 (by decide) (hts _ (wk_in_M _ mw_148)) rfl rfl dX11_sail_60 ?_
              refine lv_iload hx hb dX11_sail_63 (lv_at hl 4 rfl) ?_
              refine wk_iald (v := (wk_ln ((wk_sailI (wk_sailT (0, wk_fg σ) i_2) i_7).2) i_7)) (j := i_7) hx hb hK hI 4 0 wx_e4 rfl rfl (by omega) (by decide) rfl dX11_sail_65 ?_
              refine lv_aload_n hx hb dX11_sail_66 rfl (lv_at hl 0 rfl) ?_
              refine wk_get (v := .ref (ad 5)) hx hb hts (fun w h => wk_in_M w (lay_X11 w h)) hown hK hI (0) wx_e0 rfl 4 (by decide) (hts _ (wk_in_M _ mw_149)) rfl rfl dX11_sail_67 ?_
              refine lv_iload hx hb dX11_sail_70 (lv_at hl 4 rfl) ?_
              refine wk_iald (v := (wk_ll ((wk_sailI (wk_sailT (0, wk_fg σ) i_2) i_7).2) i_7)) (j := i_7) hx hb hK hI 5 0 wx_e5 rfl rfl (by omega) (by decide) rfl dX11_sail_72 ?_
              refine lv_aload_n hx hb dX11_sail_73 rfl (lv_at hl 0 rfl) ?_
              refine wk_get (v := .ref (ad 6)) hx hb hts (fun w h => wk_in_M w (lay_X11 w h)) hown hK hI (0) wx_e0 rfl 5 (by decide) (hts _ (wk_in_M _ mw_150)) rfl rfl dX11_sail_74 ?_
              refine lv_iload hx hb dX11_sail_77 (lv_at hl 4 rfl) ?_
              refine wk_iald (v := (wk_lh ((wk_sailI (wk_sailT (0, wk_fg σ) i_2) i_7).2) i_7)) (j := i_7) hx hb hK hI 6 0 wx_e6 rfl rfl (by omega) (by decide) rfl dX11_sail_79 ?_
              refine wk_kL hI hA (va_runV (As := [.int (wk_ld ((wk_sailI (wk_sailT (0, wk_fg σ) i_2) i_7).2) i_7), .int (wk_ln ((wk_sailI (wk_sailT (0, wk_fg σ) i_2) i_7).2) i_7), .int (wk_ll ((wk_sailI (wk_sailT (0, wk_fg σ) i_2) i_7).2) i_7), .int (wk_lh ((wk_sailI (wk_sailT (0, wk_fg σ) i_2) i_7).2) i_7)]) (rest := [.long ((wk_sailI (wk_sailT (0, wk_fg σ) i_2) i_7).1)]) ⟨hx, hb, hml, hown, hts⟩ (c_X11_sailLine l D cI cJ cS ad ((wk_sailI (wk_sailT (0, wk_fg σ) i_2) i_7).2) (wk_ld ((wk_sailI (wk_sailT (0, wk_fg σ) i_2) i_7).2) i_7) (wk_ln ((wk_sailI (wk_sailT (0, wk_fg σ) i_2) i_7).2) i_7) (wk_ll ((wk_sailI (wk_sailT (0, wk_fg σ) i_2) i_7).2) i_7) (wk_lh ((wk_sailI (wk_sailT (0, wk_fg σ) i_2) i_7).2) i_7) (hG_10.V hV) (by have hq := hG_10.nt; have hq0 : wk_nt (wk_fg σ) = 0 := rfl; have hq12 : wk_n (wk_fg σ) ≤ 12 := hV.1; omega) _) (wk_cwV 4 hts wk_in_M mw_468 mw_470 mw_2 mw_34 mw_471 hdX11_sailLine ⟨(Nat.le_of_ble_eq_true rfl), (Nat.le_of_ble_eq_true rfl)⟩) (wk_preV hN hK hI (ci := 10) rfl wx_e0) rfl rfl hl.1 rfl (lv_room (Nat.le_of_ble_eq_true rfl)) dX11_sail_80 ⟨(Nat.le_of_ble_eq_true rfl), (Nat.le_of_ble_eq_true rfl)⟩) (fun r u H locs hw hI => ?_)
              obtain ⟨rfl, rfl⟩ := hw
              have hG_13 : wk_G (wk_fg σ) ((wk_lineL (wk_ld ((wk_sailI (wk_sailT (0, wk_fg σ) i_2) i_7).2) i_7) (wk_ln ((wk_sailI (wk_sailT (0, wk_fg σ) i_2) i_7).2) i_7) (wk_ll ((wk_sailI (wk_sailT (0, wk_fg σ) i_2) i_7).2) i_7) (wk_lh ((wk_sailI (wk_sailT (0, wk_fg σ) i_2) i_7).2) i_7) (0, (wk_sailI (wk_sailT (0, wk_fg σ) i_2) i_7).2) (wk_n ((wk_sailI (wk_sailT (0, wk_fg σ) i_2) i_7).2))).2) (((2688 * i_2) + (336 * i_7)) + (28 * wk_n ((wk_sailI (wk_sailT (0, wk_fg σ) i_2) i_7).2))) := hG_10.trans (wk_g_lineL (wk_ld ((wk_sailI (wk_sailT (0, wk_fg σ) i_2) i_7).2) i_7) (wk_ln ((wk_sailI (wk_sailT (0, wk_fg σ) i_2) i_7).2) i_7) (wk_ll ((wk_sailI (wk_sailT (0, wk_fg σ) i_2) i_7).2) i_7) (wk_lh ((wk_sailI (wk_sailT (0, wk_fg σ) i_2) i_7).2) i_7) (0, (wk_sailI (wk_sailT (0, wk_fg σ) i_2) i_7).2) (hG_10.V hV).1 (wk_n ((wk_sailI (wk_sailT (0, wk_fg σ) i_2) i_7).2)))
              refine lv_ladd hx hb dX11_sail_83 ?_
              refine lv_lstore_n (lv' := [(2, .long (((wk_sailI (wk_sailT (0, wk_fg σ) i_2) i_7).1) + ((wk_lineL (wk_ld ((wk_sailI (wk_sailT (0, wk_fg σ) i_2) i_7).2) i_7) (wk_ln ((wk_sailI (wk_sailT (0, wk_fg σ) i_2) i_7).2) i_7) (wk_ll ((wk_sailI (wk_sailT (0, wk_fg σ) i_2) i_7).2) i_7) (wk_lh ((wk_sailI (wk_sailT (0, wk_fg σ) i_2) i_7).2) i_7) (0, (wk_sailI (wk_sailT (0, wk_fg σ) i_2) i_7).2) (wk_n ((wk_sailI (wk_sailT (0, wk_fg σ) i_2) i_7).2))).1))), (0, .ref (ad 0)), (1, .int (nI T)), (4, .int (nI i_2)), (5, .int (nI i_7))]) hx hb dX11_sail_84 rfl hl (by decide) rfl (fun ls hl => ?_)
              refine lv_iinc (v := nI (i_7 + 1)) (lv' := [(5, .int (nI (i_7 + 1))), (2, .long (((wk_sailI (wk_sailT (0, wk_fg σ) i_2) i_7).1) + ((wk_lineL (wk_ld ((wk_sailI (wk_sailT (0, wk_fg σ) i_2) i_7).2) i_7) (wk_ln ((wk_sailI (wk_sailT (0, wk_fg σ) i_2) i_7).2) i_7) (wk_ll ((wk_sailI (wk_sailT (0, wk_fg σ) i_2) i_7).2) i_7) (wk_lh ((wk_sailI (wk_sailT (0, wk_fg σ) i_2) i_7).2) i_7) (0, (wk_sailI (wk_sailT (0, wk_fg σ) i_2) i_7).2) (wk_n ((wk_sailI (wk_sailT (0, wk_fg σ) i_2) i_7).2))).1))), (0, .ref (ad 0)), (1, .int (nI T)), (4, .int (nI i_2))]) hx hb dX11_sail_85 hl (k := 4) rfl (nI_1 _) (by decide) rfl (fun ls hl => ?_)
              refine lv_goto (tgt := 32) hx hb dX11_sail_88 (by decide) ?_
              have e1 : wk_sailI (wk_sailT (0, wk_fg σ) i_2) (i_7 + 1) = (((wk_sailI (wk_sailT (0, wk_fg σ) i_2) i_7).1) + ((wk_lineL (wk_ld ((wk_sailI (wk_sailT (0, wk_fg σ) i_2) i_7).2) i_7) (wk_ln ((wk_sailI (wk_sailT (0, wk_fg σ) i_2) i_7).2) i_7) (wk_ll ((wk_sailI (wk_sailT (0, wk_fg σ) i_2) i_7).2) i_7) (wk_lh ((wk_sailI (wk_sailT (0, wk_fg σ) i_2) i_7).2) i_7) (0, (wk_sailI (wk_sailT (0, wk_fg σ) i_2) i_7).2) (wk_n ((wk_sailI (wk_sailT (0, wk_fg σ) i_2) i_7).2))).1), (wk_lineL (wk_ld ((wk_sailI (wk_sailT (0, wk_fg σ) i_2) i_7).2) i_7) (wk_ln ((wk_sailI (wk_sailT (0, wk_fg σ) i_2) i_7).2) i_7) (wk_ll ((wk_sailI (wk_sailT (0, wk_fg σ) i_2) i_7).2) i_7) (wk_lh ((wk_sailI (wk_sailT (0, wk_fg σ) i_2) i_7).2) i_7) (0, (wk_sailI (wk_sailT (0, wk_fg σ) i_2) i_7).2) (wk_n ((wk_sailI (wk_sailT (0, wk_fg σ) i_2) i_7).2))).2) := by
                rw [wk_sailI]; rw [if_neg c_12, show wk_n (wk_sailT (0, wk_fg σ) i_2).2 = wk_n (wk_sailI (wk_sailT (0, wk_fg σ) i_2) i_7).2 from (wk_g_sailI (wk_sailT (0, wk_fg σ) i_2) (by rw [hG_5.n]; exact hV.1) i_7).n.symm]
                exact wk_lineL_add _ _ _ _ _ _ _
              exact ih_i_7 _ _ _ (by rw [e1]; exact ⟨hI, lv_sub hl [2, 3, 4, 1, 0] rfl⟩)
  · have c_1 := wk_b0 c_1
    refine lv_ldc2 hx hb hown (hts _ (wk_in_M _ mw_246)) dX11_sail_7 ?_
    exact wk_rl σ hx hb hr hlk hK hI rfl (wk_post (by unfold wk_sail; rw [wk_ifF c_1])) dX11_sail_10
set_option maxHeartbeats 4000000 in
set_option maxRecDepth 100000 in
theorem c_X11_giveRank (l : Launch) (D : va_G) (cI cJ cS : ClassId) (ad : Nat → Nat) (σ : wk_St) (k q : Nat) (hk : k < wk_n σ) (hq : q < 8) : wk_Ci l D (wk_tys cI cJ cS) yX11_giveRank (wk_M yX11_giveRank cX11_giveRank 3 (some .int)) ({ frames := 1, cells := 0, slots := 0, locals := 20 }) [.ref (ad 0), .ref (ad (16 + k)), .int (nI q)] (wx_W cI cS ad σ) (wx_W cI cS ad) (fun r0 u0 => r0 = ((nI q, wk_sRk σ (va_up (wk_rk σ) k q))).1 ∧ u0 = ((nI q, wk_sRk σ (va_up (wk_rk σ) k q))).2) := by
  intro sz
  refine Met.ofW (cc := cX11_giveRank) (maxL := 3) (ret := (some .int)) (by decide) rfl ?_
  intro p e s m args below meth c s₁ B hml hv
  obtain ⟨rfl, hsz, hP, hK, hD0, hN⟩ := hv
  have hx := B.exec
  have hb := B.bytes
  have hr := B.returns
  have hts := atoms_spec (ws := wk_M yX11_giveRank cX11_giveRank 3 (some .int)) B.pre
  have hown : s.vm.findClass RX11 = some m.cls := findClass_of_methodNamed B.named
  have hlk := B.notSynchronized
  subst hsz
  have hI : wk_I D (va_A (wx_W cI cS ad σ) s.heap.size) s.heap s.heap [] (wx_W cI cS ad σ) := ⟨hP, hD0.self, va_S.rf⟩
  have hA : ∀ q : Nat, s.heap.size ≤ q → (va_A (wx_W cI cS ad σ) s.heap.size) q := fun q h => Or.inr h
  clear hP hD0
  generalize va_A (wx_W cI cS ad σ) s.heap.size = A at hI hA ⊢
  have hl := lv_entry ([.ref (ad 0), .ref (ad (16 + k)), .int (nI q)]) (n := 3) (Nat.le_of_ble_eq_true rfl)
  rw [lg_entry_eq]
  generalize (lg_sl ([.ref (ad 0), .ref (ad (16 + k)), .int (nI q)]) ++ List.replicate (3 - (lg_sl ([.ref (ad 0), .ref (ad (16 + k)), .int (nI q)])).length) Slot.unset).toArray = ls at hl ⊢
  have hl : lv_has ls 3 [(0, .ref (ad 0)), (1, .ref (ad (16 + k))), (2, .int (nI q))] := hl
  refine lv_iload_n hx hb dX11_giveRank_0 rfl (lv_at hl 2 rfl) ?_
  refine wk_kI hI hA (va_runS (As := [.int (nI q)]) (rest := []) ⟨hx, hb, hml, hown, hts⟩ (c_X11_isRank l D cI cJ cS ad σ (nI q) _) (wk_cwS 1 hts wk_in_M mw_168 mw_169 mw_34 mw_170 (hdX11_isRank).2 ⟨(Nat.le_of_ble_eq_true rfl), (Nat.le_of_ble_eq_true rfl)⟩) (wk_preS hN hK hI) rfl rfl hl.1 rfl (lv_room (Nat.le_of_ble_eq_true rfl)) dX11_giveRank_1 ⟨(Nat.le_of_ble_eq_true rfl), (Nat.le_of_ble_eq_true rfl)⟩) (fun r u H locs hw hI => ?_)
  obtain ⟨rfl, hw⟩ := hw
  rw [hw] at hI
  refine lv_if_ne (tgt := 10) hx hb dX11_giveRank_4 (by decide) (fun c_1 => ?_) (fun c_1 => ?_)
  · have c_1 := wk_b1 c_1
    refine lv_aload_n hx hb dX11_giveRank_10 rfl (lv_at hl 1 rfl) ?_
    refine lv_iload_n hx hb dX11_giveRank_11 rfl (lv_at hl 2 rfl) ?_
    refine wk_put (v := .int (nI q)) (ty := .int) hx hb hts (fun w h => wk_in_M w (lay_X6 w h)) tyX6 tyX6_ok nmX6 hown hK hI (16 + k) (wx_em hk) rfl 2 (by decide) (hts _ (wk_in_M _ mw_190)) rfl rfl (by decide +kernel) rfl rfl (Nat.le_of_ble_eq_true rfl) rfl dX11_giveRank_12 (fun H locs hI => ?_)
    refine lv_aload_n hx hb dX11_giveRank_15 rfl (lv_at hl 1 rfl) ?_
    refine lv_aload_n hx hb dX11_giveRank_16 rfl (lv_at hl 0 rfl) ?_
    refine wk_get (v := .ref (ad 2)) hx hb hts (fun w h => wk_in_M w (lay_X11 w h)) hown hK hI 0 ((List.getElem?_set_ne (by omega)).trans wx_e0) rfl 1 (by decide) (hts _ (wk_in_M _ mw_146)) rfl rfl dX11_giveRank_17 ?_
    refine lv_iload_n hx hb dX11_giveRank_20 rfl (lv_at hl 2 rfl) ?_
    refine wk_aald (v := ad (8 + q)) (j := q) hx hb hK hI 2 2 ((List.getElem?_set_ne (by omega)).trans wx_e2) rfl rfl hq (by decide) (if_pos hq) dX11_giveRank_21 ?_
    refine wk_put (v := .ref (ad (8 + q))) (ty := .object "WatchBill$Soul") hx hb hts (fun w h => wk_in_M w (lay_X6 w h)) tyX6 tyX6_ok nmX6 hown hK hI (16 + k) (wk_set_self (wx_em hk)) rfl 3 (by decide) (hts _ (wk_in_M _ mw_193)) rfl rfl (by decide +kernel) rfl rfl (Nat.le_of_ble_eq_true rfl) (wx_sRk hk q) dX11_giveRank_22 (fun H locs hI => ?_)
    refine lv_iload_n hx hb dX11_giveRank_25 rfl (lv_at hl 2 rfl) ?_
    exact wk_ri (wk_sRk σ (va_up (wk_rk σ) k q)) hx hb hr hlk hK hI rfl ⟨rfl, rfl⟩ dX11_giveRank_26
  · have c_1 := wk_b0 c_1
    exact absurd ⟨nI_pos' (by omega), nI_le (b := 7) (by omega) (by decide)⟩ c_1
set_option maxHeartbeats 4000000 in
set_option maxRecDepth 100000 in
theorem c_X11_promote (l : Launch) (D : va_G) (cI cJ cS : ClassId) (ad : Nat → Nat) (σ : wk_St) (k9 : Int32) (hV : wk_V σ) : wk_Ci l D (wk_tys cI cJ cS) yX11_promote (wk_M yX11_promote cX11_promote 3 (some .int)) ({ frames := 2, cells := 0, slots := 0, locals := 42 }) [.ref (ad 0), .int k9] (wx_W cI cS ad σ) (wx_W cI cS ad) (fun r0 u0 => r0 = (wk_promote σ k9).1 ∧ u0 = (wk_promote σ k9).2) := by
  intro sz
  refine Met.ofW (cc := cX11_promote) (maxL := 3) (ret := (some .int)) (by decide) rfl ?_
  intro p e s m args below meth c s₁ B hml hv
  obtain ⟨rfl, hsz, hP, hK, hD0, hN⟩ := hv
  have hx := B.exec
  have hb := B.bytes
  have hr := B.returns
  have hts := atoms_spec (ws := wk_M yX11_promote cX11_promote 3 (some .int)) B.pre
  have hown : s.vm.findClass RX11 = some m.cls := findClass_of_methodNamed B.named
  have hlk := B.notSynchronized
  subst hsz
  have hI : wk_I D (va_A (wx_W cI cS ad σ) s.heap.size) s.heap s.heap [] (wx_W cI cS ad σ) := ⟨hP, hD0.self, va_S.rf⟩
  have hA : ∀ q : Nat, s.heap.size ≤ q → (va_A (wx_W cI cS ad σ) s.heap.size) q := fun q h => Or.inr h
  clear hP hD0
  generalize va_A (wx_W cI cS ad σ) s.heap.size = A at hI hA ⊢
  have hl := lv_entry ([.ref (ad 0), .int k9]) (n := 3) (Nat.le_of_ble_eq_true rfl)
  rw [lg_entry_eq]
  generalize (lg_sl ([.ref (ad 0), .int k9]) ++ List.replicate (3 - (lg_sl ([.ref (ad 0), .int k9])).length) Slot.unset).toArray = ls at hl ⊢
  have hl : lv_has ls 3 [(0, .ref (ad 0)), (1, .int k9)] := hl
  rcases wk_okC hV k9 with ⟨j, hj, rfl⟩ | hno
  · have hK := hK
    have hr8 := hV.rk hj
    refine lv_aload_n hx hb dX11_promote_0 rfl (lv_at hl 0 rfl) ?_
    refine wk_get (v := .ref (ad 1)) hx hb hts (fun w h => wk_in_M w (lay_X11 w h)) hown hK hI (0) wx_e0 rfl 0 (by decide) (hts _ (wk_in_M _ mw_145)) rfl rfl dX11_promote_1 ?_
    refine lv_iload_n hx hb dX11_promote_4 rfl (lv_at hl 1 rfl) ?_
    refine wk_kQ hI hA (va_runV (As := [.int (nI j)]) (rest := []) ⟨hx, hb, hml, hown, hts⟩ (c_X2_member l D cI cJ cS ad σ (nI j) hV _) (wk_cwV 1 hts wk_in_M mw_224 mw_225 mw_226 mw_35 mw_227 hdX2_member ⟨(Nat.le_of_ble_eq_true rfl), (Nat.le_of_ble_eq_true rfl)⟩) (wk_preV hN hK hI (ci := 2) rfl wx_e1) rfl rfl hl.1 rfl (lv_room (Nat.le_of_ble_eq_true rfl)) dX11_promote_5 ⟨(Nat.le_of_ble_eq_true rfl), (Nat.le_of_ble_eq_true rfl)⟩) (fun r u H locs hw hI => ?_)
    obtain ⟨rfl, hw⟩ := hw
    rw [hw] at hI
    rw [wx_findJ hV hj]
    refine W.eq (g2 := F0 m 8 ls [.ref (ad (16 + j))]) rfl ?_
    refine lv_astore_n (lv' := [(2, .ref (ad (16 + j))), (0, .ref (ad 0)), (1, .int (nI j))]) hx hb dX11_promote_8 rfl hl (by decide) rfl (fun ls hl => ?_)
    refine lv_aload_n hx hb dX11_promote_9 rfl (lv_at hl 0 rfl) ?_
    refine lv_ifnull hx hb dX11_promote_10 ?_
    refine lv_aload_n hx hb dX11_promote_13 rfl (lv_at hl 0 rfl) ?_
    refine wk_get (v := .int (nI (wk_rk σ j))) hx hb hts (fun w h => wk_in_M w (lay_X6 w h)) hown hK hI (16 + j) (wx_em hj) rfl 2 (by decide) (hts _ (wk_in_M _ mw_190)) rfl rfl dX11_promote_14 ?_
    refine lv_iconst (v := 5) hx hb dX11_promote_17 (by decide) ?_
    refine lv_icmp_eq (tgt := 30) hx hb dX11_promote_18 (by decide) (fun c_1 => ?_) (fun c_1 => ?_)
    · refine lv_ldc hx hb hown (hts _ (wk_in_M _ mw_171)) dX11_promote_30 ?_
      exact wk_ri σ hx hb hr hlk hK hI rfl (wk_post (by unfold wk_promote; rw [wk_clJ hV hj, wk_ifF (fun hq => hq.2.1 ((nI_eq (b := 5) (by omega) (by decide)).mp c_1))])) dX11_promote_32
    · refine lv_aload_n hx hb dX11_promote_21 rfl (lv_at hl 0 rfl) ?_
      refine wk_get (v := .int (nI (wk_rk σ j))) hx hb hts (fun w h => wk_in_M w (lay_X6 w h)) hown hK hI (16 + j) (wx_em hj) rfl 2 (by decide) (hts _ (wk_in_M _ mw_190)) rfl rfl dX11_promote_22 ?_
      refine lv_bipush (v := 7) hx hb dX11_promote_25 (by decide) ?_
      refine lv_icmp_ne (tgt := 33) hx hb dX11_promote_27 (by decide) (fun c_2 => ?_) (fun c_2 => ?_)
      · have h5 : wk_rk σ j ≠ 5 := fun hq => c_1 (by rw [hq]; rfl)
        have h7 : wk_rk σ j ≠ 7 := fun hq => c_2 (by rw [hq]; rfl)
        refine lv_aload_n hx hb dX11_promote_33 rfl (lv_at hl 1 rfl) ?_
        refine lv_aload_n hx hb dX11_promote_34 rfl (lv_at hl 0 rfl) ?_
        refine lv_aload_n hx hb dX11_promote_35 rfl (lv_at hl 0 rfl) ?_
        refine wk_get (v := .int (nI (wk_rk σ j))) hx hb hts (fun w h => wk_in_M w (lay_X6 w h)) hown hK hI (16 + j) (wx_em hj) rfl 2 (by decide) (hts _ (wk_in_M _ mw_190)) rfl rfl dX11_promote_36 ?_
        refine lv_iconst (v := 1) hx hb dX11_promote_39 (by decide) ?_
        refine lv_iadd hx hb dX11_promote_40 ?_
        rw [nI_1]
        refine wk_kI hI hA (va_runV (As := [.ref (ad (16 + j)), .int (nI (wk_rk σ j + 1))]) (rest := []) ⟨hx, hb, hml, hown, hts⟩ (c_X11_giveRank l D cI cJ cS ad σ j (wk_rk σ j + 1) hj (by omega) _) (wk_cwV 2 hts wk_in_M mw_228 mw_230 mw_0 mw_34 mw_231 hdX11_giveRank ⟨(Nat.le_of_ble_eq_true rfl), (Nat.le_of_ble_eq_true rfl)⟩) (wk_preV hN hK hI (ci := 10) rfl wx_e0) rfl rfl hl.1 rfl (lv_room (Nat.le_of_ble_eq_true rfl)) dX11_promote_41 ⟨(Nat.le_of_ble_eq_true rfl), (Nat.le_of_ble_eq_true rfl)⟩) (fun r u H locs hw hI => ?_)
        obtain ⟨rfl, rfl⟩ := hw
        exact wk_ri (wk_sRk σ (va_up (wk_rk σ) j (wk_rk σ j + 1))) hx hb hr hlk hK hI rfl (wk_post (by unfold wk_promote; rw [wk_clJ hV hj, wk_ifT ⟨wk_okJ hV hj, h5, h7⟩])) dX11_promote_44
      · refine lv_ldc hx hb hown (hts _ (wk_in_M _ mw_171)) dX11_promote_30 ?_
        exact wk_ri σ hx hb hr hlk hK hI rfl (wk_post (by unfold wk_promote; rw [wk_clJ hV hj, wk_ifF (fun hq => hq.2.2 ((nI_eq (b := 7) (by omega) (by decide)).mp c_2))])) dX11_promote_32
  · have hK := hK
    refine lv_aload_n hx hb dX11_promote_0 rfl (lv_at hl 0 rfl) ?_
    refine wk_get (v := .ref (ad 1)) hx hb hts (fun w h => wk_in_M w (lay_X11 w h)) hown hK hI (0) wx_e0 rfl 0 (by decide) (hts _ (wk_in_M _ mw_145)) rfl rfl dX11_promote_1 ?_
    refine lv_iload_n hx hb dX11_promote_4 rfl (lv_at hl 1 rfl) ?_
    refine wk_kQ hI hA (va_runV (As := [.int k9]) (rest := []) ⟨hx, hb, hml, hown, hts⟩ (c_X2_member l D cI cJ cS ad σ k9 hV _) (wk_cwV 1 hts wk_in_M mw_224 mw_225 mw_226 mw_35 mw_227 hdX2_member ⟨(Nat.le_of_ble_eq_true rfl), (Nat.le_of_ble_eq_true rfl)⟩) (wk_preV hN hK hI (ci := 2) rfl wx_e1) rfl rfl hl.1 rfl (lv_room (Nat.le_of_ble_eq_true rfl)) dX11_promote_5 ⟨(Nat.le_of_ble_eq_true rfl), (Nat.le_of_ble_eq_true rfl)⟩) (fun r u H locs hw hI => ?_)
    obtain ⟨rfl, hw⟩ := hw
    rw [hw] at hI
    rw [wx_findN hno]
    refine W.eq (g2 := F0 m 8 ls [.null]) rfl ?_
    refine lv_astore_nN (lv' := [(2, .null), (0, .ref (ad 0)), (1, .int k9)]) hx hb dX11_promote_8 rfl hl (by decide) rfl (fun ls hl => ?_)
    refine lv_aload_nN hx hb dX11_promote_9 rfl (lv_at hl 0 rfl) ?_
    refine lv_ifnullN (tgt := 30) hx hb dX11_promote_10 (by decide) ?_
    refine lv_ldc hx hb hown (hts _ (wk_in_M _ mw_171)) dX11_promote_30 ?_
    exact wk_ri σ hx hb hr hlk hK hI rfl (wk_post (by unfold wk_promote; rw [wk_ifF (fun hq => hno hq.1)])) dX11_promote_32
set_option maxHeartbeats 4000000 in
set_option maxRecDepth 100000 in
theorem c_X11_demote (l : Launch) (D : va_G) (cI cJ cS : ClassId) (ad : Nat → Nat) (σ : wk_St) (k9 : Int32) (hV : wk_V σ) : wk_Ci l D (wk_tys cI cJ cS) yX11_demote (wk_M yX11_demote cX11_demote 3 (some .int)) ({ frames := 2, cells := 0, slots := 0, locals := 42 }) [.ref (ad 0), .int k9] (wx_W cI cS ad σ) (wx_W cI cS ad) (fun r0 u0 => r0 = (wk_demote σ k9).1 ∧ u0 = (wk_demote σ k9).2) := by
  intro sz
  refine Met.ofW (cc := cX11_demote) (maxL := 3) (ret := (some .int)) (by decide) rfl ?_
  intro p e s m args below meth c s₁ B hml hv
  obtain ⟨rfl, hsz, hP, hK, hD0, hN⟩ := hv
  have hx := B.exec
  have hb := B.bytes
  have hr := B.returns
  have hts := atoms_spec (ws := wk_M yX11_demote cX11_demote 3 (some .int)) B.pre
  have hown : s.vm.findClass RX11 = some m.cls := findClass_of_methodNamed B.named
  have hlk := B.notSynchronized
  subst hsz
  have hI : wk_I D (va_A (wx_W cI cS ad σ) s.heap.size) s.heap s.heap [] (wx_W cI cS ad σ) := ⟨hP, hD0.self, va_S.rf⟩
  have hA : ∀ q : Nat, s.heap.size ≤ q → (va_A (wx_W cI cS ad σ) s.heap.size) q := fun q h => Or.inr h
  clear hP hD0
  generalize va_A (wx_W cI cS ad σ) s.heap.size = A at hI hA ⊢
  have hl := lv_entry ([.ref (ad 0), .int k9]) (n := 3) (Nat.le_of_ble_eq_true rfl)
  rw [lg_entry_eq]
  generalize (lg_sl ([.ref (ad 0), .int k9]) ++ List.replicate (3 - (lg_sl ([.ref (ad 0), .int k9])).length) Slot.unset).toArray = ls at hl ⊢
  have hl : lv_has ls 3 [(0, .ref (ad 0)), (1, .int k9)] := hl
  rcases wk_okC hV k9 with ⟨j, hj, rfl⟩ | hno
  · have hK := hK
    have hr8 := hV.rk hj
    refine lv_aload_n hx hb dX11_demote_0 rfl (lv_at hl 0 rfl) ?_
    refine wk_get (v := .ref (ad 1)) hx hb hts (fun w h => wk_in_M w (lay_X11 w h)) hown hK hI (0) wx_e0 rfl 0 (by decide) (hts _ (wk_in_M _ mw_145)) rfl rfl dX11_demote_1 ?_
    refine lv_iload_n hx hb dX11_demote_4 rfl (lv_at hl 1 rfl) ?_
    refine wk_kQ hI hA (va_runV (As := [.int (nI j)]) (rest := []) ⟨hx, hb, hml, hown, hts⟩ (c_X2_member l D cI cJ cS ad σ (nI j) hV _) (wk_cwV 1 hts wk_in_M mw_224 mw_225 mw_226 mw_35 mw_227 hdX2_member ⟨(Nat.le_of_ble_eq_true rfl), (Nat.le_of_ble_eq_true rfl)⟩) (wk_preV hN hK hI (ci := 2) rfl wx_e1) rfl rfl hl.1 rfl (lv_room (Nat.le_of_ble_eq_true rfl)) dX11_demote_5 ⟨(Nat.le_of_ble_eq_true rfl), (Nat.le_of_ble_eq_true rfl)⟩) (fun r u H locs hw hI => ?_)
    obtain ⟨rfl, hw⟩ := hw
    rw [hw] at hI
    rw [wx_findJ hV hj]
    refine W.eq (g2 := F0 m 8 ls [.ref (ad (16 + j))]) rfl ?_
    refine lv_astore_n (lv' := [(2, .ref (ad (16 + j))), (0, .ref (ad 0)), (1, .int (nI j))]) hx hb dX11_demote_8 rfl hl (by decide) rfl (fun ls hl => ?_)
    refine lv_aload_n hx hb dX11_demote_9 rfl (lv_at hl 0 rfl) ?_
    refine lv_ifnull hx hb dX11_demote_10 ?_
    refine lv_aload_n hx hb dX11_demote_13 rfl (lv_at hl 0 rfl) ?_
    refine wk_get (v := .int (nI (wk_rk σ j))) hx hb hts (fun w h => wk_in_M w (lay_X6 w h)) hown hK hI (16 + j) (wx_em hj) rfl 2 (by decide) (hts _ (wk_in_M _ mw_190)) rfl rfl dX11_demote_14 ?_
    refine lv_if_ne (tgt := 23) hx hb dX11_demote_17 (by decide) (fun c_1 => ?_) (fun c_1 => ?_)
    · have h0 : wk_rk σ j ≠ 0 := fun hq => c_1 (by rw [hq]; rfl)
      refine lv_aload_n hx hb dX11_demote_23 rfl (lv_at hl 1 rfl) ?_
      refine lv_aload_n hx hb dX11_demote_24 rfl (lv_at hl 0 rfl) ?_
      refine lv_aload_n hx hb dX11_demote_25 rfl (lv_at hl 0 rfl) ?_
      refine wk_get (v := .int (nI (wk_rk σ j))) hx hb hts (fun w h => wk_in_M w (lay_X6 w h)) hown hK hI (16 + j) (wx_em hj) rfl 2 (by decide) (hts _ (wk_in_M _ mw_190)) rfl rfl dX11_demote_26 ?_
      refine lv_bipush (v := 6) hx hb dX11_demote_29 (by decide) ?_
      refine lv_icmp_ne (tgt := 38) hx hb dX11_demote_31 (by decide) (fun c_2 => ?_) (fun c_2 => ?_)
      · refine lv_aload_n hx hb dX11_demote_38 rfl (lv_at hl 0 rfl) ?_
        refine wk_get (v := .int (nI (wk_rk σ j))) hx hb hts (fun w h => wk_in_M w (lay_X6 w h)) hown hK hI (16 + j) (wx_em hj) rfl 2 (by decide) (hts _ (wk_in_M _ mw_190)) rfl rfl dX11_demote_39 ?_
        refine lv_iconst (v := 1) hx hb dX11_demote_42 (by decide) ?_
        refine lv_isub hx hb dX11_demote_43 ?_
        rw [show nI (wk_rk σ j) - 1 = nI (wk_rk σ j - 1) from pk_sub (b := 1) (by omega)]
        refine wk_kI hI hA (va_runV (As := [.ref (ad (16 + j)), .int (nI (wk_rk σ j - 1))]) (rest := []) ⟨hx, hb, hml, hown, hts⟩ (c_X11_giveRank l D cI cJ cS ad σ j (wk_rk σ j - 1) hj (by omega) _) (wk_cwV 2 hts wk_in_M mw_228 mw_230 mw_0 mw_34 mw_231 hdX11_giveRank ⟨(Nat.le_of_ble_eq_true rfl), (Nat.le_of_ble_eq_true rfl)⟩) (wk_preV hN hK hI (ci := 10) rfl wx_e0) rfl rfl hl.1 rfl (lv_room (Nat.le_of_ble_eq_true rfl)) dX11_demote_44 ⟨(Nat.le_of_ble_eq_true rfl), (Nat.le_of_ble_eq_true rfl)⟩) (fun r u H locs hw hI => ?_)
        obtain ⟨rfl, rfl⟩ := hw
        have h6 : wk_rk σ j ≠ 6 := fun hq => c_2 (by rw [hq]; rfl)
        exact wk_ri (wk_sRk σ (va_up (wk_rk σ) j (wk_rk σ j - 1))) hx hb hr hlk hK hI rfl (wk_post (by unfold wk_demote wk_down; rw [wk_clJ hV hj, wk_ifT ⟨wk_okJ hV hj, h0⟩, if_neg h6])) dX11_demote_47
      · refine lv_iconst (v := 0) hx hb dX11_demote_34 (by decide) ?_
        refine lv_goto (tgt := 44) hx hb dX11_demote_35 (by decide) ?_
        refine wk_kI hI hA (va_runV (As := [.ref (ad (16 + j)), .int (nI 0)]) (rest := []) ⟨hx, hb, hml, hown, hts⟩ (c_X11_giveRank l D cI cJ cS ad σ j 0 hj (by omega) _) (wk_cwV 2 hts wk_in_M mw_228 mw_230 mw_0 mw_34 mw_231 hdX11_giveRank ⟨(Nat.le_of_ble_eq_true rfl), (Nat.le_of_ble_eq_true rfl)⟩) (wk_preV hN hK hI (ci := 10) rfl wx_e0) rfl rfl hl.1 rfl (lv_room (Nat.le_of_ble_eq_true rfl)) dX11_demote_44 ⟨(Nat.le_of_ble_eq_true rfl), (Nat.le_of_ble_eq_true rfl)⟩) (fun r u H locs hw hI => ?_)
        obtain ⟨rfl, rfl⟩ := hw
        have h6 : wk_rk σ j = 6 := (nI_eq (b := 6) (by omega) (by decide)).mp c_2
        exact wk_ri (wk_sRk σ (va_up (wk_rk σ) j 0)) hx hb hr hlk hK hI rfl (wk_post (by unfold wk_demote wk_down; rw [wk_clJ hV hj, wk_ifT ⟨wk_okJ hV hj, h0⟩, if_pos h6])) dX11_demote_47
    · refine lv_ldc hx hb hown (hts _ (wk_in_M _ mw_171)) dX11_demote_20 ?_
      exact wk_ri σ hx hb hr hlk hK hI rfl (wk_post (by unfold wk_demote; rw [wk_clJ hV hj, wk_ifF (fun hq => hq.2 ((nI_eq (b := 0) (by omega) (by decide)).mp c_1))])) dX11_demote_22
  · have hK := hK
    refine lv_aload_n hx hb dX11_demote_0 rfl (lv_at hl 0 rfl) ?_
    refine wk_get (v := .ref (ad 1)) hx hb hts (fun w h => wk_in_M w (lay_X11 w h)) hown hK hI (0) wx_e0 rfl 0 (by decide) (hts _ (wk_in_M _ mw_145)) rfl rfl dX11_demote_1 ?_
    refine lv_iload_n hx hb dX11_demote_4 rfl (lv_at hl 1 rfl) ?_
    refine wk_kQ hI hA (va_runV (As := [.int k9]) (rest := []) ⟨hx, hb, hml, hown, hts⟩ (c_X2_member l D cI cJ cS ad σ k9 hV _) (wk_cwV 1 hts wk_in_M mw_224 mw_225 mw_226 mw_35 mw_227 hdX2_member ⟨(Nat.le_of_ble_eq_true rfl), (Nat.le_of_ble_eq_true rfl)⟩) (wk_preV hN hK hI (ci := 2) rfl wx_e1) rfl rfl hl.1 rfl (lv_room (Nat.le_of_ble_eq_true rfl)) dX11_demote_5 ⟨(Nat.le_of_ble_eq_true rfl), (Nat.le_of_ble_eq_true rfl)⟩) (fun r u H locs hw hI => ?_)
    obtain ⟨rfl, hw⟩ := hw
    rw [hw] at hI
    rw [wx_findN hno]
    refine W.eq (g2 := F0 m 8 ls [.null]) rfl ?_
    refine lv_astore_nN (lv' := [(2, .null), (0, .ref (ad 0)), (1, .int k9)]) hx hb dX11_demote_8 rfl hl (by decide) rfl (fun ls hl => ?_)
    refine lv_aload_nN hx hb dX11_demote_9 rfl (lv_at hl 0 rfl) ?_
    refine lv_ifnullN (tgt := 20) hx hb dX11_demote_10 (by decide) ?_
    refine lv_ldc hx hb hown (hts _ (wk_in_M _ mw_171)) dX11_demote_20 ?_
    exact wk_ri σ hx hb hr hlk hK hI rfl (wk_post (by unfold wk_demote; rw [wk_ifF (fun hq => hno hq.1)])) dX11_demote_22
