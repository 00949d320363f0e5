set_option maxHeartbeats 4000000 in
set_option maxRecDepth 100000 in
theorem c_X12_sail (l : Launch) (D : va_G) (cI cJ cS : ClassId) (am : Nat → Nat) (σ : wk_St) (t9 : Int32) (hV : wk_V σ) (hL : wk_L σ) : wk_Cl l D (wk_tys cI cJ cS) yX12_sail (wk_M yX12_sail cX12_sail 7 (some .long)) ({ frames := 8, cells := 0, slots := 0, locals := 186 }) [.ref (am 0), .int t9] (wm_W cI cJ am σ) (wm_W cI cJ am) (fun r0 u0 => r0 = (wk_sail σ t9).1 ∧ u0 = (wk_sail σ t9).2) := by
  intro sz
  refine Met.ofW (cc := cX12_sail) (maxL := 7) (ret := (some .long)) (by decide) rfl ?_
  intro p e s m args below meth c s₁ B hml hv
  obtain ⟨rfl, hsz, hP, hK, hD0, hN⟩ := hv
  have hx := B.exec
  have hb := B.bytes
  have hr := B.returns
  have hts := atoms_spec (ws := wk_M yX12_sail cX12_sail 7 (some .long)) B.pre
  have hown : s.vm.findClass RX12 = some m.cls := findClass_of_methodNamed B.named
  have hlk := B.notSynchronized
  subst hsz
  have hI : wk_I D (va_A (wm_W cI cJ am σ) s.heap.size) s.heap s.heap [] (wm_W cI cJ am σ) := ⟨hP, hD0.self, va_S.rf⟩
  have hA : ∀ q : Nat, s.heap.size ≤ q → (va_A (wm_W cI cJ am σ) s.heap.size) q := fun q h => Or.inr h
  clear hP hD0
  generalize va_A (wm_W cI cJ am σ) s.heap.size = A at hI hA ⊢
  have hl := lv_entry ([.ref (am 0), .int t9]) (n := 7) (Nat.le_of_ble_eq_true rfl)
  rw [lg_entry_eq]
  generalize (lg_sl ([.ref (am 0), .int t9]) ++ List.replicate (7 - (lg_sl ([.ref (am 0), .int t9])).length) Slot.unset).toArray = ls at hl ⊢
  have hl : lv_has ls 7 [(0, .ref (am 0)), (1, .int t9)] := hl
  refine lv_iload_n hx hb dX12_sail_0 rfl (lv_at hl 1 rfl) ?_
  refine lv_if_lt (tgt := 10) hx hb dX12_sail_1 (by decide) (fun c_1 => ?_) (fun c_1 => ?_)
  · refine lv_ldc2 hx hb hown (hts _ (wk_in_M _ mw_567)) dX12_sail_10 ?_
    exact wk_rl σ hx hb hr hlk hK hI rfl (wk_post (by unfold wk_sail; rw [wk_ifF (fun hq => wk_lnl c_1 hq.1)])) dX12_sail_13
  · refine lv_iload_n hx hb dX12_sail_4 rfl (lv_at hl 1 rfl) ?_
    refine lv_bipush (v := 20) hx hb dX12_sail_5 (by decide) ?_
    refine lv_icmp_le (tgt := 14) hx hb dX12_sail_7 (by decide) (fun c_2 => ?_) (fun c_2 => ?_)
    · obtain ⟨T, hT, rfl⟩ := nI_of2 (x := t9) (M := 20) (n := 20) (by decide) c_1 c_2
      refine lv_aload_n hx hb dX12_sail_14 rfl (lv_at hl 0 rfl) ?_
      refine lv_iconst (v := 0) hx hb dX12_sail_15 (by decide) ?_
      refine wk_put (v := .int (nI 0)) (ty := .int) hx hb hts (fun w h => wk_in_M w (lay_X12 w h)) tyX12 tyX12_ok nmX12 hown hK hI (0) wm_e0 rfl 10 (by decide) (hts _ (wk_in_M _ mw_504)) rfl rfl (by decide +kernel) rfl rfl (Nat.le_of_ble_eq_true rfl) (wm_sNt _) dX12_sail_16 (fun H locs hI => ?_)
      refine lv_lconst (v := 0) hx hb dX12_sail_19 (by decide) ?_
      refine lv_lstore_n (lv' := [(2, .long 0), (0, .ref (am 0)), (1, .int (nI T))]) hx hb dX12_sail_20 rfl hl (by decide) rfl (fun ls hl => ?_)
      refine lv_iconst (v := 0) hx hb dX12_sail_21 (by decide) ?_
      refine lv_istore (lv' := [(4, .int 0), (2, .long 0), (0, .ref (am 0)), (1, .int (nI T))]) hx hb dX12_sail_22 hl (by decide) rfl (fun ls hl => ?_)
      refine wk_loop (fun i H locs ls => wk_I D A s.heap H locs (wm_W cI cJ am ((wk_sailT (0, wk_fg σ) i).2)) ∧ lv_has ls 7 [(0, .ref (am 0)), (1, .int (nI T)), (2, .long ((wk_sailT (0, wk_fg σ) i).1)), (4, .int (nI i))]) (T) ?_ ?_ (T) 0 _ _ _ (Nat.zero_add _) ⟨hI, lv_sub hl [2, 3, 1, 0] rfl⟩
      · intro H locs ls hinv
        obtain ⟨hI, hl⟩ := hinv
        have hG_4 : wk_G (wk_fg σ) ((wk_sailT (0, wk_fg σ) T).2) (2688 * T) := wk_g_sailT (0, wk_fg σ) hV.1 T
        refine lv_iload hx hb dX12_sail_24 (lv_at hl 3 rfl) ?_
        refine lv_iload_n hx hb dX12_sail_26 rfl (lv_at hl 1 rfl) ?_
        refine lv_icmp_ge (tgt := 138) hx hb dX12_sail_27 (by decide) (fun c_5 => ?_) (fun c_5 => ?_)
        · refine lv_lload_n hx hb dX12_sail_138 rfl (lv_at hl 2 rfl) ?_
          exact wk_rl ((wk_sailT (0, wk_fg σ) T).2) hx hb hr hlk hK hI rfl (wk_post (by unfold wk_sail; rw [wk_ifT ⟨wk_nlt c_1, c_2⟩, nI_clamp (by omega)]; first | done | rfl)) dX12_sail_139
        · exact absurd (by simp only [Int32.lt_iff_toInt_lt, Int32.le_iff_toInt_le, nI_toInt (show T < 2 ^ 31 by omega), nI_toInt (show T < 2 ^ 31 by omega)]; omega) c_5
      · intro i_3 H locs ls hi_i_3 hinv ih_i_3
        obtain ⟨hI, hl⟩ := hinv
        have hG_6 : wk_G (wk_fg σ) ((wk_sailT (0, wk_fg σ) i_3).2) (2688 * i_3) := wk_g_sailT (0, wk_fg σ) hV.1 i_3
        refine lv_iload hx hb dX12_sail_24 (lv_at hl 3 rfl) ?_
        refine lv_iload_n hx hb dX12_sail_26 rfl (lv_at hl 1 rfl) ?_
        refine lv_icmp_ge (tgt := 138) hx hb dX12_sail_27 (by decide) (fun c_7 => ?_) (fun c_7 => ?_)
        · exact absurd c_7 (by simp only [Int32.lt_iff_toInt_lt, Int32.le_iff_toInt_le, nI_toInt (show T < 2 ^ 31 by omega), nI_toInt (show i_3 < 2 ^ 31 by omega)]; omega)
        · refine lv_iconst (v := 0) hx hb dX12_sail_30 (by decide) ?_
          refine lv_istore (lv' := [(5, .int 0), (0, .ref (am 0)), (1, .int (nI T)), (2, .long ((wk_sailT (0, wk_fg σ) i_3).1)), (4, .int (nI i_3))]) hx hb dX12_sail_31 hl (by decide) rfl (fun ls hl => ?_)
          have hnq : wk_n (wk_sailT (0, wk_fg σ) i_3).2 ≤ 12 := by rw [hG_6.n]; exact hV.1
          refine wk_loop (fun i H locs ls => wk_I D A s.heap H locs (wm_W cI cJ am ((wk_sailI (wk_sailT (0, wk_fg σ) i_3) i).2)) ∧ lv_has ls 7 [(0, .ref (am 0)), (1, .int (nI T)), (4, .int (nI i_3)), (2, .long ((wk_sailI (wk_sailT (0, wk_fg σ) i_3) i).1)), (5, .int (nI i))]) (8) ?_ ?_ (8) 0 _ _ _ (Nat.zero_add _) ⟨hI, lv_sub hl [1, 2, 4, 3, 0] rfl⟩
          · intro H locs ls hinv
            obtain ⟨hI, hl⟩ := hinv
            have hG_9 : wk_G (wk_fg σ) ((wk_sailI (wk_sailT (0, wk_fg σ) i_3) 8).2) ((2688 * i_3) + (336 * 8)) := hG_6.trans (wk_g_sailI (wk_sailT (0, wk_fg σ) i_3) hnq 8)
            refine lv_iload hx hb dX12_sail_33 (lv_at hl 4 rfl) ?_
            refine lv_bipush (v := 8) hx hb dX12_sail_35 (by decide) ?_
            refine lv_icmp_ge (tgt := 132) hx hb dX12_sail_37 (by decide) (fun c_10 => ?_) (fun c_10 => ?_)
            · refine lv_iinc (v := nI (i_3 + 1)) (lv' := [(4, .int (nI (i_3 + 1))), (0, .ref (am 0)), (1, .int (nI T)), (2, .long ((wk_sailI (wk_sailT (0, wk_fg σ) i_3) 8).1)), (5, .int (nI 8))]) hx hb dX12_sail_132 hl (k := 2) rfl (nI_1 _) (by decide) rfl (fun ls hl => ?_)
              refine lv_goto (tgt := 24) hx hb dX12_sail_135 (by decide) ?_
              exact ih_i_3 _ _ _ ⟨hI, lv_sub hl [1, 2, 3, 0] rfl⟩
            · exact absurd (by simp only [Int32.lt_iff_toInt_lt, Int32.le_iff_toInt_le, nI_toInt (show 8 < 2 ^ 31 by omega), wk_lit8]; omega) c_10
          · intro i_8 H locs ls hi_i_8 hinv ih_i_8
            obtain ⟨hI, hl⟩ := hinv
            have hG_11 : wk_G (wk_fg σ) ((wk_sailI (wk_sailT (0, wk_fg σ) i_3) i_8).2) ((2688 * i_3) + (336 * i_8)) := hG_6.trans (wk_g_sailI (wk_sailT (0, wk_fg σ) i_3) hnq i_8)
            refine lv_iload hx hb dX12_sail_33 (lv_at hl 4 rfl) ?_
            refine lv_bipush (v := 8) hx hb dX12_sail_35 (by decide) ?_
            refine lv_icmp_ge (tgt := 132) hx hb dX12_sail_37 (by decide) (fun c_12 => ?_) (fun c_12 => ?_)
            · exact absurd c_12 (by simp only [Int32.lt_iff_toInt_lt, Int32.le_iff_toInt_le, nI_toInt (show i_8 < 2 ^ 31 by omega), wk_lit8]; omega)
            · refine lv_iconst (v := 0) hx hb dX12_sail_40 (by decide) ?_
              refine lv_istore (lv' := [(6, .int 0), (0, .ref (am 0)), (1, .int (nI T)), (4, .int (nI i_3)), (2, .long ((wk_sailI (wk_sailT (0, wk_fg σ) i_3) i_8).1)), (5, .int (nI i_8))]) hx hb dX12_sail_41 hl (by decide) rfl (fun ls hl => ?_)
              rcases Classical.em (wk_ld ((wk_sailI (wk_sailT (0, wk_fg σ) i_3) i_8).2) i_8 = -1) with hle | hle
              · have hK := hK
                refine lv_iload hx hb dX12_sail_43 (lv_at hl 0 rfl) ?_
                refine lv_aload_n hx hb dX12_sail_45 rfl (lv_at hl 1 rfl) ?_
                refine wk_get (v := .int (nI (wk_n ((wk_sailI (wk_sailT (0, wk_fg σ) i_3) i_8).2)))) hx hb hts (fun w h => wk_in_M w (lay_X12 w h)) hown hK hI (0) wm_e0 rfl 0 (by decide) (hts _ (wk_in_M _ mw_494)) rfl rfl dX12_sail_46 ?_
                refine lv_icmp_ge (tgt := 126) hx hb dX12_sail_49 (by decide) (fun c_13 => ?_) (fun c_13 => ?_)
                · refine lv_iinc (v := nI (i_8 + 1)) (lv' := [(5, .int (nI (i_8 + 1))), (6, .int 0), (0, .ref (am 0)), (1, .int (nI T)), (4, .int (nI i_3)), (2, .long ((wk_sailI (wk_sailT (0, wk_fg σ) i_3) i_8).1))]) hx hb dX12_sail_126 hl (k := 5) rfl (nI_1 _) (by decide) rfl (fun ls hl => ?_)
                  refine lv_goto (tgt := 33) hx hb dX12_sail_129 (by decide) ?_
                  have e1 : wk_sailI (wk_sailT (0, wk_fg σ) i_3) (i_8 + 1) = wk_sailI (wk_sailT (0, wk_fg σ) i_3) i_8 := by rw [wk_sailI]; rw [if_pos hle]
                  exact ih_i_8 _ _ _ (by rw [e1]; exact ⟨hI, lv_sub hl [2, 3, 4, 5, 0] rfl⟩)
                · refine lv_aload_n hx hb dX12_sail_52 rfl (lv_at hl 1 rfl) ?_
                  refine wk_get (v := .ref (am 5)) hx hb hts (fun w h => wk_in_M w (lay_X12 w h)) hown hK hI (0) wm_e0 rfl 5 (by decide) (hts _ (wk_in_M _ mw_499)) rfl rfl dX12_sail_53 ?_
                  refine lv_iload hx hb dX12_sail_56 (lv_at hl 5 rfl) ?_
                  refine wk_iald (v := (wk_ld ((wk_sailI (wk_sailT (0, wk_fg σ) i_3) i_8).2) i_8)) (j := i_8) hx hb hK hI 5 0 wm_e5 rfl rfl hi_i_8 (by decide) rfl dX12_sail_58 ?_
                  refine lv_if_lt (tgt := 126) hx hb dX12_sail_59 (by decide) (fun c_14 => ?_) (fun c_14 => ?_)
                  · refine lv_iinc (v := nI (i_8 + 1)) (lv' := [(5, .int (nI (i_8 + 1))), (6, .int 0), (0, .ref (am 0)), (1, .int (nI T)), (4, .int (nI i_3)), (2, .long ((wk_sailI (wk_sailT (0, wk_fg σ) i_3) i_8).1))]) hx hb dX12_sail_126 hl (k := 5) rfl (nI_1 _) (by decide) rfl (fun ls hl => ?_)
                    refine lv_goto (tgt := 33) hx hb dX12_sail_129 (by decide) ?_
                    have e1 : wk_sailI (wk_sailT (0, wk_fg σ) i_3) (i_8 + 1) = wk_sailI (wk_sailT (0, wk_fg σ) i_3) i_8 := by rw [wk_sailI]; rw [if_pos hle]
                    exact ih_i_8 _ _ _ (by rw [e1]; exact ⟨hI, lv_sub hl [2, 3, 4, 5, 0] rfl⟩)
                  · exact absurd (show wk_ld ((wk_sailI (wk_sailT (0, wk_fg σ) i_3) i_8).2) i_8 < 0 by rw [hle]; decide) c_14
              · have hK := hK
                have hLS := (hG_11.L hL) i_8 hi_i_8
                have hLI := hLS.resolve_left hle
                have hN_16 : wk_n ((wk_sailI (wk_sailT (0, wk_fg σ) i_3) i_8).2) ≤ 12 := by rw [hG_11.n]; exact hV.1
                refine wk_loop (fun i H locs ls => wk_I D A s.heap H locs (wm_W cI cJ am ((wk_lineL (wk_ld ((wk_sailI (wk_sailT (0, wk_fg σ) i_3) i_8).2) i_8) (wk_ln ((wk_sailI (wk_sailT (0, wk_fg σ) i_3) i_8).2) i_8) (wk_ll ((wk_sailI (wk_sailT (0, wk_fg σ) i_3) i_8).2) i_8) (wk_lh ((wk_sailI (wk_sailT (0, wk_fg σ) i_3) i_8).2) i_8) (wk_sailI (wk_sailT (0, wk_fg σ) i_3) i_8) i).2)) ∧ lv_has ls 7 [(0, .ref (am 0)), (1, .int (nI T)), (4, .int (nI i_3)), (5, .int (nI i_8)), (2, .long ((wk_lineL (wk_ld ((wk_sailI (wk_sailT (0, wk_fg σ) i_3) i_8).2) i_8) (wk_ln ((wk_sailI (wk_sailT (0, wk_fg σ) i_3) i_8).2) i_8) (wk_ll ((wk_sailI (wk_sailT (0, wk_fg σ) i_3) i_8).2) i_8) (wk_lh ((wk_sailI (wk_sailT (0, wk_fg σ) i_3) i_8).2) i_8) (wk_sailI (wk_sailT (0, wk_fg σ) i_3) i_8) i).1)), (6, .int (nI i))]) (wk_n ((wk_sailI (wk_sailT (0, wk_fg σ) i_3) i_8).2)) ?_ ?_ (wk_n ((wk_sailI (wk_sailT (0, wk_fg σ) i_3) i_8).2)) 0 _ _ _ (Nat.zero_add _) ⟨hI, lv_sub hl [1, 2, 3, 5, 4, 0] rfl⟩
                · intro H locs ls hinv
                  obtain ⟨hI, hl⟩ := hinv
                  have hG_17 : wk_G (wk_fg σ) ((wk_lineL (wk_ld ((wk_sailI (wk_sailT (0, wk_fg σ) i_3) i_8).2) i_8) (wk_ln ((wk_sailI (wk_sailT (0, wk_fg σ) i_3) i_8).2) i_8) (wk_ll ((wk_sailI (wk_sailT (0, wk_fg σ) i_3) i_8).2) i_8) (wk_lh ((wk_sailI (wk_sailT (0, wk_fg σ) i_3) i_8).2) i_8) (wk_sailI (wk_sailT (0, wk_fg σ) i_3) i_8) (wk_n ((wk_sailI (wk_sailT (0, wk_fg σ) i_3) i_8).2))).2) (((2688 * i_3) + (336 * i_8)) + (28 * (wk_n ((wk_sailI (wk_sailT (0, wk_fg σ) i_3) i_8).2)))) := hG_11.trans (wk_g_lineL (wk_ld ((wk_sailI (wk_sailT (0, wk_fg σ) i_3) i_8).2) i_8) (wk_ln ((wk_sailI (wk_sailT (0, wk_fg σ) i_3) i_8).2) i_8) (wk_ll ((wk_sailI (wk_sailT (0, wk_fg σ) i_3) i_8).2) i_8) (wk_lh ((wk_sailI (wk_sailT (0, wk_fg σ) i_3) i_8).2) i_8) (wk_sailI (wk_sailT (0, wk_fg σ) i_3) i_8) (by rw [hG_11.n]; exact hV.1) (wk_n ((wk_sailI (wk_sailT (0, wk_fg σ) i_3) i_8).2)))
                  refine lv_iload hx hb dX12_sail_43 (lv_at hl 5 rfl) ?_
                  refine lv_aload_n hx hb dX12_sail_45 rfl (lv_at hl 0 rfl) ?_
                  refine wk_get (v := .int (nI (wk_n ((wk_lineL (wk_ld ((wk_sailI (wk_sailT (0, wk_fg σ) i_3) i_8).2) i_8) (wk_ln ((wk_sailI (wk_sailT (0, wk_fg σ) i_3) i_8).2) i_8) (wk_ll ((wk_sailI (wk_sailT (0, wk_fg σ) i_3) i_8).2) i_8) (wk_lh ((wk_sailI (wk_sailT (0, wk_fg σ) i_3) i_8).2) i_8) (wk_sailI (wk_sailT (0, wk_fg σ) i_3) i_8) (wk_n ((wk_sailI (wk_sailT (0, wk_fg σ) i_3) i_8).2))).2)))) hx hb hts (fun w h => wk_in_M w (lay_X12 w h)) hown hK hI (0) wm_e0 rfl 0 (by decide) (hts _ (wk_in_M _ mw_494)) rfl rfl dX12_sail_46 ?_
                  refine lv_icmp_ge (tgt := 126) hx hb dX12_sail_49 (by decide) (fun c_18 => ?_) (fun c_18 => ?_)
                  · refine lv_iinc (v := nI (i_8 + 1)) (lv' := [(5, .int (nI (i_8 + 1))), (0, .ref (am 0)), (1, .int (nI T)), (4, .int (nI i_3)), (2, .long ((wk_lineL (wk_ld ((wk_sailI (wk_sailT (0, wk_fg σ) i_3) i_8).2) i_8) (wk_ln ((wk_sailI (wk_sailT (0, wk_fg σ) i_3) i_8).2) i_8) (wk_ll ((wk_sailI (wk_sailT (0, wk_fg σ) i_3) i_8).2) i_8) (wk_lh ((wk_sailI (wk_sailT (0, wk_fg σ) i_3) i_8).2) i_8) (wk_sailI (wk_sailT (0, wk_fg σ) i_3) i_8) (wk_n ((wk_sailI (wk_sailT (0, wk_fg σ) i_3) i_8).2))).1)), (6, .int (nI (wk_n ((wk_sailI (wk_sailT (0, wk_fg σ) i_3) i_8).2))))]) hx hb dX12_sail_126 hl (k := 3) rfl (nI_1 _) (by decide) rfl (fun ls hl => ?_)
                    refine lv_goto (tgt := 33) hx hb dX12_sail_129 (by decide) ?_
                    have e1 : wk_sailI (wk_sailT (0, wk_fg σ) i_3) (i_8 + 1) = wk_lineL (wk_ld ((wk_sailI (wk_sailT (0, wk_fg σ) i_3) i_8).2) i_8) (wk_ln ((wk_sailI (wk_sailT (0, wk_fg σ) i_3) i_8).2) i_8) (wk_ll ((wk_sailI (wk_sailT (0, wk_fg σ) i_3) i_8).2) i_8) (wk_lh ((wk_sailI (wk_sailT (0, wk_fg σ) i_3) i_8).2) i_8) (wk_sailI (wk_sailT (0, wk_fg σ) i_3) i_8) (wk_n (wk_sailI (wk_sailT (0, wk_fg σ) i_3) i_8).2) := by rw [wk_sailI]; rw [if_neg hle, show wk_n (wk_sailT (0, wk_fg σ) i_3).2 = wk_n (wk_sailI (wk_sailT (0, wk_fg σ) i_3) i_8).2 from (wk_g_sailI (wk_sailT (0, wk_fg σ) i_3) hnq i_8).n.symm]
                    exact ih_i_8 _ _ _ (by rw [e1]; exact ⟨hI, lv_sub hl [1, 2, 3, 4, 0] rfl⟩)
                  · exact absurd (by rw [show wk_n ((wk_lineL (wk_ld ((wk_sailI (wk_sailT (0, wk_fg σ) i_3) i_8).2) i_8) (wk_ln ((wk_sailI (wk_sailT (0, wk_fg σ) i_3) i_8).2) i_8) (wk_ll ((wk_sailI (wk_sailT (0, wk_fg σ) i_3) i_8).2) i_8) (wk_lh ((wk_sailI (wk_sailT (0, wk_fg σ) i_3) i_8).2) i_8) (wk_sailI (wk_sailT (0, wk_fg σ) i_3) i_8) (wk_n ((wk_sailI (wk_sailT (0, wk_fg σ) i_3) i_8).2))).2) = wk_n ((wk_sailI (wk_sailT (0, wk_fg σ) i_3) i_8).2) from (hG_17.n.trans hG_11.n.symm)]; exact nI_le (Nat.le_refl _) (by omega)) c_18
                · intro i_15 H locs ls hi_i_15 hinv ih_i_15
                  obtain ⟨hI, hl⟩ := hinv
                  have hs_i_15 : i_15 < wk_n (wk_fg σ) := by have hq := hG_11.n; omega
                  have hG_19 : wk_G (wk_fg σ) ((wk_lineL (wk_ld ((wk_sailI (wk_sailT (0, wk_fg σ) i_3) i_8).2) i_8) (wk_ln ((wk_sailI (wk_sailT (0, wk_fg σ) i_3) i_8).2) i_8) (wk_ll ((wk_sailI (wk_sailT (0, wk_fg σ) i_3) i_8).2) i_8) (wk_lh ((wk_sailI (wk_sailT (0, wk_fg σ) i_3) i_8).2) i_8) (wk_sailI (wk_sailT (0, wk_fg σ) i_3) i_8) i_15).2) (((2688 * i_3) + (336 * i_8)) + (28 * i_15)) := hG_11.trans (wk_g_lineL (wk_ld ((wk_sailI (wk_sailT (0, wk_fg σ) i_3) i_8).2) i_8) (wk_ln ((wk_sailI (wk_sailT (0, wk_fg σ) i_3) i_8).2) i_8) (wk_ll ((wk_sailI (wk_sailT (0, wk_fg σ) i_3) i_8).2) i_8) (wk_lh ((wk_sailI (wk_sailT (0, wk_fg σ) i_3) i_8).2) i_8) (wk_sailI (wk_sailT (0, wk_fg σ) i_3) i_8) (by rw [hG_11.n]; exact hV.1) i_15)
                  refine lv_iload hx hb dX12_sail_43 (lv_at hl 5 rfl) ?_
                  refine lv_aload_n hx hb dX12_sail_45 rfl (lv_at hl 0 rfl) ?_
                  refine wk_get (v := .int (nI (wk_n ((wk_lineL (wk_ld ((wk_sailI (wk_sailT (0, wk_fg σ) i_3) i_8).2) i_8) (wk_ln ((wk_sailI (wk_sailT (0, wk_fg σ) i_3) i_8).2) i_8) (wk_ll ((wk_sailI (wk_sailT (0, wk_fg σ) i_3) i_8).2) i_8) (wk_lh ((wk_sailI (wk_sailT (0, wk_fg σ) i_3) i_8).2) i_8) (wk_sailI (wk_sailT (0, wk_fg σ) i_3) i_8) i_15).2)))) hx hb hts (fun w h => wk_in_M w (lay_X12 w h)) hown hK hI (0) wm_e0 rfl 0 (by decide) (hts _ (wk_in_M _ mw_494)) rfl rfl dX12_sail_46 ?_
                  refine lv_icmp_ge (tgt := 126) hx hb dX12_sail_49 (by decide) (fun c_20 => ?_) (fun c_20 => ?_)
                  · exact absurd c_20 (by rw [show wk_n ((wk_lineL (wk_ld ((wk_sailI (wk_sailT (0, wk_fg σ) i_3) i_8).2) i_8) (wk_ln ((wk_sailI (wk_sailT (0, wk_fg σ) i_3) i_8).2) i_8) (wk_ll ((wk_sailI (wk_sailT (0, wk_fg σ) i_3) i_8).2) i_8) (wk_lh ((wk_sailI (wk_sailT (0, wk_fg σ) i_3) i_8).2) i_8) (wk_sailI (wk_sailT (0, wk_fg σ) i_3) i_8) i_15).2) = wk_n ((wk_sailI (wk_sailT (0, wk_fg σ) i_3) i_8).2) from (hG_19.n.trans hG_11.n.symm)]; exact nI_ge hi_i_15 (by omega))
                  · refine lv_aload_n hx hb dX12_sail_52 rfl (lv_at hl 0 rfl) ?_
                    refine wk_get (v := .ref (am 5)) hx hb hts (fun w h => wk_in_M w (lay_X12 w h)) hown hK hI (0) wm_e0 rfl 5 (by decide) (hts _ (wk_in_M _ mw_499)) rfl rfl dX12_sail_53 ?_
                    refine lv_iload hx hb dX12_sail_56 (lv_at hl 3 rfl) ?_
                    refine wk_iald (v := (wk_ld ((wk_lineL (wk_ld ((wk_sailI (wk_sailT (0, wk_fg σ) i_3) i_8).2) i_8) (wk_ln ((wk_sailI (wk_sailT (0, wk_fg σ) i_3) i_8).2) i_8) (wk_ll ((wk_sailI (wk_sailT (0, wk_fg σ) i_3) i_8).2) i_8) (wk_lh ((wk_sailI (wk_sailT (0, wk_fg σ) i_3) i_8).2) i_8) (wk_sailI (wk_sailT (0, wk_fg σ) i_3) i_8) i_15).2) i_8)) (j := i_8) hx hb hK hI 5 0 wm_e5 rfl rfl (by omega) (by decide) rfl dX12_sail_58 ?_
                    rw [show wk_ld ((wk_lineL (wk_ld ((wk_sailI (wk_sailT (0, wk_fg σ) i_3) i_8).2) i_8) (wk_ln ((wk_sailI (wk_sailT (0, wk_fg σ) i_3) i_8).2) i_8) (wk_ll ((wk_sailI (wk_sailT (0, wk_fg σ) i_3) i_8).2) i_8) (wk_lh ((wk_sailI (wk_sailT (0, wk_fg σ) i_3) i_8).2) i_8) (wk_sailI (wk_sailT (0, wk_fg σ) i_3) i_8) i_15).2) i_8 = wk_ld ((wk_sailI (wk_sailT (0, wk_fg σ) i_3) i_8).2) i_8 from by rw [(wk_g_lineL (wk_ld ((wk_sailI (wk_sailT (0, wk_fg σ) i_3) i_8).2) i_8) (wk_ln ((wk_sailI (wk_sailT (0, wk_fg σ) i_3) i_8).2) i_8) (wk_ll ((wk_sailI (wk_sailT (0, wk_fg σ) i_3) i_8).2) i_8) (wk_lh ((wk_sailI (wk_sailT (0, wk_fg σ) i_3) i_8).2) i_8) (wk_sailI (wk_sailT (0, wk_fg σ) i_3) i_8) (by rw [hG_11.n]; exact hV.1) i_15).ld]]
                    refine lv_if_lt (tgt := 126) hx hb dX12_sail_59 (by decide) (fun c_21 => ?_) (fun c_21 => ?_)
                    · exact absurd hLI.1.1 (fun hq => wk_lnl c_21 hq)
                    · refine lv_aload_n hx hb dX12_sail_62 rfl (lv_at hl 0 rfl) ?_
                      refine wk_get (v := .ref (am 1)) hx hb hts (fun w h => wk_in_M w (lay_X12 w h)) hown hK hI (0) wm_e0 rfl 1 (by decide) (hts _ (wk_in_M _ mw_495)) rfl rfl dX12_sail_63 ?_
                      refine lv_iload hx hb dX12_sail_66 (lv_at hl 5 rfl) ?_
                      refine wk_iald (v := (nI (wk_rk ((wk_lineL (wk_ld ((wk_sailI (wk_sailT (0, wk_fg σ) i_3) i_8).2) i_8) (wk_ln ((wk_sailI (wk_sailT (0, wk_fg σ) i_3) i_8).2) i_8) (wk_ll ((wk_sailI (wk_sailT (0, wk_fg σ) i_3) i_8).2) i_8) (wk_lh ((wk_sailI (wk_sailT (0, wk_fg σ) i_3) i_8).2) i_8) (wk_sailI (wk_sailT (0, wk_fg σ) i_3) i_8) i_15).2) i_15))) (j := i_15) hx hb hK hI 1 0 wm_e1 rfl rfl (by omega) (by decide) rfl dX12_sail_68 ?_
                      refine lv_aload_n hx hb dX12_sail_69 rfl (lv_at hl 0 rfl) ?_
                      refine wk_get (v := .ref (am 7)) hx hb hts (fun w h => wk_in_M w (lay_X12 w h)) hown hK hI (0) wm_e0 rfl 7 (by decide) (hts _ (wk_in_M _ mw_501)) rfl rfl dX12_sail_70 ?_
                      refine lv_iload hx hb dX12_sail_73 (lv_at hl 3 rfl) ?_
                      refine wk_iald (v := (wk_ll ((wk_lineL (wk_ld ((wk_sailI (wk_sailT (0, wk_fg σ) i_3) i_8).2) i_8) (wk_ln ((wk_sailI (wk_sailT (0, wk_fg σ) i_3) i_8).2) i_8) (wk_ll ((wk_sailI (wk_sailT (0, wk_fg σ) i_3) i_8).2) i_8) (wk_lh ((wk_sailI (wk_sailT (0, wk_fg σ) i_3) i_8).2) i_8) (wk_sailI (wk_sailT (0, wk_fg σ) i_3) i_8) i_15).2) i_8)) (j := i_8) hx hb hK hI 7 0 wm_e7 rfl rfl (by omega) (by decide) rfl dX12_sail_75 ?_
                      rw [show wk_ll ((wk_lineL (wk_ld ((wk_sailI (wk_sailT (0, wk_fg σ) i_3) i_8).2) i_8) (wk_ln ((wk_sailI (wk_sailT (0, wk_fg σ) i_3) i_8).2) i_8) (wk_ll ((wk_sailI (wk_sailT (0, wk_fg σ) i_3) i_8).2) i_8) (wk_lh ((wk_sailI (wk_sailT (0, wk_fg σ) i_3) i_8).2) i_8) (wk_sailI (wk_sailT (0, wk_fg σ) i_3) i_8) i_15).2) i_8 = wk_ll ((wk_sailI (wk_sailT (0, wk_fg σ) i_3) i_8).2) i_8 from by rw [(wk_g_lineL (wk_ld ((wk_sailI (wk_sailT (0, wk_fg σ) i_3) i_8).2) i_8) (wk_ln ((wk_sailI (wk_sailT (0, wk_fg σ) i_3) i_8).2) i_8) (wk_ll ((wk_sailI (wk_sailT (0, wk_fg σ) i_3) i_8).2) i_8) (wk_lh ((wk_sailI (wk_sailT (0, wk_fg σ) i_3) i_8).2) i_8) (wk_sailI (wk_sailT (0, wk_fg σ) i_3) i_8) (by rw [hG_11.n]; exact hV.1) i_15).ll]]
                      refine lv_icmp_lt (tgt := 120) hx hb dX12_sail_76 (by decide) (fun c_22 => ?_) (fun c_22 => ?_)
                      · refine lv_iinc (v := nI (i_15 + 1)) (lv' := [(6, .int (nI (i_15 + 1))), (0, .ref (am 0)), (1, .int (nI T)), (4, .int (nI i_3)), (5, .int (nI i_8)), (2, .long ((wk_lineL (wk_ld ((wk_sailI (wk_sailT (0, wk_fg σ) i_3) i_8).2) i_8) (wk_ln ((wk_sailI (wk_sailT (0, wk_fg σ) i_3) i_8).2) i_8) (wk_ll ((wk_sailI (wk_sailT (0, wk_fg σ) i_3) i_8).2) i_8) (wk_lh ((wk_sailI (wk_sailT (0, wk_fg σ) i_3) i_8).2) i_8) (wk_sailI (wk_sailT (0, wk_fg σ) i_3) i_8) i_15).1))]) hx hb dX12_sail_120 hl (k := 5) rfl (nI_1 _) (by decide) rfl (fun ls hl => ?_)
                        refine lv_goto (tgt := 43) hx hb dX12_sail_123 (by decide) ?_
                        have e1 : wk_lineL (wk_ld ((wk_sailI (wk_sailT (0, wk_fg σ) i_3) i_8).2) i_8) (wk_ln ((wk_sailI (wk_sailT (0, wk_fg σ) i_3) i_8).2) i_8) (wk_ll ((wk_sailI (wk_sailT (0, wk_fg σ) i_3) i_8).2) i_8) (wk_lh ((wk_sailI (wk_sailT (0, wk_fg σ) i_3) i_8).2) i_8) (wk_sailI (wk_sailT (0, wk_fg σ) i_3) i_8) (i_15 + 1) = wk_lineL (wk_ld ((wk_sailI (wk_sailT (0, wk_fg σ) i_3) i_8).2) i_8) (wk_ln ((wk_sailI (wk_sailT (0, wk_fg σ) i_3) i_8).2) i_8) (wk_ll ((wk_sailI (wk_sailT (0, wk_fg σ) i_3) i_8).2) i_8) (wk_lh ((wk_sailI (wk_sailT (0, wk_fg σ) i_3) i_8).2) i_8) (wk_sailI (wk_sailT (0, wk_fg σ) i_3) i_8) i_15 := by rw [wk_lineL]; rw [if_neg (fun hq => wk_lnl c_22 hq.1)]
                        exact ih_i_15 _ _ _ (by rw [e1]; exact ⟨hI, lv_sub hl [1, 2, 3, 4, 5, 0] rfl⟩)
                      · refine lv_aload_n hx hb dX12_sail_79 rfl (lv_at hl 0 rfl) ?_
                        refine wk_get (v := .ref (am 1)) hx hb hts (fun w h => wk_in_M w (lay_X12 w h)) hown hK hI (0) wm_e0 rfl 1 (by decide) (hts _ (wk_in_M _ mw_495)) rfl rfl dX12_sail_80 ?_
                        refine lv_iload hx hb dX12_sail_83 (lv_at hl 5 rfl) ?_
                        refine wk_iald (v := (nI (wk_rk ((wk_lineL (wk_ld ((wk_sailI (wk_sailT (0, wk_fg σ) i_3) i_8).2) i_8) (wk_ln ((wk_sailI (wk_sailT (0, wk_fg σ) i_3) i_8).2) i_8) (wk_ll ((wk_sailI (wk_sailT (0, wk_fg σ) i_3) i_8).2) i_8) (wk_lh ((wk_sailI (wk_sailT (0, wk_fg σ) i_3) i_8).2) i_8) (wk_sailI (wk_sailT (0, wk_fg σ) i_3) i_8) i_15).2) i_15))) (j := i_15) hx hb hK hI 1 0 wm_e1 rfl rfl (by omega) (by decide) rfl dX12_sail_85 ?_
                        refine lv_aload_n hx hb dX12_sail_86 rfl (lv_at hl 0 rfl) ?_
                        refine wk_get (v := .ref (am 8)) hx hb hts (fun w h => wk_in_M w (lay_X12 w h)) hown hK hI (0) wm_e0 rfl 8 (by decide) (hts _ (wk_in_M _ mw_502)) rfl rfl dX12_sail_87 ?_
                        refine lv_iload hx hb dX12_sail_90 (lv_at hl 3 rfl) ?_
                        refine wk_iald (v := (wk_lh ((wk_lineL (wk_ld ((wk_sailI (wk_sailT (0, wk_fg σ) i_3) i_8).2) i_8) (wk_ln ((wk_sailI (wk_sailT (0, wk_fg σ) i_3) i_8).2) i_8) (wk_ll ((wk_sailI (wk_sailT (0, wk_fg σ) i_3) i_8).2) i_8) (wk_lh ((wk_sailI (wk_sailT (0, wk_fg σ) i_3) i_8).2) i_8) (wk_sailI (wk_sailT (0, wk_fg σ) i_3) i_8) i_15).2) i_8)) (j := i_8) hx hb hK hI 8 0 wm_e8 rfl rfl (by omega) (by decide) rfl dX12_sail_92 ?_
                        rw [show wk_lh ((wk_lineL (wk_ld ((wk_sailI (wk_sailT (0, wk_fg σ) i_3) i_8).2) i_8) (wk_ln ((wk_sailI (wk_sailT (0, wk_fg σ) i_3) i_8).2) i_8) (wk_ll ((wk_sailI (wk_sailT (0, wk_fg σ) i_3) i_8).2) i_8) (wk_lh ((wk_sailI (wk_sailT (0, wk_fg σ) i_3) i_8).2) i_8) (wk_sailI (wk_sailT (0, wk_fg σ) i_3) i_8) i_15).2) i_8 = wk_lh ((wk_sailI (wk_sailT (0, wk_fg σ) i_3) i_8).2) i_8 from by rw [(wk_g_lineL (wk_ld ((wk_sailI (wk_sailT (0, wk_fg σ) i_3) i_8).2) i_8) (wk_ln ((wk_sailI (wk_sailT (0, wk_fg σ) i_3) i_8).2) i_8) (wk_ll ((wk_sailI (wk_sailT (0, wk_fg σ) i_3) i_8).2) i_8) (wk_lh ((wk_sailI (wk_sailT (0, wk_fg σ) i_3) i_8).2) i_8) (wk_sailI (wk_sailT (0, wk_fg σ) i_3) i_8) (by rw [hG_11.n]; exact hV.1) i_15).lh]]
                        refine lv_icmp_gt (tgt := 120) hx hb dX12_sail_93 (by decide) (fun c_23 => ?_) (fun c_23 => ?_)
                        · refine lv_iinc (v := nI (i_15 + 1)) (lv' := [(6, .int (nI (i_15 + 1))), (0, .ref (am 0)), (1, .int (nI T)), (4, .int (nI i_3)), (5, .int (nI i_8)), (2, .long ((wk_lineL (wk_ld ((wk_sailI (wk_sailT (0, wk_fg σ) i_3) i_8).2) i_8) (wk_ln ((wk_sailI (wk_sailT (0, wk_fg σ) i_3) i_8).2) i_8) (wk_ll ((wk_sailI (wk_sailT (0, wk_fg σ) i_3) i_8).2) i_8) (wk_lh ((wk_sailI (wk_sailT (0, wk_fg σ) i_3) i_8).2) i_8) (wk_sailI (wk_sailT (0, wk_fg σ) i_3) i_8) i_15).1))]) hx hb dX12_sail_120 hl (k := 5) rfl (nI_1 _) (by decide) rfl (fun ls hl => ?_)
                          refine lv_goto (tgt := 43) hx hb dX12_sail_123 (by decide) ?_
                          have e1 : wk_lineL (wk_ld ((wk_sailI (wk_sailT (0, wk_fg σ) i_3) i_8).2) i_8) (wk_ln ((wk_sailI (wk_sailT (0, wk_fg σ) i_3) i_8).2) i_8) (wk_ll ((wk_sailI (wk_sailT (0, wk_fg σ) i_3) i_8).2) i_8) (wk_lh ((wk_sailI (wk_sailT (0, wk_fg σ) i_3) i_8).2) i_8) (wk_sailI (wk_sailT (0, wk_fg σ) i_3) i_8) (i_15 + 1) = wk_lineL (wk_ld ((wk_sailI (wk_sailT (0, wk_fg σ) i_3) i_8).2) i_8) (wk_ln ((wk_sailI (wk_sailT (0, wk_fg σ) i_3) i_8).2) i_8) (wk_ll ((wk_sailI (wk_sailT (0, wk_fg σ) i_3) i_8).2) i_8) (wk_lh ((wk_sailI (wk_sailT (0, wk_fg σ) i_3) i_8).2) i_8) (wk_sailI (wk_sailT (0, wk_fg σ) i_3) i_8) i_15 := by rw [wk_lineL]; rw [if_neg (fun hq => wk_lnl c_23 hq.2)]
                          exact ih_i_15 _ _ _ (by rw [e1]; exact ⟨hI, lv_sub hl [1, 2, 3, 4, 5, 0] rfl⟩)
                        · refine lv_lload_n hx hb dX12_sail_96 rfl (lv_at hl 4 rfl) ?_
                          refine lv_aload_n hx hb dX12_sail_97 rfl (lv_at hl 0 rfl) ?_
                          refine lv_aload_n hx hb dX12_sail_98 rfl (lv_at hl 0 rfl) ?_
                          refine wk_get (v := .ref (am 5)) hx hb hts (fun w h => wk_in_M w (lay_X12 w h)) hown hK hI (0) wm_e0 rfl 5 (by decide) (hts _ (wk_in_M _ mw_499)) rfl rfl dX12_sail_99 ?_
                          refine lv_iload hx hb dX12_sail_102 (lv_at hl 3 rfl) ?_
                          refine wk_iald (v := (wk_ld ((wk_lineL (wk_ld ((wk_sailI (wk_sailT (0, wk_fg σ) i_3) i_8).2) i_8) (wk_ln ((wk_sailI (wk_sailT (0, wk_fg σ) i_3) i_8).2) i_8) (wk_ll ((wk_sailI (wk_sailT (0, wk_fg σ) i_3) i_8).2) i_8) (wk_lh ((wk_sailI (wk_sailT (0, wk_fg σ) i_3) i_8).2) i_8) (wk_sailI (wk_sailT (0, wk_fg σ) i_3) i_8) i_15).2) i_8)) (j := i_8) hx hb hK hI 5 0 wm_e5 rfl rfl (by omega) (by decide) rfl dX12_sail_104 ?_
                          rw [show wk_ld ((wk_lineL (wk_ld ((wk_sailI (wk_sailT (0, wk_fg σ) i_3) i_8).2) i_8) (wk_ln ((wk_sailI (wk_sailT (0, wk_fg σ) i_3) i_8).2) i_8) (wk_ll ((wk_sailI (wk_sailT (0, wk_fg σ) i_3) i_8).2) i_8) (wk_lh ((wk_sailI (wk_sailT (0, wk_fg σ) i_3) i_8).2) i_8) (wk_sailI (wk_sailT (0, wk_fg σ) i_3) i_8) i_15).2) i_8 = wk_ld ((wk_sailI (wk_sailT (0, wk_fg σ) i_3) i_8).2) i_8 from by rw [(wk_g_lineL (wk_ld ((wk_sailI (wk_sailT (0, wk_fg σ) i_3) i_8).2) i_8) (wk_ln ((wk_sailI (wk_sailT (0, wk_fg σ) i_3) i_8).2) i_8) (wk_ll ((wk_sailI (wk_sailT (0, wk_fg σ) i_3) i_8).2) i_8) (wk_lh ((wk_sailI (wk_sailT (0, wk_fg σ) i_3) i_8).2) i_8) (wk_sailI (wk_sailT (0, wk_fg σ) i_3) i_8) (by rw [hG_11.n]; exact hV.1) i_15).ld]]
                          refine lv_iload hx hb dX12_sail_105 (lv_at hl 5 rfl) ?_
                          refine lv_aload_n hx hb dX12_sail_107 rfl (lv_at hl 0 rfl) ?_
                          refine wk_get (v := .ref (am 6)) hx hb hts (fun w h => wk_in_M w (lay_X12 w h)) hown hK hI (0) wm_e0 rfl 6 (by decide) (hts _ (wk_in_M _ mw_500)) rfl rfl dX12_sail_108 ?_
                          refine lv_iload hx hb dX12_sail_111 (lv_at hl 3 rfl) ?_
                          refine wk_iald (v := (wk_ln ((wk_lineL (wk_ld ((wk_sailI (wk_sailT (0, wk_fg σ) i_3) i_8).2) i_8) (wk_ln ((wk_sailI (wk_sailT (0, wk_fg σ) i_3) i_8).2) i_8) (wk_ll ((wk_sailI (wk_sailT (0, wk_fg σ) i_3) i_8).2) i_8) (wk_lh ((wk_sailI (wk_sailT (0, wk_fg σ) i_3) i_8).2) i_8) (wk_sailI (wk_sailT (0, wk_fg σ) i_3) i_8) i_15).2) i_8)) (j := i_8) hx hb hK hI 6 0 wm_e6 rfl rfl (by omega) (by decide) rfl dX12_sail_113 ?_
                          rw [show wk_ln ((wk_lineL (wk_ld ((wk_sailI (wk_sailT (0, wk_fg σ) i_3) i_8).2) i_8) (wk_ln ((wk_sailI (wk_sailT (0, wk_fg σ) i_3) i_8).2) i_8) (wk_ll ((wk_sailI (wk_sailT (0, wk_fg σ) i_3) i_8).2) i_8) (wk_lh ((wk_sailI (wk_sailT (0, wk_fg σ) i_3) i_8).2) i_8) (wk_sailI (wk_sailT (0, wk_fg σ) i_3) i_8) i_15).2) i_8 = wk_ln ((wk_sailI (wk_sailT (0, wk_fg σ) i_3) i_8).2) i_8 from by rw [(wk_g_lineL (wk_ld ((wk_sailI (wk_sailT (0, wk_fg σ) i_3) i_8).2) i_8) (wk_ln ((wk_sailI (wk_sailT (0, wk_fg σ) i_3) i_8).2) i_8) (wk_ll ((wk_sailI (wk_sailT (0, wk_fg σ) i_3) i_8).2) i_8) (wk_lh ((wk_sailI (wk_sailT (0, wk_fg σ) i_3) i_8).2) i_8) (wk_sailI (wk_sailT (0, wk_fg σ) i_3) i_8) (by rw [hG_11.n]; exact hV.1) i_15).ln]]
                          refine lv_iconst (v := 1) hx hb dX12_sail_114 (by decide) ?_
                          refine wk_kL hI hA (va_runV (As := [.int (wk_ld ((wk_sailI (wk_sailT (0, wk_fg σ) i_3) i_8).2) i_8), .int (nI i_15), .int (wk_ln ((wk_sailI (wk_sailT (0, wk_fg σ) i_3) i_8).2) i_8), .int 1]) (rest := [.long ((wk_lineL (wk_ld ((wk_sailI (wk_sailT (0, wk_fg σ) i_3) i_8).2) i_8) (wk_ln ((wk_sailI (wk_sailT (0, wk_fg σ) i_3) i_8).2) i_8) (wk_ll ((wk_sailI (wk_sailT (0, wk_fg σ) i_3) i_8).2) i_8) (wk_lh ((wk_sailI (wk_sailT (0, wk_fg σ) i_3) i_8).2) i_8) (wk_sailI (wk_sailT (0, wk_fg σ) i_3) i_8) i_15).1)]) ⟨hx, hb, hml, hown, hts⟩ (c_X12_work l D cI cJ cS am ((wk_lineL (wk_ld ((wk_sailI (wk_sailT (0, wk_fg σ) i_3) i_8).2) i_8) (wk_ln ((wk_sailI (wk_sailT (0, wk_fg σ) i_3) i_8).2) i_8) (wk_ll ((wk_sailI (wk_sailT (0, wk_fg σ) i_3) i_8).2) i_8) (wk_lh ((wk_sailI (wk_sailT (0, wk_fg σ) i_3) i_8).2) i_8) (wk_sailI (wk_sailT (0, wk_fg σ) i_3) i_8) i_15).2) (wk_ld ((wk_sailI (wk_sailT (0, wk_fg σ) i_3) i_8).2) i_8) i_15 (wk_ln ((wk_sailI (wk_sailT (0, wk_fg σ) i_3) i_8).2) i_8) 1 (hG_19.V hV) (hG_19.lt hs_i_15) (by have hq := hG_19.nt; have hq0 : wk_nt (wk_fg σ) = 0 := rfl; have hq12 : wk_n (wk_fg σ) ≤ 12 := hV.1; omega) hLI.2 _) (wk_cwV 4 hts wk_in_M mw_568 mw_570 mw_6 mw_45 mw_571 hdX12_work ⟨(Nat.le_of_ble_eq_true rfl), (Nat.le_of_ble_eq_true rfl)⟩) (wk_preV hN hK hI (ci := 11) rfl wm_e0) rfl rfl hl.1 rfl (lv_room (Nat.le_of_ble_eq_true rfl)) dX12_sail_115 ⟨(Nat.le_of_ble_eq_true rfl), (Nat.le_of_ble_eq_true rfl)⟩) (fun r u H locs hw hI => ?_)
                          obtain ⟨rfl, rfl⟩ := hw
                          have hG_24 : wk_G (wk_fg σ) (wk_wk (wk_ld ((wk_sailI (wk_sailT (0, wk_fg σ) i_3) i_8).2) i_8) ((wk_lineL (wk_ld ((wk_sailI (wk_sailT (0, wk_fg σ) i_3) i_8).2) i_8) (wk_ln ((wk_sailI (wk_sailT (0, wk_fg σ) i_3) i_8).2) i_8) (wk_ll ((wk_sailI (wk_sailT (0, wk_fg σ) i_3) i_8).2) i_8) (wk_lh ((wk_sailI (wk_sailT (0, wk_fg σ) i_3) i_8).2) i_8) (wk_sailI (wk_sailT (0, wk_fg σ) i_3) i_8) i_15).2) i_15 (wk_ln ((wk_sailI (wk_sailT (0, wk_fg σ) i_3) i_8).2) i_8) 1) ((((2688 * i_3) + (336 * i_8)) + (28 * i_15)) + 28) := hG_19.trans (wk_g_wk (wk_ld ((wk_sailI (wk_sailT (0, wk_fg σ) i_3) i_8).2) i_8) ((wk_lineL (wk_ld ((wk_sailI (wk_sailT (0, wk_fg σ) i_3) i_8).2) i_8) (wk_ln ((wk_sailI (wk_sailT (0, wk_fg σ) i_3) i_8).2) i_8) (wk_ll ((wk_sailI (wk_sailT (0, wk_fg σ) i_3) i_8).2) i_8) (wk_lh ((wk_sailI (wk_sailT (0, wk_fg σ) i_3) i_8).2) i_8) (wk_sailI (wk_sailT (0, wk_fg σ) i_3) i_8) i_15).2) i_15 (wk_ln ((wk_sailI (wk_sailT (0, wk_fg σ) i_3) i_8).2) i_8) 1 (hG_19.V hV).1)
                          refine lv_ladd hx hb dX12_sail_118 ?_
                          refine lv_lstore_n (lv' := [(2, .long (((wk_lineL (wk_ld ((wk_sailI (wk_sailT (0, wk_fg σ) i_3) i_8).2) i_8) (wk_ln ((wk_sailI (wk_sailT (0, wk_fg σ) i_3) i_8).2) i_8) (wk_ll ((wk_sailI (wk_sailT (0, wk_fg σ) i_3) i_8).2) i_8) (wk_lh ((wk_sailI (wk_sailT (0, wk_fg σ) i_3) i_8).2) i_8) (wk_sailI (wk_sailT (0, wk_fg σ) i_3) i_8) i_15).1) + ((wk_do (wk_ld ((wk_sailI (wk_sailT (0, wk_fg σ) i_3) i_8).2) i_8) ((wk_lineL (wk_ld ((wk_sailI (wk_sailT (0, wk_fg σ) i_3) i_8).2) i_8) (wk_ln ((wk_sailI (wk_sailT (0, wk_fg σ) i_3) i_8).2) i_8) (wk_ll ((wk_sailI (wk_sailT (0, wk_fg σ) i_3) i_8).2) i_8) (wk_lh ((wk_sailI (wk_sailT (0, wk_fg σ) i_3) i_8).2) i_8) (wk_sailI (wk_sailT (0, wk_fg σ) i_3) i_8) i_15).2) i_15 (wk_ln ((wk_sailI (wk_sailT (0, wk_fg σ) i_3) i_8).2) i_8)).1))), (0, .ref (am 0)), (1, .int (nI T)), (4, .int (nI i_3)), (5, .int (nI i_8)), (6, .int (nI i_15))]) hx hb dX12_sail_119 rfl hl (by decide) rfl (fun ls hl => ?_)
                          refine lv_iinc (v := nI (i_15 + 1)) (lv' := [(6, .int (nI (i_15 + 1))), (2, .long (((wk_lineL (wk_ld ((wk_sailI (wk_sailT (0, wk_fg σ) i_3) i_8).2) i_8) (wk_ln ((wk_sailI (wk_sailT (0, wk_fg σ) i_3) i_8).2) i_8) (wk_ll ((wk_sailI (wk_sailT (0, wk_fg σ) i_3) i_8).2) i_8) (wk_lh ((wk_sailI (wk_sailT (0, wk_fg σ) i_3) i_8).2) i_8) (wk_sailI (wk_sailT (0, wk_fg σ) i_3) i_8) i_15).1) + ((wk_do (wk_ld ((wk_sailI (wk_sailT (0, wk_fg σ) i_3) i_8).2) i_8) ((wk_lineL (wk_ld ((wk_sailI (wk_sailT (0, wk_fg σ) i_3) i_8).2) i_8) (wk_ln ((wk_sailI (wk_sailT (0, wk_fg σ) i_3) i_8).2) i_8) (wk_ll ((wk_sailI (wk_sailT (0, wk_fg σ) i_3) i_8).2) i_8) (wk_lh ((wk_sailI (wk_sailT (0, wk_fg σ) i_3) i_8).2) i_8) (wk_sailI (wk_sailT (0, wk_fg σ) i_3) i_8) i_15).2) i_15 (wk_ln ((wk_sailI (wk_sailT (0, wk_fg σ) i_3) i_8).2) i_8)).1))), (0, .ref (am 0)), (1, .int (nI T)), (4, .int (nI i_3)), (5, .int (nI i_8))]) hx hb dX12_sail_120 hl (k := 5) rfl (nI_1 _) (by decide) rfl (fun ls hl => ?_)
                          refine lv_goto (tgt := 43) hx hb dX12_sail_123 (by decide) ?_
                          have e1 : wk_lineL (wk_ld ((wk_sailI (wk_sailT (0, wk_fg σ) i_3) i_8).2) i_8) (wk_ln ((wk_sailI (wk_sailT (0, wk_fg σ) i_3) i_8).2) i_8) (wk_ll ((wk_sailI (wk_sailT (0, wk_fg σ) i_3) i_8).2) i_8) (wk_lh ((wk_sailI (wk_sailT (0, wk_fg σ) i_3) i_8).2) i_8) (wk_sailI (wk_sailT (0, wk_fg σ) i_3) i_8) (i_15 + 1) = (((wk_lineL (wk_ld ((wk_sailI (wk_sailT (0, wk_fg σ) i_3) i_8).2) i_8) (wk_ln ((wk_sailI (wk_sailT (0, wk_fg σ) i_3) i_8).2) i_8) (wk_ll ((wk_sailI (wk_sailT (0, wk_fg σ) i_3) i_8).2) i_8) (wk_lh ((wk_sailI (wk_sailT (0, wk_fg σ) i_3) i_8).2) i_8) (wk_sailI (wk_sailT (0, wk_fg σ) i_3) i_8) i_15).1) + ((wk_do (wk_ld ((wk_sailI (wk_sailT (0, wk_fg σ) i_3) i_8).2) i_8) ((wk_lineL (wk_ld ((wk_sailI (wk_sailT (0, wk_fg σ) i_3) i_8).2) i_8) (wk_ln ((wk_sailI (wk_sailT (0, wk_fg σ) i_3) i_8).2) i_8) (wk_ll ((wk_sailI (wk_sailT (0, wk_fg σ) i_3) i_8).2) i_8) (wk_lh ((wk_sailI (wk_sailT (0, wk_fg σ) i_3) i_8).2) i_8) (wk_sailI (wk_sailT (0, wk_fg σ) i_3) i_8) i_15).2) i_15 (wk_ln ((wk_sailI (wk_sailT (0, wk_fg σ) i_3) i_8).2) i_8)).1), wk_wk (wk_ld ((wk_sailI (wk_sailT (0, wk_fg σ) i_3) i_8).2) i_8) ((wk_lineL (wk_ld ((wk_sailI (wk_sailT (0, wk_fg σ) i_3) i_8).2) i_8) (wk_ln ((wk_sailI (wk_sailT (0, wk_fg σ) i_3) i_8).2) i_8) (wk_ll ((wk_sailI (wk_sailT (0, wk_fg σ) i_3) i_8).2) i_8) (wk_lh ((wk_sailI (wk_sailT (0, wk_fg σ) i_3) i_8).2) i_8) (wk_sailI (wk_sailT (0, wk_fg σ) i_3) i_8) i_15).2) i_15 (wk_ln ((wk_sailI (wk_sailT (0, wk_fg σ) i_3) i_8).2) i_8) 1) := by rw [wk_lineL]; rw [if_pos ⟨wk_nlt c_22, wk_nlt c_23⟩, wk_wk1]
                          exact ih_i_15 _ _ _ (by rw [e1]; exact ⟨hI, lv_sub hl [2, 3, 4, 5, 1, 0] rfl⟩)
    · refine lv_ldc2 hx hb hown (hts _ (wk_in_M _ mw_567)) dX12_sail_10 ?_
      exact wk_rl σ hx hb hr hlk hK hI rfl (wk_post (by unfold wk_sail; rw [wk_ifF (fun hq => c_2 hq.2)])) dX12_sail_13
set_option maxHeartbeats 4000000 in
set_option maxRecDepth 100000 in
theorem c_X12_race (l : Launch) (D : va_G) (cI cJ cS : ClassId) (am : Nat → Nat) (σ : wk_St) (k9 : Int32) (n m9 : Int32) (hV : wk_V σ) : wk_Ci l D (wk_tys cI cJ cS) yX12_race (wk_M yX12_race cX12_race 12 (some .int)) ({ frames := 8, cells := 0, slots := 0, locals := 186 }) [.ref (am 0), .int k9, .int n, .int m9] (wm_W cI cJ am σ) (wm_W cI cJ am) (fun r0 u0 => r0 = (wk_race σ k9 n m9).1 ∧ u0 = (wk_race σ k9 n m9).2) := by
  intro sz
  refine Met.ofW (cc := cX12_race) (maxL := 12) (ret := (some .int)) (by decide) rfl ?_
  intro p e s m args below meth c s₁ B hml hv
  obtain ⟨rfl, hsz, hP, hK, hD0, hN⟩ := hv
  have hx := B.exec
  have hb := B.bytes
  have hr := B.returns
  have hts := atoms_spec (ws := wk_M yX12_race cX12_race 12 (some .int)) B.pre
  have hown : s.vm.findClass RX12 = some m.cls := findClass_of_methodNamed B.named
  have hlk := B.notSynchronized
  subst hsz
  have hI : wk_I D (va_A (wm_W cI cJ am σ) s.heap.size) s.heap s.heap [] (wm_W cI cJ am σ) := ⟨hP, hD0.self, va_S.rf⟩
  have hA : ∀ q : Nat, s.heap.size ≤ q → (va_A (wm_W cI cJ am σ) s.heap.size) q := fun q h => Or.inr h
  clear hP hD0
  generalize va_A (wm_W cI cJ am σ) s.heap.size = A at hI hA ⊢
  have hl := lv_entry ([.ref (am 0), .int k9, .int n, .int m9]) (n := 12) (Nat.le_of_ble_eq_true rfl)
  rw [lg_entry_eq]
  generalize (lg_sl ([.ref (am 0), .int k9, .int n, .int m9]) ++ List.replicate (12 - (lg_sl ([.ref (am 0), .int k9, .int n, .int m9])).length) Slot.unset).toArray = ls at hl ⊢
  have hl : lv_has ls 12 [(0, .ref (am 0)), (1, .int k9), (2, .int n), (3, .int m9)] := hl
  rcases wk_okC hV k9 with ⟨j, hj, rfl⟩ | hno
  · have hK := hK
    have h8 := hV.rk hj
    refine lv_aload_n hx hb dX12_race_0 rfl (lv_at hl 0 rfl) ?_
    refine lv_iconst (v := 2) hx hb dX12_race_1 (by decide) ?_
    refine lv_iload_n hx hb dX12_race_2 rfl (lv_at hl 1 rfl) ?_
    refine lv_iload_n hx hb dX12_race_3 rfl (lv_at hl 2 rfl) ?_
    refine wk_kI hI hA (va_runV (As := [.int 2, .int (nI j), .int n]) (rest := []) ⟨hx, hb, hml, hown, hts⟩ (c_X12_may l D cI cJ cS am σ 2 (nI j) n _) (wk_cwV 3 hts wk_in_M mw_557 mw_559 mw_5 mw_45 mw_560 hdX12_may ⟨(Nat.le_of_ble_eq_true rfl), (Nat.le_of_ble_eq_true rfl)⟩) (wk_preV hN hK hI (ci := 11) rfl wm_e0) rfl rfl hl.1 rfl (lv_room (Nat.le_of_ble_eq_true rfl)) dX12_race_4 ⟨(Nat.le_of_ble_eq_true rfl), (Nat.le_of_ble_eq_true rfl)⟩) (fun r u H locs hw hI => ?_)
    obtain ⟨rfl, hw⟩ := hw
    rw [hw] at hI
    refine lv_if_eq (tgt := 32) hx hb dX12_race_7 (by decide) (fun c_1 => ?_) (fun c_1 => ?_)
    · have c_1 := wk_b0 c_1
      refine lv_ldc hx hb hown (hts _ (wk_in_M _ mw_533)) dX12_race_32 ?_
      exact wk_ri σ hx hb hr hlk hK hI rfl (wk_post (by unfold wk_race; rw [wk_clJ hV hj, wk_ifF (fun hq => c_1 ⟨hq.1, hq.2.2.1⟩)])) dX12_race_34
    · have c_1 := wk_b1 c_1
      refine lv_iload_n hx hb dX12_race_10 rfl (lv_at hl 3 rfl) ?_
      refine lv_if_lt (tgt := 32) hx hb dX12_race_11 (by decide) (fun c_2 => ?_) (fun c_2 => ?_)
      · refine lv_ldc hx hb hown (hts _ (wk_in_M _ mw_533)) dX12_race_32 ?_
        exact wk_ri σ hx hb hr hlk hK hI rfl (wk_post (by unfold wk_race; rw [wk_clJ hV hj, wk_ifF (fun hq => wk_lnl c_2 hq.2.2.2.1)])) dX12_race_34
      · refine lv_iload_n hx hb dX12_race_14 rfl (lv_at hl 3 rfl) ?_
        refine lv_bipush (v := 20) hx hb dX12_race_15 (by decide) ?_
        refine lv_icmp_gt (tgt := 32) hx hb dX12_race_17 (by decide) (fun c_3 => ?_) (fun c_3 => ?_)
        · refine lv_ldc hx hb hown (hts _ (wk_in_M _ mw_533)) dX12_race_32 ?_
          exact wk_ri σ hx hb hr hlk hK hI rfl (wk_post (by unfold wk_race; rw [wk_clJ hV hj, wk_ifF (fun hq => wk_lnl c_3 hq.2.2.2.2)])) dX12_race_34
        · refine lv_aload_n hx hb dX12_race_20 rfl (lv_at hl 0 rfl) ?_
          refine wk_get (v := .ref (am 1)) hx hb hts (fun w h => wk_in_M w (lay_X12 w h)) hown hK hI (0) wm_e0 rfl 1 (by decide) (hts _ (wk_in_M _ mw_495)) rfl rfl dX12_race_21 ?_
          refine lv_iload_n hx hb dX12_race_24 rfl (lv_at hl 1 rfl) ?_
          refine wk_iald (v := (nI (wk_rk σ j))) (j := j) hx hb hK hI 1 0 wm_e1 rfl rfl (by have hq12 := hV.1; omega) (by decide) rfl dX12_race_25 ?_
          refine wk_kI hI hA (va_runS (As := [.int (nI (wk_rk σ j))]) (rest := []) ⟨hx, hb, hml, hown, hts⟩ (c_X12_isClimber l D cI cJ cS am σ (wk_rk σ j) h8 _) (wk_cwS 1 hts wk_in_M mw_700 mw_701 mw_45 mw_702 (hdX12_isClimber).2 ⟨(Nat.le_of_ble_eq_true rfl), (Nat.le_of_ble_eq_true rfl)⟩) (wk_preS hN hK hI) rfl rfl hl.1 rfl (lv_room (Nat.le_of_ble_eq_true rfl)) dX12_race_26 ⟨(Nat.le_of_ble_eq_true rfl), (Nat.le_of_ble_eq_true rfl)⟩) (fun r u H locs hw hI => ?_)
          obtain ⟨rfl, hw⟩ := hw
          rw [hw] at hI
          refine lv_if_ne (tgt := 35) hx hb dX12_race_29 (by decide) (fun c_4 => ?_) (fun c_4 => ?_)
          · have c_4 := wk_b1 c_4
            refine lv_aload_n hx hb dX12_race_35 rfl (lv_at hl 0 rfl) ?_
            refine lv_iconst (v := 0) hx hb dX12_race_36 (by decide) ?_
            refine wk_put (v := .int (nI 0)) (ty := .int) hx hb hts (fun w h => wk_in_M w (lay_X12 w h)) tyX12 tyX12_ok nmX12 hown hK hI (0) wm_e0 rfl 10 (by decide) (hts _ (wk_in_M _ mw_504)) rfl rfl (by decide +kernel) rfl rfl (Nat.le_of_ble_eq_true rfl) (wm_sNt _) dX12_race_37 (fun H locs hI => ?_)
            refine lv_aload_n hx hb dX12_race_40 rfl (lv_at hl 0 rfl) ?_
            refine wk_get (v := .ref (am 1)) hx hb hts (fun w h => wk_in_M w (lay_X12 w h)) hown hK hI (0) wm_e0 rfl 1 (by decide) (hts _ (wk_in_M _ mw_495)) rfl rfl dX12_race_41 ?_
            refine lv_iload_n hx hb dX12_race_44 rfl (lv_at hl 1 rfl) ?_
            refine wk_iald (v := (nI (wk_rk (wk_fg σ) j))) (j := j) hx hb hK hI 1 0 wm_e1 rfl rfl (by have hq12 := hV.1; omega) (by decide) rfl dX12_race_45 ?_
            refine lv_iconst (v := 5) hx hb dX12_race_46 (by decide) ?_
            refine lv_icmp_ne (tgt := 54) hx hb dX12_race_47 (by decide) (fun c_5 => ?_) (fun c_5 => ?_)
            · refine lv_iconst (v := 0) hx hb dX12_race_54 (by decide) ?_
              refine lv_istore (lv' := [(4, .int 0), (0, .ref (am 0)), (1, .int (nI j)), (2, .int n), (3, .int m9)]) hx hb dX12_race_55 hl (by decide) rfl (fun ls hl => ?_)
              refine lv_iload hx hb dX12_race_57 (lv_at hl 0 rfl) ?_
              refine lv_if_eq (tgt := 71) hx hb dX12_race_59 (by decide) (fun c_6 => ?_) (fun c_6 => absurd (by decide) c_6)
              refine lv_iload_n hx hb dX12_race_71 rfl (lv_at hl 4 rfl) ?_
              refine lv_istore (lv' := [(5, .int m9), (4, .int 0), (0, .ref (am 0)), (1, .int (nI j)), (2, .int n), (3, .int m9)]) hx hb dX12_race_72 hl (by decide) rfl (fun ls hl => ?_)
              refine lv_lconst (v := 0) hx hb dX12_race_74 (by decide) ?_
              refine lv_lstore (lv' := [(6, .long 0), (5, .int m9), (4, .int 0), (0, .ref (am 0)), (1, .int (nI j)), (2, .int n), (3, .int m9)]) hx hb dX12_race_75 hl (by decide) rfl (fun ls hl => ?_)
              refine lv_iconst (v := 1) hx hb dX12_race_77 (by decide) ?_
              refine lv_istore (lv' := [(8, .int 1), (6, .long 0), (5, .int m9), (4, .int 0), (0, .ref (am 0)), (1, .int (nI j)), (2, .int n), (3, .int m9)]) hx hb dX12_race_78 hl (by decide) rfl (fun ls hl => ?_)
              refine lv_iconst (v := 0) hx hb dX12_race_80 (by decide) ?_
              refine lv_istore (lv' := [(9, .int 0), (8, .int 1), (6, .long 0), (5, .int m9), (4, .int 0), (0, .ref (am 0)), (1, .int (nI j)), (2, .int n), (3, .int m9)]) hx hb dX12_race_81 hl (by decide) rfl (fun ls hl => ?_)
              have hr5 : ¬ wk_rk σ j = 5 := fun hq => c_5 (by rw [show wk_rk (wk_fg σ) j = wk_rk σ j from rfl, hq]; rfl)
              obtain ⟨M, hM, rfl⟩ := nI_of2 (x := m9) (M := 20) (n := 20) (by decide) c_2 (wk_nlt c_3)
              refine wk_loop (fun i H locs ls => ∃ (x : Int64) (τ : wk_St), wk_raceL (wk_rk σ j) j n (M - i) x.toInt32 τ = wk_raceL (wk_rk σ j) j n M 0 (wk_fg σ) ∧ wk_G (wk_fg σ) τ (28 * i) ∧ wk_I D A s.heap H locs (wm_W cI cJ am τ) ∧ lv_has ls 12 [(0, .ref (am 0)), (1, .int (nI j)), (2, .int n), (4, .int 0), (5, .int (nI M)), (6, .long x), (8, .int 1), (9, .int (nI i))]) M ?_ ?_ M 0 _ _ _ (Nat.zero_add _) ⟨0, wk_fg σ, rfl, wk_G.rf _ _, hI, lv_sub hl [5, 6, 7, 4, 3, 2, 1, 0] rfl⟩
              · intro H locs ls hinv
                obtain ⟨x, τ, hE, hGτ, hI, hl⟩ := hinv
                rw [Nat.sub_self, wk_raceL] at hE
                refine lv_iload hx hb dX12_race_83 (lv_at hl 7 rfl) ?_
                refine lv_iload hx hb dX12_race_85 (lv_at hl 4 rfl) ?_
                refine lv_icmp_ge (tgt := 143) hx hb dX12_race_87 (by decide) (fun c_7 => ?_) (fun c_7 => ?_)
                · refine lv_iload hx hb dX12_race_143 (lv_at hl 3 rfl) ?_
                  refine lv_if_eq (tgt := 157) hx hb dX12_race_145 (by decide) (fun c_8 => ?_) (fun c_8 => absurd (by decide) c_8)
                  refine lv_lload hx hb dX12_race_157 (lv_at hl 5 rfl) ?_
                  refine lv_l2i hx hb dX12_race_159 rfl ?_
                  exact wk_ri τ hx hb hr hlk hK hI rfl (wk_post (by unfold wk_race wk_raceR; rw [wk_clJ hV hj, wk_ifT ⟨c_1.1, c_4, c_1.2, wk_nlt c_2, wk_nlt c_3⟩, if_neg hr5, nI_clamp (by omega), ← hE])) dX12_race_160
                · exact absurd (nI_le (Nat.le_refl _) (by omega)) c_7
              · intro i H locs ls hi hinv ih
                obtain ⟨x, τ, hE, hGτ, hI, hl⟩ := hinv
                have hRτ : wk_rk τ j = wk_rk σ j := by rw [hGτ.rk]; rfl
                have hMi : M - i = M - (i + 1) + 1 := by omega
                rw [hMi, wk_raceL] at hE
                refine lv_iload hx hb dX12_race_83 (lv_at hl 7 rfl) ?_
                refine lv_iload hx hb dX12_race_85 (lv_at hl 4 rfl) ?_
                refine lv_icmp_ge (tgt := 143) hx hb dX12_race_87 (by decide) (fun c_9 => ?_) (fun c_9 => ?_)
                · exact absurd c_9 (nI_ge hi (by omega))
                · refine lv_iload hx hb dX12_race_90 (lv_at hl 6 rfl) ?_
                  refine lv_if_eq (tgt := 143) hx hb dX12_race_92 (by decide) (fun c_10 => absurd c_10 (by decide)) (fun c_10 => ?_)
                  refine lv_aload_n hx hb dX12_race_95 rfl (lv_at hl 0 rfl) ?_
                  refine lv_iconst (v := 2) hx hb dX12_race_96 (by decide) ?_
                  refine lv_iload_n hx hb dX12_race_97 rfl (lv_at hl 1 rfl) ?_
                  refine lv_iload_n hx hb dX12_race_98 rfl (lv_at hl 2 rfl) ?_
                  refine lv_iconst (v := 0) hx hb dX12_race_99 (by decide) ?_
                  refine wk_kL hI hA (va_runV (As := [.int 2, .int (nI j), .int n, .int 0]) (rest := []) ⟨hx, hb, hml, hown, hts⟩ (c_X12_work l D cI cJ cS am τ 2 j n 0 (hGτ.V hV) (hGτ.lt hj) (by have hq := hGτ.nt; have hq0 : wk_nt (wk_fg σ) = 0 := rfl; have hq12 : wk_n (wk_fg σ) ≤ 12 := hV.1; omega) c_1.2 _) (wk_cwV 4 hts wk_in_M mw_568 mw_570 mw_6 mw_45 mw_571 hdX12_work ⟨(Nat.le_of_ble_eq_true rfl), (Nat.le_of_ble_eq_true rfl)⟩) (wk_preV hN hK hI (ci := 11) rfl wm_e0) rfl rfl hl.1 rfl (lv_room (Nat.le_of_ble_eq_true rfl)) dX12_race_100 ⟨(Nat.le_of_ble_eq_true rfl), (Nat.le_of_ble_eq_true rfl)⟩) (fun r u H locs hw hI => ?_)
                  obtain ⟨rfl, rfl⟩ := hw
                  have hG_11 : wk_G (wk_fg σ) (wk_wk 2 τ j n 0) ((28 * i) + 28) := hGτ.trans (wk_g_wk 2 τ j n 0 (hGτ.V hV).1)
                  rw [wk_wk0, wk_do2, hRτ] at hI
                  rw [wk_do2, hRτ]
                  refine lv_lstore (lv' := [(10, .long ((wk_climbR (wk_rk σ j) τ j n).1.toInt64)), (0, .ref (am 0)), (1, .int (nI j)), (2, .int n), (4, .int 0), (5, .int (nI M)), (6, .long x), (8, .int 1), (9, .int (nI i))]) hx hb dX12_race_103 hl (by decide) rfl (fun ls hl => ?_)
                  refine lv_lload hx hb dX12_race_105 (lv_at hl 0 rfl) ?_
                  refine lv_ldc2 hx hb hown (hts _ (wk_in_M _ mw_648)) dX12_race_107 ?_
                  refine W.lcmp hx hb dX12_race_110 ?_
                  refine lv_if_eq (tgt := 118) hx hb dX12_race_111 (by decide) (fun c_12 => ?_) (fun c_12 => ?_)
                  · have c_12 := (lg_cmp_eq _ _).mp c_12
                    have hX : (wk_climbR (wk_rk σ j) τ j n).1 = -1 := wa_inj (c_12.trans (by decide))
                    rw [if_pos hX] at hE
                    refine lv_iconst (v := 0) hx hb dX12_race_118 (by decide) ?_
                    refine lv_istore (lv' := [(8, .int 0), (10, .long ((wk_climbR (wk_rk σ j) τ j n).1.toInt64)), (0, .ref (am 0)), (1, .int (nI j)), (2, .int n), (4, .int 0), (5, .int (nI M)), (6, .long x), (9, .int (nI i))]) hx hb dX12_race_119 hl (by decide) rfl (fun ls hl => ?_)
                    refine lv_lload hx hb dX12_race_121 (lv_at hl 7 rfl) ?_
                    refine lv_iload hx hb dX12_race_123 (lv_at hl 0 rfl) ?_
                    refine lv_if_eq (tgt := 133) hx hb dX12_race_125 (by decide) (fun c_13 => ?_) (fun c_13 => absurd (by decide) c_13)
                    refine lv_lconst (v := 0) hx hb dX12_race_133 (by decide) ?_
                    refine lv_ladd hx hb dX12_race_134 ?_
                    refine lv_lstore (lv' := [(6, .long (x + 0)), (8, .int 0), (10, .long ((wk_climbR (wk_rk σ j) τ j n).1.toInt64)), (0, .ref (am 0)), (1, .int (nI j)), (2, .int n), (4, .int 0), (5, .int (nI M)), (9, .int (nI i))]) hx hb dX12_race_135 hl (by decide) rfl (fun ls hl => ?_)
                    refine lv_iinc (v := nI (i + 1)) (lv' := [(9, .int (nI (i + 1))), (6, .long (x + 0)), (8, .int 0), (10, .long ((wk_climbR (wk_rk σ j) τ j n).1.toInt64)), (0, .ref (am 0)), (1, .int (nI j)), (2, .int n), (4, .int 0), (5, .int (nI M))]) hx hb dX12_race_137 hl (k := 8) rfl (nI_1 _) (by decide) rfl (fun ls hl => ?_)
                    refine lv_goto (tgt := 83) hx hb dX12_race_140 (by decide) ?_
                    have hE0 : ((x + 0).toInt32, (wk_climbR (wk_rk σ j) τ j n).2) = wk_raceL (wk_rk σ j) j n M 0 (wk_fg σ) := by rw [wa_t32]; exact hE
                    refine lv_iload hx hb dX12_race_83 (lv_at hl 0 rfl) ?_
                    refine lv_iload hx hb dX12_race_85 (lv_at hl 8 rfl) ?_
                    refine lv_icmp_ge (tgt := 143) hx hb dX12_race_87 (by decide) (fun c_14 => ?_) (fun c_14 => ?_)
                    · refine lv_iload hx hb dX12_race_143 (lv_at hl 7 rfl) ?_
                      refine lv_if_eq (tgt := 157) hx hb dX12_race_145 (by decide) (fun c_15 => ?_) (fun c_15 => absurd (by decide) c_15)
                      refine lv_lload hx hb dX12_race_157 (lv_at hl 1 rfl) ?_
                      refine lv_l2i hx hb dX12_race_159 rfl ?_
                      exact wk_ri ((wk_climbR (wk_rk σ j) τ j n).2) hx hb hr hlk hK hI rfl (wk_post (by unfold wk_race wk_raceR; rw [wk_clJ hV hj, wk_ifT ⟨c_1.1, c_4, c_1.2, wk_nlt c_2, wk_nlt c_3⟩, if_neg hr5, nI_clamp (by omega), ← hE0])) dX12_race_160
                    · refine lv_iload hx hb dX12_race_90 (lv_at hl 2 rfl) ?_
                      refine lv_if_eq (tgt := 143) hx hb dX12_race_92 (by decide) (fun c_16 => ?_) (fun c_16 => absurd (by decide) c_16)
                      refine lv_iload hx hb dX12_race_143 (lv_at hl 7 rfl) ?_
                      refine lv_if_eq (tgt := 157) hx hb dX12_race_145 (by decide) (fun c_17 => ?_) (fun c_17 => absurd (by decide) c_17)
                      refine lv_lload hx hb dX12_race_157 (lv_at hl 1 rfl) ?_
                      refine lv_l2i hx hb dX12_race_159 rfl ?_
                      exact wk_ri ((wk_climbR (wk_rk σ j) τ j n).2) hx hb hr hlk hK hI rfl (wk_post (by unfold wk_race wk_raceR; rw [wk_clJ hV hj, wk_ifT ⟨c_1.1, c_4, c_1.2, wk_nlt c_2, wk_nlt c_3⟩, if_neg hr5, nI_clamp (by omega), ← hE0])) dX12_race_160
                  · have c_12 := fun hq => c_12 ((lg_cmp_eq _ _).mpr hq)
                    have hX : ¬ (wk_climbR (wk_rk σ j) τ j n).1 = -1 := fun hq => c_12 (by rw [hq]; decide)
                    rw [if_neg hX] at hE
                    refine lv_iconst (v := 1) hx hb dX12_race_114 (by decide) ?_
                    refine lv_goto (tgt := 119) hx hb dX12_race_115 (by decide) ?_
                    refine lv_istore (lv' := [(8, .int 1), (10, .long ((wk_climbR (wk_rk σ j) τ j n).1.toInt64)), (0, .ref (am 0)), (1, .int (nI j)), (2, .int n), (4, .int 0), (5, .int (nI M)), (6, .long x), (9, .int (nI i))]) hx hb dX12_race_119 hl (by decide) rfl (fun ls hl => ?_)
                    refine lv_lload hx hb dX12_race_121 (lv_at hl 7 rfl) ?_
                    refine lv_iload hx hb dX12_race_123 (lv_at hl 0 rfl) ?_
                    refine lv_if_eq (tgt := 133) hx hb dX12_race_125 (by decide) (fun c_18 => absurd c_18 (by decide)) (fun c_18 => ?_)
                    refine lv_lload hx hb dX12_race_128 (lv_at hl 1 rfl) ?_
                    refine lv_goto (tgt := 134) hx hb dX12_race_130 (by decide) ?_
                    refine lv_ladd hx hb dX12_race_134 ?_
                    refine lv_lstore (lv' := [(6, .long (x + ((wk_climbR (wk_rk σ j) τ j n).1.toInt64))), (8, .int 1), (10, .long ((wk_climbR (wk_rk σ j) τ j n).1.toInt64)), (0, .ref (am 0)), (1, .int (nI j)), (2, .int n), (4, .int 0), (5, .int (nI M)), (9, .int (nI i))]) hx hb dX12_race_135 hl (by decide) rfl (fun ls hl => ?_)
                    refine lv_iinc (v := nI (i + 1)) (lv' := [(9, .int (nI (i + 1))), (6, .long (x + ((wk_climbR (wk_rk σ j) τ j n).1.toInt64))), (8, .int 1), (10, .long ((wk_climbR (wk_rk σ j) τ j n).1.toInt64)), (0, .ref (am 0)), (1, .int (nI j)), (2, .int n), (4, .int 0), (5, .int (nI M))]) hx hb dX12_race_137 hl (k := 8) rfl (nI_1 _) (by decide) rfl (fun ls hl => ?_)
                    refine lv_goto (tgt := 83) hx hb dX12_race_140 (by decide) ?_
                    exact ih _ _ _ ⟨_, _, by rw [Int64.toInt32_add, Int32.toInt32_toInt64]; exact hE, (hGτ.trans (wk_g_climbR (wk_rk σ j) τ j n)).up (by omega), hI, lv_sub hl [4, 5, 6, 7, 8, 1, 2, 0] rfl⟩
            · refine lv_iconst (v := 1) hx hb dX12_race_50 (by decide) ?_
              refine lv_goto (tgt := 55) hx hb dX12_race_51 (by decide) ?_
              refine lv_istore (lv' := [(4, .int 1), (0, .ref (am 0)), (1, .int (nI j)), (2, .int n), (3, .int m9)]) hx hb dX12_race_55 hl (by decide) rfl (fun ls hl => ?_)
              refine lv_iload hx hb dX12_race_57 (lv_at hl 0 rfl) ?_
              refine lv_if_eq (tgt := 71) hx hb dX12_race_59 (by decide) (fun c_19 => absurd c_19 (by decide)) (fun c_19 => ?_)
              refine lv_iload_n hx hb dX12_race_62 rfl (lv_at hl 4 rfl) ?_
              refine lv_iconst (v := 3) hx hb dX12_race_63 (by decide) ?_
              refine lv_icmp_le (tgt := 71) hx hb dX12_race_64 (by decide) (fun c_20 => ?_) (fun c_20 => ?_)
              · refine lv_iload_n hx hb dX12_race_71 rfl (lv_at hl 4 rfl) ?_
                refine lv_istore (lv' := [(5, .int m9), (4, .int 1), (0, .ref (am 0)), (1, .int (nI j)), (2, .int n), (3, .int m9)]) hx hb dX12_race_72 hl (by decide) rfl (fun ls hl => ?_)
                refine lv_lconst (v := 0) hx hb dX12_race_74 (by decide) ?_
                refine lv_lstore (lv' := [(6, .long 0), (5, .int m9), (4, .int 1), (0, .ref (am 0)), (1, .int (nI j)), (2, .int n), (3, .int m9)]) hx hb dX12_race_75 hl (by decide) rfl (fun ls hl => ?_)
                refine lv_iconst (v := 1) hx hb dX12_race_77 (by decide) ?_
                refine lv_istore (lv' := [(8, .int 1), (6, .long 0), (5, .int m9), (4, .int 1), (0, .ref (am 0)), (1, .int (nI j)), (2, .int n), (3, .int m9)]) hx hb dX12_race_78 hl (by decide) rfl (fun ls hl => ?_)
                refine lv_iconst (v := 0) hx hb dX12_race_80 (by decide) ?_
                refine lv_istore (lv' := [(9, .int 0), (8, .int 1), (6, .long 0), (5, .int m9), (4, .int 1), (0, .ref (am 0)), (1, .int (nI j)), (2, .int n), (3, .int m9)]) hx hb dX12_race_81 hl (by decide) rfl (fun ls hl => ?_)
                have hr5 : wk_rk σ j = 5 := (nI_eq (b := 5) (by omega) (by decide)).mp c_5
                obtain ⟨M, hM, rfl⟩ := nI_of2 (x := m9) (M := 20) (n := 20) (by decide) c_2 (wk_nlt c_3)
                refine wk_loop (fun i H locs ls => ∃ (x : Int64) (τ : wk_St), wk_raceL (wk_rk σ j) j n (M - i) x.toInt32 τ = wk_raceL (wk_rk σ j) j n M 0 (wk_fg σ) ∧ wk_G (wk_fg σ) τ (28 * i) ∧ wk_I D A s.heap H locs (wm_W cI cJ am τ) ∧ lv_has ls 12 [(0, .ref (am 0)), (1, .int (nI j)), (2, .int n), (4, .int 1), (5, .int (nI M)), (6, .long x), (8, .int 1), (9, .int (nI i))]) M ?_ ?_ M 0 _ _ _ (Nat.zero_add _) ⟨0, wk_fg σ, rfl, wk_G.rf _ _, hI, lv_sub hl [5, 6, 7, 4, 3, 2, 1, 0] rfl⟩
                · intro H locs ls hinv
                  obtain ⟨x, τ, hE, hGτ, hI, hl⟩ := hinv
                  rw [Nat.sub_self, wk_raceL] at hE
                  refine lv_iload hx hb dX12_race_83 (lv_at hl 7 rfl) ?_
                  refine lv_iload hx hb dX12_race_85 (lv_at hl 4 rfl) ?_
                  refine lv_icmp_ge (tgt := 143) hx hb dX12_race_87 (by decide) (fun c_21 => ?_) (fun c_21 => ?_)
                  · refine lv_iload hx hb dX12_race_143 (lv_at hl 3 rfl) ?_
                    refine lv_if_eq (tgt := 157) hx hb dX12_race_145 (by decide) (fun c_22 => absurd c_22 (by decide)) (fun c_22 => ?_)
                    refine lv_ldc2 hx hb hown (hts _ (wk_in_M _ mw_622)) dX12_race_148 ?_
                    refine lv_lload hx hb dX12_race_151 (lv_at hl 5 rfl) ?_
                    refine lv_lmul hx hb dX12_race_153 ?_
                    refine lv_goto (tgt := 159) hx hb dX12_race_154 (by decide) ?_
                    refine lv_l2i hx hb dX12_race_159 rfl ?_
                    exact wk_ri τ hx hb hr hlk hK hI rfl (wk_post (by unfold wk_race wk_raceR; rw [wk_clJ hV hj, wk_ifT ⟨c_1.1, c_4, c_1.2, wk_nlt c_2, wk_nlt c_3⟩, if_pos hr5, show (if 3 ≤ nI M then (3 : Int32) else nI M) = nI M from wk_min3 c_20, nI_clamp (by omega), ← hE, Int64.toInt32_mul]; rfl)) dX12_race_160
                  · exact absurd (nI_le (Nat.le_refl _) (by omega)) c_21
                · intro i H locs ls hi hinv ih
                  obtain ⟨x, τ, hE, hGτ, hI, hl⟩ := hinv
                  have hRτ : wk_rk τ j = wk_rk σ j := by rw [hGτ.rk]; rfl
                  have hMi : M - i = M - (i + 1) + 1 := by omega
                  rw [hMi, wk_raceL] at hE
                  refine lv_iload hx hb dX12_race_83 (lv_at hl 7 rfl) ?_
                  refine lv_iload hx hb dX12_race_85 (lv_at hl 4 rfl) ?_
                  refine lv_icmp_ge (tgt := 143) hx hb dX12_race_87 (by decide) (fun c_23 => ?_) (fun c_23 => ?_)
                  · exact absurd c_23 (nI_ge hi (by omega))
                  · refine lv_iload hx hb dX12_race_90 (lv_at hl 6 rfl) ?_
                    refine lv_if_eq (tgt := 143) hx hb dX12_race_92 (by decide) (fun c_24 => absurd c_24 (by decide)) (fun c_24 => ?_)
                    refine lv_aload_n hx hb dX12_race_95 rfl (lv_at hl 0 rfl) ?_
                    refine lv_iconst (v := 2) hx hb dX12_race_96 (by decide) ?_
                    refine lv_iload_n hx hb dX12_race_97 rfl (lv_at hl 1 rfl) ?_
                    refine lv_iload_n hx hb dX12_race_98 rfl (lv_at hl 2 rfl) ?_
                    refine lv_iconst (v := 0) hx hb dX12_race_99 (by decide) ?_
                    refine wk_kL hI hA (va_runV (As := [.int 2, .int (nI j), .int n, .int 0]) (rest := []) ⟨hx, hb, hml, hown, hts⟩ (c_X12_work l D cI cJ cS am τ 2 j n 0 (hGτ.V hV) (hGτ.lt hj) (by have hq := hGτ.nt; have hq0 : wk_nt (wk_fg σ) = 0 := rfl; have hq12 : wk_n (wk_fg σ) ≤ 12 := hV.1; omega) c_1.2 _) (wk_cwV 4 hts wk_in_M mw_568 mw_570 mw_6 mw_45 mw_571 hdX12_work ⟨(Nat.le_of_ble_eq_true rfl), (Nat.le_of_ble_eq_true rfl)⟩) (wk_preV hN hK hI (ci := 11) rfl wm_e0) rfl rfl hl.1 rfl (lv_room (Nat.le_of_ble_eq_true rfl)) dX12_race_100 ⟨(Nat.le_of_ble_eq_true rfl), (Nat.le_of_ble_eq_true rfl)⟩) (fun r u H locs hw hI => ?_)
                    obtain ⟨rfl, rfl⟩ := hw
                    have hG_25 : wk_G (wk_fg σ) (wk_wk 2 τ j n 0) ((28 * i) + 28) := hGτ.trans (wk_g_wk 2 τ j n 0 (hGτ.V hV).1)
                    rw [wk_wk0, wk_do2, hRτ] at hI
                    rw [wk_do2, hRτ]
                    refine lv_lstore (lv' := [(10, .long ((wk_climbR (wk_rk σ j) τ j n).1.toInt64)), (0, .ref (am 0)), (1, .int (nI j)), (2, .int n), (4, .int 1), (5, .int (nI M)), (6, .long x), (8, .int 1), (9, .int (nI i))]) hx hb dX12_race_103 hl (by decide) rfl (fun ls hl => ?_)
                    refine lv_lload hx hb dX12_race_105 (lv_at hl 0 rfl) ?_
                    refine lv_ldc2 hx hb hown (hts _ (wk_in_M _ mw_648)) dX12_race_107 ?_
                    refine W.lcmp hx hb dX12_race_110 ?_
                    refine lv_if_eq (tgt := 118) hx hb dX12_race_111 (by decide) (fun c_26 => ?_) (fun c_26 => ?_)
                    · have c_26 := (lg_cmp_eq _ _).mp c_26
                      have hX : (wk_climbR (wk_rk σ j) τ j n).1 = -1 := wa_inj (c_26.trans (by decide))
                      rw [if_pos hX] at hE
                      refine lv_iconst (v := 0) hx hb dX12_race_118 (by decide) ?_
                      refine lv_istore (lv' := [(8, .int 0), (10, .long ((wk_climbR (wk_rk σ j) τ j n).1.toInt64)), (0, .ref (am 0)), (1, .int (nI j)), (2, .int n), (4, .int 1), (5, .int (nI M)), (6, .long x), (9, .int (nI i))]) hx hb dX12_race_119 hl (by decide) rfl (fun ls hl => ?_)
                      refine lv_lload hx hb dX12_race_121 (lv_at hl 7 rfl) ?_
                      refine lv_iload hx hb dX12_race_123 (lv_at hl 0 rfl) ?_
                      refine lv_if_eq (tgt := 133) hx hb dX12_race_125 (by decide) (fun c_27 => ?_) (fun c_27 => absurd (by decide) c_27)
                      refine lv_lconst (v := 0) hx hb dX12_race_133 (by decide) ?_
                      refine lv_ladd hx hb dX12_race_134 ?_
                      refine lv_lstore (lv' := [(6, .long (x + 0)), (8, .int 0), (10, .long ((wk_climbR (wk_rk σ j) τ j n).1.toInt64)), (0, .ref (am 0)), (1, .int (nI j)), (2, .int n), (4, .int 1), (5, .int (nI M)), (9, .int (nI i))]) hx hb dX12_race_135 hl (by decide) rfl (fun ls hl => ?_)
                      refine lv_iinc (v := nI (i + 1)) (lv' := [(9, .int (nI (i + 1))), (6, .long (x + 0)), (8, .int 0), (10, .long ((wk_climbR (wk_rk σ j) τ j n).1.toInt64)), (0, .ref (am 0)), (1, .int (nI j)), (2, .int n), (4, .int 1), (5, .int (nI M))]) hx hb dX12_race_137 hl (k := 8) rfl (nI_1 _) (by decide) rfl (fun ls hl => ?_)
                      refine lv_goto (tgt := 83) hx hb dX12_race_140 (by decide) ?_
                      have hE0 : ((x + 0).toInt32, (wk_climbR (wk_rk σ j) τ j n).2) = wk_raceL (wk_rk σ j) j n M 0 (wk_fg σ) := by rw [wa_t32]; exact hE
                      refine lv_iload hx hb dX12_race_83 (lv_at hl 0 rfl) ?_
                      refine lv_iload hx hb dX12_race_85 (lv_at hl 8 rfl) ?_
                      refine lv_icmp_ge (tgt := 143) hx hb dX12_race_87 (by decide) (fun c_28 => ?_) (fun c_28 => ?_)
                      · refine lv_iload hx hb dX12_race_143 (lv_at hl 7 rfl) ?_
                        refine lv_if_eq (tgt := 157) hx hb dX12_race_145 (by decide) (fun c_29 => absurd c_29 (by decide)) (fun c_29 => ?_)
                        refine lv_ldc2 hx hb hown (hts _ (wk_in_M _ mw_622)) dX12_race_148 ?_
                        refine lv_lload hx hb dX12_race_151 (lv_at hl 1 rfl) ?_
                        refine lv_lmul hx hb dX12_race_153 ?_
                        refine lv_goto (tgt := 159) hx hb dX12_race_154 (by decide) ?_
                        refine lv_l2i hx hb dX12_race_159 rfl ?_
                        exact wk_ri ((wk_climbR (wk_rk σ j) τ j n).2) hx hb hr hlk hK hI rfl (wk_post (by unfold wk_race wk_raceR; rw [wk_clJ hV hj, wk_ifT ⟨c_1.1, c_4, c_1.2, wk_nlt c_2, wk_nlt c_3⟩, if_pos hr5, show (if 3 ≤ nI M then (3 : Int32) else nI M) = nI M from wk_min3 c_20, nI_clamp (by omega), ← hE0, Int64.toInt32_mul]; rfl)) dX12_race_160
                      · refine lv_iload hx hb dX12_race_90 (lv_at hl 2 rfl) ?_
                        refine lv_if_eq (tgt := 143) hx hb dX12_race_92 (by decide) (fun c_30 => ?_) (fun c_30 => absurd (by decide) c_30)
                        refine lv_iload hx hb dX12_race_143 (lv_at hl 7 rfl) ?_
                        refine lv_if_eq (tgt := 157) hx hb dX12_race_145 (by decide) (fun c_31 => absurd c_31 (by decide)) (fun c_31 => ?_)
                        refine lv_ldc2 hx hb hown (hts _ (wk_in_M _ mw_622)) dX12_race_148 ?_
                        refine lv_lload hx hb dX12_race_151 (lv_at hl 1 rfl) ?_
                        refine lv_lmul hx hb dX12_race_153 ?_
                        refine lv_goto (tgt := 159) hx hb dX12_race_154 (by decide) ?_
                        refine lv_l2i hx hb dX12_race_159 rfl ?_
                        exact wk_ri ((wk_climbR (wk_rk σ j) τ j n).2) hx hb hr hlk hK hI rfl (wk_post (by unfold wk_race wk_raceR; rw [wk_clJ hV hj, wk_ifT ⟨c_1.1, c_4, c_1.2, wk_nlt c_2, wk_nlt c_3⟩, if_pos hr5, show (if 3 ≤ nI M then (3 : Int32) else nI M) = nI M from wk_min3 c_20, nI_clamp (by omega), ← hE0, Int64.toInt32_mul]; rfl)) dX12_race_160
                    · have c_26 := fun hq => c_26 ((lg_cmp_eq _ _).mpr hq)
                      have hX : ¬ (wk_climbR (wk_rk σ j) τ j n).1 = -1 := fun hq => c_26 (by rw [hq]; decide)
                      rw [if_neg hX] at hE
                      refine lv_iconst (v := 1) hx hb dX12_race_114 (by decide) ?_
                      refine lv_goto (tgt := 119) hx hb dX12_race_115 (by decide) ?_
                      refine lv_istore (lv' := [(8, .int 1), (10, .long ((wk_climbR (wk_rk σ j) τ j n).1.toInt64)), (0, .ref (am 0)), (1, .int (nI j)), (2, .int n), (4, .int 1), (5, .int (nI M)), (6, .long x), (9, .int (nI i))]) hx hb dX12_race_119 hl (by decide) rfl (fun ls hl => ?_)
                      refine lv_lload hx hb dX12_race_121 (lv_at hl 7 rfl) ?_
                      refine lv_iload hx hb dX12_race_123 (lv_at hl 0 rfl) ?_
                      refine lv_if_eq (tgt := 133) hx hb dX12_race_125 (by decide) (fun c_32 => absurd c_32 (by decide)) (fun c_32 => ?_)
                      refine lv_lload hx hb dX12_race_128 (lv_at hl 1 rfl) ?_
                      refine lv_goto (tgt := 134) hx hb dX12_race_130 (by decide) ?_
                      refine lv_ladd hx hb dX12_race_134 ?_
                      refine lv_lstore (lv' := [(6, .long (x + ((wk_climbR (wk_rk σ j) τ j n).1.toInt64))), (8, .int 1), (10, .long ((wk_climbR (wk_rk σ j) τ j n).1.toInt64)), (0, .ref (am 0)), (1, .int (nI j)), (2, .int n), (4, .int 1), (5, .int (nI M)), (9, .int (nI i))]) hx hb dX12_race_135 hl (by decide) rfl (fun ls hl => ?_)
                      refine lv_iinc (v := nI (i + 1)) (lv' := [(9, .int (nI (i + 1))), (6, .long (x + ((wk_climbR (wk_rk σ j) τ j n).1.toInt64))), (8, .int 1), (10, .long ((wk_climbR (wk_rk σ j) τ j n).1.toInt64)), (0, .ref (am 0)), (1, .int (nI j)), (2, .int n), (4, .int 1), (5, .int (nI M))]) hx hb dX12_race_137 hl (k := 8) rfl (nI_1 _) (by decide) rfl (fun ls hl => ?_)
                      refine lv_goto (tgt := 83) hx hb dX12_race_140 (by decide) ?_
                      exact ih _ _ _ ⟨_, _, by rw [Int64.toInt32_add, Int32.toInt32_toInt64]; exact hE, (hGτ.trans (wk_g_climbR (wk_rk σ j) τ j n)).up (by omega), hI, lv_sub hl [4, 5, 6, 7, 8, 1, 2, 0] rfl⟩
              · refine lv_iconst (v := 3) hx hb dX12_race_67 (by decide) ?_
                refine lv_goto (tgt := 72) hx hb dX12_race_68 (by decide) ?_
                refine lv_istore (lv' := [(5, .int 3), (4, .int 1), (0, .ref (am 0)), (1, .int (nI j)), (2, .int n), (3, .int m9)]) hx hb dX12_race_72 hl (by decide) rfl (fun ls hl => ?_)
                refine lv_lconst (v := 0) hx hb dX12_race_74 (by decide) ?_
                refine lv_lstore (lv' := [(6, .long 0), (5, .int 3), (4, .int 1), (0, .ref (am 0)), (1, .int (nI j)), (2, .int n), (3, .int m9)]) hx hb dX12_race_75 hl (by decide) rfl (fun ls hl => ?_)
                refine lv_iconst (v := 1) hx hb dX12_race_77 (by decide) ?_
                refine lv_istore (lv' := [(8, .int 1), (6, .long 0), (5, .int 3), (4, .int 1), (0, .ref (am 0)), (1, .int (nI j)), (2, .int n), (3, .int m9)]) hx hb dX12_race_78 hl (by decide) rfl (fun ls hl => ?_)
                refine lv_iconst (v := 0) hx hb dX12_race_80 (by decide) ?_
                refine lv_istore (lv' := [(9, .int 0), (8, .int 1), (6, .long 0), (5, .int 3), (4, .int 1), (0, .ref (am 0)), (1, .int (nI j)), (2, .int n), (3, .int m9)]) hx hb dX12_race_81 hl (by decide) rfl (fun ls hl => ?_)
                have hr5 : wk_rk σ j = 5 := (nI_eq (b := 5) (by omega) (by decide)).mp c_5
                obtain ⟨M, hM, hMe⟩ : ∃ M : Nat, M ≤ 20 ∧ (3 : Int32) = nI M := ⟨3, by omega, rfl⟩
                refine wk_loop (fun i H locs ls => ∃ (x : Int64) (τ : wk_St), wk_raceL (wk_rk σ j) j n (3 - i) x.toInt32 τ = wk_raceL (wk_rk σ j) j n 3 0 (wk_fg σ) ∧ wk_G (wk_fg σ) τ (28 * i) ∧ wk_I D A s.heap H locs (wm_W cI cJ am τ) ∧ lv_has ls 12 [(0, .ref (am 0)), (1, .int (nI j)), (2, .int n), (4, .int 1), (5, .int (nI 3)), (6, .long x), (8, .int 1), (9, .int (nI i))]) 3 ?_ ?_ 3 0 _ _ _ (Nat.zero_add _) ⟨0, wk_fg σ, rfl, wk_G.rf _ _, hI, lv_sub hl [5, 6, 7, 4, 3, 2, 1, 0] rfl⟩
                · intro H locs ls hinv
                  obtain ⟨x, τ, hE, hGτ, hI, hl⟩ := hinv
                  rw [Nat.sub_self, wk_raceL] at hE
                  refine lv_iload hx hb dX12_race_83 (lv_at hl 7 rfl) ?_
                  refine lv_iload hx hb dX12_race_85 (lv_at hl 4 rfl) ?_
                  refine lv_icmp_ge (tgt := 143) hx hb dX12_race_87 (by decide) (fun c_33 => ?_) (fun c_33 => ?_)
                  · refine lv_iload hx hb dX12_race_143 (lv_at hl 3 rfl) ?_
                    refine lv_if_eq (tgt := 157) hx hb dX12_race_145 (by decide) (fun c_34 => absurd c_34 (by decide)) (fun c_34 => ?_)
                    refine lv_ldc2 hx hb hown (hts _ (wk_in_M _ mw_622)) dX12_race_148 ?_
                    refine lv_lload hx hb dX12_race_151 (lv_at hl 5 rfl) ?_
                    refine lv_lmul hx hb dX12_race_153 ?_
                    refine lv_goto (tgt := 159) hx hb dX12_race_154 (by decide) ?_
                    refine lv_l2i hx hb dX12_race_159 rfl ?_
                    exact wk_ri τ hx hb hr hlk hK hI rfl (wk_post (by unfold wk_race wk_raceR; rw [wk_clJ hV hj, wk_ifT ⟨c_1.1, c_4, c_1.2, wk_nlt c_2, wk_nlt c_3⟩, if_pos hr5, show (if 3 ≤ m9 then (3 : Int32) else m9) = nI 3 from if_pos (by have hq := c_20; simp only [Int32.lt_iff_toInt_lt, Int32.le_iff_toInt_le, wk_lit0, wk_lit1, wk_lit2, wk_lit3, wk_lit5, wk_lit6, wk_lit7, wk_lit8, wk_lit64, wk_lit4, wk_lit12, wk_lit20, wk_lit99, wk_lit1000] at hq ⊢; omega), nI_clamp (by omega), ← hE, Int64.toInt32_mul]; rfl)) dX12_race_160
                  · exact absurd (nI_le (Nat.le_refl _) (by omega)) c_33
                · intro i H locs ls hi hinv ih
                  obtain ⟨x, τ, hE, hGτ, hI, hl⟩ := hinv
                  have hRτ : wk_rk τ j = wk_rk σ j := by rw [hGτ.rk]; rfl
                  have hMi : 3 - i = 3 - (i + 1) + 1 := by omega
                  rw [hMi, wk_raceL] at hE
                  refine lv_iload hx hb dX12_race_83 (lv_at hl 7 rfl) ?_
                  refine lv_iload hx hb dX12_race_85 (lv_at hl 4 rfl) ?_
                  refine lv_icmp_ge (tgt := 143) hx hb dX12_race_87 (by decide) (fun c_35 => ?_) (fun c_35 => ?_)
                  · exact absurd c_35 (nI_ge hi (by omega))
                  · refine lv_iload hx hb dX12_race_90 (lv_at hl 6 rfl) ?_
                    refine lv_if_eq (tgt := 143) hx hb dX12_race_92 (by decide) (fun c_36 => absurd c_36 (by decide)) (fun c_36 => ?_)
                    refine lv_aload_n hx hb dX12_race_95 rfl (lv_at hl 0 rfl) ?_
                    refine lv_iconst (v := 2) hx hb dX12_race_96 (by decide) ?_
                    refine lv_iload_n hx hb dX12_race_97 rfl (lv_at hl 1 rfl) ?_
                    refine lv_iload_n hx hb dX12_race_98 rfl (lv_at hl 2 rfl) ?_
                    refine lv_iconst (v := 0) hx hb dX12_race_99 (by decide) ?_
                    refine wk_kL hI hA (va_runV (As := [.int 2, .int (nI j), .int n, .int 0]) (rest := []) ⟨hx, hb, hml, hown, hts⟩ (c_X12_work l D cI cJ cS am τ 2 j n 0 (hGτ.V hV) (hGτ.lt hj) (by have hq := hGτ.nt; have hq0 : wk_nt (wk_fg σ) = 0 := rfl; have hq12 : wk_n (wk_fg σ) ≤ 12 := hV.1; omega) c_1.2 _) (wk_cwV 4 hts wk_in_M mw_568 mw_570 mw_6 mw_45 mw_571 hdX12_work ⟨(Nat.le_of_ble_eq_true rfl), (Nat.le_of_ble_eq_true rfl)⟩) (wk_preV hN hK hI (ci := 11) rfl wm_e0) rfl rfl hl.1 rfl (lv_room (Nat.le_of_ble_eq_true rfl)) dX12_race_100 ⟨(Nat.le_of_ble_eq_true rfl), (Nat.le_of_ble_eq_true rfl)⟩) (fun r u H locs hw hI => ?_)
                    obtain ⟨rfl, rfl⟩ := hw
                    have hG_37 : wk_G (wk_fg σ) (wk_wk 2 τ j n 0) ((28 * i) + 28) := hGτ.trans (wk_g_wk 2 τ j n 0 (hGτ.V hV).1)
                    rw [wk_wk0, wk_do2, hRτ] at hI
                    rw [wk_do2, hRτ]
                    refine lv_lstore (lv' := [(10, .long ((wk_climbR (wk_rk σ j) τ j n).1.toInt64)), (0, .ref (am 0)), (1, .int (nI j)), (2, .int n), (4, .int 1), (5, .int (nI 3)), (6, .long x), (8, .int 1), (9, .int (nI i))]) hx hb dX12_race_103 hl (by decide) rfl (fun ls hl => ?_)
                    refine lv_lload hx hb dX12_race_105 (lv_at hl 0 rfl) ?_
                    refine lv_ldc2 hx hb hown (hts _ (wk_in_M _ mw_648)) dX12_race_107 ?_
                    refine W.lcmp hx hb dX12_race_110 ?_
                    refine lv_if_eq (tgt := 118) hx hb dX12_race_111 (by decide) (fun c_38 => ?_) (fun c_38 => ?_)
                    · have c_38 := (lg_cmp_eq _ _).mp c_38
                      have hX : (wk_climbR (wk_rk σ j) τ j n).1 = -1 := wa_inj (c_38.trans (by decide))
                      rw [if_pos hX] at hE
                      refine lv_iconst (v := 0) hx hb dX12_race_118 (by decide) ?_
                      refine lv_istore (lv' := [(8, .int 0), (10, .long ((wk_climbR (wk_rk σ j) τ j n).1.toInt64)), (0, .ref (am 0)), (1, .int (nI j)), (2, .int n), (4, .int 1), (5, .int (nI 3)), (6, .long x), (9, .int (nI i))]) hx hb dX12_race_119 hl (by decide) rfl (fun ls hl => ?_)
                      refine lv_lload hx hb dX12_race_121 (lv_at hl 7 rfl) ?_
                      refine lv_iload hx hb dX12_race_123 (lv_at hl 0 rfl) ?_
                      refine lv_if_eq (tgt := 133) hx hb dX12_race_125 (by decide) (fun c_39 => ?_) (fun c_39 => absurd (by decide) c_39)
                      refine lv_lconst (v := 0) hx hb dX12_race_133 (by decide) ?_
                      refine lv_ladd hx hb dX12_race_134 ?_
                      refine lv_lstore (lv' := [(6, .long (x + 0)), (8, .int 0), (10, .long ((wk_climbR (wk_rk σ j) τ j n).1.toInt64)), (0, .ref (am 0)), (1, .int (nI j)), (2, .int n), (4, .int 1), (5, .int (nI 3)), (9, .int (nI i))]) hx hb dX12_race_135 hl (by decide) rfl (fun ls hl => ?_)
                      refine lv_iinc (v := nI (i + 1)) (lv' := [(9, .int (nI (i + 1))), (6, .long (x + 0)), (8, .int 0), (10, .long ((wk_climbR (wk_rk σ j) τ j n).1.toInt64)), (0, .ref (am 0)), (1, .int (nI j)), (2, .int n), (4, .int 1), (5, .int (nI 3))]) hx hb dX12_race_137 hl (k := 8) rfl (nI_1 _) (by decide) rfl (fun ls hl => ?_)
                      refine lv_goto (tgt := 83) hx hb dX12_race_140 (by decide) ?_
                      have hE0 : ((x + 0).toInt32, (wk_climbR (wk_rk σ j) τ j n).2) = wk_raceL (wk_rk σ j) j n 3 0 (wk_fg σ) := by rw [wa_t32]; exact hE
                      refine lv_iload hx hb dX12_race_83 (lv_at hl 0 rfl) ?_
                      refine lv_iload hx hb dX12_race_85 (lv_at hl 8 rfl) ?_
                      refine lv_icmp_ge (tgt := 143) hx hb dX12_race_87 (by decide) (fun c_40 => ?_) (fun c_40 => ?_)
                      · refine lv_iload hx hb dX12_race_143 (lv_at hl 7 rfl) ?_
                        refine lv_if_eq (tgt := 157) hx hb dX12_race_145 (by decide) (fun c_41 => absurd c_41 (by decide)) (fun c_41 => ?_)
                        refine lv_ldc2 hx hb hown (hts _ (wk_in_M _ mw_622)) dX12_race_148 ?_
                        refine lv_lload hx hb dX12_race_151 (lv_at hl 1 rfl) ?_
                        refine lv_lmul hx hb dX12_race_153 ?_
                        refine lv_goto (tgt := 159) hx hb dX12_race_154 (by decide) ?_
                        refine lv_l2i hx hb dX12_race_159 rfl ?_
                        exact wk_ri ((wk_climbR (wk_rk σ j) τ j n).2) hx hb hr hlk hK hI rfl (wk_post (by unfold wk_race wk_raceR; rw [wk_clJ hV hj, wk_ifT ⟨c_1.1, c_4, c_1.2, wk_nlt c_2, wk_nlt c_3⟩, if_pos hr5, show (if 3 ≤ m9 then (3 : Int32) else m9) = nI 3 from if_pos (by have hq := c_20; simp only [Int32.lt_iff_toInt_lt, Int32.le_iff_toInt_le, wk_lit0, wk_lit1, wk_lit2, wk_lit3, wk_lit5, wk_lit6, wk_lit7, wk_lit8, wk_lit64, wk_lit4, wk_lit12, wk_lit20, wk_lit99, wk_lit1000] at hq ⊢; omega), nI_clamp (by omega), ← hE0, Int64.toInt32_mul]; rfl)) dX12_race_160
                      · refine lv_iload hx hb dX12_race_90 (lv_at hl 2 rfl) ?_
                        refine lv_if_eq (tgt := 143) hx hb dX12_race_92 (by decide) (fun c_42 => ?_) (fun c_42 => absurd (by decide) c_42)
                        refine lv_iload hx hb dX12_race_143 (lv_at hl 7 rfl) ?_
                        refine lv_if_eq (tgt := 157) hx hb dX12_race_145 (by decide) (fun c_43 => absurd c_43 (by decide)) (fun c_43 => ?_)
                        refine lv_ldc2 hx hb hown (hts _ (wk_in_M _ mw_622)) dX12_race_148 ?_
                        refine lv_lload hx hb dX12_race_151 (lv_at hl 1 rfl) ?_
                        refine lv_lmul hx hb dX12_race_153 ?_
                        refine lv_goto (tgt := 159) hx hb dX12_race_154 (by decide) ?_
                        refine lv_l2i hx hb dX12_race_159 rfl ?_
                        exact wk_ri ((wk_climbR (wk_rk σ j) τ j n).2) hx hb hr hlk hK hI rfl (wk_post (by unfold wk_race wk_raceR; rw [wk_clJ hV hj, wk_ifT ⟨c_1.1, c_4, c_1.2, wk_nlt c_2, wk_nlt c_3⟩, if_pos hr5, show (if 3 ≤ m9 then (3 : Int32) else m9) = nI 3 from if_pos (by have hq := c_20; simp only [Int32.lt_iff_toInt_lt, Int32.le_iff_toInt_le, wk_lit0, wk_lit1, wk_lit2, wk_lit3, wk_lit5, wk_lit6, wk_lit7, wk_lit8, wk_lit64, wk_lit4, wk_lit12, wk_lit20, wk_lit99, wk_lit1000] at hq ⊢; omega), nI_clamp (by omega), ← hE0, Int64.toInt32_mul]; rfl)) dX12_race_160
                    · have c_38 := fun hq => c_38 ((lg_cmp_eq _ _).mpr hq)
                      have hX : ¬ (wk_climbR (wk_rk σ j) τ j n).1 = -1 := fun hq => c_38 (by rw [hq]; decide)
                      rw [if_neg hX] at hE
                      refine lv_iconst (v := 1) hx hb dX12_race_114 (by decide) ?_
                      refine lv_goto (tgt := 119) hx hb dX12_race_115 (by decide) ?_
                      refine lv_istore (lv' := [(8, .int 1), (10, .long ((wk_climbR (wk_rk σ j) τ j n).1.toInt64)), (0, .ref (am 0)), (1, .int (nI j)), (2, .int n), (4, .int 1), (5, .int (nI 3)), (6, .long x), (9, .int (nI i))]) hx hb dX12_race_119 hl (by decide) rfl (fun ls hl => ?_)
                      refine lv_lload hx hb dX12_race_121 (lv_at hl 7 rfl) ?_
                      refine lv_iload hx hb dX12_race_123 (lv_at hl 0 rfl) ?_
                      refine lv_if_eq (tgt := 133) hx hb dX12_race_125 (by decide) (fun c_44 => absurd c_44 (by decide)) (fun c_44 => ?_)
                      refine lv_lload hx hb dX12_race_128 (lv_at hl 1 rfl) ?_
                      refine lv_goto (tgt := 134) hx hb dX12_race_130 (by decide) ?_
                      refine lv_ladd hx hb dX12_race_134 ?_
                      refine lv_lstore (lv' := [(6, .long (x + ((wk_climbR (wk_rk σ j) τ j n).1.toInt64))), (8, .int 1), (10, .long ((wk_climbR (wk_rk σ j) τ j n).1.toInt64)), (0, .ref (am 0)), (1, .int (nI j)), (2, .int n), (4, .int 1), (5, .int (nI 3)), (9, .int (nI i))]) hx hb dX12_race_135 hl (by decide) rfl (fun ls hl => ?_)
                      refine lv_iinc (v := nI (i + 1)) (lv' := [(9, .int (nI (i + 1))), (6, .long (x + ((wk_climbR (wk_rk σ j) τ j n).1.toInt64))), (8, .int 1), (10, .long ((wk_climbR (wk_rk σ j) τ j n).1.toInt64)), (0, .ref (am 0)), (1, .int (nI j)), (2, .int n), (4, .int 1), (5, .int (nI 3))]) hx hb dX12_race_137 hl (k := 8) rfl (nI_1 _) (by decide) rfl (fun ls hl => ?_)
                      refine lv_goto (tgt := 83) hx hb dX12_race_140 (by decide) ?_
                      exact ih _ _ _ ⟨_, _, by rw [Int64.toInt32_add, Int32.toInt32_toInt64]; exact hE, (hGτ.trans (wk_g_climbR (wk_rk σ j) τ j n)).up (by omega), hI, lv_sub hl [4, 5, 6, 7, 8, 1, 2, 0] rfl⟩
          · have c_4 := wk_b0 c_4
            refine lv_ldc hx hb hown (hts _ (wk_in_M _ mw_533)) dX12_race_32 ?_
            exact wk_ri σ hx hb hr hlk hK hI rfl (wk_post (by unfold wk_race; rw [wk_clJ hV hj, wk_ifF (fun hq => c_4 hq.2.1)])) dX12_race_34
  · have hK := hK
    refine lv_aload_n hx hb dX12_race_0 rfl (lv_at hl 0 rfl) ?_
    refine lv_iconst (v := 2) hx hb dX12_race_1 (by decide) ?_
    refine lv_iload_n hx hb dX12_race_2 rfl (lv_at hl 1 rfl) ?_
    refine lv_iload_n hx hb dX12_race_3 rfl (lv_at hl 2 rfl) ?_
    refine wk_kI hI hA (va_runV (As := [.int 2, .int k9, .int n]) (rest := []) ⟨hx, hb, hml, hown, hts⟩ (c_X12_may l D cI cJ cS am σ 2 k9 n _) (wk_cwV 3 hts wk_in_M mw_557 mw_559 mw_5 mw_45 mw_560 hdX12_may ⟨(Nat.le_of_ble_eq_true rfl), (Nat.le_of_ble_eq_true rfl)⟩) (wk_preV hN hK hI (ci := 11) rfl wm_e0) rfl rfl hl.1 rfl (lv_room (Nat.le_of_ble_eq_true rfl)) dX12_race_4 ⟨(Nat.le_of_ble_eq_true rfl), (Nat.le_of_ble_eq_true rfl)⟩) (fun r u H locs hw hI => ?_)
    obtain ⟨rfl, hw⟩ := hw
    rw [hw] at hI
    refine lv_if_eq (tgt := 32) hx hb dX12_race_7 (by decide) (fun c_45 => ?_) (fun c_45 => ?_)
    · have c_45 := wk_b0 c_45
      refine lv_ldc hx hb hown (hts _ (wk_in_M _ mw_533)) dX12_race_32 ?_
      exact wk_ri σ hx hb hr hlk hK hI rfl (wk_post (by unfold wk_race; rw [wk_ifF (fun hq => hno hq.1)])) dX12_race_34
    · have c_45 := wk_b1 c_45
      exact absurd c_45.1 hno
set_option maxHeartbeats 4000000 in
set_option maxRecDepth 100000 in
theorem c_X12_enlist (l : Launch) (D : va_G) (cI cJ cS : ClassId) (am : Nat → Nat) (σ : wk_St) (r9 s9 : Int32) (hV : wk_V σ) : wk_Ci l D (wk_tys cI cJ cS) yX12_enlist (wk_M yX12_enlist cX12_enlist 4 (some .int)) ({ frames := 0, cells := 0, slots := 0, locals := 0 }) [.ref (am 0), .int r9, .int s9] (wm_W cI cJ am σ) (wm_W cI cJ am) (fun r0 u0 => r0 = (wk_enlist σ r9 s9).1 ∧ u0 = (wk_enlist σ r9 s9).2) := by
  intro sz
  refine Met.ofW (cc := cX12_enlist) (maxL := 4) (ret := (some .int)) (by decide) rfl ?_
  intro p e s m args below meth c s₁ B hml hv
  obtain ⟨rfl, hsz, hP, hK, hD0, hN⟩ := hv
  have hx := B.exec
  have hb := B.bytes
  have hr := B.returns
  have hts := atoms_spec (ws := wk_M yX12_enlist cX12_enlist 4 (some .int)) B.pre
  have hown : s.vm.findClass RX12 = some m.cls := findClass_of_methodNamed B.named
  have hlk := B.notSynchronized
  subst hsz
  have hI : wk_I D (va_A (wm_W cI cJ am σ) s.heap.size) s.heap s.heap [] (wm_W cI cJ am σ) := ⟨hP, hD0.self, va_S.rf⟩
  have hA : ∀ q : Nat, s.heap.size ≤ q → (va_A (wm_W cI cJ am σ) s.heap.size) q := fun q h => Or.inr h
  clear hP hD0
  generalize va_A (wm_W cI cJ am σ) s.heap.size = A at hI hA ⊢
  have hl := lv_entry ([.ref (am 0), .int r9, .int s9]) (n := 4) (Nat.le_of_ble_eq_true rfl)
  rw [lg_entry_eq]
  generalize (lg_sl ([.ref (am 0), .int r9, .int s9]) ++ List.replicate (4 - (lg_sl ([.ref (am 0), .int r9, .int s9])).length) Slot.unset).toArray = ls at hl ⊢
  have hl : lv_has ls 4 [(0, .ref (am 0)), (1, .int r9), (2, .int s9)] := hl
  refine lv_iload_n hx hb dX12_enlist_0 rfl (lv_at hl 1 rfl) ?_
  refine lv_if_lt (tgt := 29) hx hb dX12_enlist_1 (by decide) (fun c_1 => ?_) (fun c_1 => ?_)
  · refine lv_ldc hx hb hown (hts _ (wk_in_M _ mw_533)) dX12_enlist_29 ?_
    exact wk_ri σ hx hb hr hlk hK hI rfl (wk_post (by unfold wk_enlist; rw [wk_ifF (fun hq => wk_lnl c_1 hq.1.1)])) dX12_enlist_31
  · refine lv_iload_n hx hb dX12_enlist_4 rfl (lv_at hl 1 rfl) ?_
    refine lv_bipush (v := 7) hx hb dX12_enlist_5 (by decide) ?_
    refine lv_icmp_gt (tgt := 29) hx hb dX12_enlist_7 (by decide) (fun c_2 => ?_) (fun c_2 => ?_)
    · refine lv_ldc hx hb hown (hts _ (wk_in_M _ mw_533)) dX12_enlist_29 ?_
      exact wk_ri σ hx hb hr hlk hK hI rfl (wk_post (by unfold wk_enlist; rw [wk_ifF (fun hq => wk_lnl c_2 hq.1.2)])) dX12_enlist_31
    · refine lv_iload_n hx hb dX12_enlist_10 rfl (lv_at hl 2 rfl) ?_
      refine lv_if_lt (tgt := 29) hx hb dX12_enlist_11 (by decide) (fun c_3 => ?_) (fun c_3 => ?_)
      · refine lv_ldc hx hb hown (hts _ (wk_in_M _ mw_533)) dX12_enlist_29 ?_
        exact wk_ri σ hx hb hr hlk hK hI rfl (wk_post (by unfold wk_enlist; rw [wk_ifF (fun hq => wk_lnl c_3 hq.2.1.1)])) dX12_enlist_31
      · refine lv_iload_n hx hb dX12_enlist_14 rfl (lv_at hl 2 rfl) ?_
        refine lv_bipush (v := 99) hx hb dX12_enlist_15 (by decide) ?_
        refine lv_icmp_gt (tgt := 29) hx hb dX12_enlist_17 (by decide) (fun c_4 => ?_) (fun c_4 => ?_)
        · refine lv_ldc hx hb hown (hts _ (wk_in_M _ mw_533)) dX12_enlist_29 ?_
          exact wk_ri σ hx hb hr hlk hK hI rfl (wk_post (by unfold wk_enlist; rw [wk_ifF (fun hq => wk_lnl c_4 hq.2.1.2)])) dX12_enlist_31
        · refine lv_aload_n hx hb dX12_enlist_20 rfl (lv_at hl 0 rfl) ?_
          refine wk_get (v := .int (nI (wk_n σ))) hx hb hts (fun w h => wk_in_M w (lay_X12 w h)) hown hK hI (0) wm_e0 rfl 0 (by decide) (hts _ (wk_in_M _ mw_494)) rfl rfl dX12_enlist_21 ?_
          refine lv_bipush (v := 12) hx hb dX12_enlist_24 (by decide) ?_
          refine lv_icmp_ne (tgt := 32) hx hb dX12_enlist_26 (by decide) (fun c_5 => ?_) (fun c_5 => ?_)
          · obtain ⟨q, hq7, rfl⟩ := nI_of2 (x := r9) (M := 7) (n := 7) (by decide) c_1 (wk_nlt c_2)
            have hn12 : wk_n σ < 12 := Nat.lt_of_le_of_ne hV.1 (fun hq => c_5 (by rw [hq]; rfl))
            refine lv_aload_n hx hb dX12_enlist_32 rfl (lv_at hl 0 rfl) ?_
            refine wk_get (v := .int (nI (wk_n σ))) hx hb hts (fun w h => wk_in_M w (lay_X12 w h)) hown hK hI (0) wm_e0 rfl 0 (by decide) (hts _ (wk_in_M _ mw_494)) rfl rfl dX12_enlist_33 ?_
            refine lv_istore_n (lv' := [(3, .int (nI (wk_n σ))), (0, .ref (am 0)), (1, .int (nI q)), (2, .int s9)]) hx hb dX12_enlist_36 rfl hl (by decide) rfl (fun ls hl => ?_)
            refine lv_aload_n hx hb dX12_enlist_37 rfl (lv_at hl 1 rfl) ?_
            refine wk_get (v := .ref (am 1)) hx hb hts (fun w h => wk_in_M w (lay_X12 w h)) hown hK hI (0) wm_e0 rfl 1 (by decide) (hts _ (wk_in_M _ mw_495)) rfl rfl dX12_enlist_38 ?_
            refine lv_iload_n hx hb dX12_enlist_41 rfl (lv_at hl 0 rfl) ?_
            refine lv_iload_n hx hb dX12_enlist_42 rfl (lv_at hl 2 rfl) ?_
            refine wk_iast (j := (wk_n σ)) hx hb hK hI 1 0 wm_e1 rfl rfl hn12 (by decide) (wm_sRk _ _) dX12_enlist_43 (fun H locs hI => ?_)
            refine lv_aload_n hx hb dX12_enlist_44 rfl (lv_at hl 1 rfl) ?_
            refine wk_get (v := .ref (am 2)) hx hb hts (fun w h => wk_in_M w (lay_X12 w h)) hown hK hI (0) wm_e0 rfl 2 (by decide) (hts _ (wk_in_M _ mw_496)) rfl rfl dX12_enlist_45 ?_
            refine lv_iload_n hx hb dX12_enlist_48 rfl (lv_at hl 0 rfl) ?_
            refine lv_iload_n hx hb dX12_enlist_49 rfl (lv_at hl 3 rfl) ?_
            refine wk_iast (j := (wk_n σ)) hx hb hK hI 2 0 wm_e2 rfl rfl hn12 (by decide) (wm_sSk _) dX12_enlist_50 (fun H locs hI => ?_)
            refine lv_aload_n hx hb dX12_enlist_51 rfl (lv_at hl 1 rfl) ?_
            refine wk_get (v := .ref (am 3)) hx hb hts (fun w h => wk_in_M w (lay_X12 w h)) hown hK hI (0) wm_e0 rfl 3 (by decide) (hts _ (wk_in_M _ mw_497)) rfl rfl dX12_enlist_52 ?_
            refine lv_iload_n hx hb dX12_enlist_55 rfl (lv_at hl 0 rfl) ?_
            refine lv_iconst (v := 0) hx hb dX12_enlist_56 (by decide) ?_
            refine wk_iast (j := (wk_n σ)) hx hb hK hI 3 0 wm_e3 rfl rfl hn12 (by decide) (wm_sWe _) dX12_enlist_57 (fun H locs hI => ?_)
            refine lv_aload_n hx hb dX12_enlist_58 rfl (lv_at hl 1 rfl) ?_
            refine wk_get (v := .ref (am 4)) hx hb hts (fun w h => wk_in_M w (lay_X12 w h)) hown hK hI (0) wm_e0 rfl 4 (by decide) (hts _ (wk_in_M _ mw_498)) rfl rfl dX12_enlist_59 ?_
            refine lv_iload_n hx hb dX12_enlist_62 rfl (lv_at hl 0 rfl) ?_
            refine lv_lconst (v := 0) hx hb dX12_enlist_63 (by decide) ?_
            refine wk_last (j := (wk_n σ)) hx hb hK hI 4 1 wm_e4 rfl rfl hn12 (by decide) (wm_sPu _) dX12_enlist_64 (fun H locs hI => ?_)
            refine lv_aload_n hx hb dX12_enlist_65 rfl (lv_at hl 1 rfl) ?_
            refine lv_dup hx hb dX12_enlist_66 rfl ?_
            refine wk_get (v := .int (nI (wk_n (wk_sPu (wk_sWe (wk_sSk (wk_sRk σ (va_up (wk_rk σ) (wk_n σ) q)) (upd (wk_sk (wk_sRk σ (va_up (wk_rk σ) (wk_n σ) q))) (wk_n σ) s9)) (upd (wk_we (wk_sSk (wk_sRk σ (va_up (wk_rk σ) (wk_n σ) q)) (upd (wk_sk (wk_sRk σ (va_up (wk_rk σ) (wk_n σ) q))) (wk_n σ) s9))) (wk_n σ) 0)) (vp_updL (wk_pu (wk_sWe (wk_sSk (wk_sRk σ (va_up (wk_rk σ) (wk_n σ) q)) (upd (wk_sk (wk_sRk σ (va_up (wk_rk σ) (wk_n σ) q))) (wk_n σ) s9)) (upd (wk_we (wk_sSk (wk_sRk σ (va_up (wk_rk σ) (wk_n σ) q)) (upd (wk_sk (wk_sRk σ (va_up (wk_rk σ) (wk_n σ) q))) (wk_n σ) s9))) (wk_n σ) 0))) (wk_n σ) 0))))) hx hb hts (fun w h => wk_in_M w (lay_X12 w h)) hown hK hI (0) wm_e0 rfl 0 (by decide) (hts _ (wk_in_M _ mw_494)) rfl rfl dX12_enlist_67 ?_
            refine lv_iconst (v := 1) hx hb dX12_enlist_70 (by decide) ?_
            refine lv_iadd hx hb dX12_enlist_71 ?_
            rw [nI_1]
            refine wk_put (v := .int (nI (wk_n (wk_sPu (wk_sWe (wk_sSk (wk_sRk σ (va_up (wk_rk σ) (wk_n σ) q)) (upd (wk_sk (wk_sRk σ (va_up (wk_rk σ) (wk_n σ) q))) (wk_n σ) s9)) (upd (wk_we (wk_sSk (wk_sRk σ (va_up (wk_rk σ) (wk_n σ) q)) (upd (wk_sk (wk_sRk σ (va_up (wk_rk σ) (wk_n σ) q))) (wk_n σ) s9))) (wk_n σ) 0)) (vp_updL (wk_pu (wk_sWe (wk_sSk (wk_sRk σ (va_up (wk_rk σ) (wk_n σ) q)) (upd (wk_sk (wk_sRk σ (va_up (wk_rk σ) (wk_n σ) q))) (wk_n σ) s9)) (upd (wk_we (wk_sSk (wk_sRk σ (va_up (wk_rk σ) (wk_n σ) q)) (upd (wk_sk (wk_sRk σ (va_up (wk_rk σ) (wk_n σ) q))) (wk_n σ) s9))) (wk_n σ) 0))) (wk_n σ) 0)) + 1))) (ty := .int) hx hb hts (fun w h => wk_in_M w (lay_X12 w h)) tyX12 tyX12_ok nmX12 hown hK hI (0) wm_e0 rfl 0 (by decide) (hts _ (wk_in_M _ mw_494)) rfl rfl (by decide +kernel) rfl rfl (Nat.le_of_ble_eq_true rfl) (wm_sN _) dX12_enlist_72 (fun H locs hI => ?_)
            refine lv_iload_n hx hb dX12_enlist_75 rfl (lv_at hl 0 rfl) ?_
            exact wk_ri (wk_sN (wk_sPu (wk_sWe (wk_sSk (wk_sRk σ (va_up (wk_rk σ) (wk_n σ) q)) (upd (wk_sk (wk_sRk σ (va_up (wk_rk σ) (wk_n σ) q))) (wk_n σ) s9)) (upd (wk_we (wk_sSk (wk_sRk σ (va_up (wk_rk σ) (wk_n σ) q)) (upd (wk_sk (wk_sRk σ (va_up (wk_rk σ) (wk_n σ) q))) (wk_n σ) s9))) (wk_n σ) 0)) (vp_updL (wk_pu (wk_sWe (wk_sSk (wk_sRk σ (va_up (wk_rk σ) (wk_n σ) q)) (upd (wk_sk (wk_sRk σ (va_up (wk_rk σ) (wk_n σ) q))) (wk_n σ) s9)) (upd (wk_we (wk_sSk (wk_sRk σ (va_up (wk_rk σ) (wk_n σ) q)) (upd (wk_sk (wk_sRk σ (va_up (wk_rk σ) (wk_n σ) q))) (wk_n σ) s9))) (wk_n σ) 0))) (wk_n σ) 0)) (wk_n (wk_sPu (wk_sWe (wk_sSk (wk_sRk σ (va_up (wk_rk σ) (wk_n σ) q)) (upd (wk_sk (wk_sRk σ (va_up (wk_rk σ) (wk_n σ) q))) (wk_n σ) s9)) (upd (wk_we (wk_sSk (wk_sRk σ (va_up (wk_rk σ) (wk_n σ) q)) (upd (wk_sk (wk_sRk σ (va_up (wk_rk σ) (wk_n σ) q))) (wk_n σ) s9))) (wk_n σ) 0)) (vp_updL (wk_pu (wk_sWe (wk_sSk (wk_sRk σ (va_up (wk_rk σ) (wk_n σ) q)) (upd (wk_sk (wk_sRk σ (va_up (wk_rk σ) (wk_n σ) q))) (wk_n σ) s9)) (upd (wk_we (wk_sSk (wk_sRk σ (va_up (wk_rk σ) (wk_n σ) q)) (upd (wk_sk (wk_sRk σ (va_up (wk_rk σ) (wk_n σ) q))) (wk_n σ) s9))) (wk_n σ) 0))) (wk_n σ) 0)) + 1)) hx hb hr hlk hK hI rfl (wk_post (by unfold wk_enlist wk_add; rw [wk_ifT ⟨⟨wk_nlt c_1, wk_nlt c_2⟩, ⟨wk_nlt c_3, wk_nlt c_4⟩, hn12⟩, nI_clamp (by omega)]; first | done | rfl)) dX12_enlist_76
          · refine lv_ldc hx hb hown (hts _ (wk_in_M _ mw_533)) dX12_enlist_29 ?_
            exact wk_ri σ hx hb hr hlk hK hI rfl (wk_post (by unfold wk_enlist; rw [wk_ifF (fun hq => absurd ((nI_eq (b := 12) (by have hq := hV.1; omega) (by decide)).mp c_5) (by have hq2 := hq.2.2; omega))])) dX12_enlist_31
