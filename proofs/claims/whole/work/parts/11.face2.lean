set_option maxHeartbeats 4000000 in
set_option maxRecDepth 100000 in
theorem c_X8_raceWay (l : Launch) (D : va_G) (cI cJ cS : ClassId) (ad : Nat → Nat) (σ : wk_St) (r k : Nat) (n m9 : Int32) (hV : wk_V σ) (hr9 : r < 8) (hk : k < wk_n σ) (hc : wk_nt σ + 60 < 2147483648) (hm9 : 0 ≤ m9 ∧ m9 ≤ 20) : wk_Ci l D (wk_tys cI cJ cS) yX8_raceWay (wk_M yX8_raceWay cX8_raceWay 8 (some .int)) ({ frames := 4, cells := 0, slots := 0, locals := 92 }) [.ref (ad (8 + r)), .ref (ad 1), .ref (ad (16 + k)), .int n, .int m9] (wx_W cI cS ad σ) (wx_W cI cS ad) (fun r0 u0 => r0 = (wk_raceL r k n m9.toNatClampNeg 0 σ).1 ∧ u0 = (wk_raceL r k n m9.toNatClampNeg 0 σ).2) := by
  intro sz
  refine Met.ofW (cc := cX8_raceWay) (maxL := 8) (ret := (some .int)) (by decide) rfl ?_
  intro p e s m args below meth c s₁ B hml hv
  obtain ⟨rfl, hsz, hP, hK, hD0, hN⟩ := hv
  have hx := B.exec
  have hb := B.bytes
  have hr := B.returns
  have hts := atoms_spec (ws := wk_M yX8_raceWay cX8_raceWay 8 (some .int)) B.pre
  have hown : s.vm.findClass RX8 = some m.cls := findClass_of_methodNamed B.named
  have hlk := B.notSynchronized
  subst hsz
  have hI : wk_I D (va_A (wx_W cI cS ad σ) s.heap.size) s.heap s.heap [] (wx_W cI cS ad σ) := ⟨hP, hD0.self, va_S.rf⟩
  have hA : ∀ q : Nat, s.heap.size ≤ q → (va_A (wx_W cI cS ad σ) s.heap.size) q := fun q h => Or.inr h
  clear hP hD0
  generalize va_A (wx_W cI cS ad σ) s.heap.size = A at hI hA ⊢
  have hl := lv_entry ([.ref (ad (8 + r)), .ref (ad 1), .ref (ad (16 + k)), .int n, .int m9]) (n := 8) (Nat.le_of_ble_eq_true rfl)
  rw [lg_entry_eq]
  generalize (lg_sl ([.ref (ad (8 + r)), .ref (ad 1), .ref (ad (16 + k)), .int n, .int m9]) ++ List.replicate (8 - (lg_sl ([.ref (ad (8 + r)), .ref (ad 1), .ref (ad (16 + k)), .int n, .int m9])).length) Slot.unset).toArray = ls at hl ⊢
  have hl : lv_has ls 8 [(0, .ref (ad (8 + r))), (1, .ref (ad 1)), (2, .ref (ad (16 + k))), (3, .int n), (4, .int m9)] := hl
  obtain ⟨M, hM, rfl⟩ := nI_of2 (x := m9) (M := 20) (n := 20) (by decide) (fun q => wk_lnl q hm9.1) hm9.2
  refine lv_iconst (v := 0) hx hb dX8_raceWay_0 (by decide) ?_
  refine lv_istore (lv' := [(5, .int 0), (0, .ref (ad (8 + r))), (1, .ref (ad 1)), (2, .ref (ad (16 + k))), (3, .int n), (4, .int (nI M))]) hx hb dX8_raceWay_1 hl (by decide) rfl (fun ls hl => ?_)
  refine lv_iconst (v := 0) hx hb dX8_raceWay_3 (by decide) ?_
  refine lv_istore (lv' := [(6, .int 0), (5, .int 0), (0, .ref (ad (8 + r))), (1, .ref (ad 1)), (2, .ref (ad (16 + k))), (3, .int n), (4, .int (nI M))]) hx hb dX8_raceWay_4 hl (by decide) rfl (fun ls hl => ?_)
  refine wk_loop (fun i H locs ls => ∃ (v : Int32) (τ : wk_St), wk_raceL r k n (M - i) v τ = wk_raceL r k n M 0 σ ∧ wk_G σ τ (3 * i) ∧ wk_I D A s.heap H locs (wx_W cI cS ad τ) ∧ lv_has ls 8 [(0, .ref (ad (8 + r))), (1, .ref (ad 1)), (2, .ref (ad (16 + k))), (3, .int n), (4, .int (nI M)), (5, .int v), (6, .int (nI i))]) M ?_ ?_ M 0 _ _ _ (Nat.zero_add _) ⟨0, σ, rfl, wk_G.rf _ _, hI, lv_sub hl [2, 3, 4, 5, 6, 1, 0] rfl⟩
  · intro H locs ls hinv
    obtain ⟨v, τ, hE, hGτ, hI, hl⟩ := hinv
    rw [Nat.sub_self] at hE
    refine lv_iload hx hb dX8_raceWay_6 (lv_at hl 6 rfl) ?_
    refine lv_iload hx hb dX8_raceWay_8 (lv_at hl 4 rfl) ?_
    refine lv_icmp_ge (tgt := 44) hx hb dX8_raceWay_10 (by decide) (fun c_1 => ?_) (fun c_1 => ?_)
    · refine lv_iload hx hb dX8_raceWay_44 (lv_at hl 5 rfl) ?_
      exact wk_ri τ hx hb hr hlk hK hI rfl (wk_post (by rw [nI_clamp (by omega), ← hE]; rfl)) dX8_raceWay_46
    · exact absurd (by simp only [Int32.lt_iff_toInt_lt, Int32.le_iff_toInt_le]; omega) c_1
  · intro i H locs ls hi hinv ih
    obtain ⟨v, τ, hE, hGτ, hI, hl⟩ := hinv
    have hMi : M - i = M - (i + 1) + 1 := by omega
    rw [hMi, wk_raceL] at hE
    refine lv_iload hx hb dX8_raceWay_6 (lv_at hl 6 rfl) ?_
    refine lv_iload hx hb dX8_raceWay_8 (lv_at hl 4 rfl) ?_
    refine lv_icmp_ge (tgt := 44) hx hb dX8_raceWay_10 (by decide) (fun c_2 => ?_) (fun c_2 => ?_)
    · exact absurd c_2 (nI_ge hi (by omega))
    · refine lv_aload_n hx hb dX8_raceWay_13 rfl (lv_at hl 0 rfl) ?_
      refine lv_aload_n hx hb dX8_raceWay_14 rfl (lv_at hl 1 rfl) ?_
      refine lv_aload_n hx hb dX8_raceWay_15 rfl (lv_at hl 2 rfl) ?_
      refine lv_iload_n hx hb dX8_raceWay_16 rfl (lv_at hl 3 rfl) ?_
      refine wk_kI hI hA (wd_X8_climbWay r k n (rest := []) ⟨hx, hb, hml, hown, hts⟩ wk_in_M hN hK hI (hGτ.V hV) hr9 (hGτ.lt hk) (by have hq := hGτ.nt; have hq12 := hV.1; omega) ⟨(Nat.le_of_ble_eq_true rfl), (Nat.le_of_ble_eq_true rfl)⟩ hl.1 (lv_room (Nat.le_of_ble_eq_true rfl)) dX8_raceWay_17 ⟨(Nat.le_of_ble_eq_true rfl), (Nat.le_of_ble_eq_true rfl)⟩) (fun r u H locs hw hI => ?_)
      obtain ⟨rfl, rfl⟩ := hw
      have hG_3 : wk_G σ ((wk_climbR r τ k n).2) ((3 * i) + 3) := hGτ.trans (wk_g_climbR r τ k n)
      refine lv_istore (lv' := [(7, .int ((wk_climbR r τ k n).1)), (0, .ref (ad (8 + r))), (1, .ref (ad 1)), (2, .ref (ad (16 + k))), (3, .int n), (4, .int (nI M)), (5, .int v), (6, .int (nI i))]) hx hb dX8_raceWay_20 hl (by decide) rfl (fun ls hl => ?_)
      refine lv_iload hx hb dX8_raceWay_22 (lv_at hl 0 rfl) ?_
      refine lv_iconst (v := (-1)) hx hb dX8_raceWay_24 (by decide) ?_
      refine lv_icmp_ne (tgt := 31) hx hb dX8_raceWay_25 (by decide) (fun c_4 => ?_) (fun c_4 => ?_)
      · refine lv_iload hx hb dX8_raceWay_31 (lv_at hl 6 rfl) ?_
        refine lv_iload hx hb dX8_raceWay_33 (lv_at hl 0 rfl) ?_
        refine lv_iadd hx hb dX8_raceWay_35 ?_
        refine lv_istore (lv' := [(5, .int (v + ((wk_climbR r τ k n).1))), (7, .int ((wk_climbR r τ k n).1)), (0, .ref (ad (8 + r))), (1, .ref (ad 1)), (2, .ref (ad (16 + k))), (3, .int n), (4, .int (nI M)), (6, .int (nI i))]) hx hb dX8_raceWay_36 hl (by decide) rfl (fun ls hl => ?_)
        refine lv_iinc (v := nI (i + 1)) (lv' := [(6, .int (nI (i + 1))), (5, .int (v + ((wk_climbR r τ k n).1))), (7, .int ((wk_climbR r τ k n).1)), (0, .ref (ad (8 + r))), (1, .ref (ad 1)), (2, .ref (ad (16 + k))), (3, .int n), (4, .int (nI M))]) hx hb dX8_raceWay_38 hl (k := 7) rfl (nI_1 _) (by decide) rfl (fun ls hl => ?_)
        refine lv_goto (tgt := 6) hx hb dX8_raceWay_41 (by decide) ?_
        rw [if_neg c_4] at hE
        exact ih _ _ _ ⟨_, _, hE, hG_3.up (by omega), hI, lv_sub hl [3, 4, 5, 6, 7, 1, 0] rfl⟩
      · refine lv_iload hx hb dX8_raceWay_28 (lv_at hl 6 rfl) ?_
        exact wk_ri ((wk_climbR r τ k n).2) hx hb hr hlk hK hI rfl (wk_post (by rw [nI_clamp (by omega), ← hE, if_pos c_4])) dX8_raceWay_30
set_option maxHeartbeats 4000000 in
set_option maxRecDepth 100000 in
theorem c_X4_raceWay (l : Launch) (D : va_G) (cI cJ cS : ClassId) (ad : Nat → Nat) (σ : wk_St) (r k : Nat) (n m9 : Int32) (hV : wk_V σ) (hr9 : r < 8) (hk : k < wk_n σ) (hc : wk_nt σ + 60 < 2147483648) (hm9 : 0 ≤ m9 ∧ m9 ≤ 20) : wk_Ci l D (wk_tys cI cJ cS) yX4_raceWay (wk_M yX4_raceWay cX4_raceWay 5 (some .int)) ({ frames := 5, cells := 0, slots := 0, locals := 119 }) [.ref (ad (8 + r)), .ref (ad 1), .ref (ad (16 + k)), .int n, .int m9] (wx_W cI cS ad σ) (wx_W cI cS ad) (fun r0 u0 => r0 = ((2 * (wk_raceL r k n (if 3 ≤ m9 then (3 : Int32) else m9).toNatClampNeg 0 σ).1, (wk_raceL r k n (if 3 ≤ m9 then (3 : Int32) else m9).toNatClampNeg 0 σ).2)).1 ∧ u0 = ((2 * (wk_raceL r k n (if 3 ≤ m9 then (3 : Int32) else m9).toNatClampNeg 0 σ).1, (wk_raceL r k n (if 3 ≤ m9 then (3 : Int32) else m9).toNatClampNeg 0 σ).2)).2) := by
  intro sz
  refine Met.ofW (cc := cX4_raceWay) (maxL := 5) (ret := (some .int)) (by decide) rfl ?_
  intro p e s m args below meth c s₁ B hml hv
  obtain ⟨rfl, hsz, hP, hK, hD0, hN⟩ := hv
  have hx := B.exec
  have hb := B.bytes
  have hr := B.returns
  have hts := atoms_spec (ws := wk_M yX4_raceWay cX4_raceWay 5 (some .int)) B.pre
  have hown : s.vm.findClass RX4 = some m.cls := findClass_of_methodNamed B.named
  have hlk := B.notSynchronized
  subst hsz
  have hI : wk_I D (va_A (wx_W cI cS ad σ) s.heap.size) s.heap s.heap [] (wx_W cI cS ad σ) := ⟨hP, hD0.self, va_S.rf⟩
  have hA : ∀ q : Nat, s.heap.size ≤ q → (va_A (wx_W cI cS ad σ) s.heap.size) q := fun q h => Or.inr h
  clear hP hD0
  generalize va_A (wx_W cI cS ad σ) s.heap.size = A at hI hA ⊢
  have hl := lv_entry ([.ref (ad (8 + r)), .ref (ad 1), .ref (ad (16 + k)), .int n, .int m9]) (n := 5) (Nat.le_of_ble_eq_true rfl)
  rw [lg_entry_eq]
  generalize (lg_sl ([.ref (ad (8 + r)), .ref (ad 1), .ref (ad (16 + k)), .int n, .int m9]) ++ List.replicate (5 - (lg_sl ([.ref (ad (8 + r)), .ref (ad 1), .ref (ad (16 + k)), .int n, .int m9])).length) Slot.unset).toArray = ls at hl ⊢
  have hl : lv_has ls 5 [(0, .ref (ad (8 + r))), (1, .ref (ad 1)), (2, .ref (ad (16 + k))), (3, .int n), (4, .int m9)] := hl
  refine lv_iconst (v := 2) hx hb dX4_raceWay_0 (by decide) ?_
  refine lv_aload_n hx hb dX4_raceWay_1 rfl (lv_at hl 0 rfl) ?_
  refine lv_aload_n hx hb dX4_raceWay_2 rfl (lv_at hl 1 rfl) ?_
  refine lv_aload_n hx hb dX4_raceWay_3 rfl (lv_at hl 2 rfl) ?_
  refine lv_iload_n hx hb dX4_raceWay_4 rfl (lv_at hl 3 rfl) ?_
  refine lv_iload hx hb dX4_raceWay_5 (lv_at hl 4 rfl) ?_
  refine lv_iconst (v := 3) hx hb dX4_raceWay_7 (by decide) ?_
  refine lv_icmp_ge (tgt := 16) hx hb dX4_raceWay_8 (by decide) (fun c_1 => ?_) (fun c_1 => ?_)
  · refine lv_iconst (v := 3) hx hb dX4_raceWay_16 (by decide) ?_
    refine wk_kI hI hA (wk_runP (x := (⟨RX5, "raceWay", "(LWatchBill$Crew;LWatchBill$Member;II)I"⟩ : MethodName)) (As := [.ref (ad 1), .ref (ad (16 + k)), .int n, .int 3]) (rest := [.int 2]) ⟨hx, hb, hml, hown, hts⟩ (c_X8_raceWay l D cI cJ cS ad σ r k n 3 hV hr9 hk hc (by decide) _) (wk_cwP 4 hts wk_in_M mw_422 mw_423 mw_130 mw_414 mw_36 mw_429 wk_sub_X5_X8 hN (by decide +kernel) ⟨(Nat.le_of_ble_eq_true rfl), (Nat.le_of_ble_eq_true rfl)⟩) (wk_preR hN hK hI hr9) rfl rfl hl.1 rfl (lv_room (Nat.le_of_ble_eq_true rfl)) dX4_raceWay_17 ⟨(Nat.le_of_ble_eq_true rfl), (Nat.le_of_ble_eq_true rfl)⟩) (fun r u H locs hw hI => ?_)
    obtain ⟨rfl, rfl⟩ := hw
    refine lv_imul hx hb dX4_raceWay_20 ?_
    exact wk_ri ((wk_raceL r k n (3 : Int32).toNatClampNeg 0 σ).2) hx hb hr hlk hK hI rfl (wk_post (by rw [if_pos c_1])) dX4_raceWay_21
  · refine lv_iload hx hb dX4_raceWay_11 (lv_at hl 4 rfl) ?_
    refine lv_goto (tgt := 17) hx hb dX4_raceWay_13 (by decide) ?_
    refine wk_kI hI hA (wk_runP (x := (⟨RX5, "raceWay", "(LWatchBill$Crew;LWatchBill$Member;II)I"⟩ : MethodName)) (As := [.ref (ad 1), .ref (ad (16 + k)), .int n, .int m9]) (rest := [.int 2]) ⟨hx, hb, hml, hown, hts⟩ (c_X8_raceWay l D cI cJ cS ad σ r k n m9 hV hr9 hk hc hm9 _) (wk_cwP 4 hts wk_in_M mw_422 mw_423 mw_130 mw_414 mw_36 mw_429 wk_sub_X5_X8 hN (by decide +kernel) ⟨(Nat.le_of_ble_eq_true rfl), (Nat.le_of_ble_eq_true rfl)⟩) (wk_preR hN hK hI hr9) rfl rfl hl.1 rfl (lv_room (Nat.le_of_ble_eq_true rfl)) dX4_raceWay_17 ⟨(Nat.le_of_ble_eq_true rfl), (Nat.le_of_ble_eq_true rfl)⟩) (fun r u H locs hw hI => ?_)
    obtain ⟨rfl, rfl⟩ := hw
    refine lv_imul hx hb dX4_raceWay_20 ?_
    exact wk_ri ((wk_raceL r k n m9.toNatClampNeg 0 σ).2) hx hb hr hlk hK hI rfl (wk_post (by rw [if_neg c_1])) dX4_raceWay_21
set_option maxHeartbeats 4000000 in
set_option maxRecDepth 100000 in
theorem wd_X11_raceWay {p : Program} {l : Launch} {e : Env} {R : Room} {s : State} {m : MethodId} {args : Array Value} {below : List Frame} {meth : Method} {c : Code} {H : Heap} {locs : List Loc} {cells slots : Nat} {Ts : List Cond} {cc : ByteArray} {nL pc : Nat} {ls : Array Slot} {rest : List Value} {A : Nat → Prop} {H0 : Heap} {D : va_G} {cI cJ cS : ClassId} {ad : Nat → Nat} {σ : wk_St} (r k : Nat) (n m9 : Int32) (S : CallFix p m c cc nL s args Ts RX11) (hb : ∀ w ∈ wk_T, w ∈ Ts) (hN : wk_N s) (hK : va_K D vwCl (wk_tys cI cJ cS) s) (hI : wk_I D A H0 H locs (wx_W cI cS ad σ)) (hV : wk_V σ) (hr9 : r < 8) (hk : k < wk_n σ) (hc : wk_nt σ + 60 < 2147483648) (hm9 : 0 ≤ m9 ∧ m9 ≤ 20) (hR : 6 ≤ R.frames ∧ 143 ≤ R.locals) (hsize : ls.size = nL) (hW : 2 * (F0 m pc ls (.int m9 :: .int n :: .ref (ad (16 + k)) :: .ref (ad 1) :: .ref (ad (8 + r)) :: rest)).monitorRoom + (rest.map fun v => v.category).sum ≤ 8) (hdg : decode cc pc = .ok (.invokevirtual 123, 3)) (hf : cells + 0 ≤ R.cells ∧ slots + 0 ≤ R.slots) : va_Run p l e R s m args below meth c H locs cells slots 0 0 (F0 m pc ls (.int m9 :: .int n :: .ref (ad (16 + k)) :: .ref (ad 1) :: .ref (ad (8 + r)) :: rest)) rest (va_Qi (fun v u => v = (wk_raceR r σ k n m9).1 ∧ u = (wk_raceR r σ k n m9).2) (wk_B D (wk_tys cI cJ cS) (va_A (wx_W cI cS ad σ) H.size) (wx_W cI cS ad)) (va_A (wx_W cI cS ad σ) H.size) (Value.ref (ad (8 + r)) :: [.ref (ad 1), .ref (ad (16 + k)), .int n, .int m9]).toArray) (va_A (wx_W cI cS ad σ) H.size) := by
  rcases (show r = 0 ∨ r = 1 ∨ r = 2 ∨ r = 3 ∨ r = 4 ∨ r = 5 ∨ r = 6 ∨ r = 7 by omega) with rfl | rfl | rfl | rfl | rfl | rfl | rfl | rfl
  · exact va_runU (owner := RX8) (x := yX8_raceWay) (As := [.ref (ad 1), .ref (ad (16 + k)), .int n, .int m9]) (rest := rest) S (c_X8_raceWay l D cI cJ cS ad σ 0 k n m9 hV hr9 hk (by omega) hm9 _) (wk_cwU 4 S.2.2.2.2 hb mw_413 mw_415 mw_418 mw_414 mw_36 mw_429 (va_Decl.of (x := yX8_raceWay) (S.2.2.2.2 _ (hb _ mw_414)) (S.2.2.2.2 _ (hb _ mw_429))) (by decide +kernel) ⟨Nat.le_trans (Nat.le_of_ble_eq_true rfl) hR.1, Nat.le_trans (Nat.le_of_ble_eq_true rfl) hR.2⟩) (wk_preV hN hK hI (ci := 3) rfl (wx_er hr9)) rfl rfl hsize rfl hW hdg hf
  · exact va_runU (owner := RX8) (x := yX8_raceWay) (As := [.ref (ad 1), .ref (ad (16 + k)), .int n, .int m9]) (rest := rest) S (c_X8_raceWay l D cI cJ cS ad σ 1 k n m9 hV hr9 hk (by omega) hm9 _) (wk_cwU 4 S.2.2.2.2 hb mw_413 mw_415 mw_426 mw_414 mw_36 mw_429 (va_Decl.of (x := yX8_raceWay) (S.2.2.2.2 _ (hb _ mw_414)) (S.2.2.2.2 _ (hb _ mw_429))) (by decide +kernel) ⟨Nat.le_trans (Nat.le_of_ble_eq_true rfl) hR.1, Nat.le_trans (Nat.le_of_ble_eq_true rfl) hR.2⟩) (wk_preV hN hK hI (ci := 7) rfl (wx_er hr9)) rfl rfl hsize rfl hW hdg hf
  · exact va_runU (owner := RX8) (x := yX8_raceWay) (As := [.ref (ad 1), .ref (ad (16 + k)), .int n, .int m9]) (rest := rest) S (c_X8_raceWay l D cI cJ cS ad σ 2 k n m9 hV hr9 hk (by omega) hm9 _) (wk_cwU 4 S.2.2.2.2 hb mw_413 mw_415 mw_428 mw_414 mw_36 mw_429 (va_Decl.of (x := yX8_raceWay) (S.2.2.2.2 _ (hb _ mw_414)) (S.2.2.2.2 _ (hb _ mw_429))) (by decide +kernel) ⟨Nat.le_trans (Nat.le_of_ble_eq_true rfl) hR.1, Nat.le_trans (Nat.le_of_ble_eq_true rfl) hR.2⟩) (wk_preV hN hK hI (ci := 9) rfl (wx_er hr9)) rfl rfl hsize rfl hW hdg hf
  · exact va_runU (owner := RX8) (x := yX8_raceWay) (As := [.ref (ad 1), .ref (ad (16 + k)), .int n, .int m9]) (rest := rest) S (c_X8_raceWay l D cI cJ cS ad σ 3 k n m9 hV hr9 hk (by omega) hm9 _) (wk_cwU 4 S.2.2.2.2 hb mw_413 mw_415 mw_416 mw_414 mw_36 mw_429 (va_Decl.of (x := yX8_raceWay) (S.2.2.2.2 _ (hb _ mw_414)) (S.2.2.2.2 _ (hb _ mw_429))) (by decide +kernel) ⟨Nat.le_trans (Nat.le_of_ble_eq_true rfl) hR.1, Nat.le_trans (Nat.le_of_ble_eq_true rfl) hR.2⟩) (wk_preV hN hK hI (ci := 0) rfl (wx_er hr9)) rfl rfl hsize rfl hW hdg hf
  · exact va_runU (owner := RX8) (x := yX8_raceWay) (As := [.ref (ad 1), .ref (ad (16 + k)), .int n, .int m9]) (rest := rest) S (c_X8_raceWay l D cI cJ cS ad σ 4 k n m9 hV hr9 hk (by omega) hm9 _) (wk_cwU 4 S.2.2.2.2 hb mw_413 mw_415 mw_425 mw_414 mw_36 mw_429 (va_Decl.of (x := yX8_raceWay) (S.2.2.2.2 _ (hb _ mw_414)) (S.2.2.2.2 _ (hb _ mw_429))) (by decide +kernel) ⟨Nat.le_trans (Nat.le_of_ble_eq_true rfl) hR.1, Nat.le_trans (Nat.le_of_ble_eq_true rfl) hR.2⟩) (wk_preV hN hK hI (ci := 5) rfl (wx_er hr9)) rfl rfl hsize rfl hW hdg hf
  · exact va_runU (owner := RX8) (x := yX8_raceWay) (As := [.ref (ad 1), .ref (ad (16 + k)), .int n, .int m9]) (rest := rest) S (c_X4_raceWay l D cI cJ cS ad σ 5 k n m9 hV hr9 hk (by omega) hm9 _) (wk_cwU 4 S.2.2.2.2 hb mw_413 mw_415 mw_419 mw_420 mw_42 mw_421 (va_Decl.of (x := yX8_raceWay) (S.2.2.2.2 _ (hb _ mw_414)) (S.2.2.2.2 _ (hb _ mw_429))) (by decide +kernel) ⟨Nat.le_trans (Nat.le_of_ble_eq_true rfl) hR.1, Nat.le_trans (Nat.le_of_ble_eq_true rfl) hR.2⟩) (wk_preV hN hK hI (ci := 4) rfl (wx_er hr9)) rfl rfl hsize rfl hW hdg hf
  · exact va_runU (owner := RX8) (x := yX8_raceWay) (As := [.ref (ad 1), .ref (ad (16 + k)), .int n, .int m9]) (rest := rest) S (c_X8_raceWay l D cI cJ cS ad σ 6 k n m9 hV hr9 hk (by omega) hm9 _) (wk_cwU 4 S.2.2.2.2 hb mw_413 mw_415 mw_417 mw_414 mw_36 mw_429 (va_Decl.of (x := yX8_raceWay) (S.2.2.2.2 _ (hb _ mw_414)) (S.2.2.2.2 _ (hb _ mw_429))) (by decide +kernel) ⟨Nat.le_trans (Nat.le_of_ble_eq_true rfl) hR.1, Nat.le_trans (Nat.le_of_ble_eq_true rfl) hR.2⟩) (wk_preV hN hK hI (ci := 1) rfl (wx_er hr9)) rfl rfl hsize rfl hW hdg hf
  · exact va_runU (owner := RX8) (x := yX8_raceWay) (As := [.ref (ad 1), .ref (ad (16 + k)), .int n, .int m9]) (rest := rest) S (c_X8_raceWay l D cI cJ cS ad σ 7 k n m9 hV hr9 hk (by omega) hm9 _) (wk_cwU 4 S.2.2.2.2 hb mw_413 mw_415 mw_427 mw_414 mw_36 mw_429 (va_Decl.of (x := yX8_raceWay) (S.2.2.2.2 _ (hb _ mw_414)) (S.2.2.2.2 _ (hb _ mw_429))) (by decide +kernel) ⟨Nat.le_trans (Nat.le_of_ble_eq_true rfl) hR.1, Nat.le_trans (Nat.le_of_ble_eq_true rfl) hR.2⟩) (wk_preV hN hK hI (ci := 8) rfl (wx_er hr9)) rfl rfl hsize rfl hW hdg hf
