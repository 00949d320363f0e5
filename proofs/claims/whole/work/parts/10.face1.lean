set_option maxHeartbeats 4000000 in
set_option maxRecDepth 100000 in
theorem c_X2_member (l : Launch) (D : va_G) (cI cJ cS : ClassId) (ad : Nat → Nat) (σ : wk_St) (k9 : Int32) (hV : wk_V σ) : wk_Cq l D (wk_tys cI cJ cS) yX2_member (wk_M yX2_member cX2_member 3 (some (.object RX6))) ({ frames := 0, cells := 0, slots := 0, locals := 0 }) [.ref (ad 1), .int k9] (wx_W cI cS ad σ) (wx_W cI cS ad) (fun r u => r = wx_find ad σ k9 ∧ u = σ) := by
  intro sz
  refine Met.ofW (cc := cX2_member) (maxL := 3) (ret := (some (.object RX6))) (by decide) rfl ?_
  intro p e s m args below meth c s₁ B hml hv
  obtain ⟨rfl, hsz, hP, hK, hD0, hN⟩ := hv
  have hx := B.exec
  have hb := B.bytes
  have hr := B.returns
  have hts := atoms_spec (ws := wk_M yX2_member cX2_member 3 (some (.object RX6))) B.pre
  have hown : s.vm.findClass RX2 = some m.cls := findClass_of_methodNamed B.named
  have hlk := B.notSynchronized
  subst hsz
  have hI : wk_I D (va_A (wx_W cI cS ad σ) s.heap.size) s.heap s.heap [] (wx_W cI cS ad σ) := ⟨hP, hD0.self, va_S.rf⟩
  have hA : ∀ q : Nat, s.heap.size ≤ q → (va_A (wx_W cI cS ad σ) s.heap.size) q := fun q h => Or.inr h
  clear hP hD0
  generalize va_A (wx_W cI cS ad σ) s.heap.size = A at hI hA ⊢
  have hl := lv_entry ([.ref (ad 1), .int k9]) (n := 3) (Nat.le_of_ble_eq_true rfl)
  rw [lg_entry_eq]
  generalize (lg_sl ([.ref (ad 1), .int k9]) ++ List.replicate (3 - (lg_sl ([.ref (ad 1), .int k9])).length) Slot.unset).toArray = ls at hl ⊢
  have hl : lv_has ls 3 [(0, .ref (ad 1)), (1, .int k9)] := hl
  refine lv_aload_n hx hb dX2_member_0 rfl (lv_at hl 0 rfl) ?_
  refine wk_get (v := va_rf (wx_mp ad (wk_n σ) 0)) hx hb hts (fun w h => wk_in_M w (lay_X2 w h)) hown hK hI (1) wx_e1 rfl 0 (by decide) (hts _ (wk_in_M _ mw_63)) rfl rfl dX2_member_1 ?_
  refine wk_astore_n (lv' := [(2, va_rf (wx_mp ad (wk_n σ) 0)), (0, .ref (ad 1)), (1, .int k9)]) hx hb dX2_member_4 rfl hl (by decide) rfl (fun ls hl => ?_)
  refine wk_loop (fun i H locs ls => wk_I D A s.heap H locs (wx_W cI cS ad σ) ∧ lv_has ls 3 [(0, .ref (ad 1)), (1, .int k9), (2, va_rf (wx_mp ad (wk_n σ) i))] ∧ (∀ j, j < i → ¬ nI j = k9)) (wk_n σ) ?_ ?_ (wk_n σ) 0 _ _ _ (Nat.zero_add _) ⟨hI, lv_sub hl [1, 2, 0] rfl, fun j hj => absurd hj (Nat.not_lt_zero _)⟩
  · intro H locs ls hinv
    obtain ⟨hI, hl, hE⟩ := hinv
    rw [wx_mpF (Nat.lt_irrefl _)] at hl
    have hl : lv_has ls 3 [(0, .ref (ad 1)), (1, .int k9), (2, .null)] := hl
    refine lv_aload_nN hx hb dX2_member_5 rfl (lv_at hl 2 rfl) ?_
    refine lv_ifnullN (tgt := 27) hx hb dX2_member_6 (by decide) ?_
    refine lv_null hx hb dX2_member_27 ?_
    have hnone : ¬ wk_ok σ k9 := (wk_okC hV k9).elim (fun hq => absurd hq.choose_spec.2.symm (hE _ hq.choose_spec.1)) id
    exact wk_rq σ (r := none) hx hb hr hlk hK hI rfl ⟨(wx_findN hnone).symm, rfl⟩ dX2_member_28
  · intro i H locs ls hi hinv ih
    obtain ⟨hI, hl, hE⟩ := hinv
    have hiσ : i < wk_n σ := hi
    rw [wx_mpT hi] at hl
    have hl : lv_has ls 3 [(0, .ref (ad 1)), (1, .int k9), (2, .ref (ad (16 + i)))] := hl
    refine lv_aload_n hx hb dX2_member_5 rfl (lv_at hl 2 rfl) ?_
    refine lv_ifnull hx hb dX2_member_6 ?_
    refine lv_aload_n hx hb dX2_member_9 rfl (lv_at hl 2 rfl) ?_
    refine wk_get (v := .int (nI i)) hx hb hts (fun w h => wk_in_M w (lay_X6 w h)) hown hK hI (16 + i) (wx_em hiσ) rfl 0 (by decide) (hts _ (wk_in_M _ mw_183)) rfl rfl dX2_member_10 ?_
    refine lv_iload_n hx hb dX2_member_13 rfl (lv_at hl 1 rfl) ?_
    refine lv_icmp_ne (tgt := 19) hx hb dX2_member_14 (by decide) (fun c_1 => ?_) (fun c_1 => ?_)
    · refine lv_aload_n hx hb dX2_member_19 rfl (lv_at hl 2 rfl) ?_
      refine wk_get (v := va_rf (wx_mp ad (wk_n σ) (i + 1))) hx hb hts (fun w h => wk_in_M w (lay_X6 w h)) hown hK hI (16 + i) (wx_em hiσ) rfl 6 (by decide) (hts _ (wk_in_M _ mw_201)) rfl rfl dX2_member_20 ?_
      refine wk_astore_n (lv' := [(2, va_rf (wx_mp ad (wk_n σ) (i + 1))), (0, .ref (ad 1)), (1, .int k9)]) hx hb dX2_member_23 rfl hl (by decide) rfl (fun ls hl => ?_)
      refine lv_goto (tgt := 5) hx hb dX2_member_24 (by decide) ?_
      exact ih _ _ _ ⟨hI, lv_sub hl [1, 2, 0] rfl, fun j hj => (Nat.lt_succ_iff_lt_or_eq.mp hj).elim (hE j) (fun hq => by rw [hq]; exact c_1)⟩
    · refine lv_aload_n hx hb dX2_member_17 rfl (lv_at hl 2 rfl) ?_
      exact wk_rq σ (r := (some (ad (16 + i)))) hx hb hr hlk hK hI rfl ⟨by rw [← c_1, wx_findJ hV hiσ], rfl⟩ dX2_member_18
set_option maxHeartbeats 4000000 in
set_option maxRecDepth 100000 in
theorem c_X11_isRank (l : Launch) (D : va_G) (cI cJ cS : ClassId) (ad : Nat → Nat) (σ : wk_St) (a9 : Int32)  : wk_Ci l D (wk_tys cI cJ cS) yX11_isRank (wk_M yX11_isRank cX11_isRank 1 (some .boolean)) ({ frames := 0, cells := 0, slots := 0, locals := 0 }) [.int a9] (wx_W cI cS ad σ) (wx_W cI cS ad) (fun r u => r = wk_b (0 ≤ a9 ∧ a9 ≤ 7) ∧ u = σ) := by
  intro sz
  refine Met.ofW (cc := cX11_isRank) (maxL := 1) (ret := (some .boolean)) (by decide) rfl ?_
  intro p e s m args below meth c s₁ B hml hv
  obtain ⟨rfl, hsz, hP, hK, hD0, hN⟩ := hv
  have hx := B.exec
  have hb := B.bytes
  have hr := B.returns
  have hts := atoms_spec (ws := wk_M yX11_isRank cX11_isRank 1 (some .boolean)) B.pre
  have hown : s.vm.findClass RX11 = some m.cls := findClass_of_methodNamed B.named
  have hlk := B.notSynchronized
  subst hsz
  have hI : wk_I D (va_A (wx_W cI cS ad σ) s.heap.size) s.heap s.heap [] (wx_W cI cS ad σ) := ⟨hP, hD0.self, va_S.rf⟩
  have hA : ∀ q : Nat, s.heap.size ≤ q → (va_A (wx_W cI cS ad σ) s.heap.size) q := fun q h => Or.inr h
  clear hP hD0
  generalize va_A (wx_W cI cS ad σ) s.heap.size = A at hI hA ⊢
  have hl := lv_entry ([.int a9]) (n := 1) (Nat.le_of_ble_eq_true rfl)
  rw [lg_entry_eq]
  generalize (lg_sl ([.int a9]) ++ List.replicate (1 - (lg_sl ([.int a9])).length) Slot.unset).toArray = ls at hl ⊢
  have hl : lv_has ls 1 [(0, .int a9)] := hl
  refine lv_iload_n hx hb dX11_isRank_0 rfl (lv_at hl 0 rfl) ?_
  refine lv_if_lt (tgt := 14) hx hb dX11_isRank_1 (by decide) (fun c_1 => ?_) (fun c_1 => ?_)
  · refine lv_iconst (v := 0) hx hb dX11_isRank_14 (by decide) ?_
    exact wk_rz σ hx hb hr hlk (by decide) hK hI rfl ⟨wk_bF (fun hq => by obtain ⟨h1, h2⟩ := hq; simp only [Int32.lt_iff_toInt_lt, Int32.le_iff_toInt_le, wk_lit0, wk_lit1, wk_lit2, wk_lit3, wk_lit5, wk_lit6, wk_lit7, wk_lit8, wk_lit64, wk_lit4, wk_lit12, wk_lit20, wk_lit99, wk_lit1000] at c_1 h1 h2; omega), rfl⟩ dX11_isRank_15
  · refine lv_iload_n hx hb dX11_isRank_4 rfl (lv_at hl 0 rfl) ?_
    refine lv_bipush (v := 7) hx hb dX11_isRank_5 (by decide) ?_
    refine lv_icmp_gt (tgt := 14) hx hb dX11_isRank_7 (by decide) (fun c_2 => ?_) (fun c_2 => ?_)
    · refine lv_iconst (v := 0) hx hb dX11_isRank_14 (by decide) ?_
      exact wk_rz σ hx hb hr hlk (by decide) hK hI rfl ⟨wk_bF (fun hq => by obtain ⟨h1, h2⟩ := hq; simp only [Int32.lt_iff_toInt_lt, Int32.le_iff_toInt_le, wk_lit0, wk_lit1, wk_lit2, wk_lit3, wk_lit5, wk_lit6, wk_lit7, wk_lit8, wk_lit64, wk_lit4, wk_lit12, wk_lit20, wk_lit99, wk_lit1000] at c_1 c_2 h1 h2; omega), rfl⟩ dX11_isRank_15
    · refine lv_iconst (v := 1) hx hb dX11_isRank_10 (by decide) ?_
      refine lv_goto (tgt := 15) hx hb dX11_isRank_11 (by decide) ?_
      exact wk_rz σ hx hb hr hlk (by decide) hK hI rfl ⟨wk_bT (by refine ⟨?_, ?_⟩ <;> (simp only [Int32.lt_iff_toInt_lt, Int32.le_iff_toInt_le, wk_lit0, wk_lit1, wk_lit2, wk_lit3, wk_lit5, wk_lit6, wk_lit7, wk_lit8, wk_lit64, wk_lit4, wk_lit12, wk_lit20, wk_lit99, wk_lit1000] at c_1 c_2 ⊢; omega)), rfl⟩ dX11_isRank_15
set_option maxHeartbeats 4000000 in
set_option maxRecDepth 100000 in
theorem c_X11_isDuty (l : Launch) (D : va_G) (cI cJ cS : ClassId) (ad : Nat → Nat) (σ : wk_St) (a9 : Int32)  : wk_Ci l D (wk_tys cI cJ cS) yX11_isDuty (wk_M yX11_isDuty cX11_isDuty 1 (some .boolean)) ({ frames := 0, cells := 0, slots := 0, locals := 0 }) [.int a9] (wx_W cI cS ad σ) (wx_W cI cS ad) (fun r u => r = wk_b (0 ≤ a9 ∧ a9 ≤ 3) ∧ u = σ) := by
  intro sz
  refine Met.ofW (cc := cX11_isDuty) (maxL := 1) (ret := (some .boolean)) (by decide) rfl ?_
  intro p e s m args below meth c s₁ B hml hv
  obtain ⟨rfl, hsz, hP, hK, hD0, hN⟩ := hv
  have hx := B.exec
  have hb := B.bytes
  have hr := B.returns
  have hts := atoms_spec (ws := wk_M yX11_isDuty cX11_isDuty 1 (some .boolean)) B.pre
  have hown : s.vm.findClass RX11 = some m.cls := findClass_of_methodNamed B.named
  have hlk := B.notSynchronized
  subst hsz
  have hI : wk_I D (va_A (wx_W cI cS ad σ) s.heap.size) s.heap s.heap [] (wx_W cI cS ad σ) := ⟨hP, hD0.self, va_S.rf⟩
  have hA : ∀ q : Nat, s.heap.size ≤ q → (va_A (wx_W cI cS ad σ) s.heap.size) q := fun q h => Or.inr h
  clear hP hD0
  generalize va_A (wx_W cI cS ad σ) s.heap.size = A at hI hA ⊢
  have hl := lv_entry ([.int a9]) (n := 1) (Nat.le_of_ble_eq_true rfl)
  rw [lg_entry_eq]
  generalize (lg_sl ([.int a9]) ++ List.replicate (1 - (lg_sl ([.int a9])).length) Slot.unset).toArray = ls at hl ⊢
  have hl : lv_has ls 1 [(0, .int a9)] := hl
  refine lv_iload_n hx hb dX11_isDuty_0 rfl (lv_at hl 0 rfl) ?_
  refine lv_if_lt (tgt := 13) hx hb dX11_isDuty_1 (by decide) (fun c_1 => ?_) (fun c_1 => ?_)
  · refine lv_iconst (v := 0) hx hb dX11_isDuty_13 (by decide) ?_
    exact wk_rz σ hx hb hr hlk (by decide) hK hI rfl ⟨wk_bF (fun hq => by obtain ⟨h1, h2⟩ := hq; simp only [Int32.lt_iff_toInt_lt, Int32.le_iff_toInt_le, wk_lit0, wk_lit1, wk_lit2, wk_lit3, wk_lit5, wk_lit6, wk_lit7, wk_lit8, wk_lit64, wk_lit4, wk_lit12, wk_lit20, wk_lit99, wk_lit1000] at c_1 h1 h2; omega), rfl⟩ dX11_isDuty_14
  · refine lv_iload_n hx hb dX11_isDuty_4 rfl (lv_at hl 0 rfl) ?_
    refine lv_iconst (v := 3) hx hb dX11_isDuty_5 (by decide) ?_
    refine lv_icmp_gt (tgt := 13) hx hb dX11_isDuty_6 (by decide) (fun c_2 => ?_) (fun c_2 => ?_)
    · refine lv_iconst (v := 0) hx hb dX11_isDuty_13 (by decide) ?_
      exact wk_rz σ hx hb hr hlk (by decide) hK hI rfl ⟨wk_bF (fun hq => by obtain ⟨h1, h2⟩ := hq; simp only [Int32.lt_iff_toInt_lt, Int32.le_iff_toInt_le, wk_lit0, wk_lit1, wk_lit2, wk_lit3, wk_lit5, wk_lit6, wk_lit7, wk_lit8, wk_lit64, wk_lit4, wk_lit12, wk_lit20, wk_lit99, wk_lit1000] at c_1 c_2 h1 h2; omega), rfl⟩ dX11_isDuty_14
    · refine lv_iconst (v := 1) hx hb dX11_isDuty_9 (by decide) ?_
      refine lv_goto (tgt := 14) hx hb dX11_isDuty_10 (by decide) ?_
      exact wk_rz σ hx hb hr hlk (by decide) hK hI rfl ⟨wk_bT (by refine ⟨?_, ?_⟩ <;> (simp only [Int32.lt_iff_toInt_lt, Int32.le_iff_toInt_le, wk_lit0, wk_lit1, wk_lit2, wk_lit3, wk_lit5, wk_lit6, wk_lit7, wk_lit8, wk_lit64, wk_lit4, wk_lit12, wk_lit20, wk_lit99, wk_lit1000] at c_1 c_2 ⊢; omega)), rfl⟩ dX11_isDuty_14
set_option maxHeartbeats 4000000 in
set_option maxRecDepth 100000 in
theorem c_X11_isTimes (l : Launch) (D : va_G) (cI cJ cS : ClassId) (ad : Nat → Nat) (σ : wk_St) (a9 : Int32)  : wk_Ci l D (wk_tys cI cJ cS) yX11_isTimes (wk_M yX11_isTimes cX11_isTimes 1 (some .boolean)) ({ frames := 0, cells := 0, slots := 0, locals := 0 }) [.int a9] (wx_W cI cS ad σ) (wx_W cI cS ad) (fun r u => r = wk_b (0 ≤ a9 ∧ a9 ≤ 20) ∧ u = σ) := by
  intro sz
  refine Met.ofW (cc := cX11_isTimes) (maxL := 1) (ret := (some .boolean)) (by decide) rfl ?_
  intro p e s m args below meth c s₁ B hml hv
  obtain ⟨rfl, hsz, hP, hK, hD0, hN⟩ := hv
  have hx := B.exec
  have hb := B.bytes
  have hr := B.returns
  have hts := atoms_spec (ws := wk_M yX11_isTimes cX11_isTimes 1 (some .boolean)) B.pre
  have hown : s.vm.findClass RX11 = some m.cls := findClass_of_methodNamed B.named
  have hlk := B.notSynchronized
  subst hsz
  have hI : wk_I D (va_A (wx_W cI cS ad σ) s.heap.size) s.heap s.heap [] (wx_W cI cS ad σ) := ⟨hP, hD0.self, va_S.rf⟩
  have hA : ∀ q : Nat, s.heap.size ≤ q → (va_A (wx_W cI cS ad σ) s.heap.size) q := fun q h => Or.inr h
  clear hP hD0
  generalize va_A (wx_W cI cS ad σ) s.heap.size = A at hI hA ⊢
  have hl := lv_entry ([.int a9]) (n := 1) (Nat.le_of_ble_eq_true rfl)
  rw [lg_entry_eq]
  generalize (lg_sl ([.int a9]) ++ List.replicate (1 - (lg_sl ([.int a9])).length) Slot.unset).toArray = ls at hl ⊢
  have hl : lv_has ls 1 [(0, .int a9)] := hl
  refine lv_iload_n hx hb dX11_isTimes_0 rfl (lv_at hl 0 rfl) ?_
  refine lv_if_lt (tgt := 14) hx hb dX11_isTimes_1 (by decide) (fun c_1 => ?_) (fun c_1 => ?_)
  · refine lv_iconst (v := 0) hx hb dX11_isTimes_14 (by decide) ?_
    exact wk_rz σ hx hb hr hlk (by decide) hK hI rfl ⟨wk_bF (fun hq => by obtain ⟨h1, h2⟩ := hq; simp only [Int32.lt_iff_toInt_lt, Int32.le_iff_toInt_le, wk_lit0, wk_lit1, wk_lit2, wk_lit3, wk_lit5, wk_lit6, wk_lit7, wk_lit8, wk_lit64, wk_lit4, wk_lit12, wk_lit20, wk_lit99, wk_lit1000] at c_1 h1 h2; omega), rfl⟩ dX11_isTimes_15
  · refine lv_iload_n hx hb dX11_isTimes_4 rfl (lv_at hl 0 rfl) ?_
    refine lv_bipush (v := 20) hx hb dX11_isTimes_5 (by decide) ?_
    refine lv_icmp_gt (tgt := 14) hx hb dX11_isTimes_7 (by decide) (fun c_2 => ?_) (fun c_2 => ?_)
    · refine lv_iconst (v := 0) hx hb dX11_isTimes_14 (by decide) ?_
      exact wk_rz σ hx hb hr hlk (by decide) hK hI rfl ⟨wk_bF (fun hq => by obtain ⟨h1, h2⟩ := hq; simp only [Int32.lt_iff_toInt_lt, Int32.le_iff_toInt_le, wk_lit0, wk_lit1, wk_lit2, wk_lit3, wk_lit5, wk_lit6, wk_lit7, wk_lit8, wk_lit64, wk_lit4, wk_lit12, wk_lit20, wk_lit99, wk_lit1000] at c_1 c_2 h1 h2; omega), rfl⟩ dX11_isTimes_15
    · refine lv_iconst (v := 1) hx hb dX11_isTimes_10 (by decide) ?_
      refine lv_goto (tgt := 15) hx hb dX11_isTimes_11 (by decide) ?_
      exact wk_rz σ hx hb hr hlk (by decide) hK hI rfl ⟨wk_bT (by refine ⟨?_, ?_⟩ <;> (simp only [Int32.lt_iff_toInt_lt, Int32.le_iff_toInt_le, wk_lit0, wk_lit1, wk_lit2, wk_lit3, wk_lit5, wk_lit6, wk_lit7, wk_lit8, wk_lit64, wk_lit4, wk_lit12, wk_lit20, wk_lit99, wk_lit1000] at c_1 c_2 ⊢; omega)), rfl⟩ dX11_isTimes_15
set_option maxHeartbeats 4000000 in
set_option maxRecDepth 100000 in
theorem c_X11_boundOf (l : Launch) (D : va_G) (cI cJ cS : ClassId) (ad : Nat → Nat) (σ : wk_St) (d9 : Int32)  : wk_Ci l D (wk_tys cI cJ cS) yX11_boundOf (wk_M yX11_boundOf cX11_boundOf 1 (some .int)) ({ frames := 0, cells := 0, slots := 0, locals := 0 }) [.int d9] (wx_W cI cS ad σ) (wx_W cI cS ad) (fun r u => r = wk_bound d9 ∧ u = σ) := by
  intro sz
  refine Met.ofW (cc := cX11_boundOf) (maxL := 1) (ret := (some .int)) (by decide) rfl ?_
  intro p e s m args below meth c s₁ B hml hv
  obtain ⟨rfl, hsz, hP, hK, hD0, hN⟩ := hv
  have hx := B.exec
  have hb := B.bytes
  have hr := B.returns
  have hts := atoms_spec (ws := wk_M yX11_boundOf cX11_boundOf 1 (some .int)) B.pre
  have hown : s.vm.findClass RX11 = some m.cls := findClass_of_methodNamed B.named
  have hlk := B.notSynchronized
  subst hsz
  have hI : wk_I D (va_A (wx_W cI cS ad σ) s.heap.size) s.heap s.heap [] (wx_W cI cS ad σ) := ⟨hP, hD0.self, va_S.rf⟩
  have hA : ∀ q : Nat, s.heap.size ≤ q → (va_A (wx_W cI cS ad σ) s.heap.size) q := fun q h => Or.inr h
  clear hP hD0
  generalize va_A (wx_W cI cS ad σ) s.heap.size = A at hI hA ⊢
  have hl := lv_entry ([.int d9]) (n := 1) (Nat.le_of_ble_eq_true rfl)
  rw [lg_entry_eq]
  generalize (lg_sl ([.int d9]) ++ List.replicate (1 - (lg_sl ([.int d9])).length) Slot.unset).toArray = ls at hl ⊢
  have hl : lv_has ls 1 [(0, .int d9)] := hl
  refine lv_iload_n hx hb dX11_boundOf_0 rfl (lv_at hl 0 rfl) ?_
  by_cases hs_1 : d9 = 0
  · refine lv_tableIn (tgt := 28) (off := 27) hx hb dX11_boundOf_1 (by rw [hs_1]; decide) (by rw [hs_1]; decide) (by rw [hs_1]; rfl) (by decide) ?_
    refine lv_bipush (v := 100) hx hb dX11_boundOf_28 (by decide) ?_
    exact wk_ri σ hx hb hr hlk hK hI rfl ⟨by simp only [wk_bound, if_pos hs_1], rfl⟩ dX11_boundOf_30
  by_cases hs_2 : d9 = 1
  · refine lv_tableIn (tgt := 31) (off := 30) hx hb dX11_boundOf_1 (by rw [hs_2]; decide) (by rw [hs_2]; decide) (by rw [hs_2]; rfl) (by decide) ?_
    refine lv_sipush (v := 1000) hx hb dX11_boundOf_31 (by decide) ?_
    exact wk_ri σ hx hb hr hlk hK hI rfl ⟨by simp only [wk_bound, if_neg hs_1, if_pos hs_2], rfl⟩ dX11_boundOf_34
  by_cases hs_3 : d9 = 2
  · refine lv_tableIn (tgt := 35) (off := 34) hx hb dX11_boundOf_1 (by rw [hs_3]; decide) (by rw [hs_3]; decide) (by rw [hs_3]; rfl) (by decide) ?_
    refine lv_sipush (v := 200) hx hb dX11_boundOf_35 (by decide) ?_
    exact wk_ri σ hx hb hr hlk hK hI rfl ⟨by simp only [wk_bound, if_neg hs_1, if_neg hs_2, if_pos hs_3], rfl⟩ dX11_boundOf_38
  refine lv_tableOut (tgt := 39) hx hb dX11_boundOf_1 (by have q0 := lv_neT hs_1 wk_lit0; have q1 := lv_neT hs_2 wk_lit1; have q2 := lv_neT hs_3 wk_lit2; omega) (by decide) ?_
  refine lv_sipush (v := 9999) hx hb dX11_boundOf_39 (by decide) ?_
  exact wk_ri σ hx hb hr hlk hK hI rfl ⟨by simp only [wk_bound, if_neg hs_1, if_neg hs_2, if_neg hs_3], rfl⟩ dX11_boundOf_42
set_option maxHeartbeats 4000000 in
set_option maxRecDepth 100000 in
theorem c_X11_isBeyondBound (l : Launch) (D : va_G) (cI cJ cS : ClassId) (ad : Nat → Nat) (σ : wk_St) (d9 n : Int32)  : wk_Ci l D (wk_tys cI cJ cS) yX11_isBeyondBound (wk_M yX11_isBeyondBound cX11_isBeyondBound 2 (some .boolean)) ({ frames := 1, cells := 0, slots := 0, locals := 20 }) [.int d9, .int n] (wx_W cI cS ad σ) (wx_W cI cS ad) (fun r u => r = wk_b (¬ wk_in d9 n) ∧ u = σ) := by
  intro sz
  refine Met.ofW (cc := cX11_isBeyondBound) (maxL := 2) (ret := (some .boolean)) (by decide) rfl ?_
  intro p e s m args below meth c s₁ B hml hv
  obtain ⟨rfl, hsz, hP, hK, hD0, hN⟩ := hv
  have hx := B.exec
  have hb := B.bytes
  have hr := B.returns
  have hts := atoms_spec (ws := wk_M yX11_isBeyondBound cX11_isBeyondBound 2 (some .boolean)) B.pre
  have hown : s.vm.findClass RX11 = some m.cls := findClass_of_methodNamed B.named
  have hlk := B.notSynchronized
  subst hsz
  have hI : wk_I D (va_A (wx_W cI cS ad σ) s.heap.size) s.heap s.heap [] (wx_W cI cS ad σ) := ⟨hP, hD0.self, va_S.rf⟩
  have hA : ∀ q : Nat, s.heap.size ≤ q → (va_A (wx_W cI cS ad σ) s.heap.size) q := fun q h => Or.inr h
  clear hP hD0
  generalize va_A (wx_W cI cS ad σ) s.heap.size = A at hI hA ⊢
  have hl := lv_entry ([.int d9, .int n]) (n := 2) (Nat.le_of_ble_eq_true rfl)
  rw [lg_entry_eq]
  generalize (lg_sl ([.int d9, .int n]) ++ List.replicate (2 - (lg_sl ([.int d9, .int n])).length) Slot.unset).toArray = ls at hl ⊢
  have hl : lv_has ls 2 [(0, .int d9), (1, .int n)] := hl
  refine lv_iload_n hx hb dX11_isBeyondBound_0 rfl (lv_at hl 1 rfl) ?_
  refine lv_if_lt (tgt := 12) hx hb dX11_isBeyondBound_1 (by decide) (fun c_1 => ?_) (fun c_1 => ?_)
  · refine lv_iconst (v := 1) hx hb dX11_isBeyondBound_12 (by decide) ?_
    refine lv_goto (tgt := 17) hx hb dX11_isBeyondBound_13 (by decide) ?_
    exact wk_rz σ hx hb hr hlk (by decide) hK hI rfl ⟨wk_bT (fun hq => wk_lnl c_1 hq.1), rfl⟩ dX11_isBeyondBound_17
  · refine lv_iload_n hx hb dX11_isBeyondBound_4 rfl (lv_at hl 1 rfl) ?_
    refine lv_iload_n hx hb dX11_isBeyondBound_5 rfl (lv_at hl 0 rfl) ?_
    refine wk_kI hI hA (va_runS (As := [.int d9]) (rest := [.int n]) ⟨hx, hb, hml, hown, hts⟩ (c_X11_boundOf l D cI cJ cS ad σ d9 _) (wk_cwS 1 hts wk_in_M mw_243 mw_244 mw_34 mw_245 (hdX11_boundOf).2 ⟨(Nat.le_of_ble_eq_true rfl), (Nat.le_of_ble_eq_true rfl)⟩) (wk_preS hN hK hI) rfl rfl hl.1 rfl (lv_room (Nat.le_of_ble_eq_true rfl)) dX11_isBeyondBound_6 ⟨(Nat.le_of_ble_eq_true rfl), (Nat.le_of_ble_eq_true rfl)⟩) (fun r u H locs hw hI => ?_)
    obtain ⟨rfl, hw⟩ := hw
    rw [hw] at hI
    refine lv_icmp_le (tgt := 16) hx hb dX11_isBeyondBound_9 (by decide) (fun c_2 => ?_) (fun c_2 => ?_)
    · refine lv_iconst (v := 0) hx hb dX11_isBeyondBound_16 (by decide) ?_
      exact wk_rz σ hx hb hr hlk (by decide) hK hI rfl ⟨wk_bF (fun hq => hq ⟨wk_nlt c_1, c_2⟩), rfl⟩ dX11_isBeyondBound_17
    · refine lv_iconst (v := 1) hx hb dX11_isBeyondBound_12 (by decide) ?_
      refine lv_goto (tgt := 17) hx hb dX11_isBeyondBound_13 (by decide) ?_
      exact wk_rz σ hx hb hr hlk (by decide) hK hI rfl ⟨wk_bT (fun hq => c_2 hq.2), rfl⟩ dX11_isBeyondBound_17
set_option maxHeartbeats 4000000 in
set_option maxRecDepth 100000 in
theorem wd_X11_toilWay {p : Program} {l : Launch} {e : Env} {R : Room} {s : State} {m : MethodId} {args : Array Value} {below : List Frame} {meth : Method} {c : Code} {H : Heap} {locs : List Loc} {cells slots : Nat} {Ts : List Cond} {cc : ByteArray} {nL pc : Nat} {ls : Array Slot} {rest : List Value} {A : Nat → Prop} {H0 : Heap} {D : va_G} {cI cJ cS : ClassId} {ad : Nat → Nat} {σ : wk_St} (r k : Nat) (n : Int32) (S : CallFix p m c cc nL s args Ts RX11) (hb : ∀ w ∈ wk_T, w ∈ Ts) (hN : wk_N s) (hK : va_K D vwCl (wk_tys cI cJ cS) s) (hI : wk_I D A H0 H locs (wx_W cI cS ad σ)) (hV : wk_V σ) (hr9 : r < 8) (hk : k < wk_n σ) (hc : wk_nt σ + 6 < 2147483648) (hR : 5 ≤ R.frames ∧ 119 ≤ R.locals) (hsize : ls.size = nL) (hW : 2 * (F0 m pc ls (.int n :: .ref (ad (16 + k)) :: .ref (ad 1) :: .ref (ad (8 + r)) :: rest)).monitorRoom + (rest.map fun v => v.category).sum ≤ 8) (hdg : decode cc pc = .ok (.invokevirtual 98, 3)) (hf : cells + 0 ≤ R.cells ∧ slots + 0 ≤ R.slots) : va_Run p l e R s m args below meth c H locs cells slots 0 0 (F0 m pc ls (.int n :: .ref (ad (16 + k)) :: .ref (ad 1) :: .ref (ad (8 + r)) :: rest)) rest (va_Ql (fun v u => v = (wk_toilR r σ k n).1 ∧ u = (wk_toilR r σ k n).2) (wk_B D (wk_tys cI cJ cS) (va_A (wx_W cI cS ad σ) H.size) (wx_W cI cS ad)) (va_A (wx_W cI cS ad σ) H.size) (Value.ref (ad (8 + r)) :: [.ref (ad 1), .ref (ad (16 + k)), .int n]).toArray) (va_A (wx_W cI cS ad σ) H.size) := by
  rcases (show r = 0 ∨ r = 1 ∨ r = 2 ∨ r = 3 ∨ r = 4 ∨ r = 5 ∨ r = 6 ∨ r = 7 by omega) with rfl | rfl | rfl | rfl | rfl | rfl | rfl | rfl
  · exact va_runU (owner := RX8) (x := yX8_toilWay) (As := [.ref (ad 1), .ref (ad (16 + k)), .int n]) (rest := rest) S (c_X8_toilWay l D cI cJ cS ad σ 0 k n hV hr9 hk (by omega) _) (wk_cwU 3 S.2.2.2.2 hb mw_251 mw_253 mw_275 mw_252 mw_36 mw_292 (va_Decl.of (x := yX8_toilWay) (S.2.2.2.2 _ (hb _ mw_252)) (S.2.2.2.2 _ (hb _ mw_292))) (by decide +kernel) ⟨Nat.le_trans (Nat.le_of_ble_eq_true rfl) hR.1, Nat.le_trans (Nat.le_of_ble_eq_true rfl) hR.2⟩) (wk_preV hN hK hI (ci := 3) rfl (wx_er hr9)) rfl rfl hsize rfl hW hdg hf
  · exact va_runU (owner := RX8) (x := yX8_toilWay) (As := [.ref (ad 1), .ref (ad (16 + k)), .int n]) (rest := rest) S (c_X8_toilWay l D cI cJ cS ad σ 1 k n hV hr9 hk (by omega) _) (wk_cwU 3 S.2.2.2.2 hb mw_251 mw_253 mw_289 mw_252 mw_36 mw_292 (va_Decl.of (x := yX8_toilWay) (S.2.2.2.2 _ (hb _ mw_252)) (S.2.2.2.2 _ (hb _ mw_292))) (by decide +kernel) ⟨Nat.le_trans (Nat.le_of_ble_eq_true rfl) hR.1, Nat.le_trans (Nat.le_of_ble_eq_true rfl) hR.2⟩) (wk_preV hN hK hI (ci := 7) rfl (wx_er hr9)) rfl rfl hsize rfl hW hdg hf
  · exact va_runU (owner := RX8) (x := yX8_toilWay) (As := [.ref (ad 1), .ref (ad (16 + k)), .int n]) (rest := rest) S (c_X10_toilWay l D cI cJ cS ad σ 2 k n hV hr9 hk (by omega) _) (wk_cwU 3 S.2.2.2.2 hb mw_251 mw_253 mw_291 mw_255 mw_39 mw_256 (va_Decl.of (x := yX8_toilWay) (S.2.2.2.2 _ (hb _ mw_252)) (S.2.2.2.2 _ (hb _ mw_292))) (by decide +kernel) ⟨Nat.le_trans (Nat.le_of_ble_eq_true rfl) hR.1, Nat.le_trans (Nat.le_of_ble_eq_true rfl) hR.2⟩) (wk_preV hN hK hI (ci := 9) rfl (wx_er hr9)) rfl rfl hsize rfl hW hdg hf
  · exact va_runU (owner := RX8) (x := yX8_toilWay) (As := [.ref (ad 1), .ref (ad (16 + k)), .int n]) (rest := rest) S (c_X10_toilWay l D cI cJ cS ad σ 3 k n hV hr9 hk (by omega) _) (wk_cwU 3 S.2.2.2.2 hb mw_251 mw_253 mw_254 mw_255 mw_39 mw_256 (va_Decl.of (x := yX8_toilWay) (S.2.2.2.2 _ (hb _ mw_252)) (S.2.2.2.2 _ (hb _ mw_292))) (by decide +kernel) ⟨Nat.le_trans (Nat.le_of_ble_eq_true rfl) hR.1, Nat.le_trans (Nat.le_of_ble_eq_true rfl) hR.2⟩) (wk_preV hN hK hI (ci := 0) rfl (wx_er hr9)) rfl rfl hsize rfl hW hdg hf
  · exact va_runU (owner := RX8) (x := yX8_toilWay) (As := [.ref (ad 1), .ref (ad (16 + k)), .int n]) (rest := rest) S (c_X5_toilWay l D cI cJ cS ad σ 4 k n hV hr9 hk (by omega) _) (wk_cwU 3 S.2.2.2.2 hb mw_251 mw_253 mw_288 mw_281 mw_41 mw_282 (va_Decl.of (x := yX8_toilWay) (S.2.2.2.2 _ (hb _ mw_252)) (S.2.2.2.2 _ (hb _ mw_292))) (by decide +kernel) ⟨Nat.le_trans (Nat.le_of_ble_eq_true rfl) hR.1, Nat.le_trans (Nat.le_of_ble_eq_true rfl) hR.2⟩) (wk_preV hN hK hI (ci := 5) rfl (wx_er hr9)) rfl rfl hsize rfl hW hdg hf
  · exact va_runU (owner := RX8) (x := yX8_toilWay) (As := [.ref (ad 1), .ref (ad (16 + k)), .int n]) (rest := rest) S (c_X4_toilWay l D cI cJ cS ad σ 5 k n hV hr9 hk (by omega) _) (wk_cwU 3 S.2.2.2.2 hb mw_251 mw_253 mw_276 mw_277 mw_42 mw_278 (va_Decl.of (x := yX8_toilWay) (S.2.2.2.2 _ (hb _ mw_252)) (S.2.2.2.2 _ (hb _ mw_292))) (by decide +kernel) ⟨Nat.le_trans (Nat.le_of_ble_eq_true rfl) hR.1, Nat.le_trans (Nat.le_of_ble_eq_true rfl) hR.2⟩) (wk_preV hN hK hI (ci := 4) rfl (wx_er hr9)) rfl rfl hsize rfl hW hdg hf
  · exact va_runU (owner := RX8) (x := yX8_toilWay) (As := [.ref (ad 1), .ref (ad (16 + k)), .int n]) (rest := rest) S (c_X1_toilWay l D cI cJ cS ad σ 6 k n hV hr9 hk (by omega) _) (wk_cwU 3 S.2.2.2.2 hb mw_251 mw_253 mw_265 mw_266 mw_43 mw_267 (va_Decl.of (x := yX8_toilWay) (S.2.2.2.2 _ (hb _ mw_252)) (S.2.2.2.2 _ (hb _ mw_292))) (by decide +kernel) ⟨Nat.le_trans (Nat.le_of_ble_eq_true rfl) hR.1, Nat.le_trans (Nat.le_of_ble_eq_true rfl) hR.2⟩) (wk_preV hN hK hI (ci := 1) rfl (wx_er hr9)) rfl rfl hsize rfl hW hdg hf
  · exact va_runU (owner := RX8) (x := yX8_toilWay) (As := [.ref (ad 1), .ref (ad (16 + k)), .int n]) (rest := rest) S (c_X1_toilWay l D cI cJ cS ad σ 7 k n hV hr9 hk (by omega) _) (wk_cwU 3 S.2.2.2.2 hb mw_251 mw_253 mw_290 mw_266 mw_43 mw_267 (va_Decl.of (x := yX8_toilWay) (S.2.2.2.2 _ (hb _ mw_252)) (S.2.2.2.2 _ (hb _ mw_292))) (by decide +kernel) ⟨Nat.le_trans (Nat.le_of_ble_eq_true rfl) hR.1, Nat.le_trans (Nat.le_of_ble_eq_true rfl) hR.2⟩) (wk_preV hN hK hI (ci := 8) rfl (wx_er hr9)) rfl rfl hsize rfl hW hdg hf
set_option maxHeartbeats 4000000 in
set_option maxRecDepth 100000 in
theorem wd_X11_payWay {p : Program} {l : Launch} {e : Env} {R : Room} {s : State} {m : MethodId} {args : Array Value} {below : List Frame} {meth : Method} {c : Code} {H : Heap} {locs : List Loc} {cells slots : Nat} {Ts : List Cond} {cc : ByteArray} {nL pc : Nat} {ls : Array Slot} {rest : List Value} {A : Nat → Prop} {H0 : Heap} {D : va_G} {cI cJ cS : ClassId} {ad : Nat → Nat} {σ : wk_St} (r k : Nat) (n : Int32) (S : CallFix p m c cc nL s args Ts RX11) (hb : ∀ w ∈ wk_T, w ∈ Ts) (hN : wk_N s) (hK : va_K D vwCl (wk_tys cI cJ cS) s) (hI : wk_I D A H0 H locs (wx_W cI cS ad σ)) (hV : wk_V σ) (hr9 : r < 8) (hk : k < wk_n σ) (hc : wk_nt σ + 3 < 2147483648) (hR : 4 ≤ R.frames ∧ 96 ≤ R.locals) (hsize : ls.size = nL) (hW : 2 * (F0 m pc ls (.int n :: .ref (ad (16 + k)) :: .ref (ad 1) :: .ref (ad (8 + r)) :: rest)).monitorRoom + (rest.map fun v => v.category).sum ≤ 8) (hdg : decode cc pc = .ok (.invokevirtual 102, 3)) (hf : cells + 0 ≤ R.cells ∧ slots + 0 ≤ R.slots) : va_Run p l e R s m args below meth c H locs cells slots 0 0 (F0 m pc ls (.int n :: .ref (ad (16 + k)) :: .ref (ad 1) :: .ref (ad (8 + r)) :: rest)) rest (va_Ql (fun v u => v = (wk_payR r σ k n).1 ∧ u = (wk_payR r σ k n).2) (wk_B D (wk_tys cI cJ cS) (va_A (wx_W cI cS ad σ) H.size) (wx_W cI cS ad)) (va_A (wx_W cI cS ad σ) H.size) (Value.ref (ad (8 + r)) :: [.ref (ad 1), .ref (ad (16 + k)), .int n]).toArray) (va_A (wx_W cI cS ad σ) H.size) := by
  rcases (show r = 0 ∨ r = 1 ∨ r = 2 ∨ r = 3 ∨ r = 4 ∨ r = 5 ∨ r = 6 ∨ r = 7 by omega) with rfl | rfl | rfl | rfl | rfl | rfl | rfl | rfl
  · exact va_runU (owner := RX8) (x := (⟨RX8, "payWay", "(LWatchBill$Crew;LWatchBill$Member;I)J"⟩ : MethodName)) (As := [.ref (ad 1), .ref (ad (16 + k)), .int n]) (rest := rest) S (c_X3_payWay l D cI cJ cS ad σ 0 k n hV hr9 hk (by omega) _) (wk_cwU 3 S.2.2.2.2 hb mw_299 mw_301 mw_318 mw_309 mw_37 mw_310 (va_Decl.abs (hN.1 _ mx_300)) (by decide +kernel) ⟨Nat.le_trans (Nat.le_of_ble_eq_true rfl) hR.1, Nat.le_trans (Nat.le_of_ble_eq_true rfl) hR.2⟩) (wk_preV hN hK hI (ci := 3) rfl (wx_er hr9)) rfl rfl hsize rfl hW hdg hf
  · exact va_runU (owner := RX8) (x := (⟨RX8, "payWay", "(LWatchBill$Crew;LWatchBill$Member;I)J"⟩ : MethodName)) (As := [.ref (ad 1), .ref (ad (16 + k)), .int n]) (rest := rest) S (c_X3_payWay l D cI cJ cS ad σ 1 k n hV hr9 hk (by omega) _) (wk_cwU 3 S.2.2.2.2 hb mw_299 mw_301 mw_327 mw_309 mw_37 mw_310 (va_Decl.abs (hN.1 _ mx_300)) (by decide +kernel) ⟨Nat.le_trans (Nat.le_of_ble_eq_true rfl) hR.1, Nat.le_trans (Nat.le_of_ble_eq_true rfl) hR.2⟩) (wk_preV hN hK hI (ci := 7) rfl (wx_er hr9)) rfl rfl hsize rfl hW hdg hf
  · exact va_runU (owner := RX8) (x := (⟨RX8, "payWay", "(LWatchBill$Crew;LWatchBill$Member;I)J"⟩ : MethodName)) (As := [.ref (ad 1), .ref (ad (16 + k)), .int n]) (rest := rest) S (c_X3_payWay l D cI cJ cS ad σ 2 k n hV hr9 hk (by omega) _) (wk_cwU 3 S.2.2.2.2 hb mw_299 mw_301 mw_335 mw_309 mw_37 mw_310 (va_Decl.abs (hN.1 _ mx_300)) (by decide +kernel) ⟨Nat.le_trans (Nat.le_of_ble_eq_true rfl) hR.1, Nat.le_trans (Nat.le_of_ble_eq_true rfl) hR.2⟩) (wk_preV hN hK hI (ci := 9) rfl (wx_er hr9)) rfl rfl hsize rfl hW hdg hf
  · exact va_runU (owner := RX8) (x := (⟨RX8, "payWay", "(LWatchBill$Crew;LWatchBill$Member;I)J"⟩ : MethodName)) (As := [.ref (ad 1), .ref (ad (16 + k)), .int n]) (rest := rest) S (c_X0_payWay l D cI cJ cS ad σ 3 k n hV hr9 hk (by omega) _) (wk_cwU 3 S.2.2.2.2 hb mw_299 mw_301 mw_302 mw_303 mw_40 mw_304 (va_Decl.abs (hN.1 _ mx_300)) (by decide +kernel) ⟨Nat.le_trans (Nat.le_of_ble_eq_true rfl) hR.1, Nat.le_trans (Nat.le_of_ble_eq_true rfl) hR.2⟩) (wk_preV hN hK hI (ci := 0) rfl (wx_er hr9)) rfl rfl hsize rfl hW hdg hf
  · exact va_runU (owner := RX8) (x := (⟨RX8, "payWay", "(LWatchBill$Crew;LWatchBill$Member;I)J"⟩ : MethodName)) (As := [.ref (ad 1), .ref (ad (16 + k)), .int n]) (rest := rest) S (c_X0_payWay l D cI cJ cS ad σ 4 k n hV hr9 hk (by omega) _) (wk_cwU 3 S.2.2.2.2 hb mw_299 mw_301 mw_326 mw_303 mw_40 mw_304 (va_Decl.abs (hN.1 _ mx_300)) (by decide +kernel) ⟨Nat.le_trans (Nat.le_of_ble_eq_true rfl) hR.1, Nat.le_trans (Nat.le_of_ble_eq_true rfl) hR.2⟩) (wk_preV hN hK hI (ci := 5) rfl (wx_er hr9)) rfl rfl hsize rfl hW hdg hf
  · exact va_runU (owner := RX8) (x := (⟨RX8, "payWay", "(LWatchBill$Crew;LWatchBill$Member;I)J"⟩ : MethodName)) (As := [.ref (ad 1), .ref (ad (16 + k)), .int n]) (rest := rest) S (c_X4_payWay l D cI cJ cS ad σ 5 k n hV hr9 hk (by omega) _) (wk_cwU 3 S.2.2.2.2 hb mw_299 mw_301 mw_319 mw_320 mw_42 mw_321 (va_Decl.abs (hN.1 _ mx_300)) (by decide +kernel) ⟨Nat.le_trans (Nat.le_of_ble_eq_true rfl) hR.1, Nat.le_trans (Nat.le_of_ble_eq_true rfl) hR.2⟩) (wk_preV hN hK hI (ci := 4) rfl (wx_er hr9)) rfl rfl hsize rfl hW hdg hf
  · exact va_runU (owner := RX8) (x := (⟨RX8, "payWay", "(LWatchBill$Crew;LWatchBill$Member;I)J"⟩ : MethodName)) (As := [.ref (ad 1), .ref (ad (16 + k)), .int n]) (rest := rest) S (c_X3_payWay l D cI cJ cS ad σ 6 k n hV hr9 hk (by omega) _) (wk_cwU 3 S.2.2.2.2 hb mw_299 mw_301 mw_317 mw_309 mw_37 mw_310 (va_Decl.abs (hN.1 _ mx_300)) (by decide +kernel) ⟨Nat.le_trans (Nat.le_of_ble_eq_true rfl) hR.1, Nat.le_trans (Nat.le_of_ble_eq_true rfl) hR.2⟩) (wk_preV hN hK hI (ci := 1) rfl (wx_er hr9)) rfl rfl hsize rfl hW hdg hf
  · exact va_runU (owner := RX8) (x := (⟨RX8, "payWay", "(LWatchBill$Crew;LWatchBill$Member;I)J"⟩ : MethodName)) (As := [.ref (ad 1), .ref (ad (16 + k)), .int n]) (rest := rest) S (c_X9_payWay l D cI cJ cS ad σ 7 k n hV hr9 hk (by omega) _) (wk_cwU 3 S.2.2.2.2 hb mw_299 mw_301 mw_328 mw_329 mw_44 mw_330 (va_Decl.abs (hN.1 _ mx_300)) (by decide +kernel) ⟨Nat.le_trans (Nat.le_of_ble_eq_true rfl) hR.1, Nat.le_trans (Nat.le_of_ble_eq_true rfl) hR.2⟩) (wk_preV hN hK hI (ci := 8) rfl (wx_er hr9)) rfl rfl hsize rfl hW hdg hf
set_option maxHeartbeats 4000000 in
set_option maxRecDepth 100000 in
theorem wd_X11_climbWay {p : Program} {l : Launch} {e : Env} {R : Room} {s : State} {m : MethodId} {args : Array Value} {below : List Frame} {meth : Method} {c : Code} {H : Heap} {locs : List Loc} {cells slots : Nat} {Ts : List Cond} {cc : ByteArray} {nL pc : Nat} {ls : Array Slot} {rest : List Value} {A : Nat → Prop} {H0 : Heap} {D : va_G} {cI cJ cS : ClassId} {ad : Nat → Nat} {σ : wk_St} (r k : Nat) (n : Int32) (S : CallFix p m c cc nL s args Ts RX11) (hb : ∀ w ∈ wk_T, w ∈ Ts) (hN : wk_N s) (hK : va_K D vwCl (wk_tys cI cJ cS) s) (hI : wk_I D A H0 H locs (wx_W cI cS ad σ)) (hV : wk_V σ) (hr9 : r < 8) (hk : k < wk_n σ) (hc : wk_nt σ + 3 < 2147483648) (hR : 4 ≤ R.frames ∧ 92 ≤ R.locals) (hsize : ls.size = nL) (hW : 2 * (F0 m pc ls (.int n :: .ref (ad (16 + k)) :: .ref (ad 1) :: .ref (ad (8 + r)) :: rest)).monitorRoom + (rest.map fun v => v.category).sum ≤ 8) (hdg : decode cc pc = .ok (.invokevirtual 109, 3)) (hf : cells + 0 ≤ R.cells ∧ slots + 0 ≤ R.slots) : va_Run p l e R s m args below meth c H locs cells slots 0 0 (F0 m pc ls (.int n :: .ref (ad (16 + k)) :: .ref (ad 1) :: .ref (ad (8 + r)) :: rest)) rest (va_Qi (fun v u => v = (wk_climbR r σ k n).1 ∧ u = (wk_climbR r σ k n).2) (wk_B D (wk_tys cI cJ cS) (va_A (wx_W cI cS ad σ) H.size) (wx_W cI cS ad)) (va_A (wx_W cI cS ad σ) H.size) (Value.ref (ad (8 + r)) :: [.ref (ad 1), .ref (ad (16 + k)), .int n]).toArray) (va_A (wx_W cI cS ad σ) H.size) := by
  rcases (show r = 0 ∨ r = 1 ∨ r = 2 ∨ r = 3 ∨ r = 4 ∨ r = 5 ∨ r = 6 ∨ r = 7 by omega) with rfl | rfl | rfl | rfl | rfl | rfl | rfl | rfl
  · exact va_runU (owner := RX8) (x := yX8_climbWay) (As := [.ref (ad 1), .ref (ad (16 + k)), .int n]) (rest := rest) S (c_X8_climbWay l D cI cJ cS ad σ 0 k n hV hr9 hk (by omega) _) (wk_cwU 3 S.2.2.2.2 hb mw_340 mw_342 mw_352 mw_341 mw_36 mw_367 (va_Decl.of (x := yX8_climbWay) (S.2.2.2.2 _ (hb _ mw_341)) (S.2.2.2.2 _ (hb _ mw_367))) (by decide +kernel) ⟨Nat.le_trans (Nat.le_of_ble_eq_true rfl) hR.1, Nat.le_trans (Nat.le_of_ble_eq_true rfl) hR.2⟩) (wk_preV hN hK hI (ci := 3) rfl (wx_er hr9)) rfl rfl hsize rfl hW hdg hf
  · exact va_runU (owner := RX8) (x := yX8_climbWay) (As := [.ref (ad 1), .ref (ad (16 + k)), .int n]) (rest := rest) S (c_X7_climbWay l D cI cJ cS ad σ 1 k n hV hr9 hk (by omega) _) (wk_cwU 3 S.2.2.2.2 hb mw_340 mw_342 mw_360 mw_344 mw_38 mw_345 (va_Decl.of (x := yX8_climbWay) (S.2.2.2.2 _ (hb _ mw_341)) (S.2.2.2.2 _ (hb _ mw_367))) (by decide +kernel) ⟨Nat.le_trans (Nat.le_of_ble_eq_true rfl) hR.1, Nat.le_trans (Nat.le_of_ble_eq_true rfl) hR.2⟩) (wk_preV hN hK hI (ci := 7) rfl (wx_er hr9)) rfl rfl hsize rfl hW hdg hf
  · exact va_runU (owner := RX8) (x := yX8_climbWay) (As := [.ref (ad 1), .ref (ad (16 + k)), .int n]) (rest := rest) S (c_X7_climbWay l D cI cJ cS ad σ 2 k n hV hr9 hk (by omega) _) (wk_cwU 3 S.2.2.2.2 hb mw_340 mw_342 mw_366 mw_344 mw_38 mw_345 (va_Decl.of (x := yX8_climbWay) (S.2.2.2.2 _ (hb _ mw_341)) (S.2.2.2.2 _ (hb _ mw_367))) (by decide +kernel) ⟨Nat.le_trans (Nat.le_of_ble_eq_true rfl) hR.1, Nat.le_trans (Nat.le_of_ble_eq_true rfl) hR.2⟩) (wk_preV hN hK hI (ci := 9) rfl (wx_er hr9)) rfl rfl hsize rfl hW hdg hf
  · exact va_runU (owner := RX8) (x := yX8_climbWay) (As := [.ref (ad 1), .ref (ad (16 + k)), .int n]) (rest := rest) S (c_X7_climbWay l D cI cJ cS ad σ 3 k n hV hr9 hk (by omega) _) (wk_cwU 3 S.2.2.2.2 hb mw_340 mw_342 mw_343 mw_344 mw_38 mw_345 (va_Decl.of (x := yX8_climbWay) (S.2.2.2.2 _ (hb _ mw_341)) (S.2.2.2.2 _ (hb _ mw_367))) (by decide +kernel) ⟨Nat.le_trans (Nat.le_of_ble_eq_true rfl) hR.1, Nat.le_trans (Nat.le_of_ble_eq_true rfl) hR.2⟩) (wk_preV hN hK hI (ci := 0) rfl (wx_er hr9)) rfl rfl hsize rfl hW hdg hf
  · exact va_runU (owner := RX8) (x := yX8_climbWay) (As := [.ref (ad 1), .ref (ad (16 + k)), .int n]) (rest := rest) S (c_X5_climbWay l D cI cJ cS ad σ 4 k n hV hr9 hk (by omega) _) (wk_cwU 3 S.2.2.2.2 hb mw_340 mw_342 mw_359 mw_354 mw_41 mw_355 (va_Decl.of (x := yX8_climbWay) (S.2.2.2.2 _ (hb _ mw_341)) (S.2.2.2.2 _ (hb _ mw_367))) (by decide +kernel) ⟨Nat.le_trans (Nat.le_of_ble_eq_true rfl) hR.1, Nat.le_trans (Nat.le_of_ble_eq_true rfl) hR.2⟩) (wk_preV hN hK hI (ci := 5) rfl (wx_er hr9)) rfl rfl hsize rfl hW hdg hf
  · exact va_runU (owner := RX8) (x := yX8_climbWay) (As := [.ref (ad 1), .ref (ad (16 + k)), .int n]) (rest := rest) S (c_X5_climbWay l D cI cJ cS ad σ 5 k n hV hr9 hk (by omega) _) (wk_cwU 3 S.2.2.2.2 hb mw_340 mw_342 mw_353 mw_354 mw_41 mw_355 (va_Decl.of (x := yX8_climbWay) (S.2.2.2.2 _ (hb _ mw_341)) (S.2.2.2.2 _ (hb _ mw_367))) (by decide +kernel) ⟨Nat.le_trans (Nat.le_of_ble_eq_true rfl) hR.1, Nat.le_trans (Nat.le_of_ble_eq_true rfl) hR.2⟩) (wk_preV hN hK hI (ci := 4) rfl (wx_er hr9)) rfl rfl hsize rfl hW hdg hf
  · exact va_runU (owner := RX8) (x := yX8_climbWay) (As := [.ref (ad 1), .ref (ad (16 + k)), .int n]) (rest := rest) S (c_X8_climbWay l D cI cJ cS ad σ 6 k n hV hr9 hk (by omega) _) (wk_cwU 3 S.2.2.2.2 hb mw_340 mw_342 mw_351 mw_341 mw_36 mw_367 (va_Decl.of (x := yX8_climbWay) (S.2.2.2.2 _ (hb _ mw_341)) (S.2.2.2.2 _ (hb _ mw_367))) (by decide +kernel) ⟨Nat.le_trans (Nat.le_of_ble_eq_true rfl) hR.1, Nat.le_trans (Nat.le_of_ble_eq_true rfl) hR.2⟩) (wk_preV hN hK hI (ci := 1) rfl (wx_er hr9)) rfl rfl hsize rfl hW hdg hf
  · exact va_runU (owner := RX8) (x := yX8_climbWay) (As := [.ref (ad 1), .ref (ad (16 + k)), .int n]) (rest := rest) S (c_X9_climbWay l D cI cJ cS ad σ 7 k n hV hr9 hk (by omega) _) (wk_cwU 3 S.2.2.2.2 hb mw_340 mw_342 mw_361 mw_362 mw_44 mw_363 (va_Decl.of (x := yX8_climbWay) (S.2.2.2.2 _ (hb _ mw_341)) (S.2.2.2.2 _ (hb _ mw_367))) (by decide +kernel) ⟨Nat.le_trans (Nat.le_of_ble_eq_true rfl) hR.1, Nat.le_trans (Nat.le_of_ble_eq_true rfl) hR.2⟩) (wk_preV hN hK hI (ci := 8) rfl (wx_er hr9)) rfl rfl hsize rfl hW hdg hf
set_option maxHeartbeats 4000000 in
set_option maxRecDepth 100000 in
theorem wd_X11_heedWay {p : Program} {l : Launch} {e : Env} {R : Room} {s : State} {m : MethodId} {args : Array Value} {below : List Frame} {meth : Method} {c : Code} {H : Heap} {locs : List Loc} {cells slots : Nat} {Ts : List Cond} {cc : ByteArray} {nL pc : Nat} {ls : Array Slot} {rest : List Value} {A : Nat → Prop} {H0 : Heap} {D : va_G} {cI cJ cS : ClassId} {ad : Nat → Nat} {σ : wk_St} (r k : Nat) (n : Int32) (S : CallFix p m c cc nL s args Ts RX11) (hb : ∀ w ∈ wk_T, w ∈ Ts) (hN : wk_N s) (hK : va_K D vwCl (wk_tys cI cJ cS) s) (hI : wk_I D A H0 H locs (wx_W cI cS ad σ)) (hV : wk_V σ) (hr9 : r < 8) (hk : k < wk_n σ) (hc : wk_nt σ + 28 < 2147483648) (hR : 5 ≤ R.frames ∧ 116 ≤ R.locals) (hsize : ls.size = nL) (hW : 2 * (F0 m pc ls (.int n :: .ref (ad (16 + k)) :: .ref (ad 1) :: .ref (ad (8 + r)) :: rest)).monitorRoom + (rest.map fun v => v.category).sum ≤ 8) (hdg : decode cc pc = .ok (.invokevirtual 113, 3)) (hf : cells + 0 ≤ R.cells ∧ slots + 0 ≤ R.slots) : va_Run p l e R s m args below meth c H locs cells slots 0 0 (F0 m pc ls (.int n :: .ref (ad (16 + k)) :: .ref (ad 1) :: .ref (ad (8 + r)) :: rest)) rest (va_Qi (fun v u => v = (wk_heedR r σ k n).1 ∧ u = (wk_heedR r σ k n).2) (wk_B D (wk_tys cI cJ cS) (va_A (wx_W cI cS ad σ) H.size) (wx_W cI cS ad)) (va_A (wx_W cI cS ad σ) H.size) (Value.ref (ad (8 + r)) :: [.ref (ad 1), .ref (ad (16 + k)), .int n]).toArray) (va_A (wx_W cI cS ad σ) H.size) := by
  rcases (show r = 0 ∨ r = 1 ∨ r = 2 ∨ r = 3 ∨ r = 4 ∨ r = 5 ∨ r = 6 ∨ r = 7 by omega) with rfl | rfl | rfl | rfl | rfl | rfl | rfl | rfl
  · exact va_runU (owner := RX8) (x := yX8_heedWay) (As := [.ref (ad 1), .ref (ad (16 + k)), .int n]) (rest := rest) S (c_X8_heedWay l D cI cJ cS ad σ 0 k n hV hr9 hk (by omega) _) (wk_cwU 3 S.2.2.2.2 hb mw_372 mw_374 mw_395 mw_373 mw_36 mw_401 (va_Decl.of (x := yX8_heedWay) (S.2.2.2.2 _ (hb _ mw_373)) (S.2.2.2.2 _ (hb _ mw_401))) (by decide +kernel) ⟨Nat.le_trans (Nat.le_of_ble_eq_true rfl) hR.1, Nat.le_trans (Nat.le_of_ble_eq_true rfl) hR.2⟩) (wk_preV hN hK hI (ci := 3) rfl (wx_er hr9)) rfl rfl hsize rfl hW hdg hf
  · exact va_runU (owner := RX8) (x := yX8_heedWay) (As := [.ref (ad 1), .ref (ad (16 + k)), .int n]) (rest := rest) S (c_X8_heedWay l D cI cJ cS ad σ 1 k n hV hr9 hk (by omega) _) (wk_cwU 3 S.2.2.2.2 hb mw_372 mw_374 mw_398 mw_373 mw_36 mw_401 (va_Decl.of (x := yX8_heedWay) (S.2.2.2.2 _ (hb _ mw_373)) (S.2.2.2.2 _ (hb _ mw_401))) (by decide +kernel) ⟨Nat.le_trans (Nat.le_of_ble_eq_true rfl) hR.1, Nat.le_trans (Nat.le_of_ble_eq_true rfl) hR.2⟩) (wk_preV hN hK hI (ci := 7) rfl (wx_er hr9)) rfl rfl hsize rfl hW hdg hf
  · exact va_runU (owner := RX8) (x := yX8_heedWay) (As := [.ref (ad 1), .ref (ad (16 + k)), .int n]) (rest := rest) S (c_X10_heedWay l D cI cJ cS ad σ 2 k n hV hr9 hk (by omega) _) (wk_cwU 3 S.2.2.2.2 hb mw_372 mw_374 mw_400 mw_379 mw_39 mw_380 (va_Decl.of (x := yX8_heedWay) (S.2.2.2.2 _ (hb _ mw_373)) (S.2.2.2.2 _ (hb _ mw_401))) (by decide +kernel) ⟨Nat.le_trans (Nat.le_of_ble_eq_true rfl) hR.1, Nat.le_trans (Nat.le_of_ble_eq_true rfl) hR.2⟩) (wk_preV hN hK hI (ci := 9) rfl (wx_er hr9)) rfl rfl hsize rfl hW hdg hf
  · exact va_runU (owner := RX8) (x := yX8_heedWay) (As := [.ref (ad 1), .ref (ad (16 + k)), .int n]) (rest := rest) S (c_X0_heedWay l D cI cJ cS ad σ 3 k n hV hr9 hk (by omega) _) (wk_cwU 3 S.2.2.2.2 hb mw_372 mw_374 mw_375 mw_376 mw_40 mw_377 (va_Decl.of (x := yX8_heedWay) (S.2.2.2.2 _ (hb _ mw_373)) (S.2.2.2.2 _ (hb _ mw_401))) (by decide +kernel) ⟨Nat.le_trans (Nat.le_of_ble_eq_true rfl) hR.1, Nat.le_trans (Nat.le_of_ble_eq_true rfl) hR.2⟩) (wk_preV hN hK hI (ci := 0) rfl (wx_er hr9)) rfl rfl hsize rfl hW hdg hf
  · exact va_runU (owner := RX8) (x := yX8_heedWay) (As := [.ref (ad 1), .ref (ad (16 + k)), .int n]) (rest := rest) S (c_X0_heedWay l D cI cJ cS ad σ 4 k n hV hr9 hk (by omega) _) (wk_cwU 3 S.2.2.2.2 hb mw_372 mw_374 mw_397 mw_376 mw_40 mw_377 (va_Decl.of (x := yX8_heedWay) (S.2.2.2.2 _ (hb _ mw_373)) (S.2.2.2.2 _ (hb _ mw_401))) (by decide +kernel) ⟨Nat.le_trans (Nat.le_of_ble_eq_true rfl) hR.1, Nat.le_trans (Nat.le_of_ble_eq_true rfl) hR.2⟩) (wk_preV hN hK hI (ci := 5) rfl (wx_er hr9)) rfl rfl hsize rfl hW hdg hf
  · exact va_runU (owner := RX8) (x := yX8_heedWay) (As := [.ref (ad 1), .ref (ad (16 + k)), .int n]) (rest := rest) S (c_X4_heedWay l D cI cJ cS ad σ 5 k n hV hr9 hk (by omega) _) (wk_cwU 3 S.2.2.2.2 hb mw_372 mw_374 mw_396 mw_389 mw_42 mw_390 (va_Decl.of (x := yX8_heedWay) (S.2.2.2.2 _ (hb _ mw_373)) (S.2.2.2.2 _ (hb _ mw_401))) (by decide +kernel) ⟨Nat.le_trans (Nat.le_of_ble_eq_true rfl) hR.1, Nat.le_trans (Nat.le_of_ble_eq_true rfl) hR.2⟩) (wk_preV hN hK hI (ci := 4) rfl (wx_er hr9)) rfl rfl hsize rfl hW hdg hf
  · exact va_runU (owner := RX8) (x := yX8_heedWay) (As := [.ref (ad 1), .ref (ad (16 + k)), .int n]) (rest := rest) S (c_X1_heedWay l D cI cJ cS ad σ 6 k n hV hr9 hk (by omega) _) (wk_cwU 3 S.2.2.2.2 hb mw_372 mw_374 mw_394 mw_385 mw_43 mw_386 (va_Decl.of (x := yX8_heedWay) (S.2.2.2.2 _ (hb _ mw_373)) (S.2.2.2.2 _ (hb _ mw_401))) (by decide +kernel) ⟨Nat.le_trans (Nat.le_of_ble_eq_true rfl) hR.1, Nat.le_trans (Nat.le_of_ble_eq_true rfl) hR.2⟩) (wk_preV hN hK hI (ci := 1) rfl (wx_er hr9)) rfl rfl hsize rfl hW hdg hf
  · exact va_runU (owner := RX8) (x := yX8_heedWay) (As := [.ref (ad 1), .ref (ad (16 + k)), .int n]) (rest := rest) S (c_X1_heedWay l D cI cJ cS ad σ 7 k n hV hr9 hk (by omega) _) (wk_cwU 3 S.2.2.2.2 hb mw_372 mw_374 mw_399 mw_385 mw_43 mw_386 (va_Decl.of (x := yX8_heedWay) (S.2.2.2.2 _ (hb _ mw_373)) (S.2.2.2.2 _ (hb _ mw_401))) (by decide +kernel) ⟨Nat.le_trans (Nat.le_of_ble_eq_true rfl) hR.1, Nat.le_trans (Nat.le_of_ble_eq_true rfl) hR.2⟩) (wk_preV hN hK hI (ci := 8) rfl (wx_er hr9)) rfl rfl hsize rfl hW hdg hf
set_option maxHeartbeats 4000000 in
set_option maxRecDepth 100000 in
theorem wd_X8_climbWay {p : Program} {l : Launch} {e : Env} {R : Room} {s : State} {m : MethodId} {args : Array Value} {below : List Frame} {meth : Method} {c : Code} {H : Heap} {locs : List Loc} {cells slots : Nat} {Ts : List Cond} {cc : ByteArray} {nL pc : Nat} {ls : Array Slot} {rest : List Value} {A : Nat → Prop} {H0 : Heap} {D : va_G} {cI cJ cS : ClassId} {ad : Nat → Nat} {σ : wk_St} (r k : Nat) (n : Int32) (S : CallFix p m c cc nL s args Ts RX8) (hb : ∀ w ∈ wk_T, w ∈ Ts) (hN : wk_N s) (hK : va_K D vwCl (wk_tys cI cJ cS) s) (hI : wk_I D A H0 H locs (wx_W cI cS ad σ)) (hV : wk_V σ) (hr9 : r < 8) (hk : k < wk_n σ) (hc : wk_nt σ + 3 < 2147483648) (hR : 4 ≤ R.frames ∧ 92 ≤ R.locals) (hsize : ls.size = nL) (hW : 2 * (F0 m pc ls (.int n :: .ref (ad (16 + k)) :: .ref (ad 1) :: .ref (ad (8 + r)) :: rest)).monitorRoom + (rest.map fun v => v.category).sum ≤ 8) (hdg : decode cc pc = .ok (.invokevirtual 31, 3)) (hf : cells + 0 ≤ R.cells ∧ slots + 0 ≤ R.slots) : va_Run p l e R s m args below meth c H locs cells slots 0 0 (F0 m pc ls (.int n :: .ref (ad (16 + k)) :: .ref (ad 1) :: .ref (ad (8 + r)) :: rest)) rest (va_Qi (fun v u => v = (wk_climbR r σ k n).1 ∧ u = (wk_climbR r σ k n).2) (wk_B D (wk_tys cI cJ cS) (va_A (wx_W cI cS ad σ) H.size) (wx_W cI cS ad)) (va_A (wx_W cI cS ad σ) H.size) (Value.ref (ad (8 + r)) :: [.ref (ad 1), .ref (ad (16 + k)), .int n]).toArray) (va_A (wx_W cI cS ad σ) H.size) := by
  rcases (show r = 0 ∨ r = 1 ∨ r = 2 ∨ r = 3 ∨ r = 4 ∨ r = 5 ∨ r = 6 ∨ r = 7 by omega) with rfl | rfl | rfl | rfl | rfl | rfl | rfl | rfl
  · exact va_runU (owner := RX8) (x := yX8_climbWay) (As := [.ref (ad 1), .ref (ad (16 + k)), .int n]) (rest := rest) S (c_X8_climbWay l D cI cJ cS ad σ 0 k n hV hr9 hk (by omega) _) (wk_cwU 3 S.2.2.2.2 hb mw_430 mw_342 mw_352 mw_341 mw_36 mw_367 (va_Decl.of (x := yX8_climbWay) (S.2.2.2.2 _ (hb _ mw_341)) (S.2.2.2.2 _ (hb _ mw_367))) (by decide +kernel) ⟨Nat.le_trans (Nat.le_of_ble_eq_true rfl) hR.1, Nat.le_trans (Nat.le_of_ble_eq_true rfl) hR.2⟩) (wk_preV hN hK hI (ci := 3) rfl (wx_er hr9)) rfl rfl hsize rfl hW hdg hf
  · exact va_runU (owner := RX8) (x := yX8_climbWay) (As := [.ref (ad 1), .ref (ad (16 + k)), .int n]) (rest := rest) S (c_X7_climbWay l D cI cJ cS ad σ 1 k n hV hr9 hk (by omega) _) (wk_cwU 3 S.2.2.2.2 hb mw_430 mw_342 mw_360 mw_344 mw_38 mw_345 (va_Decl.of (x := yX8_climbWay) (S.2.2.2.2 _ (hb _ mw_341)) (S.2.2.2.2 _ (hb _ mw_367))) (by decide +kernel) ⟨Nat.le_trans (Nat.le_of_ble_eq_true rfl) hR.1, Nat.le_trans (Nat.le_of_ble_eq_true rfl) hR.2⟩) (wk_preV hN hK hI (ci := 7) rfl (wx_er hr9)) rfl rfl hsize rfl hW hdg hf
  · exact va_runU (owner := RX8) (x := yX8_climbWay) (As := [.ref (ad 1), .ref (ad (16 + k)), .int n]) (rest := rest) S (c_X7_climbWay l D cI cJ cS ad σ 2 k n hV hr9 hk (by omega) _) (wk_cwU 3 S.2.2.2.2 hb mw_430 mw_342 mw_366 mw_344 mw_38 mw_345 (va_Decl.of (x := yX8_climbWay) (S.2.2.2.2 _ (hb _ mw_341)) (S.2.2.2.2 _ (hb _ mw_367))) (by decide +kernel) ⟨Nat.le_trans (Nat.le_of_ble_eq_true rfl) hR.1, Nat.le_trans (Nat.le_of_ble_eq_true rfl) hR.2⟩) (wk_preV hN hK hI (ci := 9) rfl (wx_er hr9)) rfl rfl hsize rfl hW hdg hf
  · exact va_runU (owner := RX8) (x := yX8_climbWay) (As := [.ref (ad 1), .ref (ad (16 + k)), .int n]) (rest := rest) S (c_X7_climbWay l D cI cJ cS ad σ 3 k n hV hr9 hk (by omega) _) (wk_cwU 3 S.2.2.2.2 hb mw_430 mw_342 mw_343 mw_344 mw_38 mw_345 (va_Decl.of (x := yX8_climbWay) (S.2.2.2.2 _ (hb _ mw_341)) (S.2.2.2.2 _ (hb _ mw_367))) (by decide +kernel) ⟨Nat.le_trans (Nat.le_of_ble_eq_true rfl) hR.1, Nat.le_trans (Nat.le_of_ble_eq_true rfl) hR.2⟩) (wk_preV hN hK hI (ci := 0) rfl (wx_er hr9)) rfl rfl hsize rfl hW hdg hf
  · exact va_runU (owner := RX8) (x := yX8_climbWay) (As := [.ref (ad 1), .ref (ad (16 + k)), .int n]) (rest := rest) S (c_X5_climbWay l D cI cJ cS ad σ 4 k n hV hr9 hk (by omega) _) (wk_cwU 3 S.2.2.2.2 hb mw_430 mw_342 mw_359 mw_354 mw_41 mw_355 (va_Decl.of (x := yX8_climbWay) (S.2.2.2.2 _ (hb _ mw_341)) (S.2.2.2.2 _ (hb _ mw_367))) (by decide +kernel) ⟨Nat.le_trans (Nat.le_of_ble_eq_true rfl) hR.1, Nat.le_trans (Nat.le_of_ble_eq_true rfl) hR.2⟩) (wk_preV hN hK hI (ci := 5) rfl (wx_er hr9)) rfl rfl hsize rfl hW hdg hf
  · exact va_runU (owner := RX8) (x := yX8_climbWay) (As := [.ref (ad 1), .ref (ad (16 + k)), .int n]) (rest := rest) S (c_X5_climbWay l D cI cJ cS ad σ 5 k n hV hr9 hk (by omega) _) (wk_cwU 3 S.2.2.2.2 hb mw_430 mw_342 mw_353 mw_354 mw_41 mw_355 (va_Decl.of (x := yX8_climbWay) (S.2.2.2.2 _ (hb _ mw_341)) (S.2.2.2.2 _ (hb _ mw_367))) (by decide +kernel) ⟨Nat.le_trans (Nat.le_of_ble_eq_true rfl) hR.1, Nat.le_trans (Nat.le_of_ble_eq_true rfl) hR.2⟩) (wk_preV hN hK hI (ci := 4) rfl (wx_er hr9)) rfl rfl hsize rfl hW hdg hf
  · exact va_runU (owner := RX8) (x := yX8_climbWay) (As := [.ref (ad 1), .ref (ad (16 + k)), .int n]) (rest := rest) S (c_X8_climbWay l D cI cJ cS ad σ 6 k n hV hr9 hk (by omega) _) (wk_cwU 3 S.2.2.2.2 hb mw_430 mw_342 mw_351 mw_341 mw_36 mw_367 (va_Decl.of (x := yX8_climbWay) (S.2.2.2.2 _ (hb _ mw_341)) (S.2.2.2.2 _ (hb _ mw_367))) (by decide +kernel) ⟨Nat.le_trans (Nat.le_of_ble_eq_true rfl) hR.1, Nat.le_trans (Nat.le_of_ble_eq_true rfl) hR.2⟩) (wk_preV hN hK hI (ci := 1) rfl (wx_er hr9)) rfl rfl hsize rfl hW hdg hf
  · exact va_runU (owner := RX8) (x := yX8_climbWay) (As := [.ref (ad 1), .ref (ad (16 + k)), .int n]) (rest := rest) S (c_X9_climbWay l D cI cJ cS ad σ 7 k n hV hr9 hk (by omega) _) (wk_cwU 3 S.2.2.2.2 hb mw_430 mw_342 mw_361 mw_362 mw_44 mw_363 (va_Decl.of (x := yX8_climbWay) (S.2.2.2.2 _ (hb _ mw_341)) (S.2.2.2.2 _ (hb _ mw_367))) (by decide +kernel) ⟨Nat.le_trans (Nat.le_of_ble_eq_true rfl) hR.1, Nat.le_trans (Nat.le_of_ble_eq_true rfl) hR.2⟩) (wk_preV hN hK hI (ci := 8) rfl (wx_er hr9)) rfl rfl hsize rfl hW hdg hf
set_option maxHeartbeats 4000000 in
set_option maxRecDepth 100000 in
theorem c_X11_doDuty (l : Launch) (D : va_G) (cI cJ cS : ClassId) (ad : Nat → Nat) (σ : wk_St) (k : Nat) (d9 n : Int32) (hV : wk_V σ) (hk : k < wk_n σ) (hc : wk_nt σ + 28 < 2147483648) : wk_Cl l D (wk_tys cI cJ cS) yX11_doDuty (wk_M yX11_doDuty cX11_doDuty 4 (some .long)) ({ frames := 5, cells := 0, slots := 0, locals := 119 }) [.ref (ad 0), .ref (ad (16 + k)), .int d9, .int n] (wx_W cI cS ad σ) (wx_W cI cS ad) (fun r0 u0 => r0 = (wk_do d9 σ k n).1 ∧ u0 = (wk_do d9 σ k n).2) := by
  intro sz
  refine Met.ofW (cc := cX11_doDuty) (maxL := 4) (ret := (some .long)) (by decide) rfl ?_
  intro p e s m args below meth c s₁ B hml hv
  obtain ⟨rfl, hsz, hP, hK, hD0, hN⟩ := hv
  have hx := B.exec
  have hb := B.bytes
  have hr := B.returns
  have hts := atoms_spec (ws := wk_M yX11_doDuty cX11_doDuty 4 (some .long)) B.pre
  have hown : s.vm.findClass RX11 = some m.cls := findClass_of_methodNamed B.named
  have hlk := B.notSynchronized
  subst hsz
  have hI : wk_I D (va_A (wx_W cI cS ad σ) s.heap.size) s.heap s.heap [] (wx_W cI cS ad σ) := ⟨hP, hD0.self, va_S.rf⟩
  have hA : ∀ q : Nat, s.heap.size ≤ q → (va_A (wx_W cI cS ad σ) s.heap.size) q := fun q h => Or.inr h
  clear hP hD0
  generalize va_A (wx_W cI cS ad σ) s.heap.size = A at hI hA ⊢
  have hl := lv_entry ([.ref (ad 0), .ref (ad (16 + k)), .int d9, .int n]) (n := 4) (Nat.le_of_ble_eq_true rfl)
  rw [lg_entry_eq]
  generalize (lg_sl ([.ref (ad 0), .ref (ad (16 + k)), .int d9, .int n]) ++ List.replicate (4 - (lg_sl ([.ref (ad 0), .ref (ad (16 + k)), .int d9, .int n])).length) Slot.unset).toArray = ls at hl ⊢
  have hl : lv_has ls 4 [(0, .ref (ad 0)), (1, .ref (ad (16 + k))), (2, .int d9), (3, .int n)] := hl
  refine lv_iload_n hx hb dX11_doDuty_0 rfl (lv_at hl 2 rfl) ?_
  by_cases hs_1 : d9 = 0
  · refine lv_tableIn (tgt := 28) (off := 27) hx hb dX11_doDuty_1 (by rw [hs_1]; decide) (by rw [hs_1]; decide) (by rw [hs_1]; rfl) (by decide) ?_
    refine lv_aload_n hx hb dX11_doDuty_28 rfl (lv_at hl 1 rfl) ?_
    refine wk_get (v := .ref (ad (8 + wk_rk σ k))) hx hb hts (fun w h => wk_in_M w (lay_X6 w h)) hown hK hI (16 + k) (wx_em hk) rfl 3 (by decide) (hts _ (wk_in_M _ mw_193)) rfl rfl dX11_doDuty_29 ?_
    refine lv_aload_n hx hb dX11_doDuty_32 rfl (lv_at hl 0 rfl) ?_
    refine wk_get (v := .ref (ad 1)) hx hb hts (fun w h => wk_in_M w (lay_X11 w h)) hown hK hI (0) wx_e0 rfl 0 (by decide) (hts _ (wk_in_M _ mw_145)) rfl rfl dX11_doDuty_33 ?_
    refine lv_aload_n hx hb dX11_doDuty_36 rfl (lv_at hl 1 rfl) ?_
    refine lv_iload_n hx hb dX11_doDuty_37 rfl (lv_at hl 3 rfl) ?_
    refine wk_kL hI hA (wd_X11_toilWay (wk_rk σ k) k n (rest := []) ⟨hx, hb, hml, hown, hts⟩ wk_in_M hN hK hI hV (hV.rk hk) hk (by omega) ⟨(Nat.le_of_ble_eq_true rfl), (Nat.le_of_ble_eq_true rfl)⟩ hl.1 (lv_room (Nat.le_of_ble_eq_true rfl)) dX11_doDuty_38 ⟨(Nat.le_of_ble_eq_true rfl), (Nat.le_of_ble_eq_true rfl)⟩) (fun r u H locs hw hI => ?_)
    obtain ⟨rfl, rfl⟩ := hw
    have hG_2 : wk_G σ ((wk_toilR (wk_rk σ k) σ k n).2) 6 := wk_g_toilR (wk_rk σ k) σ k n
    exact wk_rl ((wk_toilR (wk_rk σ k) σ k n).2) hx hb hr hlk hK hI rfl (wk_post (by first | rfl | (simp only [wk_do, if_pos hs_1]; done) | (simp only [wk_do, if_pos hs_1]; rfl))) dX11_doDuty_41
  by_cases hs_3 : d9 = 1
  · refine lv_tableIn (tgt := 42) (off := 41) hx hb dX11_doDuty_1 (by rw [hs_3]; decide) (by rw [hs_3]; decide) (by rw [hs_3]; rfl) (by decide) ?_
    refine lv_aload_n hx hb dX11_doDuty_42 rfl (lv_at hl 1 rfl) ?_
    refine wk_get (v := .ref (ad (8 + wk_rk σ k))) hx hb hts (fun w h => wk_in_M w (lay_X6 w h)) hown hK hI (16 + k) (wx_em hk) rfl 3 (by decide) (hts _ (wk_in_M _ mw_193)) rfl rfl dX11_doDuty_43 ?_
    refine lv_aload_n hx hb dX11_doDuty_46 rfl (lv_at hl 0 rfl) ?_
    refine wk_get (v := .ref (ad 1)) hx hb hts (fun w h => wk_in_M w (lay_X11 w h)) hown hK hI (0) wx_e0 rfl 0 (by decide) (hts _ (wk_in_M _ mw_145)) rfl rfl dX11_doDuty_47 ?_
    refine lv_aload_n hx hb dX11_doDuty_50 rfl (lv_at hl 1 rfl) ?_
    refine lv_iload_n hx hb dX11_doDuty_51 rfl (lv_at hl 3 rfl) ?_
    refine wk_kL hI hA (wd_X11_payWay (wk_rk σ k) k n (rest := []) ⟨hx, hb, hml, hown, hts⟩ wk_in_M hN hK hI hV (hV.rk hk) hk (by omega) ⟨(Nat.le_of_ble_eq_true rfl), (Nat.le_of_ble_eq_true rfl)⟩ hl.1 (lv_room (Nat.le_of_ble_eq_true rfl)) dX11_doDuty_52 ⟨(Nat.le_of_ble_eq_true rfl), (Nat.le_of_ble_eq_true rfl)⟩) (fun r u H locs hw hI => ?_)
    obtain ⟨rfl, rfl⟩ := hw
    have hG_4 : wk_G σ ((wk_payR (wk_rk σ k) σ k n).2) 3 := wk_g_payR (wk_rk σ k) σ k n
    exact wk_rl ((wk_payR (wk_rk σ k) σ k n).2) hx hb hr hlk hK hI rfl (wk_post (by first | rfl | (simp only [wk_do, if_neg hs_1, if_pos hs_3]; done) | (simp only [wk_do, if_neg hs_1, if_pos hs_3]; rfl))) dX11_doDuty_55
  by_cases hs_5 : d9 = 2
  · refine lv_tableIn (tgt := 56) (off := 55) hx hb dX11_doDuty_1 (by rw [hs_5]; decide) (by rw [hs_5]; decide) (by rw [hs_5]; rfl) (by decide) ?_
    refine lv_aload_n hx hb dX11_doDuty_56 rfl (lv_at hl 1 rfl) ?_
    refine wk_get (v := .ref (ad (8 + wk_rk σ k))) hx hb hts (fun w h => wk_in_M w (lay_X6 w h)) hown hK hI (16 + k) (wx_em hk) rfl 3 (by decide) (hts _ (wk_in_M _ mw_193)) rfl rfl dX11_doDuty_57 ?_
    refine lv_aload_n hx hb dX11_doDuty_60 rfl (lv_at hl 0 rfl) ?_
    refine wk_get (v := .ref (ad 1)) hx hb hts (fun w h => wk_in_M w (lay_X11 w h)) hown hK hI (0) wx_e0 rfl 0 (by decide) (hts _ (wk_in_M _ mw_145)) rfl rfl dX11_doDuty_61 ?_
    refine lv_aload_n hx hb dX11_doDuty_64 rfl (lv_at hl 1 rfl) ?_
    refine lv_iload_n hx hb dX11_doDuty_65 rfl (lv_at hl 3 rfl) ?_
    refine wk_kI hI hA (wd_X11_climbWay (wk_rk σ k) k n (rest := []) ⟨hx, hb, hml, hown, hts⟩ wk_in_M hN hK hI hV (hV.rk hk) hk (by omega) ⟨(Nat.le_of_ble_eq_true rfl), (Nat.le_of_ble_eq_true rfl)⟩ hl.1 (lv_room (Nat.le_of_ble_eq_true rfl)) dX11_doDuty_66 ⟨(Nat.le_of_ble_eq_true rfl), (Nat.le_of_ble_eq_true rfl)⟩) (fun r u H locs hw hI => ?_)
    obtain ⟨rfl, rfl⟩ := hw
    have hG_6 : wk_G σ ((wk_climbR (wk_rk σ k) σ k n).2) 3 := wk_g_climbR (wk_rk σ k) σ k n
    refine lv_i2l hx hb dX11_doDuty_69 rfl ?_
    exact wk_rl ((wk_climbR (wk_rk σ k) σ k n).2) hx hb hr hlk hK hI rfl (wk_post (by first | rfl | (simp only [wk_do, if_neg hs_1, if_neg hs_3, if_pos hs_5]; done) | (simp only [wk_do, if_neg hs_1, if_neg hs_3, if_pos hs_5]; rfl))) dX11_doDuty_70
  refine lv_tableOut (tgt := 71) hx hb dX11_doDuty_1 (by have q0 := lv_neT hs_1 wk_lit0; have q1 := lv_neT hs_3 wk_lit1; have q2 := lv_neT hs_5 wk_lit2; omega) (by decide) ?_
  refine lv_aload_n hx hb dX11_doDuty_71 rfl (lv_at hl 1 rfl) ?_
  refine wk_get (v := .ref (ad (8 + wk_rk σ k))) hx hb hts (fun w h => wk_in_M w (lay_X6 w h)) hown hK hI (16 + k) (wx_em hk) rfl 3 (by decide) (hts _ (wk_in_M _ mw_193)) rfl rfl dX11_doDuty_72 ?_
  refine lv_aload_n hx hb dX11_doDuty_75 rfl (lv_at hl 0 rfl) ?_
  refine wk_get (v := .ref (ad 1)) hx hb hts (fun w h => wk_in_M w (lay_X11 w h)) hown hK hI (0) wx_e0 rfl 0 (by decide) (hts _ (wk_in_M _ mw_145)) rfl rfl dX11_doDuty_76 ?_
  refine lv_aload_n hx hb dX11_doDuty_79 rfl (lv_at hl 1 rfl) ?_
  refine lv_iload_n hx hb dX11_doDuty_80 rfl (lv_at hl 3 rfl) ?_
  refine wk_kI hI hA (wd_X11_heedWay (wk_rk σ k) k n (rest := []) ⟨hx, hb, hml, hown, hts⟩ wk_in_M hN hK hI hV (hV.rk hk) hk (by omega) ⟨(Nat.le_of_ble_eq_true rfl), (Nat.le_of_ble_eq_true rfl)⟩ hl.1 (lv_room (Nat.le_of_ble_eq_true rfl)) dX11_doDuty_81 ⟨(Nat.le_of_ble_eq_true rfl), (Nat.le_of_ble_eq_true rfl)⟩) (fun r u H locs hw hI => ?_)
  obtain ⟨rfl, rfl⟩ := hw
  have hG_7 : wk_G σ ((wk_heedR (wk_rk σ k) σ k n).2) 28 := wk_g_heedR (wk_rk σ k) σ k n hV.1
  refine lv_i2l hx hb dX11_doDuty_84 rfl ?_
  exact wk_rl ((wk_heedR (wk_rk σ k) σ k n).2) hx hb hr hlk hK hI rfl (wk_post (by first | rfl | (simp only [wk_do, if_neg hs_1, if_neg hs_3, if_neg hs_5]; done) | (simp only [wk_do, if_neg hs_1, if_neg hs_3, if_neg hs_5]; rfl))) dX11_doDuty_85
