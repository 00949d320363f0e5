set_option maxHeartbeats 4000000 in
set_option maxRecDepth 100000 in
/-- Member.tire(n) -/
theorem c_X6_tire (l : Launch) (D : va_G) (cI cJ cS : ClassId) (ad : Nat → Nat) (σ : wk_St) (k : Nat) (n : Int32) (hk : k < wk_n σ) : wk_Cv l D (wk_tys cI cJ cS) yX6_tire (wk_M yX6_tire cX6_tire 3 none) ({ frames := 0, cells := 0, slots := 0, locals := 0 }) [.ref (ad (16 + k)), .int n] (wx_W cI cS ad σ) (wx_W cI cS ad) (fun u => u = wk_tire σ k n) := by
  intro sz
  refine Met.ofW (cc := cX6_tire) (maxL := 3) (ret := none) (by decide) rfl ?_
  intro p e s m args below meth c s₁ B hml hv
  obtain ⟨rfl, hsz, hP, hK, hD0, hN⟩ := hv
  have hx := B.exec
  have hb := B.bytes
  have hr := B.returns
  have hts := atoms_spec (ws := wk_M yX6_tire cX6_tire 3 none) B.pre
  have hown : s.vm.findClass RX6 = some m.cls := findClass_of_methodNamed B.named
  have hlk := B.notSynchronized
  subst hsz
  have hI : wk_I D (va_A (wx_W cI cS ad σ) s.heap.size) s.heap s.heap [] (wx_W cI cS ad σ) := ⟨hP, hD0.self, va_S.rf⟩
  have hA : ∀ q : Nat, s.heap.size ≤ q → (va_A (wx_W cI cS ad σ) s.heap.size) q := fun q h => Or.inr h
  clear hP hD0
  generalize va_A (wx_W cI cS ad σ) s.heap.size = A at hI hA ⊢
  have hl := lv_entry ([.ref (ad (16 + k)), .int n]) (n := 3) (Nat.le_of_ble_eq_true rfl)
  rw [lg_entry_eq]
  generalize (lg_sl ([.ref (ad (16 + k)), .int n]) ++ List.replicate (3 - (lg_sl ([.ref (ad (16 + k)), .int n])).length) Slot.unset).toArray = ls at hl ⊢
  have hl : lv_has ls 3 [(0, .ref (ad (16 + k))), (1, .int n)] := hl
  refine lv_aload_n hx hb dX6_tire_0 rfl (lv_at hl 0 rfl) ?_
  refine wk_get (v := .int (wk_we σ k)) hx hb hts (fun w h => wk_in_M w (lay_X6 w h)) hown hK hI (16 + k) (wx_em hk) rfl 4 (by decide) (hts _ (wk_in_M _ mw_194)) rfl rfl dX6_tire_1 ?_
  refine lv_iload_n hx hb dX6_tire_4 rfl (lv_at hl 1 rfl) ?_
  refine lv_iadd hx hb dX6_tire_5 ?_
  refine lv_istore_n (lv' := [(2, .int ((wk_we σ k) + n)), (0, .ref (ad (16 + k))), (1, .int n)]) hx hb dX6_tire_6 rfl hl (by decide) rfl (fun ls hl => ?_)
  refine lv_iload_n hx hb dX6_tire_7 rfl (lv_at hl 0 rfl) ?_
  refine lv_if_ge (tgt := 13) hx hb dX6_tire_8 (by decide) (fun c_1 => ?_) (fun c_1 => ?_)
  · refine lv_aload_n hx hb dX6_tire_13 rfl (lv_at hl 1 rfl) ?_
    refine lv_iload_n hx hb dX6_tire_14 rfl (lv_at hl 0 rfl) ?_
    refine lv_sipush (v := 1000) hx hb dX6_tire_15 (by decide) ?_
    refine lv_icmp_le (tgt := 27) hx hb dX6_tire_18 (by decide) (fun c_2 => ?_) (fun c_2 => ?_)
    · refine lv_iload_n hx hb dX6_tire_27 rfl (lv_at hl 0 rfl) ?_
      refine wk_put (v := .int ((wk_we σ k) + n)) (ty := .int) hx hb hts (fun w h => wk_in_M w (lay_X6 w h)) tyX6 tyX6_ok nmX6 hown hK hI (16 + k) (wx_em hk) rfl 4 (by decide) (hts _ (wk_in_M _ mw_194)) rfl rfl (by decide +kernel) rfl rfl (Nat.le_of_ble_eq_true rfl) (wx_sWe hk _) dX6_tire_28 (fun H locs hI => ?_)
      exact wk_rv (wk_sWe σ (upd (wk_we σ) k ((wk_we σ k) + n))) hx hb hr hlk hK hI rfl (by simp only [wk_tire, wk_clamp, if_pos c_1, if_pos c_2]) dX6_tire_31
    · refine lv_sipush (v := 1000) hx hb dX6_tire_21 (by decide) ?_
      refine lv_goto (tgt := 28) hx hb dX6_tire_24 (by decide) ?_
      refine wk_put (v := .int 1000) (ty := .int) hx hb hts (fun w h => wk_in_M w (lay_X6 w h)) tyX6 tyX6_ok nmX6 hown hK hI (16 + k) (wx_em hk) rfl 4 (by decide) (hts _ (wk_in_M _ mw_194)) rfl rfl (by decide +kernel) rfl rfl (Nat.le_of_ble_eq_true rfl) (wx_sWe hk _) dX6_tire_28 (fun H locs hI => ?_)
      exact wk_rv (wk_sWe σ (upd (wk_we σ) k 1000)) hx hb hr hlk hK hI rfl (by simp only [wk_tire, wk_clamp, if_pos c_1, if_neg c_2]) dX6_tire_31
  · refine lv_iconst (v := 0) hx hb dX6_tire_11 (by decide) ?_
    refine lv_istore_n (lv' := [(2, .int 0), (0, .ref (ad (16 + k))), (1, .int n)]) hx hb dX6_tire_12 rfl hl (by decide) rfl (fun ls hl => ?_)
    refine lv_aload_n hx hb dX6_tire_13 rfl (lv_at hl 1 rfl) ?_
    refine lv_iload_n hx hb dX6_tire_14 rfl (lv_at hl 0 rfl) ?_
    refine lv_sipush (v := 1000) hx hb dX6_tire_15 (by decide) ?_
    refine lv_icmp_le (tgt := 27) hx hb dX6_tire_18 (by decide) (fun c_3 => ?_) (fun c_3 => ?_)
    · refine lv_iload_n hx hb dX6_tire_27 rfl (lv_at hl 0 rfl) ?_
      refine wk_put (v := .int 0) (ty := .int) hx hb hts (fun w h => wk_in_M w (lay_X6 w h)) tyX6 tyX6_ok nmX6 hown hK hI (16 + k) (wx_em hk) rfl 4 (by decide) (hts _ (wk_in_M _ mw_194)) rfl rfl (by decide +kernel) rfl rfl (Nat.le_of_ble_eq_true rfl) (wx_sWe hk _) dX6_tire_28 (fun H locs hI => ?_)
      exact wk_rv (wk_sWe σ (upd (wk_we σ) k 0)) hx hb hr hlk hK hI rfl (by simp only [wk_tire, wk_clamp, if_neg c_1]) dX6_tire_31
    · refine lv_sipush (v := 1000) hx hb dX6_tire_21 (by decide) ?_
      refine lv_goto (tgt := 28) hx hb dX6_tire_24 (by decide) ?_
      refine wk_put (v := .int 1000) (ty := .int) hx hb hts (fun w h => wk_in_M w (lay_X6 w h)) tyX6 tyX6_ok nmX6 hown hK hI (16 + k) (wx_em hk) rfl 4 (by decide) (hts _ (wk_in_M _ mw_194)) rfl rfl (by decide +kernel) rfl rfl (Nat.le_of_ble_eq_true rfl) (wx_sWe hk _) dX6_tire_28 (fun H locs hI => ?_)
      exact wk_rv (wk_sWe σ (upd (wk_we σ) k 1000)) hx hb hr hlk hK hI rfl (absurd (by decide) c_3) dX6_tire_31
set_option maxHeartbeats 4000000 in
set_option maxRecDepth 100000 in
theorem c_X6_isBelowBosun (l : Launch) (D : va_G) (cI cJ cS : ClassId) (ad : Nat → Nat) (σ : wk_St) (k : Nat) (hV : wk_V σ) (hk : k < wk_n σ) : wk_Ci l D (wk_tys cI cJ cS) yX6_isBelowBosun (wk_M yX6_isBelowBosun cX6_isBelowBosun 1 (some .boolean)) ({ frames := 0, cells := 0, slots := 0, locals := 0 }) [.ref (ad (16 + k))] (wx_W cI cS ad σ) (wx_W cI cS ad) (fun r u => r = wk_b (wk_rk σ k ≤ 2) ∧ u = σ) := by
  intro sz
  refine Met.ofW (cc := cX6_isBelowBosun) (maxL := 1) (ret := (some .boolean)) (by decide) rfl ?_
  intro p e s m args below meth c s₁ B hml hv
  obtain ⟨rfl, hsz, hP, hK, hD0, hN⟩ := hv
  have hx := B.exec
  have hb := B.bytes
  have hr := B.returns
  have hts := atoms_spec (ws := wk_M yX6_isBelowBosun cX6_isBelowBosun 1 (some .boolean)) B.pre
  have hown : s.vm.findClass RX6 = some m.cls := findClass_of_methodNamed B.named
  have hlk := B.notSynchronized
  subst hsz
  have hI : wk_I D (va_A (wx_W cI cS ad σ) s.heap.size) s.heap s.heap [] (wx_W cI cS ad σ) := ⟨hP, hD0.self, va_S.rf⟩
  have hA : ∀ q : Nat, s.heap.size ≤ q → (va_A (wx_W cI cS ad σ) s.heap.size) q := fun q h => Or.inr h
  clear hP hD0
  generalize va_A (wx_W cI cS ad σ) s.heap.size = A at hI hA ⊢
  have hl := lv_entry ([.ref (ad (16 + k))]) (n := 1) (Nat.le_of_ble_eq_true rfl)
  rw [lg_entry_eq]
  generalize (lg_sl ([.ref (ad (16 + k))]) ++ List.replicate (1 - (lg_sl ([.ref (ad (16 + k))])).length) Slot.unset).toArray = ls at hl ⊢
  have hl : lv_has ls 1 [(0, .ref (ad (16 + k)))] := hl
  refine lv_aload_n hx hb dX6_isBelowBosun_0 rfl (lv_at hl 0 rfl) ?_
  refine wk_get (v := .int (nI (wk_rk σ k))) hx hb hts (fun w h => wk_in_M w (lay_X6 w h)) hown hK hI (16 + k) (wx_em hk) rfl 2 (by decide) (hts _ (wk_in_M _ mw_189)) rfl rfl dX6_isBelowBosun_1 ?_
  refine lv_iconst (v := 2) hx hb dX6_isBelowBosun_4 (by decide) ?_
  refine lv_icmp_gt (tgt := 12) hx hb dX6_isBelowBosun_5 (by decide) (fun c_1 => ?_) (fun c_1 => ?_)
  · refine lv_iconst (v := 0) hx hb dX6_isBelowBosun_12 (by decide) ?_
    exact wk_rz σ hx hb hr hlk (by decide) hK hI rfl ⟨wk_bF (by have hr8 := hV.rk hk; simp only [Int32.lt_iff_toInt_lt, Int32.le_iff_toInt_le, ← Int32.toInt_inj, nI_toInt (show wk_rk σ k < 2 ^ 31 by omega), wk_lit0, wk_lit1, wk_lit2, wk_lit3, wk_lit5, wk_lit6, wk_lit7, wk_lit8, wk_lit64] at c_1; omega), rfl⟩ dX6_isBelowBosun_13
  · refine lv_iconst (v := 1) hx hb dX6_isBelowBosun_8 (by decide) ?_
    refine lv_goto (tgt := 13) hx hb dX6_isBelowBosun_9 (by decide) ?_
    exact wk_rz σ hx hb hr hlk (by decide) hK hI rfl ⟨wk_bT (by have hr8 := hV.rk hk; simp only [Int32.lt_iff_toInt_lt, Int32.le_iff_toInt_le, ← Int32.toInt_inj, nI_toInt (show wk_rk σ k < 2 ^ 31 by omega), wk_lit0, wk_lit1, wk_lit2, wk_lit3, wk_lit5, wk_lit6, wk_lit7, wk_lit8, wk_lit64] at c_1; omega), rfl⟩ dX6_isBelowBosun_13
set_option maxHeartbeats 4000000 in
set_option maxRecDepth 100000 in
theorem c_X6_isClimber (l : Launch) (D : va_G) (cI cJ cS : ClassId) (ad : Nat → Nat) (σ : wk_St) (k : Nat) (hV : wk_V σ) (hk : k < wk_n σ) : wk_Ci l D (wk_tys cI cJ cS) yX6_isClimber (wk_M yX6_isClimber cX6_isClimber 1 (some .boolean)) ({ frames := 0, cells := 0, slots := 0, locals := 0 }) [.ref (ad (16 + k))] (wx_W cI cS ad σ) (wx_W cI cS ad) (fun r u => r = wk_b (2 ≤ wk_rk σ k ∧ wk_rk σ k ≤ 5) ∧ u = σ) := by
  intro sz
  refine Met.ofW (cc := cX6_isClimber) (maxL := 1) (ret := (some .boolean)) (by decide) rfl ?_
  intro p e s m args below meth c s₁ B hml hv
  obtain ⟨rfl, hsz, hP, hK, hD0, hN⟩ := hv
  have hx := B.exec
  have hb := B.bytes
  have hr := B.returns
  have hts := atoms_spec (ws := wk_M yX6_isClimber cX6_isClimber 1 (some .boolean)) B.pre
  have hown : s.vm.findClass RX6 = some m.cls := findClass_of_methodNamed B.named
  have hlk := B.notSynchronized
  subst hsz
  have hI : wk_I D (va_A (wx_W cI cS ad σ) s.heap.size) s.heap s.heap [] (wx_W cI cS ad σ) := ⟨hP, hD0.self, va_S.rf⟩
  have hA : ∀ q : Nat, s.heap.size ≤ q → (va_A (wx_W cI cS ad σ) s.heap.size) q := fun q h => Or.inr h
  clear hP hD0
  generalize va_A (wx_W cI cS ad σ) s.heap.size = A at hI hA ⊢
  have hl := lv_entry ([.ref (ad (16 + k))]) (n := 1) (Nat.le_of_ble_eq_true rfl)
  rw [lg_entry_eq]
  generalize (lg_sl ([.ref (ad (16 + k))]) ++ List.replicate (1 - (lg_sl ([.ref (ad (16 + k))])).length) Slot.unset).toArray = ls at hl ⊢
  have hl : lv_has ls 1 [(0, .ref (ad (16 + k)))] := hl
  refine lv_aload_n hx hb dX6_isClimber_0 rfl (lv_at hl 0 rfl) ?_
  refine wk_get (v := .int (nI (wk_rk σ k))) hx hb hts (fun w h => wk_in_M w (lay_X6 w h)) hown hK hI (16 + k) (wx_em hk) rfl 2 (by decide) (hts _ (wk_in_M _ mw_189)) rfl rfl dX6_isClimber_1 ?_
  refine lv_iconst (v := 2) hx hb dX6_isClimber_4 (by decide) ?_
  refine lv_icmp_lt (tgt := 20) hx hb dX6_isClimber_5 (by decide) (fun c_1 => ?_) (fun c_1 => ?_)
  · refine lv_iconst (v := 0) hx hb dX6_isClimber_20 (by decide) ?_
    exact wk_rz σ hx hb hr hlk (by decide) hK hI rfl ⟨wk_bF (by have hr8 := hV.rk hk; simp only [Int32.lt_iff_toInt_lt, Int32.le_iff_toInt_le, ← Int32.toInt_inj, nI_toInt (show wk_rk σ k < 2 ^ 31 by omega), wk_lit0, wk_lit1, wk_lit2, wk_lit3, wk_lit5, wk_lit6, wk_lit7, wk_lit8, wk_lit64] at c_1; omega), rfl⟩ dX6_isClimber_21
  · refine lv_aload_n hx hb dX6_isClimber_8 rfl (lv_at hl 0 rfl) ?_
    refine wk_get (v := .int (nI (wk_rk σ k))) hx hb hts (fun w h => wk_in_M w (lay_X6 w h)) hown hK hI (16 + k) (wx_em hk) rfl 2 (by decide) (hts _ (wk_in_M _ mw_189)) rfl rfl dX6_isClimber_9 ?_
    refine lv_iconst (v := 5) hx hb dX6_isClimber_12 (by decide) ?_
    refine lv_icmp_gt (tgt := 20) hx hb dX6_isClimber_13 (by decide) (fun c_2 => ?_) (fun c_2 => ?_)
    · refine lv_iconst (v := 0) hx hb dX6_isClimber_20 (by decide) ?_
      exact wk_rz σ hx hb hr hlk (by decide) hK hI rfl ⟨wk_bF (by have hr8 := hV.rk hk; simp only [Int32.lt_iff_toInt_lt, Int32.le_iff_toInt_le, ← Int32.toInt_inj, nI_toInt (show wk_rk σ k < 2 ^ 31 by omega), wk_lit0, wk_lit1, wk_lit2, wk_lit3, wk_lit5, wk_lit6, wk_lit7, wk_lit8, wk_lit64] at c_1 c_2; omega), rfl⟩ dX6_isClimber_21
    · refine lv_iconst (v := 1) hx hb dX6_isClimber_16 (by decide) ?_
      refine lv_goto (tgt := 21) hx hb dX6_isClimber_17 (by decide) ?_
      exact wk_rz σ hx hb hr hlk (by decide) hK hI rfl ⟨wk_bT (by have hr8 := hV.rk hk; simp only [Int32.lt_iff_toInt_lt, Int32.le_iff_toInt_le, ← Int32.toInt_inj, nI_toInt (show wk_rk σ k < 2 ^ 31 by omega), wk_lit0, wk_lit1, wk_lit2, wk_lit3, wk_lit5, wk_lit6, wk_lit7, wk_lit8, wk_lit64] at c_1 c_2; omega), rfl⟩ dX6_isClimber_21
set_option maxHeartbeats 4000000 in
set_option maxRecDepth 100000 in
theorem c_X6_isPayee (l : Launch) (D : va_G) (cI cJ cS : ClassId) (ad : Nat → Nat) (σ : wk_St) (k : Nat) (hV : wk_V σ) (hk : k < wk_n σ) : wk_Ci l D (wk_tys cI cJ cS) yX6_isPayee (wk_M yX6_isPayee cX6_isPayee 1 (some .boolean)) ({ frames := 0, cells := 0, slots := 0, locals := 0 }) [.ref (ad (16 + k))] (wx_W cI cS ad σ) (wx_W cI cS ad) (fun r u => r = wk_b (1 ≤ wk_rk σ k) ∧ u = σ) := by
  intro sz
  refine Met.ofW (cc := cX6_isPayee) (maxL := 1) (ret := (some .boolean)) (by decide) rfl ?_
  intro p e s m args below meth c s₁ B hml hv
  obtain ⟨rfl, hsz, hP, hK, hD0, hN⟩ := hv
  have hx := B.exec
  have hb := B.bytes
  have hr := B.returns
  have hts := atoms_spec (ws := wk_M yX6_isPayee cX6_isPayee 1 (some .boolean)) B.pre
  have hown : s.vm.findClass RX6 = some m.cls := findClass_of_methodNamed B.named
  have hlk := B.notSynchronized
  subst hsz
  have hI : wk_I D (va_A (wx_W cI cS ad σ) s.heap.size) s.heap s.heap [] (wx_W cI cS ad σ) := ⟨hP, hD0.self, va_S.rf⟩
  have hA : ∀ q : Nat, s.heap.size ≤ q → (va_A (wx_W cI cS ad σ) s.heap.size) q := fun q h => Or.inr h
  clear hP hD0
  generalize va_A (wx_W cI cS ad σ) s.heap.size = A at hI hA ⊢
  have hl := lv_entry ([.ref (ad (16 + k))]) (n := 1) (Nat.le_of_ble_eq_true rfl)
  rw [lg_entry_eq]
  generalize (lg_sl ([.ref (ad (16 + k))]) ++ List.replicate (1 - (lg_sl ([.ref (ad (16 + k))])).length) Slot.unset).toArray = ls at hl ⊢
  have hl : lv_has ls 1 [(0, .ref (ad (16 + k)))] := hl
  refine lv_aload_n hx hb dX6_isPayee_0 rfl (lv_at hl 0 rfl) ?_
  refine wk_get (v := .int (nI (wk_rk σ k))) hx hb hts (fun w h => wk_in_M w (lay_X6 w h)) hown hK hI (16 + k) (wx_em hk) rfl 2 (by decide) (hts _ (wk_in_M _ mw_189)) rfl rfl dX6_isPayee_1 ?_
  refine lv_iconst (v := 1) hx hb dX6_isPayee_4 (by decide) ?_
  refine lv_icmp_lt (tgt := 12) hx hb dX6_isPayee_5 (by decide) (fun c_1 => ?_) (fun c_1 => ?_)
  · refine lv_iconst (v := 0) hx hb dX6_isPayee_12 (by decide) ?_
    exact wk_rz σ hx hb hr hlk (by decide) hK hI rfl ⟨wk_bF (by have hr8 := hV.rk hk; simp only [Int32.lt_iff_toInt_lt, Int32.le_iff_toInt_le, ← Int32.toInt_inj, nI_toInt (show wk_rk σ k < 2 ^ 31 by omega), wk_lit0, wk_lit1, wk_lit2, wk_lit3, wk_lit5, wk_lit6, wk_lit7, wk_lit8, wk_lit64] at c_1; omega), rfl⟩ dX6_isPayee_13
  · refine lv_iconst (v := 1) hx hb dX6_isPayee_8 (by decide) ?_
    refine lv_goto (tgt := 13) hx hb dX6_isPayee_9 (by decide) ?_
    exact wk_rz σ hx hb hr hlk (by decide) hK hI rfl ⟨wk_bT (by have hr8 := hV.rk hk; simp only [Int32.lt_iff_toInt_lt, Int32.le_iff_toInt_le, ← Int32.toInt_inj, nI_toInt (show wk_rk σ k < 2 ^ 31 by omega), wk_lit0, wk_lit1, wk_lit2, wk_lit3, wk_lit5, wk_lit6, wk_lit7, wk_lit8, wk_lit64] at c_1; omega), rfl⟩ dX6_isPayee_13
set_option maxHeartbeats 4000000 in
set_option maxRecDepth 100000 in
theorem c_X6_isCarer (l : Launch) (D : va_G) (cI cJ cS : ClassId) (ad : Nat → Nat) (σ : wk_St) (k : Nat) (hV : wk_V σ) (hk : k < wk_n σ) : wk_Ci l D (wk_tys cI cJ cS) yX6_isCarer (wk_M yX6_isCarer cX6_isCarer 1 (some .boolean)) ({ frames := 0, cells := 0, slots := 0, locals := 0 }) [.ref (ad (16 + k))] (wx_W cI cS ad σ) (wx_W cI cS ad) (fun r u => r = wk_b (6 ≤ wk_rk σ k) ∧ u = σ) := by
  intro sz
  refine Met.ofW (cc := cX6_isCarer) (maxL := 1) (ret := (some .boolean)) (by decide) rfl ?_
  intro p e s m args below meth c s₁ B hml hv
  obtain ⟨rfl, hsz, hP, hK, hD0, hN⟩ := hv
  have hx := B.exec
  have hb := B.bytes
  have hr := B.returns
  have hts := atoms_spec (ws := wk_M yX6_isCarer cX6_isCarer 1 (some .boolean)) B.pre
  have hown : s.vm.findClass RX6 = some m.cls := findClass_of_methodNamed B.named
  have hlk := B.notSynchronized
  subst hsz
  have hI : wk_I D (va_A (wx_W cI cS ad σ) s.heap.size) s.heap s.heap [] (wx_W cI cS ad σ) := ⟨hP, hD0.self, va_S.rf⟩
  have hA : ∀ q : Nat, s.heap.size ≤ q → (va_A (wx_W cI cS ad σ) s.heap.size) q := fun q h => Or.inr h
  clear hP hD0
  generalize va_A (wx_W cI cS ad σ) s.heap.size = A at hI hA ⊢
  have hl := lv_entry ([.ref (ad (16 + k))]) (n := 1) (Nat.le_of_ble_eq_true rfl)
  rw [lg_entry_eq]
  generalize (lg_sl ([.ref (ad (16 + k))]) ++ List.replicate (1 - (lg_sl ([.ref (ad (16 + k))])).length) Slot.unset).toArray = ls at hl ⊢
  have hl : lv_has ls 1 [(0, .ref (ad (16 + k)))] := hl
  refine lv_aload_n hx hb dX6_isCarer_0 rfl (lv_at hl 0 rfl) ?_
  refine wk_get (v := .int (nI (wk_rk σ k))) hx hb hts (fun w h => wk_in_M w (lay_X6 w h)) hown hK hI (16 + k) (wx_em hk) rfl 2 (by decide) (hts _ (wk_in_M _ mw_189)) rfl rfl dX6_isCarer_1 ?_
  refine lv_bipush (v := 6) hx hb dX6_isCarer_4 (by decide) ?_
  refine lv_icmp_eq (tgt := 18) hx hb dX6_isCarer_6 (by decide) (fun c_1 => ?_) (fun c_1 => ?_)
  · refine lv_iconst (v := 1) hx hb dX6_isCarer_18 (by decide) ?_
    refine lv_goto (tgt := 23) hx hb dX6_isCarer_19 (by decide) ?_
    exact wk_rz σ hx hb hr hlk (by decide) hK hI rfl ⟨wk_bT (by have hr8 := hV.rk hk; simp only [Int32.lt_iff_toInt_lt, Int32.le_iff_toInt_le, ← Int32.toInt_inj, nI_toInt (show wk_rk σ k < 2 ^ 31 by omega), wk_lit0, wk_lit1, wk_lit2, wk_lit3, wk_lit5, wk_lit6, wk_lit7, wk_lit8, wk_lit64] at c_1; omega), rfl⟩ dX6_isCarer_23
  · refine lv_aload_n hx hb dX6_isCarer_9 rfl (lv_at hl 0 rfl) ?_
    refine wk_get (v := .int (nI (wk_rk σ k))) hx hb hts (fun w h => wk_in_M w (lay_X6 w h)) hown hK hI (16 + k) (wx_em hk) rfl 2 (by decide) (hts _ (wk_in_M _ mw_189)) rfl rfl dX6_isCarer_10 ?_
    refine lv_bipush (v := 7) hx hb dX6_isCarer_13 (by decide) ?_
    refine lv_icmp_ne (tgt := 22) hx hb dX6_isCarer_15 (by decide) (fun c_2 => ?_) (fun c_2 => ?_)
    · refine lv_iconst (v := 0) hx hb dX6_isCarer_22 (by decide) ?_
      exact wk_rz σ hx hb hr hlk (by decide) hK hI rfl ⟨wk_bF (by have hr8 := hV.rk hk; simp only [Int32.lt_iff_toInt_lt, Int32.le_iff_toInt_le, ← Int32.toInt_inj, nI_toInt (show wk_rk σ k < 2 ^ 31 by omega), wk_lit0, wk_lit1, wk_lit2, wk_lit3, wk_lit5, wk_lit6, wk_lit7, wk_lit8, wk_lit64] at c_1 c_2; omega), rfl⟩ dX6_isCarer_23
    · refine lv_iconst (v := 1) hx hb dX6_isCarer_18 (by decide) ?_
      refine lv_goto (tgt := 23) hx hb dX6_isCarer_19 (by decide) ?_
      exact wk_rz σ hx hb hr hlk (by decide) hK hI rfl ⟨wk_bT (by have hr8 := hV.rk hk; simp only [Int32.lt_iff_toInt_lt, Int32.le_iff_toInt_le, ← Int32.toInt_inj, nI_toInt (show wk_rk σ k < 2 ^ 31 by omega), wk_lit0, wk_lit1, wk_lit2, wk_lit3, wk_lit5, wk_lit6, wk_lit7, wk_lit8, wk_lit64] at c_1 c_2; omega), rfl⟩ dX6_isCarer_23
set_option maxHeartbeats 4000000 in
set_option maxRecDepth 100000 in
theorem c_X2_forgetNotes (l : Launch) (D : va_G) (cI cJ cS : ClassId) (ad : Nat → Nat) (σ : wk_St)   : wk_Cv l D (wk_tys cI cJ cS) yX2_forgetNotes (wk_M yX2_forgetNotes cX2_forgetNotes 1 none) ({ frames := 0, cells := 0, slots := 0, locals := 0 }) [.ref (ad 1)] (wx_W cI cS ad σ) (wx_W cI cS ad) (fun u => u = wk_fg σ) := by
  intro sz
  refine Met.ofW (cc := cX2_forgetNotes) (maxL := 1) (ret := none) (by decide) rfl ?_
  intro p e s m args below meth c s₁ B hml hv
  obtain ⟨rfl, hsz, hP, hK, hD0, hN⟩ := hv
  have hx := B.exec
  have hb := B.bytes
  have hr := B.returns
  have hts := atoms_spec (ws := wk_M yX2_forgetNotes cX2_forgetNotes 1 none) B.pre
  have hown : s.vm.findClass RX2 = some m.cls := findClass_of_methodNamed B.named
  have hlk := B.notSynchronized
  subst hsz
  have hI : wk_I D (va_A (wx_W cI cS ad σ) s.heap.size) s.heap s.heap [] (wx_W cI cS ad σ) := ⟨hP, hD0.self, va_S.rf⟩
  have hA : ∀ q : Nat, s.heap.size ≤ q → (va_A (wx_W cI cS ad σ) s.heap.size) q := fun q h => Or.inr h
  clear hP hD0
  generalize va_A (wx_W cI cS ad σ) s.heap.size = A at hI hA ⊢
  have hl := lv_entry ([.ref (ad 1)]) (n := 1) (Nat.le_of_ble_eq_true rfl)
  rw [lg_entry_eq]
  generalize (lg_sl ([.ref (ad 1)]) ++ List.replicate (1 - (lg_sl ([.ref (ad 1)])).length) Slot.unset).toArray = ls at hl ⊢
  have hl : lv_has ls 1 [(0, .ref (ad 1))] := hl
  refine lv_aload_n hx hb dX2_forgetNotes_0 rfl (lv_at hl 0 rfl) ?_
  refine lv_iconst (v := 0) hx hb dX2_forgetNotes_1 (by decide) ?_
  refine wk_put (v := .int (nI 0)) (ty := .int) hx hb hts (fun w h => wk_in_M w (lay_X2 w h)) tyX2 tyX2_ok nmX2 hown hK hI (1) wx_e1 rfl 4 (by decide) (hts _ (wk_in_M _ mw_70)) rfl rfl (by decide +kernel) rfl rfl (Nat.le_of_ble_eq_true rfl) (wx_sNt _) dX2_forgetNotes_2 (fun H locs hI => ?_)
  exact wk_rv (wk_sNt σ 0) hx hb hr hlk hK hI rfl (by first | rfl | (simp only [wk_fg]; done) | (simp only [wk_fg]; rfl)) dX2_forgetNotes_5
set_option maxHeartbeats 4000000 in
set_option maxRecDepth 100000 in
theorem c_X2_noteWay (l : Launch) (D : va_G) (cI cJ cS : ClassId) (ad : Nat → Nat) (σ : wk_St) (a b v : Int32) (hv : 10 * a + b = v) (hc : wk_nt σ + 1 < 2147483648) : wk_Cv l D (wk_tys cI cJ cS) yX2_noteWay (wk_M yX2_noteWay cX2_noteWay 3 none) ({ frames := 0, cells := 0, slots := 0, locals := 0 }) [.ref (ad 1), .int a, .int b] (wx_W cI cS ad σ) (wx_W cI cS ad) (fun u => u = wk_note σ v) := by
  intro sz
  refine Met.ofW (cc := cX2_noteWay) (maxL := 3) (ret := none) (by decide) rfl ?_
  intro p e s m args below meth c s₁ B hml hv
  obtain ⟨rfl, hsz, hP, hK, hD0, hN⟩ := hv
  have hx := B.exec
  have hb := B.bytes
  have hr := B.returns
  have hts := atoms_spec (ws := wk_M yX2_noteWay cX2_noteWay 3 none) B.pre
  have hown : s.vm.findClass RX2 = some m.cls := findClass_of_methodNamed B.named
  have hlk := B.notSynchronized
  subst hsz
  have hI : wk_I D (va_A (wx_W cI cS ad σ) s.heap.size) s.heap s.heap [] (wx_W cI cS ad σ) := ⟨hP, hD0.self, va_S.rf⟩
  have hA : ∀ q : Nat, s.heap.size ≤ q → (va_A (wx_W cI cS ad σ) s.heap.size) q := fun q h => Or.inr h
  clear hP hD0
  generalize va_A (wx_W cI cS ad σ) s.heap.size = A at hI hA ⊢
  have hl := lv_entry ([.ref (ad 1), .int a, .int b]) (n := 3) (Nat.le_of_ble_eq_true rfl)
  rw [lg_entry_eq]
  generalize (lg_sl ([.ref (ad 1), .int a, .int b]) ++ List.replicate (3 - (lg_sl ([.ref (ad 1), .int a, .int b])).length) Slot.unset).toArray = ls at hl ⊢
  have hl : lv_has ls 3 [(0, .ref (ad 1)), (1, .int a), (2, .int b)] := hl
  subst hv
  refine lv_aload_n hx hb dX2_noteWay_0 rfl (lv_at hl 0 rfl) ?_
  refine wk_get (v := .int (nI (wk_nt σ))) hx hb hts (fun w h => wk_in_M w (lay_X2 w h)) hown hK hI (1) wx_e1 rfl 4 (by decide) (hts _ (wk_in_M _ mw_70)) rfl rfl dX2_noteWay_1 ?_
  refine lv_bipush (v := 64) hx hb dX2_noteWay_4 (by decide) ?_
  refine lv_icmp_ge (tgt := 24) hx hb dX2_noteWay_6 (by decide) (fun c_1 => ?_) (fun c_1 => ?_)
  · have h64 : ¬ wk_nt σ < 64 := by simp only [Int32.lt_iff_toInt_lt, Int32.le_iff_toInt_le, nI_toInt (show wk_nt σ < 2 ^ 31 by omega), wk_lit0, wk_lit1, wk_lit2, wk_lit3, wk_lit5, wk_lit6, wk_lit7, wk_lit8, wk_lit64] at c_1; omega
    refine lv_aload_n hx hb dX2_noteWay_24 rfl (lv_at hl 0 rfl) ?_
    refine lv_dup hx hb dX2_noteWay_25 rfl ?_
    refine wk_get (v := .int (nI (wk_nt σ))) hx hb hts (fun w h => wk_in_M w (lay_X2 w h)) hown hK hI (1) wx_e1 rfl 4 (by decide) (hts _ (wk_in_M _ mw_70)) rfl rfl dX2_noteWay_26 ?_
    refine lv_iconst (v := 1) hx hb dX2_noteWay_29 (by decide) ?_
    refine lv_iadd hx hb dX2_noteWay_30 ?_
    rw [nI_1]
    refine wk_put (v := .int (nI (wk_nt σ + 1))) (ty := .int) hx hb hts (fun w h => wk_in_M w (lay_X2 w h)) tyX2 tyX2_ok nmX2 hown hK hI (1) wx_e1 rfl 4 (by decide) (hts _ (wk_in_M _ mw_70)) rfl rfl (by decide +kernel) rfl rfl (Nat.le_of_ble_eq_true rfl) (wx_sNt _) dX2_noteWay_31 (fun H locs hI => ?_)
    exact wk_rv (wk_sNt σ (wk_nt σ + 1)) hx hb hr hlk hK hI rfl (by unfold wk_note; rw [if_neg h64]; rfl) dX2_noteWay_34
  · have h64 : wk_nt σ < 64 := by simp only [Int32.lt_iff_toInt_lt, Int32.le_iff_toInt_le, nI_toInt (show wk_nt σ < 2 ^ 31 by omega), wk_lit0, wk_lit1, wk_lit2, wk_lit3, wk_lit5, wk_lit6, wk_lit7, wk_lit8, wk_lit64] at c_1; omega
    refine lv_aload_n hx hb dX2_noteWay_9 rfl (lv_at hl 0 rfl) ?_
    refine wk_get (v := .ref (ad 7)) hx hb hts (fun w h => wk_in_M w (lay_X2 w h)) hown hK hI (1) wx_e1 rfl 3 (by decide) (hts _ (wk_in_M _ mw_68)) rfl rfl dX2_noteWay_10 ?_
    refine lv_aload_n hx hb dX2_noteWay_13 rfl (lv_at hl 0 rfl) ?_
    refine wk_get (v := .int (nI (wk_nt σ))) hx hb hts (fun w h => wk_in_M w (lay_X2 w h)) hown hK hI (1) wx_e1 rfl 4 (by decide) (hts _ (wk_in_M _ mw_70)) rfl rfl dX2_noteWay_14 ?_
    refine lv_bipush (v := 10) hx hb dX2_noteWay_17 (by decide) ?_
    refine lv_iload_n hx hb dX2_noteWay_19 rfl (lv_at hl 1 rfl) ?_
    refine lv_imul hx hb dX2_noteWay_20 ?_
    refine lv_iload_n hx hb dX2_noteWay_21 rfl (lv_at hl 2 rfl) ?_
    refine lv_iadd hx hb dX2_noteWay_22 ?_
    refine wk_iast (j := (wk_nt σ)) hx hb hK hI 7 0 wx_e7 rfl rfl h64 (by decide) (wx_sKp _) dX2_noteWay_23 (fun H locs hI => ?_)
    refine lv_aload_n hx hb dX2_noteWay_24 rfl (lv_at hl 0 rfl) ?_
    refine lv_dup hx hb dX2_noteWay_25 rfl ?_
    refine wk_get (v := .int (nI (wk_nt (wk_sKp σ (upd (wk_kp σ) (wk_nt σ) ((10 * a) + b)))))) hx hb hts (fun w h => wk_in_M w (lay_X2 w h)) hown hK hI (1) wx_e1 rfl 4 (by decide) (hts _ (wk_in_M _ mw_70)) rfl rfl dX2_noteWay_26 ?_
    refine lv_iconst (v := 1) hx hb dX2_noteWay_29 (by decide) ?_
    refine lv_iadd hx hb dX2_noteWay_30 ?_
    rw [nI_1]
    refine wk_put (v := .int (nI (wk_nt (wk_sKp σ (upd (wk_kp σ) (wk_nt σ) ((10 * a) + b))) + 1))) (ty := .int) hx hb hts (fun w h => wk_in_M w (lay_X2 w h)) tyX2 tyX2_ok nmX2 hown hK hI (1) wx_e1 rfl 4 (by decide) (hts _ (wk_in_M _ mw_70)) rfl rfl (by decide +kernel) rfl rfl (Nat.le_of_ble_eq_true rfl) (wx_sNt _) dX2_noteWay_31 (fun H locs hI => ?_)
    exact wk_rv (wk_sNt (wk_sKp σ (upd (wk_kp σ) (wk_nt σ) ((10 * a) + b))) (wk_nt (wk_sKp σ (upd (wk_kp σ) (wk_nt σ) ((10 * a) + b))) + 1)) hx hb hr hlk hK hI rfl (by unfold wk_note; rw [if_pos h64]; rfl) dX2_noteWay_34
