set_option maxHeartbeats 4000000 in
set_option maxRecDepth 100000 in
theorem c_X8_init (l : Launch) (D : va_G) (cI cJ cS : ClassId) (h0 : Nat) : wk_Cv (S := Unit) l D (wk_tys cI cJ cS) yX8_init (wk_M yX8_init cX8_init 1 none) ({ frames := 1, cells := 0, slots := 0, locals := 30 }) [.ref h0] [] (fun _ => []) (fun _ => True) := by
  intro sz
  refine Met.ofW (cc := cX8_init) (maxL := 1) (ret := none) (by decide) rfl ?_
  intro p e s m args below meth c s₁ B hml hv
  obtain ⟨rfl, hsz, hP, hK, hD0, hN⟩ := hv
  have hx := B.exec
  have hb := B.bytes
  have hr := B.returns
  have hts := atoms_spec (ws := wk_M yX8_init cX8_init 1 none) B.pre
  have hown : s.vm.findClass RX8 = some m.cls := findClass_of_methodNamed B.named
  have hlk := B.notSynchronized
  have hin : meth.name = "<init>" := (name_of_methodNamed B.named B.method).1
  subst hsz
  have hI : wk_I D (va_A ([]) s.heap.size) s.heap s.heap [] ([]) := ⟨hP, hD0.self, va_S.rf⟩
  have hA : ∀ q : Nat, s.heap.size ≤ q → (va_A ([]) s.heap.size) q := fun q h => Or.inr h
  clear hP hD0
  generalize va_A ([]) s.heap.size = A at hI hA ⊢
  have hl := lv_entry ([.ref h0]) (n := 1) (Nat.le_of_ble_eq_true rfl)
  rw [lg_entry_eq]
  generalize (lg_sl ([.ref h0]) ++ List.replicate (1 - (lg_sl ([.ref h0])).length) Slot.unset).toArray = ls at hl ⊢
  have hl : lv_has ls 1 [(0, .ref h0)] := hl
  refine lv_aload_n hx hb dX8_init_0 rfl (lv_at hl 0 rfl) ?_
  refine W.objInit hx hb hown (hts _ (wk_in_M _ mw_94)) (hts _ (wk_in_M _ mw_53)) (hts _ (wk_in_M _ mw_54)) rfl (by rw [hml]; exact hl.1) rfl dX8_init_1 (Nat.le_of_ble_eq_true rfl) (Nat.le_of_ble_eq_true rfl) ?_
  refine W.eq (g2 := F0 m 4 ls []) rfl ?_
  exact wk_rv () hx hb hr hlk hK hI rfl trivial dX8_init_4
set_option maxHeartbeats 4000000 in
set_option maxRecDepth 100000 in
theorem c_X3_init (l : Launch) (D : va_G) (cI cJ cS : ClassId) (h0 : Nat) : wk_Cv (S := Unit) l D (wk_tys cI cJ cS) yX3_init (wk_M yX3_init cX3_init 1 none) ({ frames := 2, cells := 0, slots := 0, locals := 50 }) [.ref h0] [] (fun _ => []) (fun _ => True) := by
  intro sz
  refine Met.ofW (cc := cX3_init) (maxL := 1) (ret := none) (by decide) rfl ?_
  intro p e s m args below meth c s₁ B hml hv
  obtain ⟨rfl, hsz, hP, hK, hD0, hN⟩ := hv
  have hx := B.exec
  have hb := B.bytes
  have hr := B.returns
  have hts := atoms_spec (ws := wk_M yX3_init cX3_init 1 none) B.pre
  have hown : s.vm.findClass RX3 = some m.cls := findClass_of_methodNamed B.named
  have hlk := B.notSynchronized
  have hin : meth.name = "<init>" := (name_of_methodNamed B.named B.method).1
  subst hsz
  have hI : wk_I D (va_A ([]) s.heap.size) s.heap s.heap [] ([]) := ⟨hP, hD0.self, va_S.rf⟩
  have hA : ∀ q : Nat, s.heap.size ≤ q → (va_A ([]) s.heap.size) q := fun q h => Or.inr h
  clear hP hD0
  generalize va_A ([]) s.heap.size = A at hI hA ⊢
  have hl := lv_entry ([.ref h0]) (n := 1) (Nat.le_of_ble_eq_true rfl)
  rw [lg_entry_eq]
  generalize (lg_sl ([.ref h0]) ++ List.replicate (1 - (lg_sl ([.ref h0])).length) Slot.unset).toArray = ls at hl ⊢
  have hl : lv_has ls 1 [(0, .ref h0)] := hl
  refine lv_aload_n hx hb dX3_init_0 rfl (lv_at hl 0 rfl) ?_
  have hI9 : wk_I D A s.heap s.heap [] ([] ++ []) := hI
  refine wk_fV hI9 hA (va_runIN (As := []) (rest := []) ⟨hx, hb, hml, hown, hts⟩ (c_X8_init l D cI cJ cS h0 _) (wk_cwN 0 hts wk_in_M (hN.1 _ mx_91) mw_92 mw_36 mw_93 rfl (hdX8_init).2 ⟨(Nat.le_of_ble_eq_true rfl), (Nat.le_of_ble_eq_true rfl)⟩) (wk_preS hN hK hI9.right) rfl rfl hl.1 rfl (lv_room (Nat.le_of_ble_eq_true rfl)) dX3_init_1 ⟨(Nat.le_of_ble_eq_true rfl), (Nat.le_of_ble_eq_true rfl)⟩) (fun u H locs hw hI => ?_)
  have hI : wk_I D A s.heap H locs [] := hI
  exact wk_rv () hx hb hr hlk hK hI rfl trivial dX3_init_4
set_option maxHeartbeats 4000000 in
set_option maxRecDepth 100000 in
theorem c_X7_init (l : Launch) (D : va_G) (cI cJ cS : ClassId) (h0 : Nat) : wk_Cv (S := Unit) l D (wk_tys cI cJ cS) yX7_init (wk_M yX7_init cX7_init 1 none) ({ frames := 3, cells := 0, slots := 0, locals := 70 }) [.ref h0] [] (fun _ => []) (fun _ => True) := by
  intro sz
  refine Met.ofW (cc := cX7_init) (maxL := 1) (ret := none) (by decide) rfl ?_
  intro p e s m args below meth c s₁ B hml hv
  obtain ⟨rfl, hsz, hP, hK, hD0, hN⟩ := hv
  have hx := B.exec
  have hb := B.bytes
  have hr := B.returns
  have hts := atoms_spec (ws := wk_M yX7_init cX7_init 1 none) B.pre
  have hown : s.vm.findClass RX7 = some m.cls := findClass_of_methodNamed B.named
  have hlk := B.notSynchronized
  have hin : meth.name = "<init>" := (name_of_methodNamed B.named B.method).1
  subst hsz
  have hI : wk_I D (va_A ([]) s.heap.size) s.heap s.heap [] ([]) := ⟨hP, hD0.self, va_S.rf⟩
  have hA : ∀ q : Nat, s.heap.size ≤ q → (va_A ([]) s.heap.size) q := fun q h => Or.inr h
  clear hP hD0
  generalize va_A ([]) s.heap.size = A at hI hA ⊢
  have hl := lv_entry ([.ref h0]) (n := 1) (Nat.le_of_ble_eq_true rfl)
  rw [lg_entry_eq]
  generalize (lg_sl ([.ref h0]) ++ List.replicate (1 - (lg_sl ([.ref h0])).length) Slot.unset).toArray = ls at hl ⊢
  have hl : lv_has ls 1 [(0, .ref h0)] := hl
  refine lv_aload_n hx hb dX7_init_0 rfl (lv_at hl 0 rfl) ?_
  have hI9 : wk_I D A s.heap s.heap [] ([] ++ []) := hI
  refine wk_fV hI9 hA (va_runIN (As := []) (rest := []) ⟨hx, hb, hml, hown, hts⟩ (c_X3_init l D cI cJ cS h0 _) (wk_cwN 0 hts wk_in_M (hN.1 _ mx_101) mw_89 mw_37 mw_90 rfl (hdX3_init).2 ⟨(Nat.le_of_ble_eq_true rfl), (Nat.le_of_ble_eq_true rfl)⟩) (wk_preS hN hK hI9.right) rfl rfl hl.1 rfl (lv_room (Nat.le_of_ble_eq_true rfl)) dX7_init_1 ⟨(Nat.le_of_ble_eq_true rfl), (Nat.le_of_ble_eq_true rfl)⟩) (fun u H locs hw hI => ?_)
  have hI : wk_I D A s.heap H locs [] := hI
  exact wk_rv () hx hb hr hlk hK hI rfl trivial dX7_init_4
set_option maxHeartbeats 4000000 in
set_option maxRecDepth 100000 in
theorem c_X10_init (l : Launch) (D : va_G) (cI cJ cS : ClassId) (h0 : Nat) : wk_Cv (S := Unit) l D (wk_tys cI cJ cS) yX10_init (wk_M yX10_init cX10_init 1 none) ({ frames := 4, cells := 0, slots := 0, locals := 90 }) [.ref h0] [] (fun _ => []) (fun _ => True) := by
  intro sz
  refine Met.ofW (cc := cX10_init) (maxL := 1) (ret := none) (by decide) rfl ?_
  intro p e s m args below meth c s₁ B hml hv
  obtain ⟨rfl, hsz, hP, hK, hD0, hN⟩ := hv
  have hx := B.exec
  have hb := B.bytes
  have hr := B.returns
  have hts := atoms_spec (ws := wk_M yX10_init cX10_init 1 none) B.pre
  have hown : s.vm.findClass RX10 = some m.cls := findClass_of_methodNamed B.named
  have hlk := B.notSynchronized
  have hin : meth.name = "<init>" := (name_of_methodNamed B.named B.method).1
  subst hsz
  have hI : wk_I D (va_A ([]) s.heap.size) s.heap s.heap [] ([]) := ⟨hP, hD0.self, va_S.rf⟩
  have hA : ∀ q : Nat, s.heap.size ≤ q → (va_A ([]) s.heap.size) q := fun q h => Or.inr h
  clear hP hD0
  generalize va_A ([]) s.heap.size = A at hI hA ⊢
  have hl := lv_entry ([.ref h0]) (n := 1) (Nat.le_of_ble_eq_true rfl)
  rw [lg_entry_eq]
  generalize (lg_sl ([.ref h0]) ++ List.replicate (1 - (lg_sl ([.ref h0])).length) Slot.unset).toArray = ls at hl ⊢
  have hl : lv_has ls 1 [(0, .ref h0)] := hl
  refine lv_aload_n hx hb dX10_init_0 rfl (lv_at hl 0 rfl) ?_
  have hI9 : wk_I D A s.heap s.heap [] ([] ++ []) := hI
  refine wk_fV hI9 hA (va_runIN (As := []) (rest := []) ⟨hx, hb, hml, hown, hts⟩ (c_X7_init l D cI cJ cS h0 _) (wk_cwN 0 hts wk_in_M (hN.1 _ mx_108) mw_99 mw_38 mw_100 rfl (hdX7_init).2 ⟨(Nat.le_of_ble_eq_true rfl), (Nat.le_of_ble_eq_true rfl)⟩) (wk_preS hN hK hI9.right) rfl rfl hl.1 rfl (lv_room (Nat.le_of_ble_eq_true rfl)) dX10_init_1 ⟨(Nat.le_of_ble_eq_true rfl), (Nat.le_of_ble_eq_true rfl)⟩) (fun u H locs hw hI => ?_)
  have hI : wk_I D A s.heap H locs [] := hI
  exact wk_rv () hx hb hr hlk hK hI rfl trivial dX10_init_4
set_option maxHeartbeats 4000000 in
set_option maxRecDepth 100000 in
theorem c_X0_init (l : Launch) (D : va_G) (cI cJ cS : ClassId) (h0 : Nat) : wk_Cv (S := Unit) l D (wk_tys cI cJ cS) yX0_init (wk_M yX0_init cX0_init 1 none) ({ frames := 5, cells := 0, slots := 0, locals := 110 }) [.ref h0] [] (fun _ => []) (fun _ => True) := by
  intro sz
  refine Met.ofW (cc := cX0_init) (maxL := 1) (ret := none) (by decide) rfl ?_
  intro p e s m args below meth c s₁ B hml hv
  obtain ⟨rfl, hsz, hP, hK, hD0, hN⟩ := hv
  have hx := B.exec
  have hb := B.bytes
  have hr := B.returns
  have hts := atoms_spec (ws := wk_M yX0_init cX0_init 1 none) B.pre
  have hown : s.vm.findClass RX0 = some m.cls := findClass_of_methodNamed B.named
  have hlk := B.notSynchronized
  have hin : meth.name = "<init>" := (name_of_methodNamed B.named B.method).1
  subst hsz
  have hI : wk_I D (va_A ([]) s.heap.size) s.heap s.heap [] ([]) := ⟨hP, hD0.self, va_S.rf⟩
  have hA : ∀ q : Nat, s.heap.size ≤ q → (va_A ([]) s.heap.size) q := fun q h => Or.inr h
  clear hP hD0
  generalize va_A ([]) s.heap.size = A at hI hA ⊢
  have hl := lv_entry ([.ref h0]) (n := 1) (Nat.le_of_ble_eq_true rfl)
  rw [lg_entry_eq]
  generalize (lg_sl ([.ref h0]) ++ List.replicate (1 - (lg_sl ([.ref h0])).length) Slot.unset).toArray = ls at hl ⊢
  have hl : lv_has ls 1 [(0, .ref h0)] := hl
  refine lv_aload_n hx hb dX0_init_0 rfl (lv_at hl 0 rfl) ?_
  have hI9 : wk_I D A s.heap s.heap [] ([] ++ []) := hI
  refine wk_fV hI9 hA (va_runIN (As := []) (rest := []) ⟨hx, hb, hml, hown, hts⟩ (c_X10_init l D cI cJ cS h0 _) (wk_cwN 0 hts wk_in_M (hN.1 _ mx_115) mw_106 mw_39 mw_107 rfl (hdX10_init).2 ⟨(Nat.le_of_ble_eq_true rfl), (Nat.le_of_ble_eq_true rfl)⟩) (wk_preS hN hK hI9.right) rfl rfl hl.1 rfl (lv_room (Nat.le_of_ble_eq_true rfl)) dX0_init_1 ⟨(Nat.le_of_ble_eq_true rfl), (Nat.le_of_ble_eq_true rfl)⟩) (fun u H locs hw hI => ?_)
  have hI : wk_I D A s.heap H locs [] := hI
  exact wk_rv () hx hb hr hlk hK hI rfl trivial dX0_init_4
set_option maxHeartbeats 4000000 in
set_option maxRecDepth 100000 in
theorem c_X5_init (l : Launch) (D : va_G) (cI cJ cS : ClassId) (h0 : Nat) : wk_Cv (S := Unit) l D (wk_tys cI cJ cS) yX5_init (wk_M yX5_init cX5_init 1 none) ({ frames := 6, cells := 0, slots := 0, locals := 130 }) [.ref h0] [] (fun _ => []) (fun _ => True) := by
  intro sz
  refine Met.ofW (cc := cX5_init) (maxL := 1) (ret := none) (by decide) rfl ?_
  intro p e s m args below meth c s₁ B hml hv
  obtain ⟨rfl, hsz, hP, hK, hD0, hN⟩ := hv
  have hx := B.exec
  have hb := B.bytes
  have hr := B.returns
  have hts := atoms_spec (ws := wk_M yX5_init cX5_init 1 none) B.pre
  have hown : s.vm.findClass RX5 = some m.cls := findClass_of_methodNamed B.named
  have hlk := B.notSynchronized
  have hin : meth.name = "<init>" := (name_of_methodNamed B.named B.method).1
  subst hsz
  have hI : wk_I D (va_A ([]) s.heap.size) s.heap s.heap [] ([]) := ⟨hP, hD0.self, va_S.rf⟩
  have hA : ∀ q : Nat, s.heap.size ≤ q → (va_A ([]) s.heap.size) q := fun q h => Or.inr h
  clear hP hD0
  generalize va_A ([]) s.heap.size = A at hI hA ⊢
  have hl := lv_entry ([.ref h0]) (n := 1) (Nat.le_of_ble_eq_true rfl)
  rw [lg_entry_eq]
  generalize (lg_sl ([.ref h0]) ++ List.replicate (1 - (lg_sl ([.ref h0])).length) Slot.unset).toArray = ls at hl ⊢
  have hl : lv_has ls 1 [(0, .ref h0)] := hl
  refine lv_aload_n hx hb dX5_init_0 rfl (lv_at hl 0 rfl) ?_
  have hI9 : wk_I D A s.heap s.heap [] ([] ++ []) := hI
  refine wk_fV hI9 hA (va_runIN (As := []) (rest := []) ⟨hx, hb, hml, hown, hts⟩ (c_X0_init l D cI cJ cS h0 _) (wk_cwN 0 hts wk_in_M (hN.1 _ mx_122) mw_113 mw_40 mw_114 rfl (hdX0_init).2 ⟨(Nat.le_of_ble_eq_true rfl), (Nat.le_of_ble_eq_true rfl)⟩) (wk_preS hN hK hI9.right) rfl rfl hl.1 rfl (lv_room (Nat.le_of_ble_eq_true rfl)) dX5_init_1 ⟨(Nat.le_of_ble_eq_true rfl), (Nat.le_of_ble_eq_true rfl)⟩) (fun u H locs hw hI => ?_)
  have hI : wk_I D A s.heap H locs [] := hI
  exact wk_rv () hx hb hr hlk hK hI rfl trivial dX5_init_4
set_option maxHeartbeats 4000000 in
set_option maxRecDepth 100000 in
theorem c_X4_init (l : Launch) (D : va_G) (cI cJ cS : ClassId) (h0 : Nat) : wk_Cv (S := Unit) l D (wk_tys cI cJ cS) yX4_init (wk_M yX4_init cX4_init 1 none) ({ frames := 7, cells := 0, slots := 0, locals := 150 }) [.ref h0] [] (fun _ => []) (fun _ => True) := by
  intro sz
  refine Met.ofW (cc := cX4_init) (maxL := 1) (ret := none) (by decide) rfl ?_
  intro p e s m args below meth c s₁ B hml hv
  obtain ⟨rfl, hsz, hP, hK, hD0, hN⟩ := hv
  have hx := B.exec
  have hb := B.bytes
  have hr := B.returns
  have hts := atoms_spec (ws := wk_M yX4_init cX4_init 1 none) B.pre
  have hown : s.vm.findClass RX4 = some m.cls := findClass_of_methodNamed B.named
  have hlk := B.notSynchronized
  have hin : meth.name = "<init>" := (name_of_methodNamed B.named B.method).1
  subst hsz
  have hI : wk_I D (va_A ([]) s.heap.size) s.heap s.heap [] ([]) := ⟨hP, hD0.self, va_S.rf⟩
  have hA : ∀ q : Nat, s.heap.size ≤ q → (va_A ([]) s.heap.size) q := fun q h => Or.inr h
  clear hP hD0
  generalize va_A ([]) s.heap.size = A at hI hA ⊢
  have hl := lv_entry ([.ref h0]) (n := 1) (Nat.le_of_ble_eq_true rfl)
  rw [lg_entry_eq]
  generalize (lg_sl ([.ref h0]) ++ List.replicate (1 - (lg_sl ([.ref h0])).length) Slot.unset).toArray = ls at hl ⊢
  have hl : lv_has ls 1 [(0, .ref h0)] := hl
  refine lv_aload_n hx hb dX4_init_0 rfl (lv_at hl 0 rfl) ?_
  have hI9 : wk_I D A s.heap s.heap [] ([] ++ []) := hI
  refine wk_fV hI9 hA (va_runIN (As := []) (rest := []) ⟨hx, hb, hml, hown, hts⟩ (c_X5_init l D cI cJ cS h0 _) (wk_cwN 0 hts wk_in_M (hN.1 _ mx_129) mw_120 mw_41 mw_121 rfl (hdX5_init).2 ⟨(Nat.le_of_ble_eq_true rfl), (Nat.le_of_ble_eq_true rfl)⟩) (wk_preS hN hK hI9.right) rfl rfl hl.1 rfl (lv_room (Nat.le_of_ble_eq_true rfl)) dX4_init_1 ⟨(Nat.le_of_ble_eq_true rfl), (Nat.le_of_ble_eq_true rfl)⟩) (fun u H locs hw hI => ?_)
  have hI : wk_I D A s.heap H locs [] := hI
  exact wk_rv () hx hb hr hlk hK hI rfl trivial dX4_init_4
set_option maxHeartbeats 4000000 in
set_option maxRecDepth 100000 in
theorem c_X1_init (l : Launch) (D : va_G) (cI cJ cS : ClassId) (h0 : Nat) : wk_Cv (S := Unit) l D (wk_tys cI cJ cS) yX1_init (wk_M yX1_init cX1_init 1 none) ({ frames := 3, cells := 0, slots := 0, locals := 70 }) [.ref h0] [] (fun _ => []) (fun _ => True) := by
  intro sz
  refine Met.ofW (cc := cX1_init) (maxL := 1) (ret := none) (by decide) rfl ?_
  intro p e s m args below meth c s₁ B hml hv
  obtain ⟨rfl, hsz, hP, hK, hD0, hN⟩ := hv
  have hx := B.exec
  have hb := B.bytes
  have hr := B.returns
  have hts := atoms_spec (ws := wk_M yX1_init cX1_init 1 none) B.pre
  have hown : s.vm.findClass RX1 = some m.cls := findClass_of_methodNamed B.named
  have hlk := B.notSynchronized
  have hin : meth.name = "<init>" := (name_of_methodNamed B.named B.method).1
  subst hsz
  have hI : wk_I D (va_A ([]) s.heap.size) s.heap s.heap [] ([]) := ⟨hP, hD0.self, va_S.rf⟩
  have hA : ∀ q : Nat, s.heap.size ≤ q → (va_A ([]) s.heap.size) q := fun q h => Or.inr h
  clear hP hD0
  generalize va_A ([]) s.heap.size = A at hI hA ⊢
  have hl := lv_entry ([.ref h0]) (n := 1) (Nat.le_of_ble_eq_true rfl)
  rw [lg_entry_eq]
  generalize (lg_sl ([.ref h0]) ++ List.replicate (1 - (lg_sl ([.ref h0])).length) Slot.unset).toArray = ls at hl ⊢
  have hl : lv_has ls 1 [(0, .ref h0)] := hl
  refine lv_aload_n hx hb dX1_init_0 rfl (lv_at hl 0 rfl) ?_
  have hI9 : wk_I D A s.heap s.heap [] ([] ++ []) := hI
  refine wk_fV hI9 hA (va_runIN (As := []) (rest := []) ⟨hx, hb, hml, hown, hts⟩ (c_X3_init l D cI cJ cS h0 _) (wk_cwN 0 hts wk_in_M (hN.1 _ mx_136) mw_89 mw_37 mw_90 rfl (hdX3_init).2 ⟨(Nat.le_of_ble_eq_true rfl), (Nat.le_of_ble_eq_true rfl)⟩) (wk_preS hN hK hI9.right) rfl rfl hl.1 rfl (lv_room (Nat.le_of_ble_eq_true rfl)) dX1_init_1 ⟨(Nat.le_of_ble_eq_true rfl), (Nat.le_of_ble_eq_true rfl)⟩) (fun u H locs hw hI => ?_)
  have hI : wk_I D A s.heap H locs [] := hI
  exact wk_rv () hx hb hr hlk hK hI rfl trivial dX1_init_4
set_option maxHeartbeats 4000000 in
set_option maxRecDepth 100000 in
theorem c_X9_init (l : Launch) (D : va_G) (cI cJ cS : ClassId) (h0 : Nat) : wk_Cv (S := Unit) l D (wk_tys cI cJ cS) yX9_init (wk_M yX9_init cX9_init 1 none) ({ frames := 4, cells := 0, slots := 0, locals := 90 }) [.ref h0] [] (fun _ => []) (fun _ => True) := by
  intro sz
  refine Met.ofW (cc := cX9_init) (maxL := 1) (ret := none) (by decide) rfl ?_
  intro p e s m args below meth c s₁ B hml hv
  obtain ⟨rfl, hsz, hP, hK, hD0, hN⟩ := hv
  have hx := B.exec
  have hb := B.bytes
  have hr := B.returns
  have hts := atoms_spec (ws := wk_M yX9_init cX9_init 1 none) B.pre
  have hown : s.vm.findClass RX9 = some m.cls := findClass_of_methodNamed B.named
  have hlk := B.notSynchronized
  have hin : meth.name = "<init>" := (name_of_methodNamed B.named B.method).1
  subst hsz
  have hI : wk_I D (va_A ([]) s.heap.size) s.heap s.heap [] ([]) := ⟨hP, hD0.self, va_S.rf⟩
  have hA : ∀ q : Nat, s.heap.size ≤ q → (va_A ([]) s.heap.size) q := fun q h => Or.inr h
  clear hP hD0
  generalize va_A ([]) s.heap.size = A at hI hA ⊢
  have hl := lv_entry ([.ref h0]) (n := 1) (Nat.le_of_ble_eq_true rfl)
  rw [lg_entry_eq]
  generalize (lg_sl ([.ref h0]) ++ List.replicate (1 - (lg_sl ([.ref h0])).length) Slot.unset).toArray = ls at hl ⊢
  have hl : lv_has ls 1 [(0, .ref h0)] := hl
  refine lv_aload_n hx hb dX9_init_0 rfl (lv_at hl 0 rfl) ?_
  have hI9 : wk_I D A s.heap s.heap [] ([] ++ []) := hI
  refine wk_fV hI9 hA (va_runIN (As := []) (rest := []) ⟨hx, hb, hml, hown, hts⟩ (c_X1_init l D cI cJ cS h0 _) (wk_cwN 0 hts wk_in_M (hN.1 _ mx_143) mw_134 mw_43 mw_135 rfl (hdX1_init).2 ⟨(Nat.le_of_ble_eq_true rfl), (Nat.le_of_ble_eq_true rfl)⟩) (wk_preS hN hK hI9.right) rfl rfl hl.1 rfl (lv_room (Nat.le_of_ble_eq_true rfl)) dX9_init_1 ⟨(Nat.le_of_ble_eq_true rfl), (Nat.le_of_ble_eq_true rfl)⟩) (fun u H locs hw hI => ?_)
  have hI : wk_I D A s.heap H locs [] := hI
  exact wk_rv () hx hb hr hlk hK hI rfl trivial dX9_init_4
set_option maxHeartbeats 4000000 in
set_option maxRecDepth 100000 in
theorem c_X2_init (l : Launch) (D : va_G) (cI cJ cS : ClassId) (h0 : Nat) : wk_Cv (S := Nat) l D (wk_tys cI cJ cS) yX2_init (wk_M yX2_init cX2_init 1 none) ({ frames := 1, cells := 1, slots := 64, locals := 30 }) [.ref h0] [(h0, .inr (2, [.null, .null, .int 0, .null, .int 0]))] (fun k => [(h0, .inr (2, [.null, .null, .int 0, .ref k, .int 0])), (k, .inl (cI, 64, .inl (fun _ => 0)))]) (fun _ => True) := by
  intro sz
  refine Met.ofW (cc := cX2_init) (maxL := 1) (ret := none) (by decide) rfl ?_
  intro p e s m args below meth c s₁ B hml hv
  obtain ⟨rfl, hsz, hP, hK, hD0, hN⟩ := hv
  have hx := B.exec
  have hb := B.bytes
  have hr := B.returns
  have hts := atoms_spec (ws := wk_M yX2_init cX2_init 1 none) B.pre
  have hown : s.vm.findClass RX2 = some m.cls := findClass_of_methodNamed B.named
  have hlk := B.notSynchronized
  have hin : meth.name = "<init>" := (name_of_methodNamed B.named B.method).1
  subst hsz
  have hI : wk_I D (va_A ([(h0, .inr (2, [.null, .null, .int 0, .null, .int 0]))]) s.heap.size) s.heap s.heap [] ([(h0, .inr (2, [.null, .null, .int 0, .null, .int 0]))]) := ⟨hP, hD0.self, va_S.rf⟩
  have hA : ∀ q : Nat, s.heap.size ≤ q → (va_A ([(h0, .inr (2, [.null, .null, .int 0, .null, .int 0]))]) s.heap.size) q := fun q h => Or.inr h
  clear hP hD0
  generalize va_A ([(h0, .inr (2, [.null, .null, .int 0, .null, .int 0]))]) s.heap.size = A at hI hA ⊢
  have hl := lv_entry ([.ref h0]) (n := 1) (Nat.le_of_ble_eq_true rfl)
  rw [lg_entry_eq]
  generalize (lg_sl ([.ref h0]) ++ List.replicate (1 - (lg_sl ([.ref h0])).length) Slot.unset).toArray = ls at hl ⊢
  have hl : lv_has ls 1 [(0, .ref h0)] := hl
  refine lv_aload_n hx hb dX2_init_0 rfl (lv_at hl 0 rfl) ?_
  refine W.objInit hx hb hown (hts _ (wk_in_M _ mw_60)) (hts _ (wk_in_M _ mw_53)) (hts _ (wk_in_M _ mw_54)) rfl (by rw [hml]; exact hl.1) rfl dX2_init_1 (Nat.le_of_ble_eq_true rfl) (Nat.le_of_ble_eq_true rfl) ?_
  refine W.eq (g2 := F0 m 4 ls []) rfl ?_
  refine lv_aload_n hx hb dX2_init_4 rfl (lv_at hl 0 rfl) ?_
  refine lv_bipush (v := 64) hx hb dX2_init_5 (by decide) ?_
  refine wk_newi (N' := 64) hx hb (hts _ (wk_in_M _ mw_83)) hK hI hA (by decide) (by decide) (by decide) (Nat.le_of_ble_eq_true rfl) (Nat.le_of_ble_eq_true rfl) dX2_init_7 (fun q_1 H hI => ?_)
  have hI : wk_I D A s.heap H [] [(h0, .inr (2, [.null, .null, .int 0, .null, .int 0])), (q_1, .inl (cI, 64, .inl (fun _ => 0)))] := hI
  refine wk_putF (v := .ref q_1) (ty := .array .int) (w' := [(h0, .inr (2, [.null, .null, .int 0, .ref q_1, .int 0])), (q_1, .inl (cI, 64, .inl (fun _ => 0)))]) hx hb hts (fun w h => wk_in_M w (lay_X2 w h)) tyX2 tyX2_ok nmX2 hown hK hI 0 rfl rfl 3 (by decide) (hts _ (wk_in_M _ mw_68)) rfl rfl hin rfl (by decide +kernel) rfl rfl (Nat.le_of_ble_eq_true rfl) rfl dX2_init_9 (fun H locs hI => ?_)
  exact wk_rv q_1 hx hb hr hlk hK hI rfl trivial dX2_init_12
set_option maxHeartbeats 4000000 in
set_option maxRecDepth 100000 in
theorem c_X6_init (l : Launch) (D : va_G) (cI cJ cS : ClassId) (h0 : Nat) (a9 b9 c9 : Int32) (g9 : Nat) : wk_Cv (S := Unit) l D (wk_tys cI cJ cS) yX6_init (wk_M yX6_init cX6_init 5 none) ({ frames := 1, cells := 0, slots := 0, locals := 30 }) [.ref h0, .int a9, .int b9, .int c9, .ref g9] [(h0, .inr (6, [.int 0, .int 0, .int 0, .null, .int 0, .long 0, .null]))] (fun _ => [(h0, .inr (6, [.int a9, .int b9, .int c9, .ref g9, .int 0, .long 0, .null]))]) (fun _ => True) := by
  intro sz
  refine Met.ofW (cc := cX6_init) (maxL := 5) (ret := none) (by decide) rfl ?_
  intro p e s m args below meth c s₁ B hml hv
  obtain ⟨rfl, hsz, hP, hK, hD0, hN⟩ := hv
  have hx := B.exec
  have hb := B.bytes
  have hr := B.returns
  have hts := atoms_spec (ws := wk_M yX6_init cX6_init 5 none) B.pre
  have hown : s.vm.findClass RX6 = some m.cls := findClass_of_methodNamed B.named
  have hlk := B.notSynchronized
  have hin : meth.name = "<init>" := (name_of_methodNamed B.named B.method).1
  subst hsz
  have hI : wk_I D (va_A ([(h0, .inr (6, [.int 0, .int 0, .int 0, .null, .int 0, .long 0, .null]))]) s.heap.size) s.heap s.heap [] ([(h0, .inr (6, [.int 0, .int 0, .int 0, .null, .int 0, .long 0, .null]))]) := ⟨hP, hD0.self, va_S.rf⟩
  have hA : ∀ q : Nat, s.heap.size ≤ q → (va_A ([(h0, .inr (6, [.int 0, .int 0, .int 0, .null, .int 0, .long 0, .null]))]) s.heap.size) q := fun q h => Or.inr h
  clear hP hD0
  generalize va_A ([(h0, .inr (6, [.int 0, .int 0, .int 0, .null, .int 0, .long 0, .null]))]) s.heap.size = A at hI hA ⊢
  have hl := lv_entry ([.ref h0, .int a9, .int b9, .int c9, .ref g9]) (n := 5) (Nat.le_of_ble_eq_true rfl)
  rw [lg_entry_eq]
  generalize (lg_sl ([.ref h0, .int a9, .int b9, .int c9, .ref g9]) ++ List.replicate (5 - (lg_sl ([.ref h0, .int a9, .int b9, .int c9, .ref g9])).length) Slot.unset).toArray = ls at hl ⊢
  have hl : lv_has ls 5 [(0, .ref h0), (1, .int a9), (2, .int b9), (3, .int c9), (4, .ref g9)] := hl
  refine lv_aload_n hx hb dX6_init_0 rfl (lv_at hl 0 rfl) ?_
  refine W.objInit hx hb hown (hts _ (wk_in_M _ mw_181)) (hts _ (wk_in_M _ mw_53)) (hts _ (wk_in_M _ mw_54)) rfl (by rw [hml]; exact hl.1) rfl dX6_init_1 (Nat.le_of_ble_eq_true rfl) (Nat.le_of_ble_eq_true rfl) ?_
  refine W.eq (g2 := F0 m 4 ls []) rfl ?_
  refine lv_aload_n hx hb dX6_init_4 rfl (lv_at hl 0 rfl) ?_
  refine lv_iload_n hx hb dX6_init_5 rfl (lv_at hl 1 rfl) ?_
  refine wk_putF (v := .int a9) (ty := .int) (w' := [(h0, .inr (6, [.int a9, .int 0, .int 0, .null, .int 0, .long 0, .null]))]) hx hb hts (fun w h => wk_in_M w (lay_X6 w h)) tyX6 tyX6_ok nmX6 hown hK hI 0 rfl rfl 0 (by decide) (hts _ (wk_in_M _ mw_182)) rfl rfl hin rfl (by decide +kernel) rfl rfl (Nat.le_of_ble_eq_true rfl) rfl dX6_init_6 (fun H locs hI => ?_)
  refine lv_aload_n hx hb dX6_init_9 rfl (lv_at hl 0 rfl) ?_
  refine lv_iload_n hx hb dX6_init_10 rfl (lv_at hl 2 rfl) ?_
  refine wk_putF (v := .int b9) (ty := .int) (w' := [(h0, .inr (6, [.int a9, .int b9, .int 0, .null, .int 0, .long 0, .null]))]) hx hb hts (fun w h => wk_in_M w (lay_X6 w h)) tyX6 tyX6_ok nmX6 hown hK hI 0 rfl rfl 1 (by decide) (hts _ (wk_in_M _ mw_185)) rfl rfl hin rfl (by decide +kernel) rfl rfl (Nat.le_of_ble_eq_true rfl) rfl dX6_init_11 (fun H locs hI => ?_)
  refine lv_aload_n hx hb dX6_init_14 rfl (lv_at hl 0 rfl) ?_
  refine lv_iload_n hx hb dX6_init_15 rfl (lv_at hl 3 rfl) ?_
  refine wk_put (v := .int c9) (ty := .int) (w' := [(h0, .inr (6, [.int a9, .int b9, .int c9, .null, .int 0, .long 0, .null]))]) hx hb hts (fun w h => wk_in_M w (lay_X6 w h)) tyX6 tyX6_ok nmX6 hown hK hI 0 rfl rfl 2 (by decide) (hts _ (wk_in_M _ mw_189)) rfl rfl (by decide +kernel) rfl rfl (Nat.le_of_ble_eq_true rfl) rfl dX6_init_16 (fun H locs hI => ?_)
  refine lv_aload_n hx hb dX6_init_19 rfl (lv_at hl 0 rfl) ?_
  refine lv_aload hx hb dX6_init_20 (lv_at hl 4 rfl) ?_
  refine wk_put (v := .ref g9) (ty := .object "WatchBill$Soul") (w' := [(h0, .inr (6, [.int a9, .int b9, .int c9, .ref g9, .int 0, .long 0, .null]))]) hx hb hts (fun w h => wk_in_M w (lay_X6 w h)) tyX6 tyX6_ok nmX6 hown hK hI 0 rfl rfl 3 (by decide) (hts _ (wk_in_M _ mw_191)) rfl rfl (by decide +kernel) rfl rfl (Nat.le_of_ble_eq_true rfl) rfl dX6_init_22 (fun H locs hI => ?_)
  exact wk_rv () hx hb hr hlk hK hI rfl trivial dX6_init_25
set_option maxHeartbeats 4000000 in
set_option maxRecDepth 100000 in
theorem c_X12_init (l : Launch) (D : va_G) (cI cJ cS : ClassId) (h0 : Nat) : wk_Cv (S := (Nat → Nat)) l D (wk_tys cI cJ cS) yX12_init (wk_M yX12_init cX12_init 2 none) ({ frames := 1, cells := 9, slots := 144, locals := 30 }) [.ref h0] [(h0, .inr (11, [.int 0, .null, .null, .null, .null, .null, .null, .null, .null, .null, .int 0]))] (fun am => wm_W cI cJ am wk_new) (fun am => am 0 = h0) := by
  intro sz
  refine Met.ofW (cc := cX12_init) (maxL := 2) (ret := none) (by decide) rfl ?_
  intro p e s m args below meth c s₁ B hml hv
  obtain ⟨rfl, hsz, hP, hK, hD0, hN⟩ := hv
  have hx := B.exec
  have hb := B.bytes
  have hr := B.returns
  have hts := atoms_spec (ws := wk_M yX12_init cX12_init 2 none) B.pre
  have hown : s.vm.findClass RX12 = some m.cls := findClass_of_methodNamed B.named
  have hlk := B.notSynchronized
  have hin : meth.name = "<init>" := (name_of_methodNamed B.named B.method).1
  subst hsz
  have hI : wk_I D (va_A ([(h0, .inr (11, [.int 0, .null, .null, .null, .null, .null, .null, .null, .null, .null, .int 0]))]) s.heap.size) s.heap s.heap [] ([(h0, .inr (11, [.int 0, .null, .null, .null, .null, .null, .null, .null, .null, .null, .int 0]))]) := ⟨hP, hD0.self, va_S.rf⟩
  have hA : ∀ q : Nat, s.heap.size ≤ q → (va_A ([(h0, .inr (11, [.int 0, .null, .null, .null, .null, .null, .null, .null, .null, .null, .int 0]))]) s.heap.size) q := fun q h => Or.inr h
  clear hP hD0
  generalize va_A ([(h0, .inr (11, [.int 0, .null, .null, .null, .null, .null, .null, .null, .null, .null, .int 0]))]) s.heap.size = A at hI hA ⊢
  have hl := lv_entry ([.ref h0]) (n := 2) (Nat.le_of_ble_eq_true rfl)
  rw [lg_entry_eq]
  generalize (lg_sl ([.ref h0]) ++ List.replicate (2 - (lg_sl ([.ref h0])).length) Slot.unset).toArray = ls at hl ⊢
  have hl : lv_has ls 2 [(0, .ref h0)] := hl
  refine lv_aload_n hx hb dX12_init_0 rfl (lv_at hl 0 rfl) ?_
  refine W.objInit hx hb hown (hts _ (wk_in_M _ mw_493)) (hts _ (wk_in_M _ mw_53)) (hts _ (wk_in_M _ mw_54)) rfl (by rw [hml]; exact hl.1) rfl dX12_init_1 (Nat.le_of_ble_eq_true rfl) (Nat.le_of_ble_eq_true rfl) ?_
  refine W.eq (g2 := F0 m 4 ls []) rfl ?_
  refine lv_aload_n hx hb dX12_init_4 rfl (lv_at hl 0 rfl) ?_
  refine lv_bipush (v := 12) hx hb dX12_init_5 (by decide) ?_
  refine wk_newi (N' := 12) hx hb (hts _ (wk_in_M _ mw_83)) hK hI hA (by decide) (by decide) (by decide) (Nat.le_of_ble_eq_true rfl) (Nat.le_of_ble_eq_true rfl) dX12_init_7 (fun q_1 H hI => ?_)
  have hI : wk_I D A s.heap H [] [(h0, .inr (11, [.int 0, .null, .null, .null, .null, .null, .null, .null, .null, .null, .int 0])), (q_1, .inl (cI, 12, .inl (fun _ => 0)))] := hI
  refine wk_putF (v := .ref q_1) (ty := .array .int) (w' := [(h0, .inr (11, [.int 0, .ref q_1, .null, .null, .null, .null, .null, .null, .null, .null, .int 0])), (q_1, .inl (cI, 12, .inl (fun _ => 0)))]) hx hb hts (fun w h => wk_in_M w (lay_X12 w h)) tyX12 tyX12_ok nmX12 hown hK hI 0 rfl rfl 1 (by decide) (hts _ (wk_in_M _ mw_495)) rfl rfl hin rfl (by decide +kernel) rfl rfl (Nat.le_of_ble_eq_true rfl) rfl dX12_init_9 (fun H locs hI => ?_)
  refine lv_aload_n hx hb dX12_init_12 rfl (lv_at hl 0 rfl) ?_
  refine lv_bipush (v := 12) hx hb dX12_init_13 (by decide) ?_
  refine wk_newi (N' := 12) hx hb (hts _ (wk_in_M _ mw_83)) hK hI hA (by decide) (by decide) (by decide) (Nat.le_of_ble_eq_true rfl) (Nat.le_of_ble_eq_true rfl) dX12_init_15 (fun q_2 H hI => ?_)
  have hI : wk_I D A s.heap H locs [(h0, .inr (11, [.int 0, .ref q_1, .null, .null, .null, .null, .null, .null, .null, .null, .int 0])), (q_1, .inl (cI, 12, .inl (fun _ => 0))), (q_2, .inl (cI, 12, .inl (fun _ => 0)))] := hI
  refine wk_putF (v := .ref q_2) (ty := .array .int) (w' := [(h0, .inr (11, [.int 0, .ref q_1, .ref q_2, .null, .null, .null, .null, .null, .null, .null, .int 0])), (q_1, .inl (cI, 12, .inl (fun _ => 0))), (q_2, .inl (cI, 12, .inl (fun _ => 0)))]) hx hb hts (fun w h => wk_in_M w (lay_X12 w h)) tyX12 tyX12_ok nmX12 hown hK hI 0 rfl rfl 2 (by decide) (hts _ (wk_in_M _ mw_496)) rfl rfl hin rfl (by decide +kernel) rfl rfl (Nat.le_of_ble_eq_true rfl) rfl dX12_init_17 (fun H locs hI => ?_)
  refine lv_aload_n hx hb dX12_init_20 rfl (lv_at hl 0 rfl) ?_
  refine lv_bipush (v := 12) hx hb dX12_init_21 (by decide) ?_
  refine wk_newi (N' := 12) hx hb (hts _ (wk_in_M _ mw_83)) hK hI hA (by decide) (by decide) (by decide) (Nat.le_of_ble_eq_true rfl) (Nat.le_of_ble_eq_true rfl) dX12_init_23 (fun q_3 H hI => ?_)
  have hI : wk_I D A s.heap H locs [(h0, .inr (11, [.int 0, .ref q_1, .ref q_2, .null, .null, .null, .null, .null, .null, .null, .int 0])), (q_1, .inl (cI, 12, .inl (fun _ => 0))), (q_2, .inl (cI, 12, .inl (fun _ => 0))), (q_3, .inl (cI, 12, .inl (fun _ => 0)))] := hI
  refine wk_putF (v := .ref q_3) (ty := .array .int) (w' := [(h0, .inr (11, [.int 0, .ref q_1, .ref q_2, .ref q_3, .null, .null, .null, .null, .null, .null, .int 0])), (q_1, .inl (cI, 12, .inl (fun _ => 0))), (q_2, .inl (cI, 12, .inl (fun _ => 0))), (q_3, .inl (cI, 12, .inl (fun _ => 0)))]) hx hb hts (fun w h => wk_in_M w (lay_X12 w h)) tyX12 tyX12_ok nmX12 hown hK hI 0 rfl rfl 3 (by decide) (hts _ (wk_in_M _ mw_497)) rfl rfl hin rfl (by decide +kernel) rfl rfl (Nat.le_of_ble_eq_true rfl) rfl dX12_init_25 (fun H locs hI => ?_)
  refine lv_aload_n hx hb dX12_init_28 rfl (lv_at hl 0 rfl) ?_
  refine lv_bipush (v := 12) hx hb dX12_init_29 (by decide) ?_
  refine wk_newl (N' := 12) hx hb (hts _ (wk_in_M _ mw_528)) hK hI hA (by decide) (by decide) (by decide) (Nat.le_of_ble_eq_true rfl) (Nat.le_of_ble_eq_true rfl) dX12_init_31 (fun q_4 H hI => ?_)
  have hI : wk_I D A s.heap H locs [(h0, .inr (11, [.int 0, .ref q_1, .ref q_2, .ref q_3, .null, .null, .null, .null, .null, .null, .int 0])), (q_1, .inl (cI, 12, .inl (fun _ => 0))), (q_2, .inl (cI, 12, .inl (fun _ => 0))), (q_3, .inl (cI, 12, .inl (fun _ => 0))), (q_4, .inl (cJ, 12, .inr (.inl (fun _ => 0))))] := hI
  refine wk_putF (v := .ref q_4) (ty := .array .long) (w' := [(h0, .inr (11, [.int 0, .ref q_1, .ref q_2, .ref q_3, .ref q_4, .null, .null, .null, .null, .null, .int 0])), (q_1, .inl (cI, 12, .inl (fun _ => 0))), (q_2, .inl (cI, 12, .inl (fun _ => 0))), (q_3, .inl (cI, 12, .inl (fun _ => 0))), (q_4, .inl (cJ, 12, .inr (.inl (fun _ => 0))))]) hx hb hts (fun w h => wk_in_M w (lay_X12 w h)) tyX12 tyX12_ok nmX12 hown hK hI 0 rfl rfl 4 (by decide) (hts _ (wk_in_M _ mw_498)) rfl rfl hin rfl (by decide +kernel) rfl rfl (Nat.le_of_ble_eq_true rfl) rfl dX12_init_33 (fun H locs hI => ?_)
  refine lv_aload_n hx hb dX12_init_36 rfl (lv_at hl 0 rfl) ?_
  refine lv_bipush (v := 8) hx hb dX12_init_37 (by decide) ?_
  refine wk_newi (N' := 8) hx hb (hts _ (wk_in_M _ mw_83)) hK hI hA (by decide) (by decide) (by decide) (Nat.le_of_ble_eq_true rfl) (Nat.le_of_ble_eq_true rfl) dX12_init_39 (fun q_5 H hI => ?_)
  have hI : wk_I D A s.heap H locs [(h0, .inr (11, [.int 0, .ref q_1, .ref q_2, .ref q_3, .ref q_4, .null, .null, .null, .null, .null, .int 0])), (q_1, .inl (cI, 12, .inl (fun _ => 0))), (q_2, .inl (cI, 12, .inl (fun _ => 0))), (q_3, .inl (cI, 12, .inl (fun _ => 0))), (q_4, .inl (cJ, 12, .inr (.inl (fun _ => 0)))), (q_5, .inl (cI, 8, .inl (fun _ => 0)))] := hI
  refine wk_putF (v := .ref q_5) (ty := .array .int) (w' := [(h0, .inr (11, [.int 0, .ref q_1, .ref q_2, .ref q_3, .ref q_4, .ref q_5, .null, .null, .null, .null, .int 0])), (q_1, .inl (cI, 12, .inl (fun _ => 0))), (q_2, .inl (cI, 12, .inl (fun _ => 0))), (q_3, .inl (cI, 12, .inl (fun _ => 0))), (q_4, .inl (cJ, 12, .inr (.inl (fun _ => 0)))), (q_5, .inl (cI, 8, .inl (fun _ => 0)))]) hx hb hts (fun w h => wk_in_M w (lay_X12 w h)) tyX12 tyX12_ok nmX12 hown hK hI 0 rfl rfl 5 (by decide) (hts _ (wk_in_M _ mw_499)) rfl rfl hin rfl (by decide +kernel) rfl rfl (Nat.le_of_ble_eq_true rfl) rfl dX12_init_41 (fun H locs hI => ?_)
  refine lv_aload_n hx hb dX12_init_44 rfl (lv_at hl 0 rfl) ?_
  refine lv_bipush (v := 8) hx hb dX12_init_45 (by decide) ?_
  refine wk_newi (N' := 8) hx hb (hts _ (wk_in_M _ mw_83)) hK hI hA (by decide) (by decide) (by decide) (Nat.le_of_ble_eq_true rfl) (Nat.le_of_ble_eq_true rfl) dX12_init_47 (fun q_6 H hI => ?_)
  have hI : wk_I D A s.heap H locs [(h0, .inr (11, [.int 0, .ref q_1, .ref q_2, .ref q_3, .ref q_4, .ref q_5, .null, .null, .null, .null, .int 0])), (q_1, .inl (cI, 12, .inl (fun _ => 0))), (q_2, .inl (cI, 12, .inl (fun _ => 0))), (q_3, .inl (cI, 12, .inl (fun _ => 0))), (q_4, .inl (cJ, 12, .inr (.inl (fun _ => 0)))), (q_5, .inl (cI, 8, .inl (fun _ => 0))), (q_6, .inl (cI, 8, .inl (fun _ => 0)))] := hI
  refine wk_putF (v := .ref q_6) (ty := .array .int) (w' := [(h0, .inr (11, [.int 0, .ref q_1, .ref q_2, .ref q_3, .ref q_4, .ref q_5, .ref q_6, .null, .null, .null, .int 0])), (q_1, .inl (cI, 12, .inl (fun _ => 0))), (q_2, .inl (cI, 12, .inl (fun _ => 0))), (q_3, .inl (cI, 12, .inl (fun _ => 0))), (q_4, .inl (cJ, 12, .inr (.inl (fun _ => 0)))), (q_5, .inl (cI, 8, .inl (fun _ => 0))), (q_6, .inl (cI, 8, .inl (fun _ => 0)))]) hx hb hts (fun w h => wk_in_M w (lay_X12 w h)) tyX12 tyX12_ok nmX12 hown hK hI 0 rfl rfl 6 (by decide) (hts _ (wk_in_M _ mw_500)) rfl rfl hin rfl (by decide +kernel) rfl rfl (Nat.le_of_ble_eq_true rfl) rfl dX12_init_49 (fun H locs hI => ?_)
  refine lv_aload_n hx hb dX12_init_52 rfl (lv_at hl 0 rfl) ?_
  refine lv_bipush (v := 8) hx hb dX12_init_53 (by decide) ?_
  refine wk_newi (N' := 8) hx hb (hts _ (wk_in_M _ mw_83)) hK hI hA (by decide) (by decide) (by decide) (Nat.le_of_ble_eq_true rfl) (Nat.le_of_ble_eq_true rfl) dX12_init_55 (fun q_7 H hI => ?_)
  have hI : wk_I D A s.heap H locs [(h0, .inr (11, [.int 0, .ref q_1, .ref q_2, .ref q_3, .ref q_4, .ref q_5, .ref q_6, .null, .null, .null, .int 0])), (q_1, .inl (cI, 12, .inl (fun _ => 0))), (q_2, .inl (cI, 12, .inl (fun _ => 0))), (q_3, .inl (cI, 12, .inl (fun _ => 0))), (q_4, .inl (cJ, 12, .inr (.inl (fun _ => 0)))), (q_5, .inl (cI, 8, .inl (fun _ => 0))), (q_6, .inl (cI, 8, .inl (fun _ => 0))), (q_7, .inl (cI, 8, .inl (fun _ => 0)))] := hI
  refine wk_putF (v := .ref q_7) (ty := .array .int) (w' := [(h0, .inr (11, [.int 0, .ref q_1, .ref q_2, .ref q_3, .ref q_4, .ref q_5, .ref q_6, .ref q_7, .null, .null, .int 0])), (q_1, .inl (cI, 12, .inl (fun _ => 0))), (q_2, .inl (cI, 12, .inl (fun _ => 0))), (q_3, .inl (cI, 12, .inl (fun _ => 0))), (q_4, .inl (cJ, 12, .inr (.inl (fun _ => 0)))), (q_5, .inl (cI, 8, .inl (fun _ => 0))), (q_6, .inl (cI, 8, .inl (fun _ => 0))), (q_7, .inl (cI, 8, .inl (fun _ => 0)))]) hx hb hts (fun w h => wk_in_M w (lay_X12 w h)) tyX12 tyX12_ok nmX12 hown hK hI 0 rfl rfl 7 (by decide) (hts _ (wk_in_M _ mw_501)) rfl rfl hin rfl (by decide +kernel) rfl rfl (Nat.le_of_ble_eq_true rfl) rfl dX12_init_57 (fun H locs hI => ?_)
  refine lv_aload_n hx hb dX12_init_60 rfl (lv_at hl 0 rfl) ?_
  refine lv_bipush (v := 8) hx hb dX12_init_61 (by decide) ?_
  refine wk_newi (N' := 8) hx hb (hts _ (wk_in_M _ mw_83)) hK hI hA (by decide) (by decide) (by decide) (Nat.le_of_ble_eq_true rfl) (Nat.le_of_ble_eq_true rfl) dX12_init_63 (fun q_8 H hI => ?_)
  have hI : wk_I D A s.heap H locs [(h0, .inr (11, [.int 0, .ref q_1, .ref q_2, .ref q_3, .ref q_4, .ref q_5, .ref q_6, .ref q_7, .null, .null, .int 0])), (q_1, .inl (cI, 12, .inl (fun _ => 0))), (q_2, .inl (cI, 12, .inl (fun _ => 0))), (q_3, .inl (cI, 12, .inl (fun _ => 0))), (q_4, .inl (cJ, 12, .inr (.inl (fun _ => 0)))), (q_5, .inl (cI, 8, .inl (fun _ => 0))), (q_6, .inl (cI, 8, .inl (fun _ => 0))), (q_7, .inl (cI, 8, .inl (fun _ => 0))), (q_8, .inl (cI, 8, .inl (fun _ => 0)))] := hI
  refine wk_putF (v := .ref q_8) (ty := .array .int) (w' := [(h0, .inr (11, [.int 0, .ref q_1, .ref q_2, .ref q_3, .ref q_4, .ref q_5, .ref q_6, .ref q_7, .ref q_8, .null, .int 0])), (q_1, .inl (cI, 12, .inl (fun _ => 0))), (q_2, .inl (cI, 12, .inl (fun _ => 0))), (q_3, .inl (cI, 12, .inl (fun _ => 0))), (q_4, .inl (cJ, 12, .inr (.inl (fun _ => 0)))), (q_5, .inl (cI, 8, .inl (fun _ => 0))), (q_6, .inl (cI, 8, .inl (fun _ => 0))), (q_7, .inl (cI, 8, .inl (fun _ => 0))), (q_8, .inl (cI, 8, .inl (fun _ => 0)))]) hx hb hts (fun w h => wk_in_M w (lay_X12 w h)) tyX12 tyX12_ok nmX12 hown hK hI 0 rfl rfl 8 (by decide) (hts _ (wk_in_M _ mw_502)) rfl rfl hin rfl (by decide +kernel) rfl rfl (Nat.le_of_ble_eq_true rfl) rfl dX12_init_65 (fun H locs hI => ?_)
  refine lv_aload_n hx hb dX12_init_68 rfl (lv_at hl 0 rfl) ?_
  refine lv_bipush (v := 64) hx hb dX12_init_69 (by decide) ?_
  refine wk_newi (N' := 64) hx hb (hts _ (wk_in_M _ mw_83)) hK hI hA (by decide) (by decide) (by decide) (Nat.le_of_ble_eq_true rfl) (Nat.le_of_ble_eq_true rfl) dX12_init_71 (fun q_9 H hI => ?_)
  have hI : wk_I D A s.heap H locs [(h0, .inr (11, [.int 0, .ref q_1, .ref q_2, .ref q_3, .ref q_4, .ref q_5, .ref q_6, .ref q_7, .ref q_8, .null, .int 0])), (q_1, .inl (cI, 12, .inl (fun _ => 0))), (q_2, .inl (cI, 12, .inl (fun _ => 0))), (q_3, .inl (cI, 12, .inl (fun _ => 0))), (q_4, .inl (cJ, 12, .inr (.inl (fun _ => 0)))), (q_5, .inl (cI, 8, .inl (fun _ => 0))), (q_6, .inl (cI, 8, .inl (fun _ => 0))), (q_7, .inl (cI, 8, .inl (fun _ => 0))), (q_8, .inl (cI, 8, .inl (fun _ => 0))), (q_9, .inl (cI, 64, .inl (fun _ => 0)))] := hI
  refine wk_putF (v := .ref q_9) (ty := .array .int) (w' := [(h0, .inr (11, [.int 0, .ref q_1, .ref q_2, .ref q_3, .ref q_4, .ref q_5, .ref q_6, .ref q_7, .ref q_8, .ref q_9, .int 0])), (q_1, .inl (cI, 12, .inl (fun _ => 0))), (q_2, .inl (cI, 12, .inl (fun _ => 0))), (q_3, .inl (cI, 12, .inl (fun _ => 0))), (q_4, .inl (cJ, 12, .inr (.inl (fun _ => 0)))), (q_5, .inl (cI, 8, .inl (fun _ => 0))), (q_6, .inl (cI, 8, .inl (fun _ => 0))), (q_7, .inl (cI, 8, .inl (fun _ => 0))), (q_8, .inl (cI, 8, .inl (fun _ => 0))), (q_9, .inl (cI, 64, .inl (fun _ => 0)))]) hx hb hts (fun w h => wk_in_M w (lay_X12 w h)) tyX12 tyX12_ok nmX12 hown hK hI 0 rfl rfl 9 (by decide) (hts _ (wk_in_M _ mw_503)) rfl rfl hin rfl (by decide +kernel) rfl rfl (Nat.le_of_ble_eq_true rfl) rfl dX12_init_73 (fun H locs hI => ?_)
  refine lv_iconst (v := 0) hx hb dX12_init_76 (by decide) ?_
  refine lv_istore_n (lv' := [(1, .int 0), (0, .ref h0)]) hx hb dX12_init_77 rfl hl (by decide) rfl (fun ls hl => ?_)
  have hI : wk_I D A s.heap H locs [(h0, .inr (11, [.int 0, .ref q_1, .ref q_2, .ref q_3, .ref q_4, .ref q_5, .ref q_6, .ref q_7, .ref q_8, .ref q_9, .int 0])), (q_1, .inl (cI, 12, .inl (fun _ => 0))), (q_2, .inl (cI, 12, .inl (fun _ => 0))), (q_3, .inl (cI, 12, .inl (fun _ => 0))), (q_4, .inl (cJ, 12, .inr (.inl (fun _ => 0)))), (q_5, .inl (cI, 8, .inl (fun j => if j < 0 then -1 else 0))), (q_6, .inl (cI, 8, .inl (fun _ => 0))), (q_7, .inl (cI, 8, .inl (fun _ => 0))), (q_8, .inl (cI, 8, .inl (fun _ => 0))), (q_9, .inl (cI, 64, .inl (fun _ => 0)))] := by rw [← wk_ld_0]; exact hI
  refine wk_loop (fun i H locs ls => wk_I D A s.heap H locs [(h0, .inr (11, [.int 0, .ref q_1, .ref q_2, .ref q_3, .ref q_4, .ref q_5, .ref q_6, .ref q_7, .ref q_8, .ref q_9, .int 0])), (q_1, .inl (cI, 12, .inl (fun _ => 0))), (q_2, .inl (cI, 12, .inl (fun _ => 0))), (q_3, .inl (cI, 12, .inl (fun _ => 0))), (q_4, .inl (cJ, 12, .inr (.inl (fun _ => 0)))), (q_5, .inl (cI, 8, .inl (fun j => if j < i then -1 else 0))), (q_6, .inl (cI, 8, .inl (fun _ => 0))), (q_7, .inl (cI, 8, .inl (fun _ => 0))), (q_8, .inl (cI, 8, .inl (fun _ => 0))), (q_9, .inl (cI, 64, .inl (fun _ => 0)))] ∧ lv_has ls 2 [(0, .ref h0), (1, .int (nI i))]) 8 ?_ ?_ 8 0 _ _ _ (Nat.zero_add _) ⟨hI, lv_sub hl [1, 0] rfl⟩
  · intro H locs ls hinv
    obtain ⟨hI, hl⟩ := hinv
    refine lv_iload_n hx hb dX12_init_78 rfl (lv_at hl 1 rfl) ?_
    refine lv_bipush (v := 8) hx hb dX12_init_79 (by decide) ?_
    refine lv_icmp_ge (tgt := 97) hx hb dX12_init_81 (by decide) (fun c_10 => ?_) (fun c_10 => ?_)
    · exact wk_rv (wx_ad [h0, q_1, q_2, q_3, q_4, q_5, q_6, q_7, q_8, q_9]) hx hb hr hlk hK hI rfl rfl dX12_init_97
    · exact absurd (by decide) c_10
  · intro i H locs ls hi hinv ih
    obtain ⟨hI, hl⟩ := hinv
    refine lv_iload_n hx hb dX12_init_78 rfl (lv_at hl 1 rfl) ?_
    refine lv_bipush (v := 8) hx hb dX12_init_79 (by decide) ?_
    refine lv_icmp_ge (tgt := 97) hx hb dX12_init_81 (by decide) (fun c_11 => ?_) (fun c_11 => ?_)
    · exact absurd c_11 (by simp only [Int32.lt_iff_toInt_lt, Int32.le_iff_toInt_le, nI_toInt (show i < 2 ^ 31 by omega), wk_lit8]; omega)
    · refine lv_aload_n hx hb dX12_init_84 rfl (lv_at hl 0 rfl) ?_
      refine wk_get (v := .ref q_5) hx hb hts (fun w h => wk_in_M w (lay_X12 w h)) hown hK hI 0 rfl rfl 5 (by decide) (hts _ (wk_in_M _ mw_499)) rfl rfl dX12_init_85 ?_
      refine lv_iload_n hx hb dX12_init_88 rfl (lv_at hl 1 rfl) ?_
      refine lv_iconst (v := (-1)) hx hb dX12_init_89 (by decide) ?_
      refine wk_iast (j := i) (w' := [(h0, .inr (11, [.int 0, .ref q_1, .ref q_2, .ref q_3, .ref q_4, .ref q_5, .ref q_6, .ref q_7, .ref q_8, .ref q_9, .int 0])), (q_1, .inl (cI, 12, .inl (fun _ => 0))), (q_2, .inl (cI, 12, .inl (fun _ => 0))), (q_3, .inl (cI, 12, .inl (fun _ => 0))), (q_4, .inl (cJ, 12, .inr (.inl (fun _ => 0)))), (q_5, .inl (cI, 8, .inl (fun j => if j < i + 1 then -1 else 0))), (q_6, .inl (cI, 8, .inl (fun _ => 0))), (q_7, .inl (cI, 8, .inl (fun _ => 0))), (q_8, .inl (cI, 8, .inl (fun _ => 0))), (q_9, .inl (cI, 64, .inl (fun _ => 0)))]) hx hb hK hI 5 0 rfl rfl rfl hi (by decide) (by rw [wk_ld_s]; rfl) dX12_init_90 (fun H locs hI => ?_)
      refine lv_iinc (v := nI (i + 1)) (lv' := [(1, .int (nI (i + 1))), (0, .ref h0)]) hx hb dX12_init_91 hl (k := 1) rfl (nI_1 _) (by decide) rfl (fun ls hl => ?_)
      refine lv_goto (tgt := 78) hx hb dX12_init_94 (by decide) ?_
      exact ih _ _ _ ⟨hI, lv_sub hl [1, 0] rfl⟩
set_option maxHeartbeats 4000000 in
set_option maxRecDepth 100000 in
theorem c_X11_init (l : Launch) (D : va_G) (cI cJ cS : ClassId) (h0 : Nat) : wk_Cv (S := (Nat → Nat)) l D (wk_tys cI cJ cS) yX11_init (wk_M yX11_init cX11_init 2 none) ({ frames := 8, cells := 15, slots := 109, locals := 170 }) [.ref h0] [(h0, .inr (10, [.null, .null, .null, .null, .null, .null]))] (fun ad => wx_W cI cS ad wk_new) (fun ad => ad 0 = h0) := by
  intro sz
  refine Met.ofW (cc := cX11_init) (maxL := 2) (ret := none) (by decide) rfl ?_
  intro p e s m args below meth c s₁ B hml hv
  obtain ⟨rfl, hsz, hP, hK, hD0, hN⟩ := hv
  have hx := B.exec
  have hb := B.bytes
  have hr := B.returns
  have hts := atoms_spec (ws := wk_M yX11_init cX11_init 2 none) B.pre
  have hown : s.vm.findClass RX11 = some m.cls := findClass_of_methodNamed B.named
  have hlk := B.notSynchronized
  have hin : meth.name = "<init>" := (name_of_methodNamed B.named B.method).1
  subst hsz
  have hI : wk_I D (va_A ([(h0, .inr (10, [.null, .null, .null, .null, .null, .null]))]) s.heap.size) s.heap s.heap [] ([(h0, .inr (10, [.null, .null, .null, .null, .null, .null]))]) := ⟨hP, hD0.self, va_S.rf⟩
  have hA : ∀ q : Nat, s.heap.size ≤ q → (va_A ([(h0, .inr (10, [.null, .null, .null, .null, .null, .null]))]) s.heap.size) q := fun q h => Or.inr h
  clear hP hD0
  generalize va_A ([(h0, .inr (10, [.null, .null, .null, .null, .null, .null]))]) s.heap.size = A at hI hA ⊢
  have hl := lv_entry ([.ref h0]) (n := 2) (Nat.le_of_ble_eq_true rfl)
  rw [lg_entry_eq]
  generalize (lg_sl ([.ref h0]) ++ List.replicate (2 - (lg_sl ([.ref h0])).length) Slot.unset).toArray = ls at hl ⊢
  have hl : lv_has ls 2 [(0, .ref h0)] := hl
  refine lv_aload_n hx hb dX11_init_0 rfl (lv_at hl 0 rfl) ?_
  refine W.objInit hx hb hown (hts _ (wk_in_M _ mw_52)) (hts _ (wk_in_M _ mw_53)) (hts _ (wk_in_M _ mw_54)) rfl (by rw [hml]; exact hl.1) rfl dX11_init_1 (Nat.le_of_ble_eq_true rfl) (Nat.le_of_ble_eq_true rfl) ?_
  refine W.eq (g2 := F0 m 4 ls []) rfl ?_
  refine lv_aload_n hx hb dX11_init_4 rfl (lv_at hl 0 rfl) ?_
  refine wk_newO (ci := 2) (fs := [.null, .null, .int 0, .null, .int 0]) (C := RX2) (T := TX2) (N := 5) hx hb hts (fun w h => wk_in_M w (lay_X2 w h)) tyX2 tyX2_ok hown (hts _ (wk_in_M _ mw_55)) (hts _ (wk_in_M _ mw_56)) (hts _ (wk_in_M _ mw_35)) hK hI hA rfl (fun j hj => by rcases (show j = 0 ∨ j = 1 ∨ j = 2 ∨ j = 3 ∨ j = 4 by omega) with rfl | rfl | rfl | rfl | rfl <;> rfl) (Nat.le_of_ble_eq_true rfl) (Nat.le_of_ble_eq_true rfl) dX11_init_5 (fun q_1 H hI => ?_)
  have hI : wk_I D A s.heap H [] [(h0, .inr (10, [.null, .null, .null, .null, .null, .null])), (q_1, .inr (2, [.null, .null, .int 0, .null, .int 0]))] := hI
  refine lv_dup hx hb dX11_init_8 rfl ?_
  have hI9 : wk_I D A s.heap H [] ([(h0, .inr (10, [.null, .null, .null, .null, .null, .null]))] ++ [(q_1, .inr (2, [.null, .null, .int 0, .null, .int 0]))]) := hI
  refine wk_fV hI9 hA (va_runIN (As := []) (rest := [.ref q_1, .ref h0]) ⟨hx, hb, hml, hown, hts⟩ (c_X2_init l D cI cJ cS q_1 _) (wk_cwN 0 hts wk_in_M (hN.1 _ mx_57) mw_58 mw_35 mw_59 rfl (hdX2_init).2 ⟨(Nat.le_of_ble_eq_true rfl), (Nat.le_of_ble_eq_true rfl)⟩) (wk_preS hN hK hI9.right) rfl rfl hl.1 rfl (lv_room (Nat.le_of_ble_eq_true rfl)) dX11_init_9 ⟨(Nat.le_of_ble_eq_true rfl), (Nat.le_of_ble_eq_true rfl)⟩) (fun u H locs hw hI => ?_)
  obtain ⟨q_2, hk9⟩ : ∃ z, z = u := ⟨_, rfl⟩
  rw [← hk9] at hI
  have hI : wk_I D A s.heap H locs [(h0, .inr (10, [.null, .null, .null, .null, .null, .null])), (q_1, .inr (2, [.null, .null, .int 0, .ref q_2, .int 0])), (q_2, .inl (cI, 64, .inl (fun _ => 0)))] := hI
  refine wk_putF (v := .ref q_1) (ty := .object "WatchBill$Crew") (w' := [(h0, .inr (10, [.ref q_1, .null, .null, .null, .null, .null])), (q_1, .inr (2, [.null, .null, .int 0, .ref q_2, .int 0])), (q_2, .inl (cI, 64, .inl (fun _ => 0)))]) hx hb hts (fun w h => wk_in_M w (lay_X11 w h)) tyX11 tyX11_ok nmX11 hown hK hI 0 rfl rfl 0 (by decide) (hts _ (wk_in_M _ mw_145)) rfl rfl hin rfl (by decide +kernel) rfl rfl (Nat.le_of_ble_eq_true rfl) rfl dX11_init_12 (fun H locs hI => ?_)
  refine lv_aload_n hx hb dX11_init_15 rfl (lv_at hl 0 rfl) ?_
  refine lv_bipush (v := 8) hx hb dX11_init_16 (by decide) ?_
  refine wk_newq (N' := 8) hx hb hown (hts _ (wk_in_M _ mw_84)) hN hK hI hA (by decide) (by decide) (by decide) (Nat.le_of_ble_eq_true rfl) (Nat.le_of_ble_eq_true rfl) dX11_init_18 (fun q_3 H hI => ?_)
  have hI : wk_I D A s.heap H locs [(h0, .inr (10, [.ref q_1, .null, .null, .null, .null, .null])), (q_1, .inr (2, [.null, .null, .int 0, .ref q_2, .int 0])), (q_2, .inl (cI, 64, .inl (fun _ => 0))), (q_3, .inl (cS, 8, .inr (.inr (.inr (.inr (fun _ => none))))))] := hI
  refine lv_dup hx hb dX11_init_21 rfl ?_
  refine lv_iconst (v := 0) hx hb dX11_init_22 (by decide) ?_
  refine wk_newO (ci := 3) (fs := []) (C := RX3) (T := TX3) (N := 0) hx hb hts (fun w h => absurd h List.not_mem_nil) tyX3 tyX3_ok hown (hts _ (wk_in_M _ mw_86)) (hts _ (wk_in_M _ mw_87)) (hts _ (wk_in_M _ mw_37)) hK hI hA rfl (fun j hj => absurd hj (Nat.not_lt_zero _)) (Nat.le_of_ble_eq_true rfl) (Nat.le_of_ble_eq_true rfl) dX11_init_23 (fun q_4 H hI => ?_)
  have hI : wk_I D A s.heap H locs [(h0, .inr (10, [.ref q_1, .null, .null, .null, .null, .null])), (q_1, .inr (2, [.null, .null, .int 0, .ref q_2, .int 0])), (q_2, .inl (cI, 64, .inl (fun _ => 0))), (q_3, .inl (cS, 8, .inr (.inr (.inr (.inr (fun _ => none)))))), (q_4, .inr (3, []))] := hI
  refine lv_dup hx hb dX11_init_26 rfl ?_
  have hI9 : wk_I D A s.heap H locs ([(h0, .inr (10, [.ref q_1, .null, .null, .null, .null, .null])), (q_1, .inr (2, [.null, .null, .int 0, .ref q_2, .int 0])), (q_2, .inl (cI, 64, .inl (fun _ => 0))), (q_3, .inl (cS, 8, .inr (.inr (.inr (.inr (fun _ => none)))))), (q_4, .inr (3, []))] ++ []) := hI
  refine wk_fV hI9 hA (va_runIN (As := []) (rest := [.ref q_4, .int 0, .ref q_3, .ref q_3, .ref h0]) ⟨hx, hb, hml, hown, hts⟩ (c_X3_init l D cI cJ cS q_4 _) (wk_cwN 0 hts wk_in_M (hN.1 _ mx_88) mw_89 mw_37 mw_90 rfl (hdX3_init).2 ⟨(Nat.le_of_ble_eq_true rfl), (Nat.le_of_ble_eq_true rfl)⟩) (wk_preS hN hK hI9.right) rfl rfl hl.1 rfl (lv_room (Nat.le_of_ble_eq_true rfl)) dX11_init_27 ⟨(Nat.le_of_ble_eq_true rfl), (Nat.le_of_ble_eq_true rfl)⟩) (fun u H locs hw hI => ?_)
  have hI : wk_I D A s.heap H locs [(h0, .inr (10, [.ref q_1, .null, .null, .null, .null, .null])), (q_1, .inr (2, [.null, .null, .int 0, .ref q_2, .int 0])), (q_2, .inl (cI, 64, .inl (fun _ => 0))), (q_3, .inl (cS, 8, .inr (.inr (.inr (.inr (fun _ => none)))))), (q_4, .inr (3, []))] := hI
  refine wk_aast hx hb hK hI 3 4 3 (j := 0) rfl (hN.1 _ mx_747) rfl rfl rfl (by decide) (by decide) dX11_init_30 (fun H locs hI => ?_)
  have hI : wk_I D A s.heap H locs [(h0, .inr (10, [.ref q_1, .null, .null, .null, .null, .null])), (q_1, .inr (2, [.null, .null, .int 0, .ref q_2, .int 0])), (q_2, .inl (cI, 64, .inl (fun _ => 0))), (q_3, .inl (cS, 8, .inr (.inr (.inr (.inr (va_up (fun _ => none) 0 (some q_4))))))), (q_4, .inr (3, []))] := hI
  refine lv_dup hx hb dX11_init_31 rfl ?_
  refine lv_iconst (v := 1) hx hb dX11_init_32 (by decide) ?_
  refine wk_newO (ci := 7) (fs := []) (C := RX7) (T := TX7) (N := 0) hx hb hts (fun w h => absurd h List.not_mem_nil) tyX7 tyX7_ok hown (hts _ (wk_in_M _ mw_96)) (hts _ (wk_in_M _ mw_97)) (hts _ (wk_in_M _ mw_38)) hK hI hA rfl (fun j hj => absurd hj (Nat.not_lt_zero _)) (Nat.le_of_ble_eq_true rfl) (Nat.le_of_ble_eq_true rfl) dX11_init_33 (fun q_5 H hI => ?_)
  have hI : wk_I D A s.heap H locs [(h0, .inr (10, [.ref q_1, .null, .null, .null, .null, .null])), (q_1, .inr (2, [.null, .null, .int 0, .ref q_2, .int 0])), (q_2, .inl (cI, 64, .inl (fun _ => 0))), (q_3, .inl (cS, 8, .inr (.inr (.inr (.inr (va_up (fun _ => none) 0 (some q_4))))))), (q_4, .inr (3, [])), (q_5, .inr (7, []))] := hI
  refine lv_dup hx hb dX11_init_36 rfl ?_
  have hI9 : wk_I D A s.heap H locs ([(h0, .inr (10, [.ref q_1, .null, .null, .null, .null, .null])), (q_1, .inr (2, [.null, .null, .int 0, .ref q_2, .int 0])), (q_2, .inl (cI, 64, .inl (fun _ => 0))), (q_3, .inl (cS, 8, .inr (.inr (.inr (.inr (va_up (fun _ => none) 0 (some q_4))))))), (q_4, .inr (3, [])), (q_5, .inr (7, []))] ++ []) := hI
  refine wk_fV hI9 hA (va_runIN (As := []) (rest := [.ref q_5, .int 1, .ref q_3, .ref q_3, .ref h0]) ⟨hx, hb, hml, hown, hts⟩ (c_X7_init l D cI cJ cS q_5 _) (wk_cwN 0 hts wk_in_M (hN.1 _ mx_98) mw_99 mw_38 mw_100 rfl (hdX7_init).2 ⟨(Nat.le_of_ble_eq_true rfl), (Nat.le_of_ble_eq_true rfl)⟩) (wk_preS hN hK hI9.right) rfl rfl hl.1 rfl (lv_room (Nat.le_of_ble_eq_true rfl)) dX11_init_37 ⟨(Nat.le_of_ble_eq_true rfl), (Nat.le_of_ble_eq_true rfl)⟩) (fun u H locs hw hI => ?_)
  have hI : wk_I D A s.heap H locs [(h0, .inr (10, [.ref q_1, .null, .null, .null, .null, .null])), (q_1, .inr (2, [.null, .null, .int 0, .ref q_2, .int 0])), (q_2, .inl (cI, 64, .inl (fun _ => 0))), (q_3, .inl (cS, 8, .inr (.inr (.inr (.inr (va_up (fun _ => none) 0 (some q_4))))))), (q_4, .inr (3, [])), (q_5, .inr (7, []))] := hI
  refine wk_aast hx hb hK hI 3 5 7 (j := 1) rfl (hN.1 _ mx_750) rfl rfl rfl (by decide) (by decide) dX11_init_40 (fun H locs hI => ?_)
  have hI : wk_I D A s.heap H locs [(h0, .inr (10, [.ref q_1, .null, .null, .null, .null, .null])), (q_1, .inr (2, [.null, .null, .int 0, .ref q_2, .int 0])), (q_2, .inl (cI, 64, .inl (fun _ => 0))), (q_3, .inl (cS, 8, .inr (.inr (.inr (.inr (va_up (va_up (fun _ => none) 0 (some q_4)) 1 (some q_5))))))), (q_4, .inr (3, [])), (q_5, .inr (7, []))] := hI
  refine lv_dup hx hb dX11_init_41 rfl ?_
  refine lv_iconst (v := 2) hx hb dX11_init_42 (by decide) ?_
  refine wk_newO (ci := 9) (fs := []) (C := RX10) (T := TX10) (N := 0) hx hb hts (fun w h => absurd h List.not_mem_nil) tyX10 tyX10_ok hown (hts _ (wk_in_M _ mw_103)) (hts _ (wk_in_M _ mw_104)) (hts _ (wk_in_M _ mw_39)) hK hI hA rfl (fun j hj => absurd hj (Nat.not_lt_zero _)) (Nat.le_of_ble_eq_true rfl) (Nat.le_of_ble_eq_true rfl) dX11_init_43 (fun q_6 H hI => ?_)
  have hI : wk_I D A s.heap H locs [(h0, .inr (10, [.ref q_1, .null, .null, .null, .null, .null])), (q_1, .inr (2, [.null, .null, .int 0, .ref q_2, .int 0])), (q_2, .inl (cI, 64, .inl (fun _ => 0))), (q_3, .inl (cS, 8, .inr (.inr (.inr (.inr (va_up (va_up (fun _ => none) 0 (some q_4)) 1 (some q_5))))))), (q_4, .inr (3, [])), (q_5, .inr (7, [])), (q_6, .inr (9, []))] := hI
  refine lv_dup hx hb dX11_init_46 rfl ?_
  have hI9 : wk_I D A s.heap H locs ([(h0, .inr (10, [.ref q_1, .null, .null, .null, .null, .null])), (q_1, .inr (2, [.null, .null, .int 0, .ref q_2, .int 0])), (q_2, .inl (cI, 64, .inl (fun _ => 0))), (q_3, .inl (cS, 8, .inr (.inr (.inr (.inr (va_up (va_up (fun _ => none) 0 (some q_4)) 1 (some q_5))))))), (q_4, .inr (3, [])), (q_5, .inr (7, [])), (q_6, .inr (9, []))] ++ []) := hI
  refine wk_fV hI9 hA (va_runIN (As := []) (rest := [.ref q_6, .int 2, .ref q_3, .ref q_3, .ref h0]) ⟨hx, hb, hml, hown, hts⟩ (c_X10_init l D cI cJ cS q_6 _) (wk_cwN 0 hts wk_in_M (hN.1 _ mx_105) mw_106 mw_39 mw_107 rfl (hdX10_init).2 ⟨(Nat.le_of_ble_eq_true rfl), (Nat.le_of_ble_eq_true rfl)⟩) (wk_preS hN hK hI9.right) rfl rfl hl.1 rfl (lv_room (Nat.le_of_ble_eq_true rfl)) dX11_init_47 ⟨(Nat.le_of_ble_eq_true rfl), (Nat.le_of_ble_eq_true rfl)⟩) (fun u H locs hw hI => ?_)
  have hI : wk_I D A s.heap H locs [(h0, .inr (10, [.ref q_1, .null, .null, .null, .null, .null])), (q_1, .inr (2, [.null, .null, .int 0, .ref q_2, .int 0])), (q_2, .inl (cI, 64, .inl (fun _ => 0))), (q_3, .inl (cS, 8, .inr (.inr (.inr (.inr (va_up (va_up (fun _ => none) 0 (some q_4)) 1 (some q_5))))))), (q_4, .inr (3, [])), (q_5, .inr (7, [])), (q_6, .inr (9, []))] := hI
  refine wk_aast hx hb hK hI 3 6 9 (j := 2) rfl (hN.1 _ mx_752) rfl rfl rfl (by decide) (by decide) dX11_init_50 (fun H locs hI => ?_)
  have hI : wk_I D A s.heap H locs [(h0, .inr (10, [.ref q_1, .null, .null, .null, .null, .null])), (q_1, .inr (2, [.null, .null, .int 0, .ref q_2, .int 0])), (q_2, .inl (cI, 64, .inl (fun _ => 0))), (q_3, .inl (cS, 8, .inr (.inr (.inr (.inr (va_up (va_up (va_up (fun _ => none) 0 (some q_4)) 1 (some q_5)) 2 (some q_6))))))), (q_4, .inr (3, [])), (q_5, .inr (7, [])), (q_6, .inr (9, []))] := hI
  refine lv_dup hx hb dX11_init_51 rfl ?_
  refine lv_iconst (v := 3) hx hb dX11_init_52 (by decide) ?_
  refine wk_newO (ci := 0) (fs := []) (C := RX0) (T := TX0) (N := 0) hx hb hts (fun w h => absurd h List.not_mem_nil) tyX0 tyX0_ok hown (hts _ (wk_in_M _ mw_110)) (hts _ (wk_in_M _ mw_111)) (hts _ (wk_in_M _ mw_40)) hK hI hA rfl (fun j hj => absurd hj (Nat.not_lt_zero _)) (Nat.le_of_ble_eq_true rfl) (Nat.le_of_ble_eq_true rfl) dX11_init_53 (fun q_7 H hI => ?_)
  have hI : wk_I D A s.heap H locs [(h0, .inr (10, [.ref q_1, .null, .null, .null, .null, .null])), (q_1, .inr (2, [.null, .null, .int 0, .ref q_2, .int 0])), (q_2, .inl (cI, 64, .inl (fun _ => 0))), (q_3, .inl (cS, 8, .inr (.inr (.inr (.inr (va_up (va_up (va_up (fun _ => none) 0 (some q_4)) 1 (some q_5)) 2 (some q_6))))))), (q_4, .inr (3, [])), (q_5, .inr (7, [])), (q_6, .inr (9, [])), (q_7, .inr (0, []))] := hI
  refine lv_dup hx hb dX11_init_56 rfl ?_
  have hI9 : wk_I D A s.heap H locs ([(h0, .inr (10, [.ref q_1, .null, .null, .null, .null, .null])), (q_1, .inr (2, [.null, .null, .int 0, .ref q_2, .int 0])), (q_2, .inl (cI, 64, .inl (fun _ => 0))), (q_3, .inl (cS, 8, .inr (.inr (.inr (.inr (va_up (va_up (va_up (fun _ => none) 0 (some q_4)) 1 (some q_5)) 2 (some q_6))))))), (q_4, .inr (3, [])), (q_5, .inr (7, [])), (q_6, .inr (9, [])), (q_7, .inr (0, []))] ++ []) := hI
  refine wk_fV hI9 hA (va_runIN (As := []) (rest := [.ref q_7, .int 3, .ref q_3, .ref q_3, .ref h0]) ⟨hx, hb, hml, hown, hts⟩ (c_X0_init l D cI cJ cS q_7 _) (wk_cwN 0 hts wk_in_M (hN.1 _ mx_112) mw_113 mw_40 mw_114 rfl (hdX0_init).2 ⟨(Nat.le_of_ble_eq_true rfl), (Nat.le_of_ble_eq_true rfl)⟩) (wk_preS hN hK hI9.right) rfl rfl hl.1 rfl (lv_room (Nat.le_of_ble_eq_true rfl)) dX11_init_57 ⟨(Nat.le_of_ble_eq_true rfl), (Nat.le_of_ble_eq_true rfl)⟩) (fun u H locs hw hI => ?_)
  have hI : wk_I D A s.heap H locs [(h0, .inr (10, [.ref q_1, .null, .null, .null, .null, .null])), (q_1, .inr (2, [.null, .null, .int 0, .ref q_2, .int 0])), (q_2, .inl (cI, 64, .inl (fun _ => 0))), (q_3, .inl (cS, 8, .inr (.inr (.inr (.inr (va_up (va_up (va_up (fun _ => none) 0 (some q_4)) 1 (some q_5)) 2 (some q_6))))))), (q_4, .inr (3, [])), (q_5, .inr (7, [])), (q_6, .inr (9, [])), (q_7, .inr (0, []))] := hI
  refine wk_aast hx hb hK hI 3 7 0 (j := 3) rfl (hN.1 _ mx_745) rfl rfl rfl (by decide) (by decide) dX11_init_60 (fun H locs hI => ?_)
  have hI : wk_I D A s.heap H locs [(h0, .inr (10, [.ref q_1, .null, .null, .null, .null, .null])), (q_1, .inr (2, [.null, .null, .int 0, .ref q_2, .int 0])), (q_2, .inl (cI, 64, .inl (fun _ => 0))), (q_3, .inl (cS, 8, .inr (.inr (.inr (.inr (va_up (va_up (va_up (va_up (fun _ => none) 0 (some q_4)) 1 (some q_5)) 2 (some q_6)) 3 (some q_7))))))), (q_4, .inr (3, [])), (q_5, .inr (7, [])), (q_6, .inr (9, [])), (q_7, .inr (0, []))] := hI
  refine lv_dup hx hb dX11_init_61 rfl ?_
  refine lv_iconst (v := 4) hx hb dX11_init_62 (by decide) ?_
  refine wk_newO (ci := 5) (fs := []) (C := RX5) (T := TX5) (N := 0) hx hb hts (fun w h => absurd h List.not_mem_nil) tyX5 tyX5_ok hown (hts _ (wk_in_M _ mw_117)) (hts _ (wk_in_M _ mw_118)) (hts _ (wk_in_M _ mw_41)) hK hI hA rfl (fun j hj => absurd hj (Nat.not_lt_zero _)) (Nat.le_of_ble_eq_true rfl) (Nat.le_of_ble_eq_true rfl) dX11_init_63 (fun q_8 H hI => ?_)
  have hI : wk_I D A s.heap H locs [(h0, .inr (10, [.ref q_1, .null, .null, .null, .null, .null])), (q_1, .inr (2, [.null, .null, .int 0, .ref q_2, .int 0])), (q_2, .inl (cI, 64, .inl (fun _ => 0))), (q_3, .inl (cS, 8, .inr (.inr (.inr (.inr (va_up (va_up (va_up (va_up (fun _ => none) 0 (some q_4)) 1 (some q_5)) 2 (some q_6)) 3 (some q_7))))))), (q_4, .inr (3, [])), (q_5, .inr (7, [])), (q_6, .inr (9, [])), (q_7, .inr (0, [])), (q_8, .inr (5, []))] := hI
  refine lv_dup hx hb dX11_init_66 rfl ?_
  have hI9 : wk_I D A s.heap H locs ([(h0, .inr (10, [.ref q_1, .null, .null, .null, .null, .null])), (q_1, .inr (2, [.null, .null, .int 0, .ref q_2, .int 0])), (q_2, .inl (cI, 64, .inl (fun _ => 0))), (q_3, .inl (cS, 8, .inr (.inr (.inr (.inr (va_up (va_up (va_up (va_up (fun _ => none) 0 (some q_4)) 1 (some q_5)) 2 (some q_6)) 3 (some q_7))))))), (q_4, .inr (3, [])), (q_5, .inr (7, [])), (q_6, .inr (9, [])), (q_7, .inr (0, [])), (q_8, .inr (5, []))] ++ []) := hI
  refine wk_fV hI9 hA (va_runIN (As := []) (rest := [.ref q_8, .int 4, .ref q_3, .ref q_3, .ref h0]) ⟨hx, hb, hml, hown, hts⟩ (c_X5_init l D cI cJ cS q_8 _) (wk_cwN 0 hts wk_in_M (hN.1 _ mx_119) mw_120 mw_41 mw_121 rfl (hdX5_init).2 ⟨(Nat.le_of_ble_eq_true rfl), (Nat.le_of_ble_eq_true rfl)⟩) (wk_preS hN hK hI9.right) rfl rfl hl.1 rfl (lv_room (Nat.le_of_ble_eq_true rfl)) dX11_init_67 ⟨(Nat.le_of_ble_eq_true rfl), (Nat.le_of_ble_eq_true rfl)⟩) (fun u H locs hw hI => ?_)
  have hI : wk_I D A s.heap H locs [(h0, .inr (10, [.ref q_1, .null, .null, .null, .null, .null])), (q_1, .inr (2, [.null, .null, .int 0, .ref q_2, .int 0])), (q_2, .inl (cI, 64, .inl (fun _ => 0))), (q_3, .inl (cS, 8, .inr (.inr (.inr (.inr (va_up (va_up (va_up (va_up (fun _ => none) 0 (some q_4)) 1 (some q_5)) 2 (some q_6)) 3 (some q_7))))))), (q_4, .inr (3, [])), (q_5, .inr (7, [])), (q_6, .inr (9, [])), (q_7, .inr (0, [])), (q_8, .inr (5, []))] := hI
  refine wk_aast hx hb hK hI 3 8 5 (j := 4) rfl (hN.1 _ mx_749) rfl rfl rfl (by decide) (by decide) dX11_init_70 (fun H locs hI => ?_)
  have hI : wk_I D A s.heap H locs [(h0, .inr (10, [.ref q_1, .null, .null, .null, .null, .null])), (q_1, .inr (2, [.null, .null, .int 0, .ref q_2, .int 0])), (q_2, .inl (cI, 64, .inl (fun _ => 0))), (q_3, .inl (cS, 8, .inr (.inr (.inr (.inr (va_up (va_up (va_up (va_up (va_up (fun _ => none) 0 (some q_4)) 1 (some q_5)) 2 (some q_6)) 3 (some q_7)) 4 (some q_8))))))), (q_4, .inr (3, [])), (q_5, .inr (7, [])), (q_6, .inr (9, [])), (q_7, .inr (0, [])), (q_8, .inr (5, []))] := hI
  refine lv_dup hx hb dX11_init_71 rfl ?_
  refine lv_iconst (v := 5) hx hb dX11_init_72 (by decide) ?_
  refine wk_newO (ci := 4) (fs := []) (C := RX4) (T := TX4) (N := 0) hx hb hts (fun w h => absurd h List.not_mem_nil) tyX4 tyX4_ok hown (hts _ (wk_in_M _ mw_124)) (hts _ (wk_in_M _ mw_125)) (hts _ (wk_in_M _ mw_42)) hK hI hA rfl (fun j hj => absurd hj (Nat.not_lt_zero _)) (Nat.le_of_ble_eq_true rfl) (Nat.le_of_ble_eq_true rfl) dX11_init_73 (fun q_9 H hI => ?_)
  have hI : wk_I D A s.heap H locs [(h0, .inr (10, [.ref q_1, .null, .null, .null, .null, .null])), (q_1, .inr (2, [.null, .null, .int 0, .ref q_2, .int 0])), (q_2, .inl (cI, 64, .inl (fun _ => 0))), (q_3, .inl (cS, 8, .inr (.inr (.inr (.inr (va_up (va_up (va_up (va_up (va_up (fun _ => none) 0 (some q_4)) 1 (some q_5)) 2 (some q_6)) 3 (some q_7)) 4 (some q_8))))))), (q_4, .inr (3, [])), (q_5, .inr (7, [])), (q_6, .inr (9, [])), (q_7, .inr (0, [])), (q_8, .inr (5, [])), (q_9, .inr (4, []))] := hI
  refine lv_dup hx hb dX11_init_76 rfl ?_
  have hI9 : wk_I D A s.heap H locs ([(h0, .inr (10, [.ref q_1, .null, .null, .null, .null, .null])), (q_1, .inr (2, [.null, .null, .int 0, .ref q_2, .int 0])), (q_2, .inl (cI, 64, .inl (fun _ => 0))), (q_3, .inl (cS, 8, .inr (.inr (.inr (.inr (va_up (va_up (va_up (va_up (va_up (fun _ => none) 0 (some q_4)) 1 (some q_5)) 2 (some q_6)) 3 (some q_7)) 4 (some q_8))))))), (q_4, .inr (3, [])), (q_5, .inr (7, [])), (q_6, .inr (9, [])), (q_7, .inr (0, [])), (q_8, .inr (5, [])), (q_9, .inr (4, []))] ++ []) := hI
  refine wk_fV hI9 hA (va_runIN (As := []) (rest := [.ref q_9, .int 5, .ref q_3, .ref q_3, .ref h0]) ⟨hx, hb, hml, hown, hts⟩ (c_X4_init l D cI cJ cS q_9 _) (wk_cwN 0 hts wk_in_M (hN.1 _ mx_126) mw_127 mw_42 mw_128 rfl (hdX4_init).2 ⟨(Nat.le_of_ble_eq_true rfl), (Nat.le_of_ble_eq_true rfl)⟩) (wk_preS hN hK hI9.right) rfl rfl hl.1 rfl (lv_room (Nat.le_of_ble_eq_true rfl)) dX11_init_77 ⟨(Nat.le_of_ble_eq_true rfl), (Nat.le_of_ble_eq_true rfl)⟩) (fun u H locs hw hI => ?_)
  have hI : wk_I D A s.heap H locs [(h0, .inr (10, [.ref q_1, .null, .null, .null, .null, .null])), (q_1, .inr (2, [.null, .null, .int 0, .ref q_2, .int 0])), (q_2, .inl (cI, 64, .inl (fun _ => 0))), (q_3, .inl (cS, 8, .inr (.inr (.inr (.inr (va_up (va_up (va_up (va_up (va_up (fun _ => none) 0 (some q_4)) 1 (some q_5)) 2 (some q_6)) 3 (some q_7)) 4 (some q_8))))))), (q_4, .inr (3, [])), (q_5, .inr (7, [])), (q_6, .inr (9, [])), (q_7, .inr (0, [])), (q_8, .inr (5, [])), (q_9, .inr (4, []))] := hI
  refine wk_aast hx hb hK hI 3 9 4 (j := 5) rfl (hN.1 _ mx_748) rfl rfl rfl (by decide) (by decide) dX11_init_80 (fun H locs hI => ?_)
  have hI : wk_I D A s.heap H locs [(h0, .inr (10, [.ref q_1, .null, .null, .null, .null, .null])), (q_1, .inr (2, [.null, .null, .int 0, .ref q_2, .int 0])), (q_2, .inl (cI, 64, .inl (fun _ => 0))), (q_3, .inl (cS, 8, .inr (.inr (.inr (.inr (va_up (va_up (va_up (va_up (va_up (va_up (fun _ => none) 0 (some q_4)) 1 (some q_5)) 2 (some q_6)) 3 (some q_7)) 4 (some q_8)) 5 (some q_9))))))), (q_4, .inr (3, [])), (q_5, .inr (7, [])), (q_6, .inr (9, [])), (q_7, .inr (0, [])), (q_8, .inr (5, [])), (q_9, .inr (4, []))] := hI
  refine lv_dup hx hb dX11_init_81 rfl ?_
  refine lv_bipush (v := 6) hx hb dX11_init_82 (by decide) ?_
  refine wk_newO (ci := 1) (fs := []) (C := RX1) (T := TX1) (N := 0) hx hb hts (fun w h => absurd h List.not_mem_nil) tyX1 tyX1_ok hown (hts _ (wk_in_M _ mw_131)) (hts _ (wk_in_M _ mw_132)) (hts _ (wk_in_M _ mw_43)) hK hI hA rfl (fun j hj => absurd hj (Nat.not_lt_zero _)) (Nat.le_of_ble_eq_true rfl) (Nat.le_of_ble_eq_true rfl) dX11_init_84 (fun q_10 H hI => ?_)
  have hI : wk_I D A s.heap H locs [(h0, .inr (10, [.ref q_1, .null, .null, .null, .null, .null])), (q_1, .inr (2, [.null, .null, .int 0, .ref q_2, .int 0])), (q_2, .inl (cI, 64, .inl (fun _ => 0))), (q_3, .inl (cS, 8, .inr (.inr (.inr (.inr (va_up (va_up (va_up (va_up (va_up (va_up (fun _ => none) 0 (some q_4)) 1 (some q_5)) 2 (some q_6)) 3 (some q_7)) 4 (some q_8)) 5 (some q_9))))))), (q_4, .inr (3, [])), (q_5, .inr (7, [])), (q_6, .inr (9, [])), (q_7, .inr (0, [])), (q_8, .inr (5, [])), (q_9, .inr (4, [])), (q_10, .inr (1, []))] := hI
  refine lv_dup hx hb dX11_init_87 rfl ?_
  have hI9 : wk_I D A s.heap H locs ([(h0, .inr (10, [.ref q_1, .null, .null, .null, .null, .null])), (q_1, .inr (2, [.null, .null, .int 0, .ref q_2, .int 0])), (q_2, .inl (cI, 64, .inl (fun _ => 0))), (q_3, .inl (cS, 8, .inr (.inr (.inr (.inr (va_up (va_up (va_up (va_up (va_up (va_up (fun _ => none) 0 (some q_4)) 1 (some q_5)) 2 (some q_6)) 3 (some q_7)) 4 (some q_8)) 5 (some q_9))))))), (q_4, .inr (3, [])), (q_5, .inr (7, [])), (q_6, .inr (9, [])), (q_7, .inr (0, [])), (q_8, .inr (5, [])), (q_9, .inr (4, [])), (q_10, .inr (1, []))] ++ []) := hI
  refine wk_fV hI9 hA (va_runIN (As := []) (rest := [.ref q_10, .int 6, .ref q_3, .ref q_3, .ref h0]) ⟨hx, hb, hml, hown, hts⟩ (c_X1_init l D cI cJ cS q_10 _) (wk_cwN 0 hts wk_in_M (hN.1 _ mx_133) mw_134 mw_43 mw_135 rfl (hdX1_init).2 ⟨(Nat.le_of_ble_eq_true rfl), (Nat.le_of_ble_eq_true rfl)⟩) (wk_preS hN hK hI9.right) rfl rfl hl.1 rfl (lv_room (Nat.le_of_ble_eq_true rfl)) dX11_init_88 ⟨(Nat.le_of_ble_eq_true rfl), (Nat.le_of_ble_eq_true rfl)⟩) (fun u H locs hw hI => ?_)
  have hI : wk_I D A s.heap H locs [(h0, .inr (10, [.ref q_1, .null, .null, .null, .null, .null])), (q_1, .inr (2, [.null, .null, .int 0, .ref q_2, .int 0])), (q_2, .inl (cI, 64, .inl (fun _ => 0))), (q_3, .inl (cS, 8, .inr (.inr (.inr (.inr (va_up (va_up (va_up (va_up (va_up (va_up (fun _ => none) 0 (some q_4)) 1 (some q_5)) 2 (some q_6)) 3 (some q_7)) 4 (some q_8)) 5 (some q_9))))))), (q_4, .inr (3, [])), (q_5, .inr (7, [])), (q_6, .inr (9, [])), (q_7, .inr (0, [])), (q_8, .inr (5, [])), (q_9, .inr (4, [])), (q_10, .inr (1, []))] := hI
  refine wk_aast hx hb hK hI 3 10 1 (j := 6) rfl (hN.1 _ mx_746) rfl rfl rfl (by decide) (by decide) dX11_init_91 (fun H locs hI => ?_)
  have hI : wk_I D A s.heap H locs [(h0, .inr (10, [.ref q_1, .null, .null, .null, .null, .null])), (q_1, .inr (2, [.null, .null, .int 0, .ref q_2, .int 0])), (q_2, .inl (cI, 64, .inl (fun _ => 0))), (q_3, .inl (cS, 8, .inr (.inr (.inr (.inr (va_up (va_up (va_up (va_up (va_up (va_up (va_up (fun _ => none) 0 (some q_4)) 1 (some q_5)) 2 (some q_6)) 3 (some q_7)) 4 (some q_8)) 5 (some q_9)) 6 (some q_10))))))), (q_4, .inr (3, [])), (q_5, .inr (7, [])), (q_6, .inr (9, [])), (q_7, .inr (0, [])), (q_8, .inr (5, [])), (q_9, .inr (4, [])), (q_10, .inr (1, []))] := hI
  refine lv_dup hx hb dX11_init_92 rfl ?_
  refine lv_bipush (v := 7) hx hb dX11_init_93 (by decide) ?_
  refine wk_newO (ci := 8) (fs := []) (C := RX9) (T := TX9) (N := 0) hx hb hts (fun w h => absurd h List.not_mem_nil) tyX9 tyX9_ok hown (hts _ (wk_in_M _ mw_138)) (hts _ (wk_in_M _ mw_139)) (hts _ (wk_in_M _ mw_44)) hK hI hA rfl (fun j hj => absurd hj (Nat.not_lt_zero _)) (Nat.le_of_ble_eq_true rfl) (Nat.le_of_ble_eq_true rfl) dX11_init_95 (fun q_11 H hI => ?_)
  have hI : wk_I D A s.heap H locs [(h0, .inr (10, [.ref q_1, .null, .null, .null, .null, .null])), (q_1, .inr (2, [.null, .null, .int 0, .ref q_2, .int 0])), (q_2, .inl (cI, 64, .inl (fun _ => 0))), (q_3, .inl (cS, 8, .inr (.inr (.inr (.inr (va_up (va_up (va_up (va_up (va_up (va_up (va_up (fun _ => none) 0 (some q_4)) 1 (some q_5)) 2 (some q_6)) 3 (some q_7)) 4 (some q_8)) 5 (some q_9)) 6 (some q_10))))))), (q_4, .inr (3, [])), (q_5, .inr (7, [])), (q_6, .inr (9, [])), (q_7, .inr (0, [])), (q_8, .inr (5, [])), (q_9, .inr (4, [])), (q_10, .inr (1, [])), (q_11, .inr (8, []))] := hI
  refine lv_dup hx hb dX11_init_98 rfl ?_
  have hI9 : wk_I D A s.heap H locs ([(h0, .inr (10, [.ref q_1, .null, .null, .null, .null, .null])), (q_1, .inr (2, [.null, .null, .int 0, .ref q_2, .int 0])), (q_2, .inl (cI, 64, .inl (fun _ => 0))), (q_3, .inl (cS, 8, .inr (.inr (.inr (.inr (va_up (va_up (va_up (va_up (va_up (va_up (va_up (fun _ => none) 0 (some q_4)) 1 (some q_5)) 2 (some q_6)) 3 (some q_7)) 4 (some q_8)) 5 (some q_9)) 6 (some q_10))))))), (q_4, .inr (3, [])), (q_5, .inr (7, [])), (q_6, .inr (9, [])), (q_7, .inr (0, [])), (q_8, .inr (5, [])), (q_9, .inr (4, [])), (q_10, .inr (1, [])), (q_11, .inr (8, []))] ++ []) := hI
  refine wk_fV hI9 hA (va_runIN (As := []) (rest := [.ref q_11, .int 7, .ref q_3, .ref q_3, .ref h0]) ⟨hx, hb, hml, hown, hts⟩ (c_X9_init l D cI cJ cS q_11 _) (wk_cwN 0 hts wk_in_M (hN.1 _ mx_140) mw_141 mw_44 mw_142 rfl (hdX9_init).2 ⟨(Nat.le_of_ble_eq_true rfl), (Nat.le_of_ble_eq_true rfl)⟩) (wk_preS hN hK hI9.right) rfl rfl hl.1 rfl (lv_room (Nat.le_of_ble_eq_true rfl)) dX11_init_99 ⟨(Nat.le_of_ble_eq_true rfl), (Nat.le_of_ble_eq_true rfl)⟩) (fun u H locs hw hI => ?_)
  have hI : wk_I D A s.heap H locs [(h0, .inr (10, [.ref q_1, .null, .null, .null, .null, .null])), (q_1, .inr (2, [.null, .null, .int 0, .ref q_2, .int 0])), (q_2, .inl (cI, 64, .inl (fun _ => 0))), (q_3, .inl (cS, 8, .inr (.inr (.inr (.inr (va_up (va_up (va_up (va_up (va_up (va_up (va_up (fun _ => none) 0 (some q_4)) 1 (some q_5)) 2 (some q_6)) 3 (some q_7)) 4 (some q_8)) 5 (some q_9)) 6 (some q_10))))))), (q_4, .inr (3, [])), (q_5, .inr (7, [])), (q_6, .inr (9, [])), (q_7, .inr (0, [])), (q_8, .inr (5, [])), (q_9, .inr (4, [])), (q_10, .inr (1, [])), (q_11, .inr (8, []))] := hI
  refine wk_aast hx hb hK hI 3 11 8 (j := 7) rfl (hN.1 _ mx_751) rfl rfl rfl (by decide) (by decide) dX11_init_102 (fun H locs hI => ?_)
  have hI : wk_I D A s.heap H locs [(h0, .inr (10, [.ref q_1, .null, .null, .null, .null, .null])), (q_1, .inr (2, [.null, .null, .int 0, .ref q_2, .int 0])), (q_2, .inl (cI, 64, .inl (fun _ => 0))), (q_3, .inl (cS, 8, .inr (.inr (.inr (.inr (va_up (va_up (va_up (va_up (va_up (va_up (va_up (va_up (fun _ => none) 0 (some q_4)) 1 (some q_5)) 2 (some q_6)) 3 (some q_7)) 4 (some q_8)) 5 (some q_9)) 6 (some q_10)) 7 (some q_11))))))), (q_4, .inr (3, [])), (q_5, .inr (7, [])), (q_6, .inr (9, [])), (q_7, .inr (0, [])), (q_8, .inr (5, [])), (q_9, .inr (4, [])), (q_10, .inr (1, [])), (q_11, .inr (8, []))] := hI
  refine wk_putF (v := .ref q_3) (ty := .array (.object "WatchBill$Soul")) (w' := [(h0, .inr (10, [.ref q_1, .ref q_3, .null, .null, .null, .null])), (q_1, .inr (2, [.null, .null, .int 0, .ref q_2, .int 0])), (q_2, .inl (cI, 64, .inl (fun _ => 0))), (q_3, .inl (cS, 8, .inr (.inr (.inr (.inr (va_up (va_up (va_up (va_up (va_up (va_up (va_up (va_up (fun _ => none) 0 (some q_4)) 1 (some q_5)) 2 (some q_6)) 3 (some q_7)) 4 (some q_8)) 5 (some q_9)) 6 (some q_10)) 7 (some q_11))))))), (q_4, .inr (3, [])), (q_5, .inr (7, [])), (q_6, .inr (9, [])), (q_7, .inr (0, [])), (q_8, .inr (5, [])), (q_9, .inr (4, [])), (q_10, .inr (1, [])), (q_11, .inr (8, []))]) hx hb hts (fun w h => wk_in_M w (lay_X11 w h)) tyX11 tyX11_ok nmX11 hown hK hI 0 rfl rfl 1 (by decide) (hts _ (wk_in_M _ mw_146)) rfl rfl hin rfl (by decide +kernel) rfl rfl (Nat.le_of_ble_eq_true rfl) rfl dX11_init_103 (fun H locs hI => ?_)
  refine lv_aload_n hx hb dX11_init_106 rfl (lv_at hl 0 rfl) ?_
  refine lv_bipush (v := 8) hx hb dX11_init_107 (by decide) ?_
  refine wk_newi (N' := 8) hx hb (hts _ (wk_in_M _ mw_83)) hK hI hA (by decide) (by decide) (by decide) (Nat.le_of_ble_eq_true rfl) (Nat.le_of_ble_eq_true rfl) dX11_init_109 (fun q_12 H hI => ?_)
  have hI : wk_I D A s.heap H locs [(h0, .inr (10, [.ref q_1, .ref q_3, .null, .null, .null, .null])), (q_1, .inr (2, [.null, .null, .int 0, .ref q_2, .int 0])), (q_2, .inl (cI, 64, .inl (fun _ => 0))), (q_3, .inl (cS, 8, .inr (.inr (.inr (.inr (va_up (va_up (va_up (va_up (va_up (va_up (va_up (va_up (fun _ => none) 0 (some q_4)) 1 (some q_5)) 2 (some q_6)) 3 (some q_7)) 4 (some q_8)) 5 (some q_9)) 6 (some q_10)) 7 (some q_11))))))), (q_4, .inr (3, [])), (q_5, .inr (7, [])), (q_6, .inr (9, [])), (q_7, .inr (0, [])), (q_8, .inr (5, [])), (q_9, .inr (4, [])), (q_10, .inr (1, [])), (q_11, .inr (8, [])), (q_12, .inl (cI, 8, .inl (fun _ => 0)))] := hI
  refine wk_putF (v := .ref q_12) (ty := .array .int) (w' := [(h0, .inr (10, [.ref q_1, .ref q_3, .ref q_12, .null, .null, .null])), (q_1, .inr (2, [.null, .null, .int 0, .ref q_2, .int 0])), (q_2, .inl (cI, 64, .inl (fun _ => 0))), (q_3, .inl (cS, 8, .inr (.inr (.inr (.inr (va_up (va_up (va_up (va_up (va_up (va_up (va_up (va_up (fun _ => none) 0 (some q_4)) 1 (some q_5)) 2 (some q_6)) 3 (some q_7)) 4 (some q_8)) 5 (some q_9)) 6 (some q_10)) 7 (some q_11))))))), (q_4, .inr (3, [])), (q_5, .inr (7, [])), (q_6, .inr (9, [])), (q_7, .inr (0, [])), (q_8, .inr (5, [])), (q_9, .inr (4, [])), (q_10, .inr (1, [])), (q_11, .inr (8, [])), (q_12, .inl (cI, 8, .inl (fun _ => 0)))]) hx hb hts (fun w h => wk_in_M w (lay_X11 w h)) tyX11 tyX11_ok nmX11 hown hK hI 0 rfl rfl 2 (by decide) (hts _ (wk_in_M _ mw_147)) rfl rfl hin rfl (by decide +kernel) rfl rfl (Nat.le_of_ble_eq_true rfl) rfl dX11_init_111 (fun H locs hI => ?_)
  refine lv_aload_n hx hb dX11_init_114 rfl (lv_at hl 0 rfl) ?_
  refine lv_bipush (v := 8) hx hb dX11_init_115 (by decide) ?_
  refine wk_newi (N' := 8) hx hb (hts _ (wk_in_M _ mw_83)) hK hI hA (by decide) (by decide) (by decide) (Nat.le_of_ble_eq_true rfl) (Nat.le_of_ble_eq_true rfl) dX11_init_117 (fun q_13 H hI => ?_)
  have hI : wk_I D A s.heap H locs [(h0, .inr (10, [.ref q_1, .ref q_3, .ref q_12, .null, .null, .null])), (q_1, .inr (2, [.null, .null, .int 0, .ref q_2, .int 0])), (q_2, .inl (cI, 64, .inl (fun _ => 0))), (q_3, .inl (cS, 8, .inr (.inr (.inr (.inr (va_up (va_up (va_up (va_up (va_up (va_up (va_up (va_up (fun _ => none) 0 (some q_4)) 1 (some q_5)) 2 (some q_6)) 3 (some q_7)) 4 (some q_8)) 5 (some q_9)) 6 (some q_10)) 7 (some q_11))))))), (q_4, .inr (3, [])), (q_5, .inr (7, [])), (q_6, .inr (9, [])), (q_7, .inr (0, [])), (q_8, .inr (5, [])), (q_9, .inr (4, [])), (q_10, .inr (1, [])), (q_11, .inr (8, [])), (q_12, .inl (cI, 8, .inl (fun _ => 0))), (q_13, .inl (cI, 8, .inl (fun _ => 0)))] := hI
  refine wk_putF (v := .ref q_13) (ty := .array .int) (w' := [(h0, .inr (10, [.ref q_1, .ref q_3, .ref q_12, .ref q_13, .null, .null])), (q_1, .inr (2, [.null, .null, .int 0, .ref q_2, .int 0])), (q_2, .inl (cI, 64, .inl (fun _ => 0))), (q_3, .inl (cS, 8, .inr (.inr (.inr (.inr (va_up (va_up (va_up (va_up (va_up (va_up (va_up (va_up (fun _ => none) 0 (some q_4)) 1 (some q_5)) 2 (some q_6)) 3 (some q_7)) 4 (some q_8)) 5 (some q_9)) 6 (some q_10)) 7 (some q_11))))))), (q_4, .inr (3, [])), (q_5, .inr (7, [])), (q_6, .inr (9, [])), (q_7, .inr (0, [])), (q_8, .inr (5, [])), (q_9, .inr (4, [])), (q_10, .inr (1, [])), (q_11, .inr (8, [])), (q_12, .inl (cI, 8, .inl (fun _ => 0))), (q_13, .inl (cI, 8, .inl (fun _ => 0)))]) hx hb hts (fun w h => wk_in_M w (lay_X11 w h)) tyX11 tyX11_ok nmX11 hown hK hI 0 rfl rfl 3 (by decide) (hts _ (wk_in_M _ mw_148)) rfl rfl hin rfl (by decide +kernel) rfl rfl (Nat.le_of_ble_eq_true rfl) rfl dX11_init_119 (fun H locs hI => ?_)
  refine lv_aload_n hx hb dX11_init_122 rfl (lv_at hl 0 rfl) ?_
  refine lv_bipush (v := 8) hx hb dX11_init_123 (by decide) ?_
  refine wk_newi (N' := 8) hx hb (hts _ (wk_in_M _ mw_83)) hK hI hA (by decide) (by decide) (by decide) (Nat.le_of_ble_eq_true rfl) (Nat.le_of_ble_eq_true rfl) dX11_init_125 (fun q_14 H hI => ?_)
  have hI : wk_I D A s.heap H locs [(h0, .inr (10, [.ref q_1, .ref q_3, .ref q_12, .ref q_13, .null, .null])), (q_1, .inr (2, [.null, .null, .int 0, .ref q_2, .int 0])), (q_2, .inl (cI, 64, .inl (fun _ => 0))), (q_3, .inl (cS, 8, .inr (.inr (.inr (.inr (va_up (va_up (va_up (va_up (va_up (va_up (va_up (va_up (fun _ => none) 0 (some q_4)) 1 (some q_5)) 2 (some q_6)) 3 (some q_7)) 4 (some q_8)) 5 (some q_9)) 6 (some q_10)) 7 (some q_11))))))), (q_4, .inr (3, [])), (q_5, .inr (7, [])), (q_6, .inr (9, [])), (q_7, .inr (0, [])), (q_8, .inr (5, [])), (q_9, .inr (4, [])), (q_10, .inr (1, [])), (q_11, .inr (8, [])), (q_12, .inl (cI, 8, .inl (fun _ => 0))), (q_13, .inl (cI, 8, .inl (fun _ => 0))), (q_14, .inl (cI, 8, .inl (fun _ => 0)))] := hI
  refine wk_putF (v := .ref q_14) (ty := .array .int) (w' := [(h0, .inr (10, [.ref q_1, .ref q_3, .ref q_12, .ref q_13, .ref q_14, .null])), (q_1, .inr (2, [.null, .null, .int 0, .ref q_2, .int 0])), (q_2, .inl (cI, 64, .inl (fun _ => 0))), (q_3, .inl (cS, 8, .inr (.inr (.inr (.inr (va_up (va_up (va_up (va_up (va_up (va_up (va_up (va_up (fun _ => none) 0 (some q_4)) 1 (some q_5)) 2 (some q_6)) 3 (some q_7)) 4 (some q_8)) 5 (some q_9)) 6 (some q_10)) 7 (some q_11))))))), (q_4, .inr (3, [])), (q_5, .inr (7, [])), (q_6, .inr (9, [])), (q_7, .inr (0, [])), (q_8, .inr (5, [])), (q_9, .inr (4, [])), (q_10, .inr (1, [])), (q_11, .inr (8, [])), (q_12, .inl (cI, 8, .inl (fun _ => 0))), (q_13, .inl (cI, 8, .inl (fun _ => 0))), (q_14, .inl (cI, 8, .inl (fun _ => 0)))]) hx hb hts (fun w h => wk_in_M w (lay_X11 w h)) tyX11 tyX11_ok nmX11 hown hK hI 0 rfl rfl 4 (by decide) (hts _ (wk_in_M _ mw_149)) rfl rfl hin rfl (by decide +kernel) rfl rfl (Nat.le_of_ble_eq_true rfl) rfl dX11_init_127 (fun H locs hI => ?_)
  refine lv_aload_n hx hb dX11_init_130 rfl (lv_at hl 0 rfl) ?_
  refine lv_bipush (v := 8) hx hb dX11_init_131 (by decide) ?_
  refine wk_newi (N' := 8) hx hb (hts _ (wk_in_M _ mw_83)) hK hI hA (by decide) (by decide) (by decide) (Nat.le_of_ble_eq_true rfl) (Nat.le_of_ble_eq_true rfl) dX11_init_133 (fun q_15 H hI => ?_)
  have hI : wk_I D A s.heap H locs [(h0, .inr (10, [.ref q_1, .ref q_3, .ref q_12, .ref q_13, .ref q_14, .null])), (q_1, .inr (2, [.null, .null, .int 0, .ref q_2, .int 0])), (q_2, .inl (cI, 64, .inl (fun _ => 0))), (q_3, .inl (cS, 8, .inr (.inr (.inr (.inr (va_up (va_up (va_up (va_up (va_up (va_up (va_up (va_up (fun _ => none) 0 (some q_4)) 1 (some q_5)) 2 (some q_6)) 3 (some q_7)) 4 (some q_8)) 5 (some q_9)) 6 (some q_10)) 7 (some q_11))))))), (q_4, .inr (3, [])), (q_5, .inr (7, [])), (q_6, .inr (9, [])), (q_7, .inr (0, [])), (q_8, .inr (5, [])), (q_9, .inr (4, [])), (q_10, .inr (1, [])), (q_11, .inr (8, [])), (q_12, .inl (cI, 8, .inl (fun _ => 0))), (q_13, .inl (cI, 8, .inl (fun _ => 0))), (q_14, .inl (cI, 8, .inl (fun _ => 0))), (q_15, .inl (cI, 8, .inl (fun _ => 0)))] := hI
  refine wk_putF (v := .ref q_15) (ty := .array .int) (w' := [(h0, .inr (10, [.ref q_1, .ref q_3, .ref q_12, .ref q_13, .ref q_14, .ref q_15])), (q_1, .inr (2, [.null, .null, .int 0, .ref q_2, .int 0])), (q_2, .inl (cI, 64, .inl (fun _ => 0))), (q_3, .inl (cS, 8, .inr (.inr (.inr (.inr (va_up (va_up (va_up (va_up (va_up (va_up (va_up (va_up (fun _ => none) 0 (some q_4)) 1 (some q_5)) 2 (some q_6)) 3 (some q_7)) 4 (some q_8)) 5 (some q_9)) 6 (some q_10)) 7 (some q_11))))))), (q_4, .inr (3, [])), (q_5, .inr (7, [])), (q_6, .inr (9, [])), (q_7, .inr (0, [])), (q_8, .inr (5, [])), (q_9, .inr (4, [])), (q_10, .inr (1, [])), (q_11, .inr (8, [])), (q_12, .inl (cI, 8, .inl (fun _ => 0))), (q_13, .inl (cI, 8, .inl (fun _ => 0))), (q_14, .inl (cI, 8, .inl (fun _ => 0))), (q_15, .inl (cI, 8, .inl (fun _ => 0)))]) hx hb hts (fun w h => wk_in_M w (lay_X11 w h)) tyX11 tyX11_ok nmX11 hown hK hI 0 rfl rfl 5 (by decide) (hts _ (wk_in_M _ mw_150)) rfl rfl hin rfl (by decide +kernel) rfl rfl (Nat.le_of_ble_eq_true rfl) rfl dX11_init_135 (fun H locs hI => ?_)
  refine lv_iconst (v := 0) hx hb dX11_init_138 (by decide) ?_
  refine lv_istore_n (lv' := [(1, .int 0), (0, .ref h0)]) hx hb dX11_init_139 rfl hl (by decide) rfl (fun ls hl => ?_)
  have hI : wk_I D A s.heap H locs [(h0, .inr (10, [.ref q_1, .ref q_3, .ref q_12, .ref q_13, .ref q_14, .ref q_15])), (q_1, .inr (2, [.null, .null, .int 0, .ref q_2, .int 0])), (q_2, .inl (cI, 64, .inl (fun _ => 0))), (q_3, .inl (cS, 8, .inr (.inr (.inr (.inr (va_up (va_up (va_up (va_up (va_up (va_up (va_up (va_up (fun _ => none) 0 (some q_4)) 1 (some q_5)) 2 (some q_6)) 3 (some q_7)) 4 (some q_8)) 5 (some q_9)) 6 (some q_10)) 7 (some q_11))))))), (q_4, .inr (3, [])), (q_5, .inr (7, [])), (q_6, .inr (9, [])), (q_7, .inr (0, [])), (q_8, .inr (5, [])), (q_9, .inr (4, [])), (q_10, .inr (1, [])), (q_11, .inr (8, [])), (q_12, .inl (cI, 8, .inl (fun j => if j < 0 then -1 else 0))), (q_13, .inl (cI, 8, .inl (fun _ => 0))), (q_14, .inl (cI, 8, .inl (fun _ => 0))), (q_15, .inl (cI, 8, .inl (fun _ => 0)))] := by rw [← wk_ld_0]; exact hI
  refine wk_loop (fun i H locs ls => wk_I D A s.heap H locs [(h0, .inr (10, [.ref q_1, .ref q_3, .ref q_12, .ref q_13, .ref q_14, .ref q_15])), (q_1, .inr (2, [.null, .null, .int 0, .ref q_2, .int 0])), (q_2, .inl (cI, 64, .inl (fun _ => 0))), (q_3, .inl (cS, 8, .inr (.inr (.inr (.inr (va_up (va_up (va_up (va_up (va_up (va_up (va_up (va_up (fun _ => none) 0 (some q_4)) 1 (some q_5)) 2 (some q_6)) 3 (some q_7)) 4 (some q_8)) 5 (some q_9)) 6 (some q_10)) 7 (some q_11))))))), (q_4, .inr (3, [])), (q_5, .inr (7, [])), (q_6, .inr (9, [])), (q_7, .inr (0, [])), (q_8, .inr (5, [])), (q_9, .inr (4, [])), (q_10, .inr (1, [])), (q_11, .inr (8, [])), (q_12, .inl (cI, 8, .inl (fun j => if j < i then -1 else 0))), (q_13, .inl (cI, 8, .inl (fun _ => 0))), (q_14, .inl (cI, 8, .inl (fun _ => 0))), (q_15, .inl (cI, 8, .inl (fun _ => 0)))] ∧ lv_has ls 2 [(0, .ref h0), (1, .int (nI i))]) 8 ?_ ?_ 8 0 _ _ _ (Nat.zero_add _) ⟨hI, lv_sub hl [1, 0] rfl⟩
  · intro H locs ls hinv
    obtain ⟨hI, hl⟩ := hinv
    refine lv_iload_n hx hb dX11_init_140 rfl (lv_at hl 1 rfl) ?_
    refine lv_bipush (v := 8) hx hb dX11_init_141 (by decide) ?_
    refine lv_icmp_ge (tgt := 159) hx hb dX11_init_143 (by decide) (fun c_16 => ?_) (fun c_16 => ?_)
    · have hI := hI.sub (w' := [(h0, .inr (10, [.ref q_1, .ref q_3, .ref q_12, .ref q_13, .ref q_14, .ref q_15])), (q_1, .inr (2, [.null, .null, .int 0, .ref q_2, .int 0])), (q_3, .inl (cS, 8, .inr (.inr (.inr (.inr (va_up (va_up (va_up (va_up (va_up (va_up (va_up (va_up (fun _ => none) 0 (some q_4)) 1 (some q_5)) 2 (some q_6)) 3 (some q_7)) 4 (some q_8)) 5 (some q_9)) 6 (some q_10)) 7 (some q_11))))))), (q_12, .inl (cI, 8, .inl (fun j => if j < 8 then -1 else 0))), (q_13, .inl (cI, 8, .inl (fun _ => 0))), (q_14, .inl (cI, 8, .inl (fun _ => 0))), (q_15, .inl (cI, 8, .inl (fun _ => 0))), (q_2, .inl (cI, 64, .inl (fun _ => 0))), (q_4, .inr (3, [])), (q_5, .inr (7, [])), (q_6, .inr (9, [])), (q_7, .inr (0, [])), (q_8, .inr (5, [])), (q_9, .inr (4, [])), (q_10, .inr (1, [])), (q_11, .inr (8, []))]) [0, 1, 3, 12, 13, 14, 15, 2, 4, 5, 6, 7, 8, 9, 10, 11] (by decide) rfl
      rw [wx_rks_of h0 q_1 q_3 q_12 q_13 q_14 q_15 q_2 q_4 q_5 q_6 q_7 q_8 q_9 q_10 q_11] at hI
      exact wk_rv (wx_ad [h0, q_1, q_3, q_12, q_13, q_14, q_15, q_2, q_4, q_5, q_6, q_7, q_8, q_9, q_10, q_11]) hx hb hr hlk hK hI rfl rfl dX11_init_159
    · exact absurd (by decide) c_16
  · intro i H locs ls hi hinv ih
    obtain ⟨hI, hl⟩ := hinv
    refine lv_iload_n hx hb dX11_init_140 rfl (lv_at hl 1 rfl) ?_
    refine lv_bipush (v := 8) hx hb dX11_init_141 (by decide) ?_
    refine lv_icmp_ge (tgt := 159) hx hb dX11_init_143 (by decide) (fun c_17 => ?_) (fun c_17 => ?_)
    · exact absurd c_17 (by simp only [Int32.lt_iff_toInt_lt, Int32.le_iff_toInt_le, nI_toInt (show i < 2 ^ 31 by omega), wk_lit8]; omega)
    · refine lv_aload_n hx hb dX11_init_146 rfl (lv_at hl 0 rfl) ?_
      refine wk_get (v := .ref q_12) hx hb hts (fun w h => wk_in_M w (lay_X11 w h)) hown hK hI 0 rfl rfl 2 (by decide) (hts _ (wk_in_M _ mw_147)) rfl rfl dX11_init_147 ?_
      refine lv_iload_n hx hb dX11_init_150 rfl (lv_at hl 1 rfl) ?_
      refine lv_iconst (v := (-1)) hx hb dX11_init_151 (by decide) ?_
      refine wk_iast (j := i) (w' := [(h0, .inr (10, [.ref q_1, .ref q_3, .ref q_12, .ref q_13, .ref q_14, .ref q_15])), (q_1, .inr (2, [.null, .null, .int 0, .ref q_2, .int 0])), (q_2, .inl (cI, 64, .inl (fun _ => 0))), (q_3, .inl (cS, 8, .inr (.inr (.inr (.inr (va_up (va_up (va_up (va_up (va_up (va_up (va_up (va_up (fun _ => none) 0 (some q_4)) 1 (some q_5)) 2 (some q_6)) 3 (some q_7)) 4 (some q_8)) 5 (some q_9)) 6 (some q_10)) 7 (some q_11))))))), (q_4, .inr (3, [])), (q_5, .inr (7, [])), (q_6, .inr (9, [])), (q_7, .inr (0, [])), (q_8, .inr (5, [])), (q_9, .inr (4, [])), (q_10, .inr (1, [])), (q_11, .inr (8, [])), (q_12, .inl (cI, 8, .inl (fun j => if j < i + 1 then -1 else 0))), (q_13, .inl (cI, 8, .inl (fun _ => 0))), (q_14, .inl (cI, 8, .inl (fun _ => 0))), (q_15, .inl (cI, 8, .inl (fun _ => 0)))]) hx hb hK hI 12 0 rfl rfl rfl hi (by decide) (by rw [wk_ld_s]; rfl) dX11_init_152 (fun H locs hI => ?_)
      refine lv_iinc (v := nI (i + 1)) (lv' := [(1, .int (nI (i + 1))), (0, .ref h0)]) hx hb dX11_init_153 hl (k := 1) rfl (nI_1 _) (by decide) rfl (fun ls hl => ?_)
      refine lv_goto (tgt := 140) hx hb dX11_init_156 (by decide) ?_
      exact ih _ _ _ ⟨hI, lv_sub hl [1, 0] rfl⟩
