set_option maxHeartbeats 4000000 in
set_option maxRecDepth 100000 in
theorem law_loop {p : Program} {l : Launch} {e : Env} {s : State} {m : MethodId} {below : List Frame} {meth : Method} {c : Code} {D : va_G} {cI cJ cS : ClassId} {b L : Nat} {xs : Nat → Int32} (hL : L ≤ 3072) (C0 : lw_At p s m meth c b L xs) (hN : wk_N s) (hK : va_K D vwCl (wk_tys cI cJ cS) s) :
    ∀ (H : Heap) (locs : List Loc) (ls : Array Slot), (∃ (ad am : Nat → Nat) (σ : wk_St), wk_K σ ∧ wk_I D (fun q : Nat => s.heap.size ≤ q) s.heap H locs (wx_W cI cS ad σ ++ wm_W cI cJ am σ) ∧ lv_has ls 4 [(0, .ref b), (1, .ref (ad 0)), (2, .ref (am 0)), (3, .int (nI (6 * 0)))]) → W p l e room_1 s m #[Value.ref b] below meth c H locs (100 + 0) (1000 + 7 * 0) (lw_Z below #[Value.ref b] s) (F0 m 18 ls []) := by
  obtain ⟨hx, hb, hr, hml, hown, hts, hX, hbl, hlocks, hgv⟩ := C0
  have hA : ∀ q : Nat, s.heap.size ≤ q → (fun q : Nat => s.heap.size ≤ q) q := fun _ h => h
  have hbA : ¬ (fun q : Nat => s.heap.size ≤ q) b := Nat.not_le.mpr hbl
  intro H locs ls h0
  refine wk_loopC (fun k H locs ls => ∃ (ad am : Nat → Nat) (σ : wk_St), wk_K σ ∧ wk_I D (fun q : Nat => s.heap.size ≤ q) s.heap H locs (wx_W cI cS ad σ ++ wm_W cI cJ am σ) ∧ lv_has ls 4 [(0, .ref b), (1, .ref (ad 0)), (2, .ref (am 0)), (3, .int (nI (6 * k)))]) (L / 6) 100 1000 ?_ ?_ (L / 6) 0 H locs ls (Nat.zero_add _) h0
  · intro H locs ls hinv
    obtain ⟨ad, am, σ, hKσ, hI, hl⟩ := hinv
    refine lv_iload_n hx hb dL_law_18 rfl (lv_at hl 3 rfl) ?_
    refine lv_aload_n hx hb dL_law_19 rfl (lv_at hl 0 rfl) ?_
    refine va_slen hx hb hX hbl hbA hI.2.2 dL_law_20 ?_
    refine lv_bipush (v := 6) hx hb dL_law_21 (by decide) ?_
    refine lv_isub hx hb dL_law_23 ?_
    refine lv_icmp_gt (tgt := 669) hx hb dL_law_24 (by decide) (fun c_1 => ?_) (fun c_1 => ?_)
    · refine lv_iconst (v := 1) hx hb dL_law_669 (by decide) ?_
      refine va_forget (fun q hq => hI.2.2.2.2 q hq) ?_
      refine W.widen (k := 600000) (n := 7302250) (by omega) (by omega) ?_
      exact lw_ret hx hb hr hlocks dL_law_670
    · exact absurd (by rw [Int32.lt_iff_toInt_lt, wk_sub6 hL, nI_toInt (show 6 * (L / 6) < 2 ^ 31 by omega)]; omega) c_1
  intro k H locs ls hk hinv ih
  obtain ⟨ad, am, σ, hKσ, hI, hl⟩ := hinv
  have hin0 : vp_in (nI (6 * k)) L := vp_in_nI (by omega) (by omega)
  have hin1 : vp_in (nI (6 * k) + 1) L := by rw [show nI (6 * k) + 1 = nI (6 * k + 1) from nI_add (6 * k) 1]; exact vp_in_nI (by omega) (by omega)
  have hin2 : vp_in (nI (6 * k) + 2) L := by rw [show nI (6 * k) + 2 = nI (6 * k + 2) from nI_add (6 * k) 2]; exact vp_in_nI (by omega) (by omega)
  have hin3 : vp_in (nI (6 * k) + 3) L := by rw [show nI (6 * k) + 3 = nI (6 * k + 3) from nI_add (6 * k) 3]; exact vp_in_nI (by omega) (by omega)
  have hin4 : vp_in (nI (6 * k) + 4) L := by rw [show nI (6 * k) + 4 = nI (6 * k + 4) from nI_add (6 * k) 4]; exact vp_in_nI (by omega) (by omega)
  have hin5 : vp_in (nI (6 * k) + 5) L := by rw [show nI (6 * k) + 5 = nI (6 * k + 5) from nI_add (6 * k) 5]; exact vp_in_nI (by omega) (by omega)
  have h6 : nI (6 * k) + 6 = nI (6 * (k + 1)) := nI_add (6 * k) 6
  refine lv_iload_n hx hb dL_law_18 rfl (lv_at hl 3 rfl) ?_
  refine lv_aload_n hx hb dL_law_19 rfl (lv_at hl 0 rfl) ?_
  refine va_slen hx hb hX hbl hbA hI.2.2 dL_law_20 ?_
  refine lv_bipush (v := 6) hx hb dL_law_21 (by decide) ?_
  refine lv_isub hx hb dL_law_23 ?_
  refine lv_icmp_gt (tgt := 669) hx hb dL_law_24 (by decide) (fun c_1 => ?_) (fun c_1 => ?_)
  · exact absurd c_1 (by rw [Int32.lt_iff_toInt_lt, wk_sub6 hL, nI_toInt (show 6 * k < 2 ^ 31 by omega)]; omega)
  · refine lv_aload_n hx hb dL_law_27 rfl (lv_at hl 0 rfl) ?_
    refine lv_iload_n hx hb dL_law_28 rfl (lv_at hl 3 rfl) ?_
    refine va_sld hx hb hX hbl hbA hI.2.2 hin0 dL_law_29 ?_
    refine lv_bipush (v := 31) hx hb dL_law_30 (by decide) ?_
    refine lv_iand hx hb dL_law_32 ?_
    by_cases hs_2 : ((xs (nI (6 * k)).toNatClampNeg) &&& 31) = 0
    · refine lv_tableIn (tgt := 116) (off := 83) hx hb dL_law_33 (by rw [hs_2]; decide) (by rw [hs_2]; decide) (by rw [hs_2]; rfl) (by decide) ?_
      refine lv_aload_n hx hb dL_law_116 rfl (lv_at hl 1 rfl) ?_
      refine lv_aload_n hx hb dL_law_117 rfl (lv_at hl 0 rfl) ?_
      refine lv_iload_n hx hb dL_law_118 rfl (lv_at hl 3 rfl) ?_
      refine lv_iconst (v := 1) hx hb dL_law_119 (by decide) ?_
      refine lv_iadd hx hb dL_law_120 ?_
      refine va_sld hx hb hX hbl hbA hI.2.2 hin1 dL_law_121 ?_
      refine lv_aload_n hx hb dL_law_122 rfl (lv_at hl 0 rfl) ?_
      refine lv_iload_n hx hb dL_law_123 rfl (lv_at hl 3 rfl) ?_
      refine lv_iconst (v := 2) hx hb dL_law_124 (by decide) ?_
      refine lv_iadd hx hb dL_law_125 ?_
      refine va_sld hx hb hX hbl hbA hI.2.2 hin2 dL_law_126 ?_
      refine wk_gI (wf := fun u : (Nat → Nat) × wk_St => wx_W cI cS u.1 u.2) hI hA (va_runV (As := [.int (xs ((nI (6 * k)) + 1).toNatClampNeg), .int (xs ((nI (6 * k)) + 2).toNatClampNeg)]) (rest := []) ⟨hx, hb, hml, hown, hts⟩ (c_X11_enlist l D cI cJ cS ad σ (xs ((nI (6 * k)) + 1).toNatClampNeg) (xs ((nI (6 * k)) + 2).toNatClampNeg) hKσ.1 _) (wk_cwV 2 hts wk_TL mw_164 mw_165 mw_166 mw_34 mw_167 hdX11_enlist ⟨(Nat.le_of_ble_eq_true rfl), (Nat.le_of_ble_eq_true rfl)⟩) (wk_preV hN hK hI.left (ci := 10) rfl wx_e0) rfl rfl hl.1 rfl (lv_room (Nat.le_of_ble_eq_true rfl)) dL_law_127 ⟨(show 100 + k + 1 ≤ 600000 by omega), (show 1000 + 7 * k + 7 ≤ 7302250 by omega)⟩) (fun r u H locs hw hI => ?_)
      obtain ⟨rfl, hw2, hw1⟩ := hw
      rw [hw2] at hI
      refine lv_aload_n hx hb dL_law_130 rfl (lv_at hl 2 rfl) ?_
      refine lv_aload_n hx hb dL_law_131 rfl (lv_at hl 0 rfl) ?_
      refine lv_iload_n hx hb dL_law_132 rfl (lv_at hl 3 rfl) ?_
      refine lv_iconst (v := 1) hx hb dL_law_133 (by decide) ?_
      refine lv_iadd hx hb dL_law_134 ?_
      refine va_sld hx hb hX hbl hbA hI.2.2 hin1 dL_law_135 ?_
      refine lv_aload_n hx hb dL_law_136 rfl (lv_at hl 0 rfl) ?_
      refine lv_iload_n hx hb dL_law_137 rfl (lv_at hl 3 rfl) ?_
      refine lv_iconst (v := 2) hx hb dL_law_138 (by decide) ?_
      refine lv_iadd hx hb dL_law_139 ?_
      refine va_sld hx hb hX hbl hbA hI.2.2 hin2 dL_law_140 ?_
      refine wk_fI hI hA (va_runV (As := [.int (xs ((nI (6 * k)) + 1).toNatClampNeg), .int (xs ((nI (6 * k)) + 2).toNatClampNeg)]) (rest := [.int ((wk_enlist σ (xs ((nI (6 * k)) + 1).toNatClampNeg) (xs ((nI (6 * k)) + 2).toNatClampNeg)).1)]) ⟨hx, hb, hml, hown, hts⟩ (c_X12_enlist l D cI cJ cS am σ (xs ((nI (6 * k)) + 1).toNatClampNeg) (xs ((nI (6 * k)) + 2).toNatClampNeg) hKσ.1 _) (wk_cwV 2 hts wk_TL mw_529 mw_530 mw_531 mw_45 mw_532 hdX12_enlist ⟨(Nat.le_of_ble_eq_true rfl), (Nat.le_of_ble_eq_true rfl)⟩) (wk_preV hN hK hI.right (ci := 11) rfl wm_e0) rfl rfl hl.1 rfl (lv_room (Nat.le_of_ble_eq_true rfl)) dL_law_141 ⟨(show 100 + k + 1 + 0 ≤ 600000 by omega), (show 1000 + 7 * k + 7 + 0 ≤ 7302250 by omega)⟩) (fun r u H locs hw hI => ?_)
      obtain ⟨rfl, rfl⟩ := hw
      refine lv_icmp_eq (tgt := 663) hx hb dL_law_144 (by decide) (fun c_3 => ?_) (fun c_3 => ?_)
      · refine lv_iinc (v := (nI (6 * k)) + 6) (lv' := [(3, .int ((nI (6 * k)) + 6)), (0, .ref b), (1, .ref (ad 0)), (2, .ref (am 0))]) hx hb dL_law_663 hl (k := 3) rfl rfl (by decide) rfl (fun ls hl => ?_)
        refine lv_goto (tgt := 18) hx hb dL_law_666 (by decide) ?_
        rw [h6] at hl
        refine W.widen (k := 100 + (k + 1)) (n := 1000 + 7 * (k + 1)) (by show 100 + k + 1 + 0 ≤ 100 + (k + 1); omega) (by show 1000 + 7 * k + 7 + 0 ≤ 1000 + 7 * (k + 1); omega) ?_
        exact ih _ _ _ ⟨u.1, am, _, (wk_k_enlist hKσ (xs ((nI (6 * k)) + 1).toNatClampNeg) (xs ((nI (6 * k)) + 2).toNatClampNeg)), hI, by rw [hw1]; exact lv_sub hl [1, 2, 3, 0] rfl⟩
      · exact absurd rfl c_3
    by_cases hs_4 : ((xs (nI (6 * k)).toNatClampNeg) &&& 31) = 1
    · refine lv_tableIn (tgt := 149) (off := 116) hx hb dL_law_33 (by rw [hs_4]; decide) (by rw [hs_4]; decide) (by rw [hs_4]; rfl) (by decide) ?_
      refine lv_aload_n hx hb dL_law_149 rfl (lv_at hl 1 rfl) ?_
      refine lv_aload_n hx hb dL_law_150 rfl (lv_at hl 0 rfl) ?_
      refine lv_iload_n hx hb dL_law_151 rfl (lv_at hl 3 rfl) ?_
      refine lv_iconst (v := 1) hx hb dL_law_152 (by decide) ?_
      refine lv_iadd hx hb dL_law_153 ?_
      refine va_sld hx hb hX hbl hbA hI.2.2 hin1 dL_law_154 ?_
      refine wk_gI hI hA (va_runV (As := [.int (xs ((nI (6 * k)) + 1).toNatClampNeg)]) (rest := []) ⟨hx, hb, hml, hown, hts⟩ (c_X11_promote l D cI cJ cS ad σ (xs ((nI (6 * k)) + 1).toNatClampNeg) hKσ.1 _) (wk_cwV 1 hts wk_TL mw_220 mw_221 mw_222 mw_34 mw_223 hdX11_promote ⟨(Nat.le_of_ble_eq_true rfl), (Nat.le_of_ble_eq_true rfl)⟩) (wk_preV hN hK hI.left (ci := 10) rfl wx_e0) rfl rfl hl.1 rfl (lv_room (Nat.le_of_ble_eq_true rfl)) dL_law_155 ⟨(show 100 + k + 0 ≤ 600000 by omega), (show 1000 + 7 * k + 0 ≤ 7302250 by omega)⟩) (fun r u H locs hw hI => ?_)
      obtain ⟨rfl, rfl⟩ := hw
      refine lv_aload_n hx hb dL_law_158 rfl (lv_at hl 2 rfl) ?_
      refine lv_aload_n hx hb dL_law_159 rfl (lv_at hl 0 rfl) ?_
      refine lv_iload_n hx hb dL_law_160 rfl (lv_at hl 3 rfl) ?_
      refine lv_iconst (v := 1) hx hb dL_law_161 (by decide) ?_
      refine lv_iadd hx hb dL_law_162 ?_
      refine va_sld hx hb hX hbl hbA hI.2.2 hin1 dL_law_163 ?_
      refine wk_fI hI hA (va_runV (As := [.int (xs ((nI (6 * k)) + 1).toNatClampNeg)]) (rest := [.int ((wk_promote σ (xs ((nI (6 * k)) + 1).toNatClampNeg)).1)]) ⟨hx, hb, hml, hown, hts⟩ (c_X12_promote l D cI cJ cS am σ (xs ((nI (6 * k)) + 1).toNatClampNeg) hKσ.1 _) (wk_cwV 1 hts wk_TL mw_534 mw_535 mw_536 mw_45 mw_537 hdX12_promote ⟨(Nat.le_of_ble_eq_true rfl), (Nat.le_of_ble_eq_true rfl)⟩) (wk_preV hN hK hI.right (ci := 11) rfl wm_e0) rfl rfl hl.1 rfl (lv_room (Nat.le_of_ble_eq_true rfl)) dL_law_164 ⟨(show 100 + k + 0 ≤ 600000 by omega), (show 1000 + 7 * k + 0 ≤ 7302250 by omega)⟩) (fun r u H locs hw hI => ?_)
      obtain ⟨rfl, rfl⟩ := hw
      refine lv_icmp_eq (tgt := 663) hx hb dL_law_167 (by decide) (fun c_5 => ?_) (fun c_5 => ?_)
      · refine lv_iinc (v := (nI (6 * k)) + 6) (lv' := [(3, .int ((nI (6 * k)) + 6)), (0, .ref b), (1, .ref (ad 0)), (2, .ref (am 0))]) hx hb dL_law_663 hl (k := 3) rfl rfl (by decide) rfl (fun ls hl => ?_)
        refine lv_goto (tgt := 18) hx hb dL_law_666 (by decide) ?_
        rw [h6] at hl
        refine W.widen (k := 100 + (k + 1)) (n := 1000 + 7 * (k + 1)) (by show 100 + k + 0 + 0 ≤ 100 + (k + 1); omega) (by show 1000 + 7 * k + 0 + 0 ≤ 1000 + 7 * (k + 1); omega) ?_
        exact ih _ _ _ ⟨ad, am, _, (wk_k_promote hKσ (xs ((nI (6 * k)) + 1).toNatClampNeg)), hI, lv_sub hl [1, 2, 3, 0] rfl⟩
      · exact absurd rfl c_5
    by_cases hs_6 : ((xs (nI (6 * k)).toNatClampNeg) &&& 31) = 2
    · refine lv_tableIn (tgt := 172) (off := 139) hx hb dL_law_33 (by rw [hs_6]; decide) (by rw [hs_6]; decide) (by rw [hs_6]; rfl) (by decide) ?_
      refine lv_aload_n hx hb dL_law_172 rfl (lv_at hl 1 rfl) ?_
      refine lv_aload_n hx hb dL_law_173 rfl (lv_at hl 0 rfl) ?_
      refine lv_iload_n hx hb dL_law_174 rfl (lv_at hl 3 rfl) ?_
      refine lv_iconst (v := 1) hx hb dL_law_175 (by decide) ?_
      refine lv_iadd hx hb dL_law_176 ?_
      refine va_sld hx hb hX hbl hbA hI.2.2 hin1 dL_law_177 ?_
      refine wk_gI hI hA (va_runV (As := [.int (xs ((nI (6 * k)) + 1).toNatClampNeg)]) (rest := []) ⟨hx, hb, hml, hown, hts⟩ (c_X11_demote l D cI cJ cS ad σ (xs ((nI (6 * k)) + 1).toNatClampNeg) hKσ.1 _) (wk_cwV 1 hts wk_TL mw_232 mw_233 mw_234 mw_34 mw_235 hdX11_demote ⟨(Nat.le_of_ble_eq_true rfl), (Nat.le_of_ble_eq_true rfl)⟩) (wk_preV hN hK hI.left (ci := 10) rfl wx_e0) rfl rfl hl.1 rfl (lv_room (Nat.le_of_ble_eq_true rfl)) dL_law_178 ⟨(show 100 + k + 0 ≤ 600000 by omega), (show 1000 + 7 * k + 0 ≤ 7302250 by omega)⟩) (fun r u H locs hw hI => ?_)
      obtain ⟨rfl, rfl⟩ := hw
      refine lv_aload_n hx hb dL_law_181 rfl (lv_at hl 2 rfl) ?_
      refine lv_aload_n hx hb dL_law_182 rfl (lv_at hl 0 rfl) ?_
      refine lv_iload_n hx hb dL_law_183 rfl (lv_at hl 3 rfl) ?_
      refine lv_iconst (v := 1) hx hb dL_law_184 (by decide) ?_
      refine lv_iadd hx hb dL_law_185 ?_
      refine va_sld hx hb hX hbl hbA hI.2.2 hin1 dL_law_186 ?_
      refine wk_fI hI hA (va_runV (As := [.int (xs ((nI (6 * k)) + 1).toNatClampNeg)]) (rest := [.int ((wk_demote σ (xs ((nI (6 * k)) + 1).toNatClampNeg)).1)]) ⟨hx, hb, hml, hown, hts⟩ (c_X12_demote l D cI cJ cS am σ (xs ((nI (6 * k)) + 1).toNatClampNeg) hKσ.1 _) (wk_cwV 1 hts wk_TL mw_542 mw_543 mw_544 mw_45 mw_545 hdX12_demote ⟨(Nat.le_of_ble_eq_true rfl), (Nat.le_of_ble_eq_true rfl)⟩) (wk_preV hN hK hI.right (ci := 11) rfl wm_e0) rfl rfl hl.1 rfl (lv_room (Nat.le_of_ble_eq_true rfl)) dL_law_187 ⟨(show 100 + k + 0 ≤ 600000 by omega), (show 1000 + 7 * k + 0 ≤ 7302250 by omega)⟩) (fun r u H locs hw hI => ?_)
      obtain ⟨rfl, rfl⟩ := hw
      refine lv_icmp_eq (tgt := 663) hx hb dL_law_190 (by decide) (fun c_7 => ?_) (fun c_7 => ?_)
      · refine lv_iinc (v := (nI (6 * k)) + 6) (lv' := [(3, .int ((nI (6 * k)) + 6)), (0, .ref b), (1, .ref (ad 0)), (2, .ref (am 0))]) hx hb dL_law_663 hl (k := 3) rfl rfl (by decide) rfl (fun ls hl => ?_)
        refine lv_goto (tgt := 18) hx hb dL_law_666 (by decide) ?_
        rw [h6] at hl
        refine W.widen (k := 100 + (k + 1)) (n := 1000 + 7 * (k + 1)) (by show 100 + k + 0 + 0 ≤ 100 + (k + 1); omega) (by show 1000 + 7 * k + 0 + 0 ≤ 1000 + 7 * (k + 1); omega) ?_
        exact ih _ _ _ ⟨ad, am, _, (wk_k_demote hKσ (xs ((nI (6 * k)) + 1).toNatClampNeg)), hI, lv_sub hl [1, 2, 3, 0] rfl⟩
      · exact absurd rfl c_7
    by_cases hs_8 : ((xs (nI (6 * k)).toNatClampNeg) &&& 31) = 3
    · refine lv_tableIn (tgt := 195) (off := 162) hx hb dL_law_33 (by rw [hs_8]; decide) (by rw [hs_8]; decide) (by rw [hs_8]; rfl) (by decide) ?_
      refine lv_aload_n hx hb dL_law_195 rfl (lv_at hl 1 rfl) ?_
      refine lv_aload_n hx hb dL_law_196 rfl (lv_at hl 0 rfl) ?_
      refine lv_iload_n hx hb dL_law_197 rfl (lv_at hl 3 rfl) ?_
      refine lv_iconst (v := 1) hx hb dL_law_198 (by decide) ?_
      refine lv_iadd hx hb dL_law_199 ?_
      refine va_sld hx hb hX hbl hbA hI.2.2 hin1 dL_law_200 ?_
      refine lv_aload_n hx hb dL_law_201 rfl (lv_at hl 0 rfl) ?_
      refine lv_iload_n hx hb dL_law_202 rfl (lv_at hl 3 rfl) ?_
      refine lv_iconst (v := 2) hx hb dL_law_203 (by decide) ?_
      refine lv_iadd hx hb dL_law_204 ?_
      refine va_sld hx hb hX hbl hbA hI.2.2 hin2 dL_law_205 ?_
      refine wk_gL hI hA (va_runV (As := [.int (xs ((nI (6 * k)) + 1).toNatClampNeg), .int (xs ((nI (6 * k)) + 2).toNatClampNeg)]) (rest := []) ⟨hx, hb, hml, hown, hts⟩ (c_X11_toil l D cI cJ cS ad σ (xs ((nI (6 * k)) + 1).toNatClampNeg) (xs ((nI (6 * k)) + 2).toNatClampNeg) hKσ.1 _) (wk_cwV 2 hts wk_TL mw_236 mw_237 mw_238 mw_34 mw_239 hdX11_toil ⟨(Nat.le_of_ble_eq_true rfl), (Nat.le_of_ble_eq_true rfl)⟩) (wk_preV hN hK hI.left (ci := 10) rfl wx_e0) rfl rfl hl.1 rfl (lv_room (Nat.le_of_ble_eq_true rfl)) dL_law_206 ⟨(show 100 + k + 0 ≤ 600000 by omega), (show 1000 + 7 * k + 0 ≤ 7302250 by omega)⟩) (fun r u H locs hw hI => ?_)
      obtain ⟨rfl, rfl⟩ := hw
      refine lv_aload_n hx hb dL_law_209 rfl (lv_at hl 2 rfl) ?_
      refine lv_aload_n hx hb dL_law_210 rfl (lv_at hl 0 rfl) ?_
      refine lv_iload_n hx hb dL_law_211 rfl (lv_at hl 3 rfl) ?_
      refine lv_iconst (v := 1) hx hb dL_law_212 (by decide) ?_
      refine lv_iadd hx hb dL_law_213 ?_
      refine va_sld hx hb hX hbl hbA hI.2.2 hin1 dL_law_214 ?_
      refine lv_aload_n hx hb dL_law_215 rfl (lv_at hl 0 rfl) ?_
      refine lv_iload_n hx hb dL_law_216 rfl (lv_at hl 3 rfl) ?_
      refine lv_iconst (v := 2) hx hb dL_law_217 (by decide) ?_
      refine lv_iadd hx hb dL_law_218 ?_
      refine va_sld hx hb hX hbl hbA hI.2.2 hin2 dL_law_219 ?_
      refine wk_fL hI hA (va_runV (As := [.int (xs ((nI (6 * k)) + 1).toNatClampNeg), .int (xs ((nI (6 * k)) + 2).toNatClampNeg)]) (rest := [.long ((wk_toil σ (xs ((nI (6 * k)) + 1).toNatClampNeg) (xs ((nI (6 * k)) + 2).toNatClampNeg)).1)]) ⟨hx, hb, hml, hown, hts⟩ (c_X12_toil l D cI cJ cS am σ (xs ((nI (6 * k)) + 1).toNatClampNeg) (xs ((nI (6 * k)) + 2).toNatClampNeg) hKσ.1 _) (wk_cwV 2 hts wk_TL mw_549 mw_550 mw_551 mw_45 mw_552 hdX12_toil ⟨(Nat.le_of_ble_eq_true rfl), (Nat.le_of_ble_eq_true rfl)⟩) (wk_preV hN hK hI.right (ci := 11) rfl wm_e0) rfl rfl hl.1 rfl (lv_room (Nat.le_of_ble_eq_true rfl)) dL_law_220 ⟨(show 100 + k + 0 ≤ 600000 by omega), (show 1000 + 7 * k + 0 ≤ 7302250 by omega)⟩) (fun r u H locs hw hI => ?_)
      obtain ⟨rfl, rfl⟩ := hw
      refine W.lcmp hx hb dL_law_223 ?_
      refine lv_if_eq (tgt := 663) hx hb dL_law_224 (by decide) (fun c_9 => ?_) (fun c_9 => ?_)
      · have c_9 := (lg_cmp_eq _ _).mp c_9
        refine lv_iinc (v := (nI (6 * k)) + 6) (lv' := [(3, .int ((nI (6 * k)) + 6)), (0, .ref b), (1, .ref (ad 0)), (2, .ref (am 0))]) hx hb dL_law_663 hl (k := 3) rfl rfl (by decide) rfl (fun ls hl => ?_)
        refine lv_goto (tgt := 18) hx hb dL_law_666 (by decide) ?_
        rw [h6] at hl
        refine W.widen (k := 100 + (k + 1)) (n := 1000 + 7 * (k + 1)) (by show 100 + k + 0 + 0 ≤ 100 + (k + 1); omega) (by show 1000 + 7 * k + 0 + 0 ≤ 1000 + 7 * (k + 1); omega) ?_
        exact ih _ _ _ ⟨ad, am, _, (wk_k_toil hKσ (xs ((nI (6 * k)) + 1).toNatClampNeg) (xs ((nI (6 * k)) + 2).toNatClampNeg)), hI, lv_sub hl [1, 2, 3, 0] rfl⟩
      · have c_9 := fun hq => c_9 ((lg_cmp_eq _ _).mpr hq)
        exact absurd rfl c_9
    by_cases hs_10 : ((xs (nI (6 * k)).toNatClampNeg) &&& 31) = 4
    · refine lv_tableIn (tgt := 229) (off := 196) hx hb dL_law_33 (by rw [hs_10]; decide) (by rw [hs_10]; decide) (by rw [hs_10]; rfl) (by decide) ?_
      refine lv_aload_n hx hb dL_law_229 rfl (lv_at hl 1 rfl) ?_
      refine lv_aload_n hx hb dL_law_230 rfl (lv_at hl 0 rfl) ?_
      refine lv_iload_n hx hb dL_law_231 rfl (lv_at hl 3 rfl) ?_
      refine lv_iconst (v := 1) hx hb dL_law_232 (by decide) ?_
      refine lv_iadd hx hb dL_law_233 ?_
      refine va_sld hx hb hX hbl hbA hI.2.2 hin1 dL_law_234 ?_
      refine lv_aload_n hx hb dL_law_235 rfl (lv_at hl 0 rfl) ?_
      refine lv_iload_n hx hb dL_law_236 rfl (lv_at hl 3 rfl) ?_
      refine lv_iconst (v := 2) hx hb dL_law_237 (by decide) ?_
      refine lv_iadd hx hb dL_law_238 ?_
      refine va_sld hx hb hX hbl hbA hI.2.2 hin2 dL_law_239 ?_
      refine wk_gL hI hA (va_runV (As := [.int (xs ((nI (6 * k)) + 1).toNatClampNeg), .int (xs ((nI (6 * k)) + 2).toNatClampNeg)]) (rest := []) ⟨hx, hb, hml, hown, hts⟩ (c_X11_pay l D cI cJ cS ad σ (xs ((nI (6 * k)) + 1).toNatClampNeg) (xs ((nI (6 * k)) + 2).toNatClampNeg) hKσ.1 _) (wk_cwV 2 hts wk_TL mw_295 mw_296 mw_297 mw_34 mw_298 hdX11_pay ⟨(Nat.le_of_ble_eq_true rfl), (Nat.le_of_ble_eq_true rfl)⟩) (wk_preV hN hK hI.left (ci := 10) rfl wx_e0) rfl rfl hl.1 rfl (lv_room (Nat.le_of_ble_eq_true rfl)) dL_law_240 ⟨(show 100 + k + 0 ≤ 600000 by omega), (show 1000 + 7 * k + 0 ≤ 7302250 by omega)⟩) (fun r u H locs hw hI => ?_)
      obtain ⟨rfl, rfl⟩ := hw
      refine lv_aload_n hx hb dL_law_243 rfl (lv_at hl 2 rfl) ?_
      refine lv_aload_n hx hb dL_law_244 rfl (lv_at hl 0 rfl) ?_
      refine lv_iload_n hx hb dL_law_245 rfl (lv_at hl 3 rfl) ?_
      refine lv_iconst (v := 1) hx hb dL_law_246 (by decide) ?_
      refine lv_iadd hx hb dL_law_247 ?_
      refine va_sld hx hb hX hbl hbA hI.2.2 hin1 dL_law_248 ?_
      refine lv_aload_n hx hb dL_law_249 rfl (lv_at hl 0 rfl) ?_
      refine lv_iload_n hx hb dL_law_250 rfl (lv_at hl 3 rfl) ?_
      refine lv_iconst (v := 2) hx hb dL_law_251 (by decide) ?_
      refine lv_iadd hx hb dL_law_252 ?_
      refine va_sld hx hb hX hbl hbA hI.2.2 hin2 dL_law_253 ?_
      refine wk_fL hI hA (va_runV (As := [.int (xs ((nI (6 * k)) + 1).toNatClampNeg), .int (xs ((nI (6 * k)) + 2).toNatClampNeg)]) (rest := [.long ((wk_pay σ (xs ((nI (6 * k)) + 1).toNatClampNeg) (xs ((nI (6 * k)) + 2).toNatClampNeg)).1)]) ⟨hx, hb, hml, hown, hts⟩ (c_X12_pay l D cI cJ cS am σ (xs ((nI (6 * k)) + 1).toNatClampNeg) (xs ((nI (6 * k)) + 2).toNatClampNeg) hKσ.1 _) (wk_cwV 2 hts wk_TL mw_684 mw_685 mw_686 mw_45 mw_687 hdX12_pay ⟨(Nat.le_of_ble_eq_true rfl), (Nat.le_of_ble_eq_true rfl)⟩) (wk_preV hN hK hI.right (ci := 11) rfl wm_e0) rfl rfl hl.1 rfl (lv_room (Nat.le_of_ble_eq_true rfl)) dL_law_254 ⟨(show 100 + k + 0 ≤ 600000 by omega), (show 1000 + 7 * k + 0 ≤ 7302250 by omega)⟩) (fun r u H locs hw hI => ?_)
      obtain ⟨rfl, rfl⟩ := hw
      refine W.lcmp hx hb dL_law_257 ?_
      refine lv_if_eq (tgt := 663) hx hb dL_law_258 (by decide) (fun c_11 => ?_) (fun c_11 => ?_)
      · have c_11 := (lg_cmp_eq _ _).mp c_11
        refine lv_iinc (v := (nI (6 * k)) + 6) (lv' := [(3, .int ((nI (6 * k)) + 6)), (0, .ref b), (1, .ref (ad 0)), (2, .ref (am 0))]) hx hb dL_law_663 hl (k := 3) rfl rfl (by decide) rfl (fun ls hl => ?_)
        refine lv_goto (tgt := 18) hx hb dL_law_666 (by decide) ?_
        rw [h6] at hl
        refine W.widen (k := 100 + (k + 1)) (n := 1000 + 7 * (k + 1)) (by show 100 + k + 0 + 0 ≤ 100 + (k + 1); omega) (by show 1000 + 7 * k + 0 + 0 ≤ 1000 + 7 * (k + 1); omega) ?_
        exact ih _ _ _ ⟨ad, am, _, (wk_k_pay hKσ (xs ((nI (6 * k)) + 1).toNatClampNeg) (xs ((nI (6 * k)) + 2).toNatClampNeg)), hI, lv_sub hl [1, 2, 3, 0] rfl⟩
      · have c_11 := fun hq => c_11 ((lg_cmp_eq _ _).mpr hq)
        exact absurd rfl c_11
    by_cases hs_12 : ((xs (nI (6 * k)).toNatClampNeg) &&& 31) = 5
    · refine lv_tableIn (tgt := 263) (off := 230) hx hb dL_law_33 (by rw [hs_12]; decide) (by rw [hs_12]; decide) (by rw [hs_12]; rfl) (by decide) ?_
      refine lv_aload_n hx hb dL_law_263 rfl (lv_at hl 1 rfl) ?_
      refine lv_aload_n hx hb dL_law_264 rfl (lv_at hl 0 rfl) ?_
      refine lv_iload_n hx hb dL_law_265 rfl (lv_at hl 3 rfl) ?_
      refine lv_iconst (v := 1) hx hb dL_law_266 (by decide) ?_
      refine lv_iadd hx hb dL_law_267 ?_
      refine va_sld hx hb hX hbl hbA hI.2.2 hin1 dL_law_268 ?_
      refine lv_aload_n hx hb dL_law_269 rfl (lv_at hl 0 rfl) ?_
      refine lv_iload_n hx hb dL_law_270 rfl (lv_at hl 3 rfl) ?_
      refine lv_iconst (v := 2) hx hb dL_law_271 (by decide) ?_
      refine lv_iadd hx hb dL_law_272 ?_
      refine va_sld hx hb hX hbl hbA hI.2.2 hin2 dL_law_273 ?_
      refine wk_gI hI hA (va_runV (As := [.int (xs ((nI (6 * k)) + 1).toNatClampNeg), .int (xs ((nI (6 * k)) + 2).toNatClampNeg)]) (rest := []) ⟨hx, hb, hml, hown, hts⟩ (c_X11_climb l D cI cJ cS ad σ (xs ((nI (6 * k)) + 1).toNatClampNeg) (xs ((nI (6 * k)) + 2).toNatClampNeg) hKσ.1 _) (wk_cwV 2 hts wk_TL mw_336 mw_337 mw_338 mw_34 mw_339 hdX11_climb ⟨(Nat.le_of_ble_eq_true rfl), (Nat.le_of_ble_eq_true rfl)⟩) (wk_preV hN hK hI.left (ci := 10) rfl wx_e0) rfl rfl hl.1 rfl (lv_room (Nat.le_of_ble_eq_true rfl)) dL_law_274 ⟨(show 100 + k + 0 ≤ 600000 by omega), (show 1000 + 7 * k + 0 ≤ 7302250 by omega)⟩) (fun r u H locs hw hI => ?_)
      obtain ⟨rfl, rfl⟩ := hw
      refine lv_aload_n hx hb dL_law_277 rfl (lv_at hl 2 rfl) ?_
      refine lv_aload_n hx hb dL_law_278 rfl (lv_at hl 0 rfl) ?_
      refine lv_iload_n hx hb dL_law_279 rfl (lv_at hl 3 rfl) ?_
      refine lv_iconst (v := 1) hx hb dL_law_280 (by decide) ?_
      refine lv_iadd hx hb dL_law_281 ?_
      refine va_sld hx hb hX hbl hbA hI.2.2 hin1 dL_law_282 ?_
      refine lv_aload_n hx hb dL_law_283 rfl (lv_at hl 0 rfl) ?_
      refine lv_iload_n hx hb dL_law_284 rfl (lv_at hl 3 rfl) ?_
      refine lv_iconst (v := 2) hx hb dL_law_285 (by decide) ?_
      refine lv_iadd hx hb dL_law_286 ?_
      refine va_sld hx hb hX hbl hbA hI.2.2 hin2 dL_law_287 ?_
      refine wk_fI hI hA (va_runV (As := [.int (xs ((nI (6 * k)) + 1).toNatClampNeg), .int (xs ((nI (6 * k)) + 2).toNatClampNeg)]) (rest := [.int ((wk_climb σ (xs ((nI (6 * k)) + 1).toNatClampNeg) (xs ((nI (6 * k)) + 2).toNatClampNeg)).1)]) ⟨hx, hb, hml, hown, hts⟩ (c_X12_climb l D cI cJ cS am σ (xs ((nI (6 * k)) + 1).toNatClampNeg) (xs ((nI (6 * k)) + 2).toNatClampNeg) hKσ.1 _) (wk_cwV 2 hts wk_TL mw_688 mw_689 mw_690 mw_45 mw_691 hdX12_climb ⟨(Nat.le_of_ble_eq_true rfl), (Nat.le_of_ble_eq_true rfl)⟩) (wk_preV hN hK hI.right (ci := 11) rfl wm_e0) rfl rfl hl.1 rfl (lv_room (Nat.le_of_ble_eq_true rfl)) dL_law_288 ⟨(show 100 + k + 0 ≤ 600000 by omega), (show 1000 + 7 * k + 0 ≤ 7302250 by omega)⟩) (fun r u H locs hw hI => ?_)
      obtain ⟨rfl, rfl⟩ := hw
      refine lv_icmp_eq (tgt := 663) hx hb dL_law_291 (by decide) (fun c_13 => ?_) (fun c_13 => ?_)
      · refine lv_iinc (v := (nI (6 * k)) + 6) (lv' := [(3, .int ((nI (6 * k)) + 6)), (0, .ref b), (1, .ref (ad 0)), (2, .ref (am 0))]) hx hb dL_law_663 hl (k := 3) rfl rfl (by decide) rfl (fun ls hl => ?_)
        refine lv_goto (tgt := 18) hx hb dL_law_666 (by decide) ?_
        rw [h6] at hl
        refine W.widen (k := 100 + (k + 1)) (n := 1000 + 7 * (k + 1)) (by show 100 + k + 0 + 0 ≤ 100 + (k + 1); omega) (by show 1000 + 7 * k + 0 + 0 ≤ 1000 + 7 * (k + 1); omega) ?_
        exact ih _ _ _ ⟨ad, am, _, (wk_k_climb hKσ (xs ((nI (6 * k)) + 1).toNatClampNeg) (xs ((nI (6 * k)) + 2).toNatClampNeg)), hI, lv_sub hl [1, 2, 3, 0] rfl⟩
      · exact absurd rfl c_13
    by_cases hs_14 : ((xs (nI (6 * k)).toNatClampNeg) &&& 31) = 6
    · refine lv_tableIn (tgt := 296) (off := 263) hx hb dL_law_33 (by rw [hs_14]; decide) (by rw [hs_14]; decide) (by rw [hs_14]; rfl) (by decide) ?_
      refine lv_aload_n hx hb dL_law_296 rfl (lv_at hl 1 rfl) ?_
      refine lv_aload_n hx hb dL_law_297 rfl (lv_at hl 0 rfl) ?_
      refine lv_iload_n hx hb dL_law_298 rfl (lv_at hl 3 rfl) ?_
      refine lv_iconst (v := 1) hx hb dL_law_299 (by decide) ?_
      refine lv_iadd hx hb dL_law_300 ?_
      refine va_sld hx hb hX hbl hbA hI.2.2 hin1 dL_law_301 ?_
      refine lv_aload_n hx hb dL_law_302 rfl (lv_at hl 0 rfl) ?_
      refine lv_iload_n hx hb dL_law_303 rfl (lv_at hl 3 rfl) ?_
      refine lv_iconst (v := 2) hx hb dL_law_304 (by decide) ?_
      refine lv_iadd hx hb dL_law_305 ?_
      refine va_sld hx hb hX hbl hbA hI.2.2 hin2 dL_law_306 ?_
      refine wk_gI hI hA (va_runV (As := [.int (xs ((nI (6 * k)) + 1).toNatClampNeg), .int (xs ((nI (6 * k)) + 2).toNatClampNeg)]) (rest := []) ⟨hx, hb, hml, hown, hts⟩ (c_X11_heed l D cI cJ cS ad σ (xs ((nI (6 * k)) + 1).toNatClampNeg) (xs ((nI (6 * k)) + 2).toNatClampNeg) hKσ.1 _) (wk_cwV 2 hts wk_TL mw_368 mw_369 mw_370 mw_34 mw_371 hdX11_heed ⟨(Nat.le_of_ble_eq_true rfl), (Nat.le_of_ble_eq_true rfl)⟩) (wk_preV hN hK hI.left (ci := 10) rfl wx_e0) rfl rfl hl.1 rfl (lv_room (Nat.le_of_ble_eq_true rfl)) dL_law_307 ⟨(show 100 + k + 0 ≤ 600000 by omega), (show 1000 + 7 * k + 0 ≤ 7302250 by omega)⟩) (fun r u H locs hw hI => ?_)
      obtain ⟨rfl, rfl⟩ := hw
      refine lv_aload_n hx hb dL_law_310 rfl (lv_at hl 2 rfl) ?_
      refine lv_aload_n hx hb dL_law_311 rfl (lv_at hl 0 rfl) ?_
      refine lv_iload_n hx hb dL_law_312 rfl (lv_at hl 3 rfl) ?_
      refine lv_iconst (v := 1) hx hb dL_law_313 (by decide) ?_
      refine lv_iadd hx hb dL_law_314 ?_
      refine va_sld hx hb hX hbl hbA hI.2.2 hin1 dL_law_315 ?_
      refine lv_aload_n hx hb dL_law_316 rfl (lv_at hl 0 rfl) ?_
      refine lv_iload_n hx hb dL_law_317 rfl (lv_at hl 3 rfl) ?_
      refine lv_iconst (v := 2) hx hb dL_law_318 (by decide) ?_
      refine lv_iadd hx hb dL_law_319 ?_
      refine va_sld hx hb hX hbl hbA hI.2.2 hin2 dL_law_320 ?_
      refine wk_fI hI hA (va_runV (As := [.int (xs ((nI (6 * k)) + 1).toNatClampNeg), .int (xs ((nI (6 * k)) + 2).toNatClampNeg)]) (rest := [.int ((wk_heed σ (xs ((nI (6 * k)) + 1).toNatClampNeg) (xs ((nI (6 * k)) + 2).toNatClampNeg)).1)]) ⟨hx, hb, hml, hown, hts⟩ (c_X12_heed l D cI cJ cS am σ (xs ((nI (6 * k)) + 1).toNatClampNeg) (xs ((nI (6 * k)) + 2).toNatClampNeg) hKσ.1 _) (wk_cwV 2 hts wk_TL mw_692 mw_693 mw_694 mw_45 mw_695 hdX12_heed ⟨(Nat.le_of_ble_eq_true rfl), (Nat.le_of_ble_eq_true rfl)⟩) (wk_preV hN hK hI.right (ci := 11) rfl wm_e0) rfl rfl hl.1 rfl (lv_room (Nat.le_of_ble_eq_true rfl)) dL_law_321 ⟨(show 100 + k + 0 ≤ 600000 by omega), (show 1000 + 7 * k + 0 ≤ 7302250 by omega)⟩) (fun r u H locs hw hI => ?_)
      obtain ⟨rfl, rfl⟩ := hw
      refine lv_icmp_eq (tgt := 663) hx hb dL_law_324 (by decide) (fun c_15 => ?_) (fun c_15 => ?_)
      · refine lv_iinc (v := (nI (6 * k)) + 6) (lv' := [(3, .int ((nI (6 * k)) + 6)), (0, .ref b), (1, .ref (ad 0)), (2, .ref (am 0))]) hx hb dL_law_663 hl (k := 3) rfl rfl (by decide) rfl (fun ls hl => ?_)
        refine lv_goto (tgt := 18) hx hb dL_law_666 (by decide) ?_
        rw [h6] at hl
        refine W.widen (k := 100 + (k + 1)) (n := 1000 + 7 * (k + 1)) (by show 100 + k + 0 + 0 ≤ 100 + (k + 1); omega) (by show 1000 + 7 * k + 0 + 0 ≤ 1000 + 7 * (k + 1); omega) ?_
        exact ih _ _ _ ⟨ad, am, _, (wk_k_heed hKσ (xs ((nI (6 * k)) + 1).toNatClampNeg) (xs ((nI (6 * k)) + 2).toNatClampNeg)), hI, lv_sub hl [1, 2, 3, 0] rfl⟩
      · exact absurd rfl c_15
    by_cases hs_16 : ((xs (nI (6 * k)).toNatClampNeg) &&& 31) = 7
    · refine lv_tableIn (tgt := 329) (off := 296) hx hb dL_law_33 (by rw [hs_16]; decide) (by rw [hs_16]; decide) (by rw [hs_16]; rfl) (by decide) ?_
      refine lv_aload_n hx hb dL_law_329 rfl (lv_at hl 1 rfl) ?_
      refine lv_aload_n hx hb dL_law_330 rfl (lv_at hl 0 rfl) ?_
      refine lv_iload_n hx hb dL_law_331 rfl (lv_at hl 3 rfl) ?_
      refine lv_iconst (v := 1) hx hb dL_law_332 (by decide) ?_
      refine lv_iadd hx hb dL_law_333 ?_
      refine va_sld hx hb hX hbl hbA hI.2.2 hin1 dL_law_334 ?_
      refine lv_aload_n hx hb dL_law_335 rfl (lv_at hl 0 rfl) ?_
      refine lv_iload_n hx hb dL_law_336 rfl (lv_at hl 3 rfl) ?_
      refine lv_iconst (v := 2) hx hb dL_law_337 (by decide) ?_
      refine lv_iadd hx hb dL_law_338 ?_
      refine va_sld hx hb hX hbl hbA hI.2.2 hin2 dL_law_339 ?_
      refine lv_aload_n hx hb dL_law_340 rfl (lv_at hl 0 rfl) ?_
      refine lv_iload_n hx hb dL_law_341 rfl (lv_at hl 3 rfl) ?_
      refine lv_iconst (v := 3) hx hb dL_law_342 (by decide) ?_
      refine lv_iadd hx hb dL_law_343 ?_
      refine va_sld hx hb hX hbl hbA hI.2.2 hin3 dL_law_344 ?_
      refine wk_gI hI hA (va_runV (As := [.int (xs ((nI (6 * k)) + 1).toNatClampNeg), .int (xs ((nI (6 * k)) + 2).toNatClampNeg), .int (xs ((nI (6 * k)) + 3).toNatClampNeg)]) (rest := []) ⟨hx, hb, hml, hown, hts⟩ (c_X11_race l D cI cJ cS ad σ (xs ((nI (6 * k)) + 1).toNatClampNeg) (xs ((nI (6 * k)) + 2).toNatClampNeg) (xs ((nI (6 * k)) + 3).toNatClampNeg) hKσ.1 _) (wk_cwV 3 hts wk_TL mw_402 mw_403 mw_404 mw_34 mw_405 hdX11_race ⟨(Nat.le_of_ble_eq_true rfl), (Nat.le_of_ble_eq_true rfl)⟩) (wk_preV hN hK hI.left (ci := 10) rfl wx_e0) rfl rfl hl.1 rfl (lv_room (Nat.le_of_ble_eq_true rfl)) dL_law_345 ⟨(show 100 + k + 0 ≤ 600000 by omega), (show 1000 + 7 * k + 0 ≤ 7302250 by omega)⟩) (fun r u H locs hw hI => ?_)
      obtain ⟨rfl, rfl⟩ := hw
      refine lv_aload_n hx hb dL_law_348 rfl (lv_at hl 2 rfl) ?_
      refine lv_aload_n hx hb dL_law_349 rfl (lv_at hl 0 rfl) ?_
      refine lv_iload_n hx hb dL_law_350 rfl (lv_at hl 3 rfl) ?_
      refine lv_iconst (v := 1) hx hb dL_law_351 (by decide) ?_
      refine lv_iadd hx hb dL_law_352 ?_
      refine va_sld hx hb hX hbl hbA hI.2.2 hin1 dL_law_353 ?_
      refine lv_aload_n hx hb dL_law_354 rfl (lv_at hl 0 rfl) ?_
      refine lv_iload_n hx hb dL_law_355 rfl (lv_at hl 3 rfl) ?_
      refine lv_iconst (v := 2) hx hb dL_law_356 (by decide) ?_
      refine lv_iadd hx hb dL_law_357 ?_
      refine va_sld hx hb hX hbl hbA hI.2.2 hin2 dL_law_358 ?_
      refine lv_aload_n hx hb dL_law_359 rfl (lv_at hl 0 rfl) ?_
      refine lv_iload_n hx hb dL_law_360 rfl (lv_at hl 3 rfl) ?_
      refine lv_iconst (v := 3) hx hb dL_law_361 (by decide) ?_
      refine lv_iadd hx hb dL_law_362 ?_
      refine va_sld hx hb hX hbl hbA hI.2.2 hin3 dL_law_363 ?_
      refine wk_fI hI hA (va_runV (As := [.int (xs ((nI (6 * k)) + 1).toNatClampNeg), .int (xs ((nI (6 * k)) + 2).toNatClampNeg), .int (xs ((nI (6 * k)) + 3).toNatClampNeg)]) (rest := [.int ((wk_race σ (xs ((nI (6 * k)) + 1).toNatClampNeg) (xs ((nI (6 * k)) + 2).toNatClampNeg) (xs ((nI (6 * k)) + 3).toNatClampNeg)).1)]) ⟨hx, hb, hml, hown, hts⟩ (c_X12_race l D cI cJ cS am σ (xs ((nI (6 * k)) + 1).toNatClampNeg) (xs ((nI (6 * k)) + 2).toNatClampNeg) (xs ((nI (6 * k)) + 3).toNatClampNeg) hKσ.1 _) (wk_cwV 3 hts wk_TL mw_696 mw_697 mw_698 mw_45 mw_699 hdX12_race ⟨(Nat.le_of_ble_eq_true rfl), (Nat.le_of_ble_eq_true rfl)⟩) (wk_preV hN hK hI.right (ci := 11) rfl wm_e0) rfl rfl hl.1 rfl (lv_room (Nat.le_of_ble_eq_true rfl)) dL_law_364 ⟨(show 100 + k + 0 ≤ 600000 by omega), (show 1000 + 7 * k + 0 ≤ 7302250 by omega)⟩) (fun r u H locs hw hI => ?_)
      obtain ⟨rfl, rfl⟩ := hw
      refine lv_icmp_eq (tgt := 663) hx hb dL_law_367 (by decide) (fun c_17 => ?_) (fun c_17 => ?_)
      · refine lv_iinc (v := (nI (6 * k)) + 6) (lv' := [(3, .int ((nI (6 * k)) + 6)), (0, .ref b), (1, .ref (ad 0)), (2, .ref (am 0))]) hx hb dL_law_663 hl (k := 3) rfl rfl (by decide) rfl (fun ls hl => ?_)
        refine lv_goto (tgt := 18) hx hb dL_law_666 (by decide) ?_
        rw [h6] at hl
        refine W.widen (k := 100 + (k + 1)) (n := 1000 + 7 * (k + 1)) (by show 100 + k + 0 + 0 ≤ 100 + (k + 1); omega) (by show 1000 + 7 * k + 0 + 0 ≤ 1000 + 7 * (k + 1); omega) ?_
        exact ih _ _ _ ⟨ad, am, _, (wk_k_race hKσ (xs ((nI (6 * k)) + 1).toNatClampNeg) (xs ((nI (6 * k)) + 2).toNatClampNeg) (xs ((nI (6 * k)) + 3).toNatClampNeg)), hI, lv_sub hl [1, 2, 3, 0] rfl⟩
      · exact absurd rfl c_17
    by_cases hs_18 : ((xs (nI (6 * k)).toNatClampNeg) &&& 31) = 8
    · refine lv_tableIn (tgt := 372) (off := 339) hx hb dL_law_33 (by rw [hs_18]; decide) (by rw [hs_18]; decide) (by rw [hs_18]; rfl) (by decide) ?_
      refine lv_aload_n hx hb dL_law_372 rfl (lv_at hl 1 rfl) ?_
      refine lv_aload_n hx hb dL_law_373 rfl (lv_at hl 0 rfl) ?_
      refine lv_iload_n hx hb dL_law_374 rfl (lv_at hl 3 rfl) ?_
      refine lv_iconst (v := 1) hx hb dL_law_375 (by decide) ?_
      refine lv_iadd hx hb dL_law_376 ?_
      refine va_sld hx hb hX hbl hbA hI.2.2 hin1 dL_law_377 ?_
      refine lv_aload_n hx hb dL_law_378 rfl (lv_at hl 0 rfl) ?_
      refine lv_iload_n hx hb dL_law_379 rfl (lv_at hl 3 rfl) ?_
      refine lv_iconst (v := 2) hx hb dL_law_380 (by decide) ?_
      refine lv_iadd hx hb dL_law_381 ?_
      refine va_sld hx hb hX hbl hbA hI.2.2 hin2 dL_law_382 ?_
      refine lv_aload_n hx hb dL_law_383 rfl (lv_at hl 0 rfl) ?_
      refine lv_iload_n hx hb dL_law_384 rfl (lv_at hl 3 rfl) ?_
      refine lv_iconst (v := 3) hx hb dL_law_385 (by decide) ?_
      refine lv_iadd hx hb dL_law_386 ?_
      refine va_sld hx hb hX hbl hbA hI.2.2 hin3 dL_law_387 ?_
      refine wk_gL hI hA (va_runV (As := [.int (xs ((nI (6 * k)) + 1).toNatClampNeg), .int (xs ((nI (6 * k)) + 2).toNatClampNeg), .int (xs ((nI (6 * k)) + 3).toNatClampNeg)]) (rest := []) ⟨hx, hb, hml, hown, hts⟩ (c_X11_due l D cI cJ cS ad σ (xs ((nI (6 * k)) + 1).toNatClampNeg) (xs ((nI (6 * k)) + 2).toNatClampNeg) (xs ((nI (6 * k)) + 3).toNatClampNeg) hKσ.1 _) (wk_cwV 3 hts wk_TL mw_431 mw_432 mw_433 mw_34 mw_434 hdX11_due ⟨(Nat.le_of_ble_eq_true rfl), (Nat.le_of_ble_eq_true rfl)⟩) (wk_preV hN hK hI.left (ci := 10) rfl wx_e0) rfl rfl hl.1 rfl (lv_room (Nat.le_of_ble_eq_true rfl)) dL_law_388 ⟨(show 100 + k + 0 ≤ 600000 by omega), (show 1000 + 7 * k + 0 ≤ 7302250 by omega)⟩) (fun r u H locs hw hI => ?_)
      obtain ⟨rfl, rfl⟩ := hw
      refine lv_aload_n hx hb dL_law_391 rfl (lv_at hl 2 rfl) ?_
      refine lv_aload_n hx hb dL_law_392 rfl (lv_at hl 0 rfl) ?_
      refine lv_iload_n hx hb dL_law_393 rfl (lv_at hl 3 rfl) ?_
      refine lv_iconst (v := 1) hx hb dL_law_394 (by decide) ?_
      refine lv_iadd hx hb dL_law_395 ?_
      refine va_sld hx hb hX hbl hbA hI.2.2 hin1 dL_law_396 ?_
      refine lv_aload_n hx hb dL_law_397 rfl (lv_at hl 0 rfl) ?_
      refine lv_iload_n hx hb dL_law_398 rfl (lv_at hl 3 rfl) ?_
      refine lv_iconst (v := 2) hx hb dL_law_399 (by decide) ?_
      refine lv_iadd hx hb dL_law_400 ?_
      refine va_sld hx hb hX hbl hbA hI.2.2 hin2 dL_law_401 ?_
      refine lv_aload_n hx hb dL_law_402 rfl (lv_at hl 0 rfl) ?_
      refine lv_iload_n hx hb dL_law_403 rfl (lv_at hl 3 rfl) ?_
      refine lv_iconst (v := 3) hx hb dL_law_404 (by decide) ?_
      refine lv_iadd hx hb dL_law_405 ?_
      refine va_sld hx hb hX hbl hbA hI.2.2 hin3 dL_law_406 ?_
      refine wk_fL hI hA (va_runV (As := [.int (xs ((nI (6 * k)) + 1).toNatClampNeg), .int (xs ((nI (6 * k)) + 2).toNatClampNeg), .int (xs ((nI (6 * k)) + 3).toNatClampNeg)]) (rest := [.long ((wk_due σ (xs ((nI (6 * k)) + 1).toNatClampNeg) (xs ((nI (6 * k)) + 2).toNatClampNeg) (xs ((nI (6 * k)) + 3).toNatClampNeg)).1)]) ⟨hx, hb, hml, hown, hts⟩ (c_X12_due l D cI cJ cS am σ (xs ((nI (6 * k)) + 1).toNatClampNeg) (xs ((nI (6 * k)) + 2).toNatClampNeg) (xs ((nI (6 * k)) + 3).toNatClampNeg) hKσ.1 _) (wk_cwV 3 hts wk_TL mw_703 mw_704 mw_705 mw_45 mw_706 hdX12_due ⟨(Nat.le_of_ble_eq_true rfl), (Nat.le_of_ble_eq_true rfl)⟩) (wk_preV hN hK hI.right (ci := 11) rfl wm_e0) rfl rfl hl.1 rfl (lv_room (Nat.le_of_ble_eq_true rfl)) dL_law_407 ⟨(show 100 + k + 0 ≤ 600000 by omega), (show 1000 + 7 * k + 0 ≤ 7302250 by omega)⟩) (fun r u H locs hw hI => ?_)
      obtain ⟨rfl, rfl⟩ := hw
      refine W.lcmp hx hb dL_law_410 ?_
      refine lv_if_eq (tgt := 663) hx hb dL_law_411 (by decide) (fun c_19 => ?_) (fun c_19 => ?_)
      · have c_19 := (lg_cmp_eq _ _).mp c_19
        refine lv_iinc (v := (nI (6 * k)) + 6) (lv' := [(3, .int ((nI (6 * k)) + 6)), (0, .ref b), (1, .ref (ad 0)), (2, .ref (am 0))]) hx hb dL_law_663 hl (k := 3) rfl rfl (by decide) rfl (fun ls hl => ?_)
        refine lv_goto (tgt := 18) hx hb dL_law_666 (by decide) ?_
        rw [h6] at hl
        refine W.widen (k := 100 + (k + 1)) (n := 1000 + 7 * (k + 1)) (by show 100 + k + 0 + 0 ≤ 100 + (k + 1); omega) (by show 1000 + 7 * k + 0 + 0 ≤ 1000 + 7 * (k + 1); omega) ?_
        exact ih _ _ _ ⟨ad, am, _, (wk_k_due hKσ (xs ((nI (6 * k)) + 1).toNatClampNeg) (xs ((nI (6 * k)) + 2).toNatClampNeg) (xs ((nI (6 * k)) + 3).toNatClampNeg)), hI, lv_sub hl [1, 2, 3, 0] rfl⟩
      · have c_19 := fun hq => c_19 ((lg_cmp_eq _ _).mpr hq)
        exact absurd rfl c_19
    by_cases hs_20 : ((xs (nI (6 * k)).toNatClampNeg) &&& 31) = 9
    · refine lv_tableIn (tgt := 416) (off := 383) hx hb dL_law_33 (by rw [hs_20]; decide) (by rw [hs_20]; decide) (by rw [hs_20]; rfl) (by decide) ?_
      refine lv_aload_n hx hb dL_law_416 rfl (lv_at hl 1 rfl) ?_
      refine lv_aload_n hx hb dL_law_417 rfl (lv_at hl 0 rfl) ?_
      refine lv_iload_n hx hb dL_law_418 rfl (lv_at hl 3 rfl) ?_
      refine lv_iconst (v := 1) hx hb dL_law_419 (by decide) ?_
      refine lv_iadd hx hb dL_law_420 ?_
      refine va_sld hx hb hX hbl hbA hI.2.2 hin1 dL_law_421 ?_
      refine lv_aload_n hx hb dL_law_422 rfl (lv_at hl 0 rfl) ?_
      refine lv_iload_n hx hb dL_law_423 rfl (lv_at hl 3 rfl) ?_
      refine lv_iconst (v := 2) hx hb dL_law_424 (by decide) ?_
      refine lv_iadd hx hb dL_law_425 ?_
      refine va_sld hx hb hX hbl hbA hI.2.2 hin2 dL_law_426 ?_
      refine wk_gI hI hA (va_runV (As := [.int (xs ((nI (6 * k)) + 1).toNatClampNeg), .int (xs ((nI (6 * k)) + 2).toNatClampNeg)]) (rest := []) ⟨hx, hb, hml, hown, hts⟩ (c_X11_feed l D cI cJ cS ad σ (xs ((nI (6 * k)) + 1).toNatClampNeg) (xs ((nI (6 * k)) + 2).toNatClampNeg) hKσ.1 _) (wk_cwV 2 hts wk_TL mw_439 mw_440 mw_441 mw_34 mw_442 hdX11_feed ⟨(Nat.le_of_ble_eq_true rfl), (Nat.le_of_ble_eq_true rfl)⟩) (wk_preV hN hK hI.left (ci := 10) rfl wx_e0) rfl rfl hl.1 rfl (lv_room (Nat.le_of_ble_eq_true rfl)) dL_law_427 ⟨(show 100 + k + 0 ≤ 600000 by omega), (show 1000 + 7 * k + 0 ≤ 7302250 by omega)⟩) (fun r u H locs hw hI => ?_)
      obtain ⟨rfl, rfl⟩ := hw
      refine lv_aload_n hx hb dL_law_430 rfl (lv_at hl 2 rfl) ?_
      refine lv_aload_n hx hb dL_law_431 rfl (lv_at hl 0 rfl) ?_
      refine lv_iload_n hx hb dL_law_432 rfl (lv_at hl 3 rfl) ?_
      refine lv_iconst (v := 1) hx hb dL_law_433 (by decide) ?_
      refine lv_iadd hx hb dL_law_434 ?_
      refine va_sld hx hb hX hbl hbA hI.2.2 hin1 dL_law_435 ?_
      refine lv_aload_n hx hb dL_law_436 rfl (lv_at hl 0 rfl) ?_
      refine lv_iload_n hx hb dL_law_437 rfl (lv_at hl 3 rfl) ?_
      refine lv_iconst (v := 2) hx hb dL_law_438 (by decide) ?_
      refine lv_iadd hx hb dL_law_439 ?_
      refine va_sld hx hb hX hbl hbA hI.2.2 hin2 dL_law_440 ?_
      refine wk_fI hI hA (va_runV (As := [.int (xs ((nI (6 * k)) + 1).toNatClampNeg), .int (xs ((nI (6 * k)) + 2).toNatClampNeg)]) (rest := [.int ((wk_feed σ (xs ((nI (6 * k)) + 1).toNatClampNeg) (xs ((nI (6 * k)) + 2).toNatClampNeg)).1)]) ⟨hx, hb, hml, hown, hts⟩ (c_X12_feed l D cI cJ cS am σ (xs ((nI (6 * k)) + 1).toNatClampNeg) (xs ((nI (6 * k)) + 2).toNatClampNeg) hKσ.1 _) (wk_cwV 2 hts wk_TL mw_707 mw_708 mw_709 mw_45 mw_710 hdX12_feed ⟨(Nat.le_of_ble_eq_true rfl), (Nat.le_of_ble_eq_true rfl)⟩) (wk_preV hN hK hI.right (ci := 11) rfl wm_e0) rfl rfl hl.1 rfl (lv_room (Nat.le_of_ble_eq_true rfl)) dL_law_441 ⟨(show 100 + k + 0 ≤ 600000 by omega), (show 1000 + 7 * k + 0 ≤ 7302250 by omega)⟩) (fun r u H locs hw hI => ?_)
      obtain ⟨rfl, rfl⟩ := hw
      refine lv_icmp_eq (tgt := 663) hx hb dL_law_444 (by decide) (fun c_21 => ?_) (fun c_21 => ?_)
      · refine lv_iinc (v := (nI (6 * k)) + 6) (lv' := [(3, .int ((nI (6 * k)) + 6)), (0, .ref b), (1, .ref (ad 0)), (2, .ref (am 0))]) hx hb dL_law_663 hl (k := 3) rfl rfl (by decide) rfl (fun ls hl => ?_)
        refine lv_goto (tgt := 18) hx hb dL_law_666 (by decide) ?_
        rw [h6] at hl
        refine W.widen (k := 100 + (k + 1)) (n := 1000 + 7 * (k + 1)) (by show 100 + k + 0 + 0 ≤ 100 + (k + 1); omega) (by show 1000 + 7 * k + 0 + 0 ≤ 1000 + 7 * (k + 1); omega) ?_
        exact ih _ _ _ ⟨ad, am, _, (wk_k_feed hKσ (xs ((nI (6 * k)) + 1).toNatClampNeg) (xs ((nI (6 * k)) + 2).toNatClampNeg)), hI, lv_sub hl [1, 2, 3, 0] rfl⟩
      · exact absurd rfl c_21
    by_cases hs_22 : ((xs (nI (6 * k)).toNatClampNeg) &&& 31) = 10
    · refine lv_tableIn (tgt := 449) (off := 416) hx hb dL_law_33 (by rw [hs_22]; decide) (by rw [hs_22]; decide) (by rw [hs_22]; rfl) (by decide) ?_
      refine lv_aload_n hx hb dL_law_449 rfl (lv_at hl 1 rfl) ?_
      refine lv_aload_n hx hb dL_law_450 rfl (lv_at hl 0 rfl) ?_
      refine lv_iload_n hx hb dL_law_451 rfl (lv_at hl 3 rfl) ?_
      refine lv_iconst (v := 1) hx hb dL_law_452 (by decide) ?_
      refine lv_iadd hx hb dL_law_453 ?_
      refine va_sld hx hb hX hbl hbA hI.2.2 hin1 dL_law_454 ?_
      refine lv_aload_n hx hb dL_law_455 rfl (lv_at hl 0 rfl) ?_
      refine lv_iload_n hx hb dL_law_456 rfl (lv_at hl 3 rfl) ?_
      refine lv_iconst (v := 2) hx hb dL_law_457 (by decide) ?_
      refine lv_iadd hx hb dL_law_458 ?_
      refine va_sld hx hb hX hbl hbA hI.2.2 hin2 dL_law_459 ?_
      refine wk_gL hI hA (va_runV (As := [.int (xs ((nI (6 * k)) + 1).toNatClampNeg), .int (xs ((nI (6 * k)) + 2).toNatClampNeg)]) (rest := []) ⟨hx, hb, hml, hown, hts⟩ (c_X11_watch l D cI cJ cS ad σ (xs ((nI (6 * k)) + 1).toNatClampNeg) (xs ((nI (6 * k)) + 2).toNatClampNeg) hKσ.1 _) (wk_cwV 2 hts wk_TL mw_449 mw_450 mw_451 mw_34 mw_452 hdX11_watch ⟨(Nat.le_of_ble_eq_true rfl), (Nat.le_of_ble_eq_true rfl)⟩) (wk_preV hN hK hI.left (ci := 10) rfl wx_e0) rfl rfl hl.1 rfl (lv_room (Nat.le_of_ble_eq_true rfl)) dL_law_460 ⟨(show 100 + k + 0 ≤ 600000 by omega), (show 1000 + 7 * k + 0 ≤ 7302250 by omega)⟩) (fun r u H locs hw hI => ?_)
      obtain ⟨rfl, rfl⟩ := hw
      refine lv_aload_n hx hb dL_law_463 rfl (lv_at hl 2 rfl) ?_
      refine lv_aload_n hx hb dL_law_464 rfl (lv_at hl 0 rfl) ?_
      refine lv_iload_n hx hb dL_law_465 rfl (lv_at hl 3 rfl) ?_
      refine lv_iconst (v := 1) hx hb dL_law_466 (by decide) ?_
      refine lv_iadd hx hb dL_law_467 ?_
      refine va_sld hx hb hX hbl hbA hI.2.2 hin1 dL_law_468 ?_
      refine lv_aload_n hx hb dL_law_469 rfl (lv_at hl 0 rfl) ?_
      refine lv_iload_n hx hb dL_law_470 rfl (lv_at hl 3 rfl) ?_
      refine lv_iconst (v := 2) hx hb dL_law_471 (by decide) ?_
      refine lv_iadd hx hb dL_law_472 ?_
      refine va_sld hx hb hX hbl hbA hI.2.2 hin2 dL_law_473 ?_
      refine wk_fL hI hA (va_runV (As := [.int (xs ((nI (6 * k)) + 1).toNatClampNeg), .int (xs ((nI (6 * k)) + 2).toNatClampNeg)]) (rest := [.long ((wk_watch σ (xs ((nI (6 * k)) + 1).toNatClampNeg) (xs ((nI (6 * k)) + 2).toNatClampNeg)).1)]) ⟨hx, hb, hml, hown, hts⟩ (c_X12_watch l D cI cJ cS am σ (xs ((nI (6 * k)) + 1).toNatClampNeg) (xs ((nI (6 * k)) + 2).toNatClampNeg) hKσ.1 _) (wk_cwV 2 hts wk_TL mw_715 mw_716 mw_717 mw_45 mw_718 hdX12_watch ⟨(Nat.le_of_ble_eq_true rfl), (Nat.le_of_ble_eq_true rfl)⟩) (wk_preV hN hK hI.right (ci := 11) rfl wm_e0) rfl rfl hl.1 rfl (lv_room (Nat.le_of_ble_eq_true rfl)) dL_law_474 ⟨(show 100 + k + 0 ≤ 600000 by omega), (show 1000 + 7 * k + 0 ≤ 7302250 by omega)⟩) (fun r u H locs hw hI => ?_)
      obtain ⟨rfl, rfl⟩ := hw
      refine W.lcmp hx hb dL_law_477 ?_
      refine lv_if_eq (tgt := 663) hx hb dL_law_478 (by decide) (fun c_23 => ?_) (fun c_23 => ?_)
      · have c_23 := (lg_cmp_eq _ _).mp c_23
        refine lv_iinc (v := (nI (6 * k)) + 6) (lv' := [(3, .int ((nI (6 * k)) + 6)), (0, .ref b), (1, .ref (ad 0)), (2, .ref (am 0))]) hx hb dL_law_663 hl (k := 3) rfl rfl (by decide) rfl (fun ls hl => ?_)
        refine lv_goto (tgt := 18) hx hb dL_law_666 (by decide) ?_
        rw [h6] at hl
        refine W.widen (k := 100 + (k + 1)) (n := 1000 + 7 * (k + 1)) (by show 100 + k + 0 + 0 ≤ 100 + (k + 1); omega) (by show 1000 + 7 * k + 0 + 0 ≤ 1000 + 7 * (k + 1); omega) ?_
        exact ih _ _ _ ⟨ad, am, _, (wk_k_watch hKσ (xs ((nI (6 * k)) + 1).toNatClampNeg) (xs ((nI (6 * k)) + 2).toNatClampNeg)), hI, lv_sub hl [1, 2, 3, 0] rfl⟩
      · have c_23 := fun hq => c_23 ((lg_cmp_eq _ _).mpr hq)
        exact absurd rfl c_23
    by_cases hs_24 : ((xs (nI (6 * k)).toNatClampNeg) &&& 31) = 11
    · refine lv_tableIn (tgt := 483) (off := 450) hx hb dL_law_33 (by rw [hs_24]; decide) (by rw [hs_24]; decide) (by rw [hs_24]; rfl) (by decide) ?_
      refine lv_aload_n hx hb dL_law_483 rfl (lv_at hl 1 rfl) ?_
      refine lv_aload_n hx hb dL_law_484 rfl (lv_at hl 0 rfl) ?_
      refine lv_iload_n hx hb dL_law_485 rfl (lv_at hl 3 rfl) ?_
      refine lv_iconst (v := 1) hx hb dL_law_486 (by decide) ?_
      refine lv_iadd hx hb dL_law_487 ?_
      refine va_sld hx hb hX hbl hbA hI.2.2 hin1 dL_law_488 ?_
      refine lv_aload_n hx hb dL_law_489 rfl (lv_at hl 0 rfl) ?_
      refine lv_iload_n hx hb dL_law_490 rfl (lv_at hl 3 rfl) ?_
      refine lv_iconst (v := 2) hx hb dL_law_491 (by decide) ?_
      refine lv_iadd hx hb dL_law_492 ?_
      refine va_sld hx hb hX hbl hbA hI.2.2 hin2 dL_law_493 ?_
      refine lv_aload_n hx hb dL_law_494 rfl (lv_at hl 0 rfl) ?_
      refine lv_iload_n hx hb dL_law_495 rfl (lv_at hl 3 rfl) ?_
      refine lv_iconst (v := 3) hx hb dL_law_496 (by decide) ?_
      refine lv_iadd hx hb dL_law_497 ?_
      refine va_sld hx hb hX hbl hbA hI.2.2 hin3 dL_law_498 ?_
      refine lv_aload_n hx hb dL_law_499 rfl (lv_at hl 0 rfl) ?_
      refine lv_iload_n hx hb dL_law_500 rfl (lv_at hl 3 rfl) ?_
      refine lv_iconst (v := 4) hx hb dL_law_501 (by decide) ?_
      refine lv_iadd hx hb dL_law_502 ?_
      refine va_sld hx hb hX hbl hbA hI.2.2 hin4 dL_law_503 ?_
      refine lv_aload_n hx hb dL_law_504 rfl (lv_at hl 0 rfl) ?_
      refine lv_iload_n hx hb dL_law_505 rfl (lv_at hl 3 rfl) ?_
      refine lv_iconst (v := 5) hx hb dL_law_506 (by decide) ?_
      refine lv_iadd hx hb dL_law_507 ?_
      refine va_sld hx hb hX hbl hbA hI.2.2 hin5 dL_law_508 ?_
      refine wk_gI hI hA (va_runV (As := [.int (xs ((nI (6 * k)) + 1).toNatClampNeg), .int (xs ((nI (6 * k)) + 2).toNatClampNeg), .int (xs ((nI (6 * k)) + 3).toNatClampNeg), .int (xs ((nI (6 * k)) + 4).toNatClampNeg), .int (xs ((nI (6 * k)) + 5).toNatClampNeg)]) (rest := []) ⟨hx, hb, hml, hown, hts⟩ (c_X11_line l D cI cJ cS ad σ (xs ((nI (6 * k)) + 1).toNatClampNeg) (xs ((nI (6 * k)) + 2).toNatClampNeg) (xs ((nI (6 * k)) + 3).toNatClampNeg) (xs ((nI (6 * k)) + 4).toNatClampNeg) (xs ((nI (6 * k)) + 5).toNatClampNeg)  _) (wk_cwV 5 hts wk_TL mw_460 mw_461 mw_462 mw_34 mw_463 hdX11_line ⟨(Nat.le_of_ble_eq_true rfl), (Nat.le_of_ble_eq_true rfl)⟩) (wk_preV hN hK hI.left (ci := 10) rfl wx_e0) rfl rfl hl.1 rfl (lv_room (Nat.le_of_ble_eq_true rfl)) dL_law_509 ⟨(show 100 + k + 0 ≤ 600000 by omega), (show 1000 + 7 * k + 0 ≤ 7302250 by omega)⟩) (fun r u H locs hw hI => ?_)
      obtain ⟨rfl, rfl⟩ := hw
      refine lv_aload_n hx hb dL_law_512 rfl (lv_at hl 2 rfl) ?_
      refine lv_aload_n hx hb dL_law_513 rfl (lv_at hl 0 rfl) ?_
      refine lv_iload_n hx hb dL_law_514 rfl (lv_at hl 3 rfl) ?_
      refine lv_iconst (v := 1) hx hb dL_law_515 (by decide) ?_
      refine lv_iadd hx hb dL_law_516 ?_
      refine va_sld hx hb hX hbl hbA hI.2.2 hin1 dL_law_517 ?_
      refine lv_aload_n hx hb dL_law_518 rfl (lv_at hl 0 rfl) ?_
      refine lv_iload_n hx hb dL_law_519 rfl (lv_at hl 3 rfl) ?_
      refine lv_iconst (v := 2) hx hb dL_law_520 (by decide) ?_
      refine lv_iadd hx hb dL_law_521 ?_
      refine va_sld hx hb hX hbl hbA hI.2.2 hin2 dL_law_522 ?_
      refine lv_aload_n hx hb dL_law_523 rfl (lv_at hl 0 rfl) ?_
      refine lv_iload_n hx hb dL_law_524 rfl (lv_at hl 3 rfl) ?_
      refine lv_iconst (v := 3) hx hb dL_law_525 (by decide) ?_
      refine lv_iadd hx hb dL_law_526 ?_
      refine va_sld hx hb hX hbl hbA hI.2.2 hin3 dL_law_527 ?_
      refine lv_aload_n hx hb dL_law_528 rfl (lv_at hl 0 rfl) ?_
      refine lv_iload_n hx hb dL_law_529 rfl (lv_at hl 3 rfl) ?_
      refine lv_iconst (v := 4) hx hb dL_law_530 (by decide) ?_
      refine lv_iadd hx hb dL_law_531 ?_
      refine va_sld hx hb hX hbl hbA hI.2.2 hin4 dL_law_532 ?_
      refine lv_aload_n hx hb dL_law_533 rfl (lv_at hl 0 rfl) ?_
      refine lv_iload_n hx hb dL_law_534 rfl (lv_at hl 3 rfl) ?_
      refine lv_iconst (v := 5) hx hb dL_law_535 (by decide) ?_
      refine lv_iadd hx hb dL_law_536 ?_
      refine va_sld hx hb hX hbl hbA hI.2.2 hin5 dL_law_537 ?_
      refine wk_fI hI hA (va_runV (As := [.int (xs ((nI (6 * k)) + 1).toNatClampNeg), .int (xs ((nI (6 * k)) + 2).toNatClampNeg), .int (xs ((nI (6 * k)) + 3).toNatClampNeg), .int (xs ((nI (6 * k)) + 4).toNatClampNeg), .int (xs ((nI (6 * k)) + 5).toNatClampNeg)]) (rest := [.int ((wk_line σ (xs ((nI (6 * k)) + 1).toNatClampNeg) (xs ((nI (6 * k)) + 2).toNatClampNeg) (xs ((nI (6 * k)) + 3).toNatClampNeg) (xs ((nI (6 * k)) + 4).toNatClampNeg) (xs ((nI (6 * k)) + 5).toNatClampNeg)).1)]) ⟨hx, hb, hml, hown, hts⟩ (c_X12_line l D cI cJ cS am σ (xs ((nI (6 * k)) + 1).toNatClampNeg) (xs ((nI (6 * k)) + 2).toNatClampNeg) (xs ((nI (6 * k)) + 3).toNatClampNeg) (xs ((nI (6 * k)) + 4).toNatClampNeg) (xs ((nI (6 * k)) + 5).toNatClampNeg)  _) (wk_cwV 5 hts wk_TL mw_719 mw_720 mw_721 mw_45 mw_722 hdX12_line ⟨(Nat.le_of_ble_eq_true rfl), (Nat.le_of_ble_eq_true rfl)⟩) (wk_preV hN hK hI.right (ci := 11) rfl wm_e0) rfl rfl hl.1 rfl (lv_room (Nat.le_of_ble_eq_true rfl)) dL_law_538 ⟨(show 100 + k + 0 ≤ 600000 by omega), (show 1000 + 7 * k + 0 ≤ 7302250 by omega)⟩) (fun r u H locs hw hI => ?_)
      obtain ⟨rfl, rfl⟩ := hw
      refine lv_icmp_eq (tgt := 663) hx hb dL_law_541 (by decide) (fun c_25 => ?_) (fun c_25 => ?_)
      · refine lv_iinc (v := (nI (6 * k)) + 6) (lv' := [(3, .int ((nI (6 * k)) + 6)), (0, .ref b), (1, .ref (ad 0)), (2, .ref (am 0))]) hx hb dL_law_663 hl (k := 3) rfl rfl (by decide) rfl (fun ls hl => ?_)
        refine lv_goto (tgt := 18) hx hb dL_law_666 (by decide) ?_
        rw [h6] at hl
        refine W.widen (k := 100 + (k + 1)) (n := 1000 + 7 * (k + 1)) (by show 100 + k + 0 + 0 ≤ 100 + (k + 1); omega) (by show 1000 + 7 * k + 0 + 0 ≤ 1000 + 7 * (k + 1); omega) ?_
        exact ih _ _ _ ⟨ad, am, _, (wk_k_line hKσ (xs ((nI (6 * k)) + 1).toNatClampNeg) (xs ((nI (6 * k)) + 2).toNatClampNeg) (xs ((nI (6 * k)) + 3).toNatClampNeg) (xs ((nI (6 * k)) + 4).toNatClampNeg) (xs ((nI (6 * k)) + 5).toNatClampNeg)), hI, lv_sub hl [1, 2, 3, 0] rfl⟩
      · exact absurd rfl c_25
    by_cases hs_26 : ((xs (nI (6 * k)).toNatClampNeg) &&& 31) = 12
    · refine lv_tableIn (tgt := 546) (off := 513) hx hb dL_law_33 (by rw [hs_26]; decide) (by rw [hs_26]; decide) (by rw [hs_26]; rfl) (by decide) ?_
      refine lv_aload_n hx hb dL_law_546 rfl (lv_at hl 1 rfl) ?_
      refine lv_aload_n hx hb dL_law_547 rfl (lv_at hl 0 rfl) ?_
      refine lv_iload_n hx hb dL_law_548 rfl (lv_at hl 3 rfl) ?_
      refine lv_iconst (v := 1) hx hb dL_law_549 (by decide) ?_
      refine lv_iadd hx hb dL_law_550 ?_
      refine va_sld hx hb hX hbl hbA hI.2.2 hin1 dL_law_551 ?_
      refine wk_gL hI hA (va_runV (As := [.int (xs ((nI (6 * k)) + 1).toNatClampNeg)]) (rest := []) ⟨hx, hb, hml, hown, hts⟩ (c_X11_sail l D cI cJ cS ad σ (xs ((nI (6 * k)) + 1).toNatClampNeg) hKσ.1 _) (wk_cwV 1 hts wk_TL mw_464 mw_465 mw_466 mw_34 mw_467 hdX11_sail ⟨(Nat.le_of_ble_eq_true rfl), (Nat.le_of_ble_eq_true rfl)⟩) (wk_preV hN hK hI.left (ci := 10) rfl wx_e0) rfl rfl hl.1 rfl (lv_room (Nat.le_of_ble_eq_true rfl)) dL_law_552 ⟨(show 100 + k + 0 ≤ 600000 by omega), (show 1000 + 7 * k + 0 ≤ 7302250 by omega)⟩) (fun r u H locs hw hI => ?_)
      obtain ⟨rfl, rfl⟩ := hw
      refine lv_aload_n hx hb dL_law_555 rfl (lv_at hl 2 rfl) ?_
      refine lv_aload_n hx hb dL_law_556 rfl (lv_at hl 0 rfl) ?_
      refine lv_iload_n hx hb dL_law_557 rfl (lv_at hl 3 rfl) ?_
      refine lv_iconst (v := 1) hx hb dL_law_558 (by decide) ?_
      refine lv_iadd hx hb dL_law_559 ?_
      refine va_sld hx hb hX hbl hbA hI.2.2 hin1 dL_law_560 ?_
      refine wk_fL hI hA (va_runV (As := [.int (xs ((nI (6 * k)) + 1).toNatClampNeg)]) (rest := [.long ((wk_sail σ (xs ((nI (6 * k)) + 1).toNatClampNeg)).1)]) ⟨hx, hb, hml, hown, hts⟩ (c_X12_sail l D cI cJ cS am σ (xs ((nI (6 * k)) + 1).toNatClampNeg) hKσ.1 hKσ.2 _) (wk_cwV 1 hts wk_TL mw_723 mw_724 mw_725 mw_45 mw_726 hdX12_sail ⟨(Nat.le_of_ble_eq_true rfl), (Nat.le_of_ble_eq_true rfl)⟩) (wk_preV hN hK hI.right (ci := 11) rfl wm_e0) rfl rfl hl.1 rfl (lv_room (Nat.le_of_ble_eq_true rfl)) dL_law_561 ⟨(show 100 + k + 0 ≤ 600000 by omega), (show 1000 + 7 * k + 0 ≤ 7302250 by omega)⟩) (fun r u H locs hw hI => ?_)
      obtain ⟨rfl, rfl⟩ := hw
      refine W.lcmp hx hb dL_law_564 ?_
      refine lv_if_eq (tgt := 663) hx hb dL_law_565 (by decide) (fun c_27 => ?_) (fun c_27 => ?_)
      · have c_27 := (lg_cmp_eq _ _).mp c_27
        refine lv_iinc (v := (nI (6 * k)) + 6) (lv' := [(3, .int ((nI (6 * k)) + 6)), (0, .ref b), (1, .ref (ad 0)), (2, .ref (am 0))]) hx hb dL_law_663 hl (k := 3) rfl rfl (by decide) rfl (fun ls hl => ?_)
        refine lv_goto (tgt := 18) hx hb dL_law_666 (by decide) ?_
        rw [h6] at hl
        refine W.widen (k := 100 + (k + 1)) (n := 1000 + 7 * (k + 1)) (by show 100 + k + 0 + 0 ≤ 100 + (k + 1); omega) (by show 1000 + 7 * k + 0 + 0 ≤ 1000 + 7 * (k + 1); omega) ?_
        exact ih _ _ _ ⟨ad, am, _, (wk_k_sail hKσ (xs ((nI (6 * k)) + 1).toNatClampNeg)), hI, lv_sub hl [1, 2, 3, 0] rfl⟩
      · have c_27 := fun hq => c_27 ((lg_cmp_eq _ _).mpr hq)
        exact absurd rfl c_27
    by_cases hs_28 : ((xs (nI (6 * k)).toNatClampNeg) &&& 31) = 13
    · refine lv_tableIn (tgt := 570) (off := 537) hx hb dL_law_33 (by rw [hs_28]; decide) (by rw [hs_28]; decide) (by rw [hs_28]; rfl) (by decide) ?_
      refine lv_aload_n hx hb dL_law_570 rfl (lv_at hl 1 rfl) ?_
      refine lv_aload_n hx hb dL_law_571 rfl (lv_at hl 0 rfl) ?_
      refine lv_iload_n hx hb dL_law_572 rfl (lv_at hl 3 rfl) ?_
      refine lv_iconst (v := 1) hx hb dL_law_573 (by decide) ?_
      refine lv_iadd hx hb dL_law_574 ?_
      refine va_sld hx hb hX hbl hbA hI.2.2 hin1 dL_law_575 ?_
      refine wk_gI hI hA (va_runV (As := [.int (xs ((nI (6 * k)) + 1).toNatClampNeg)]) (rest := []) ⟨hx, hb, hml, hown, hts⟩ (c_X11_rest l D cI cJ cS ad σ (xs ((nI (6 * k)) + 1).toNatClampNeg) hKσ.1 _) (wk_cwV 1 hts wk_TL mw_472 mw_473 mw_474 mw_34 mw_475 hdX11_rest ⟨(Nat.le_of_ble_eq_true rfl), (Nat.le_of_ble_eq_true rfl)⟩) (wk_preV hN hK hI.left (ci := 10) rfl wx_e0) rfl rfl hl.1 rfl (lv_room (Nat.le_of_ble_eq_true rfl)) dL_law_576 ⟨(show 100 + k + 0 ≤ 600000 by omega), (show 1000 + 7 * k + 0 ≤ 7302250 by omega)⟩) (fun r u H locs hw hI => ?_)
      obtain ⟨rfl, rfl⟩ := hw
      refine lv_aload_n hx hb dL_law_579 rfl (lv_at hl 2 rfl) ?_
      refine lv_aload_n hx hb dL_law_580 rfl (lv_at hl 0 rfl) ?_
      refine lv_iload_n hx hb dL_law_581 rfl (lv_at hl 3 rfl) ?_
      refine lv_iconst (v := 1) hx hb dL_law_582 (by decide) ?_
      refine lv_iadd hx hb dL_law_583 ?_
      refine va_sld hx hb hX hbl hbA hI.2.2 hin1 dL_law_584 ?_
      refine wk_fI hI hA (va_runV (As := [.int (xs ((nI (6 * k)) + 1).toNatClampNeg)]) (rest := [.int ((wk_rest σ (xs ((nI (6 * k)) + 1).toNatClampNeg)).1)]) ⟨hx, hb, hml, hown, hts⟩ (c_X12_rest l D cI cJ cS am σ (xs ((nI (6 * k)) + 1).toNatClampNeg) hKσ.1 _) (wk_cwV 1 hts wk_TL mw_727 mw_728 mw_729 mw_45 mw_730 hdX12_rest ⟨(Nat.le_of_ble_eq_true rfl), (Nat.le_of_ble_eq_true rfl)⟩) (wk_preV hN hK hI.right (ci := 11) rfl wm_e0) rfl rfl hl.1 rfl (lv_room (Nat.le_of_ble_eq_true rfl)) dL_law_585 ⟨(show 100 + k + 0 ≤ 600000 by omega), (show 1000 + 7 * k + 0 ≤ 7302250 by omega)⟩) (fun r u H locs hw hI => ?_)
      obtain ⟨rfl, rfl⟩ := hw
      refine lv_icmp_eq (tgt := 663) hx hb dL_law_588 (by decide) (fun c_29 => ?_) (fun c_29 => ?_)
      · refine lv_iinc (v := (nI (6 * k)) + 6) (lv' := [(3, .int ((nI (6 * k)) + 6)), (0, .ref b), (1, .ref (ad 0)), (2, .ref (am 0))]) hx hb dL_law_663 hl (k := 3) rfl rfl (by decide) rfl (fun ls hl => ?_)
        refine lv_goto (tgt := 18) hx hb dL_law_666 (by decide) ?_
        rw [h6] at hl
        refine W.widen (k := 100 + (k + 1)) (n := 1000 + 7 * (k + 1)) (by show 100 + k + 0 + 0 ≤ 100 + (k + 1); omega) (by show 1000 + 7 * k + 0 + 0 ≤ 1000 + 7 * (k + 1); omega) ?_
        exact ih _ _ _ ⟨ad, am, _, (wk_k_rest hKσ (xs ((nI (6 * k)) + 1).toNatClampNeg)), hI, lv_sub hl [1, 2, 3, 0] rfl⟩
      · exact absurd rfl c_29
    by_cases hs_30 : ((xs (nI (6 * k)).toNatClampNeg) &&& 31) = 14
    · refine lv_tableIn (tgt := 593) (off := 560) hx hb dL_law_33 (by rw [hs_30]; decide) (by rw [hs_30]; decide) (by rw [hs_30]; rfl) (by decide) ?_
      refine lv_aload_n hx hb dL_law_593 rfl (lv_at hl 1 rfl) ?_
      refine lv_aload_n hx hb dL_law_594 rfl (lv_at hl 0 rfl) ?_
      refine lv_iload_n hx hb dL_law_595 rfl (lv_at hl 3 rfl) ?_
      refine lv_iconst (v := 1) hx hb dL_law_596 (by decide) ?_
      refine lv_iadd hx hb dL_law_597 ?_
      refine va_sld hx hb hX hbl hbA hI.2.2 hin1 dL_law_598 ?_
      refine lv_aload_n hx hb dL_law_599 rfl (lv_at hl 0 rfl) ?_
      refine lv_iload_n hx hb dL_law_600 rfl (lv_at hl 3 rfl) ?_
      refine lv_iconst (v := 2) hx hb dL_law_601 (by decide) ?_
      refine lv_iadd hx hb dL_law_602 ?_
      refine va_sld hx hb hX hbl hbA hI.2.2 hin2 dL_law_603 ?_
      refine wk_gL hI hA (va_runV (As := [.int (xs ((nI (6 * k)) + 1).toNatClampNeg), .int (xs ((nI (6 * k)) + 2).toNatClampNeg)]) (rest := []) ⟨hx, hb, hml, hown, hts⟩ (c_X11_told l D cI cJ cS ad σ (xs ((nI (6 * k)) + 1).toNatClampNeg) (xs ((nI (6 * k)) + 2).toNatClampNeg) hKσ.1 _) (wk_cwV 2 hts wk_TL mw_476 mw_477 mw_478 mw_34 mw_479 hdX11_told ⟨(Nat.le_of_ble_eq_true rfl), (Nat.le_of_ble_eq_true rfl)⟩) (wk_preV hN hK hI.left (ci := 10) rfl wx_e0) rfl rfl hl.1 rfl (lv_room (Nat.le_of_ble_eq_true rfl)) dL_law_604 ⟨(show 100 + k + 0 ≤ 600000 by omega), (show 1000 + 7 * k + 0 ≤ 7302250 by omega)⟩) (fun r u H locs hw hI => ?_)
      obtain ⟨rfl, rfl⟩ := hw
      refine lv_aload_n hx hb dL_law_607 rfl (lv_at hl 2 rfl) ?_
      refine lv_aload_n hx hb dL_law_608 rfl (lv_at hl 0 rfl) ?_
      refine lv_iload_n hx hb dL_law_609 rfl (lv_at hl 3 rfl) ?_
      refine lv_iconst (v := 1) hx hb dL_law_610 (by decide) ?_
      refine lv_iadd hx hb dL_law_611 ?_
      refine va_sld hx hb hX hbl hbA hI.2.2 hin1 dL_law_612 ?_
      refine lv_aload_n hx hb dL_law_613 rfl (lv_at hl 0 rfl) ?_
      refine lv_iload_n hx hb dL_law_614 rfl (lv_at hl 3 rfl) ?_
      refine lv_iconst (v := 2) hx hb dL_law_615 (by decide) ?_
      refine lv_iadd hx hb dL_law_616 ?_
      refine va_sld hx hb hX hbl hbA hI.2.2 hin2 dL_law_617 ?_
      refine wk_fL hI hA (va_runV (As := [.int (xs ((nI (6 * k)) + 1).toNatClampNeg), .int (xs ((nI (6 * k)) + 2).toNatClampNeg)]) (rest := [.long ((wk_told σ (xs ((nI (6 * k)) + 1).toNatClampNeg) (xs ((nI (6 * k)) + 2).toNatClampNeg)).1)]) ⟨hx, hb, hml, hown, hts⟩ (c_X12_told l D cI cJ cS am σ (xs ((nI (6 * k)) + 1).toNatClampNeg) (xs ((nI (6 * k)) + 2).toNatClampNeg) hKσ.1 _) (wk_cwV 2 hts wk_TL mw_731 mw_732 mw_733 mw_45 mw_734 hdX12_told ⟨(Nat.le_of_ble_eq_true rfl), (Nat.le_of_ble_eq_true rfl)⟩) (wk_preV hN hK hI.right (ci := 11) rfl wm_e0) rfl rfl hl.1 rfl (lv_room (Nat.le_of_ble_eq_true rfl)) dL_law_618 ⟨(show 100 + k + 0 ≤ 600000 by omega), (show 1000 + 7 * k + 0 ≤ 7302250 by omega)⟩) (fun r u H locs hw hI => ?_)
      obtain ⟨rfl, rfl⟩ := hw
      refine W.lcmp hx hb dL_law_621 ?_
      refine lv_if_eq (tgt := 663) hx hb dL_law_622 (by decide) (fun c_31 => ?_) (fun c_31 => ?_)
      · have c_31 := (lg_cmp_eq _ _).mp c_31
        refine lv_iinc (v := (nI (6 * k)) + 6) (lv' := [(3, .int ((nI (6 * k)) + 6)), (0, .ref b), (1, .ref (ad 0)), (2, .ref (am 0))]) hx hb dL_law_663 hl (k := 3) rfl rfl (by decide) rfl (fun ls hl => ?_)
        refine lv_goto (tgt := 18) hx hb dL_law_666 (by decide) ?_
        rw [h6] at hl
        refine W.widen (k := 100 + (k + 1)) (n := 1000 + 7 * (k + 1)) (by show 100 + k + 0 + 0 ≤ 100 + (k + 1); omega) (by show 1000 + 7 * k + 0 + 0 ≤ 1000 + 7 * (k + 1); omega) ?_
        exact ih _ _ _ ⟨ad, am, _, (wk_k_told hKσ (xs ((nI (6 * k)) + 1).toNatClampNeg) (xs ((nI (6 * k)) + 2).toNatClampNeg)), hI, lv_sub hl [1, 2, 3, 0] rfl⟩
      · have c_31 := fun hq => c_31 ((lg_cmp_eq _ _).mpr hq)
        exact absurd rfl c_31
    by_cases hs_32 : ((xs (nI (6 * k)).toNatClampNeg) &&& 31) = 15
    · refine lv_tableIn (tgt := 627) (off := 594) hx hb dL_law_33 (by rw [hs_32]; decide) (by rw [hs_32]; decide) (by rw [hs_32]; rfl) (by decide) ?_
      refine lv_aload_n hx hb dL_law_627 rfl (lv_at hl 1 rfl) ?_
      refine lv_aload_n hx hb dL_law_628 rfl (lv_at hl 0 rfl) ?_
      refine lv_iload_n hx hb dL_law_629 rfl (lv_at hl 3 rfl) ?_
      refine lv_iconst (v := 1) hx hb dL_law_630 (by decide) ?_
      refine lv_iadd hx hb dL_law_631 ?_
      refine va_sld hx hb hX hbl hbA hI.2.2 hin1 dL_law_632 ?_
      refine wk_gI hI hA (va_runV (As := [.int (xs ((nI (6 * k)) + 1).toNatClampNeg)]) (rest := []) ⟨hx, hb, hml, hown, hts⟩ (c_X11_note l D cI cJ cS ad σ (xs ((nI (6 * k)) + 1).toNatClampNeg)  _) (wk_cwV 1 hts wk_TL mw_480 mw_481 mw_482 mw_34 mw_483 hdX11_note ⟨(Nat.le_of_ble_eq_true rfl), (Nat.le_of_ble_eq_true rfl)⟩) (wk_preV hN hK hI.left (ci := 10) rfl wx_e0) rfl rfl hl.1 rfl (lv_room (Nat.le_of_ble_eq_true rfl)) dL_law_633 ⟨(show 100 + k + 0 ≤ 600000 by omega), (show 1000 + 7 * k + 0 ≤ 7302250 by omega)⟩) (fun r u H locs hw hI => ?_)
      obtain ⟨rfl, rfl⟩ := hw
      refine lv_aload_n hx hb dL_law_636 rfl (lv_at hl 2 rfl) ?_
      refine lv_aload_n hx hb dL_law_637 rfl (lv_at hl 0 rfl) ?_
      refine lv_iload_n hx hb dL_law_638 rfl (lv_at hl 3 rfl) ?_
      refine lv_iconst (v := 1) hx hb dL_law_639 (by decide) ?_
      refine lv_iadd hx hb dL_law_640 ?_
      refine va_sld hx hb hX hbl hbA hI.2.2 hin1 dL_law_641 ?_
      refine wk_fI hI hA (va_runV (As := [.int (xs ((nI (6 * k)) + 1).toNatClampNeg)]) (rest := [.int ((wk_noteAt σ (xs ((nI (6 * k)) + 1).toNatClampNeg)).1)]) ⟨hx, hb, hml, hown, hts⟩ (c_X12_note l D cI cJ cS am σ (xs ((nI (6 * k)) + 1).toNatClampNeg)  _) (wk_cwV 1 hts wk_TL mw_735 mw_736 mw_737 mw_45 mw_738 hdX12_note ⟨(Nat.le_of_ble_eq_true rfl), (Nat.le_of_ble_eq_true rfl)⟩) (wk_preV hN hK hI.right (ci := 11) rfl wm_e0) rfl rfl hl.1 rfl (lv_room (Nat.le_of_ble_eq_true rfl)) dL_law_642 ⟨(show 100 + k + 0 ≤ 600000 by omega), (show 1000 + 7 * k + 0 ≤ 7302250 by omega)⟩) (fun r u H locs hw hI => ?_)
      obtain ⟨rfl, rfl⟩ := hw
      refine lv_icmp_eq (tgt := 663) hx hb dL_law_645 (by decide) (fun c_33 => ?_) (fun c_33 => ?_)
      · refine lv_iinc (v := (nI (6 * k)) + 6) (lv' := [(3, .int ((nI (6 * k)) + 6)), (0, .ref b), (1, .ref (ad 0)), (2, .ref (am 0))]) hx hb dL_law_663 hl (k := 3) rfl rfl (by decide) rfl (fun ls hl => ?_)
        refine lv_goto (tgt := 18) hx hb dL_law_666 (by decide) ?_
        rw [h6] at hl
        refine W.widen (k := 100 + (k + 1)) (n := 1000 + 7 * (k + 1)) (by show 100 + k + 0 + 0 ≤ 100 + (k + 1); omega) (by show 1000 + 7 * k + 0 + 0 ≤ 1000 + 7 * (k + 1); omega) ?_
        exact ih _ _ _ ⟨ad, am, _, (wk_k_note hKσ (xs ((nI (6 * k)) + 1).toNatClampNeg)), hI, lv_sub hl [1, 2, 3, 0] rfl⟩
      · exact absurd rfl c_33
    by_cases hs_34 : ((xs (nI (6 * k)).toNatClampNeg) &&& 31) = 16
    · refine lv_tableIn (tgt := 650) (off := 617) hx hb dL_law_33 (by rw [hs_34]; decide) (by rw [hs_34]; decide) (by rw [hs_34]; rfl) (by decide) ?_
      refine lv_aload_n hx hb dL_law_650 rfl (lv_at hl 1 rfl) ?_
      refine wk_gI hI hA (va_runV (As := []) (rest := []) ⟨hx, hb, hml, hown, hts⟩ (c_X11_notes l D cI cJ cS ad σ   _) (wk_cwV 0 hts wk_TL mw_484 mw_485 mw_486 mw_34 mw_487 hdX11_notes ⟨(Nat.le_of_ble_eq_true rfl), (Nat.le_of_ble_eq_true rfl)⟩) (wk_preV hN hK hI.left (ci := 10) rfl wx_e0) rfl rfl hl.1 rfl (lv_room (Nat.le_of_ble_eq_true rfl)) dL_law_651 ⟨(show 100 + k + 0 ≤ 600000 by omega), (show 1000 + 7 * k + 0 ≤ 7302250 by omega)⟩) (fun r u H locs hw hI => ?_)
      obtain ⟨rfl, hw⟩ := hw
      rw [hw] at hI
      refine lv_aload_n hx hb dL_law_654 rfl (lv_at hl 2 rfl) ?_
      refine wk_fI hI hA (va_runV (As := []) (rest := [.int (((nI (wk_nt σ), σ)).1)]) ⟨hx, hb, hml, hown, hts⟩ (c_X12_notes l D cI cJ cS am σ   _) (wk_cwV 0 hts wk_TL mw_739 mw_740 mw_741 mw_45 mw_742 hdX12_notes ⟨(Nat.le_of_ble_eq_true rfl), (Nat.le_of_ble_eq_true rfl)⟩) (wk_preV hN hK hI.right (ci := 11) rfl wm_e0) rfl rfl hl.1 rfl (lv_room (Nat.le_of_ble_eq_true rfl)) dL_law_655 ⟨(show 100 + k + 0 ≤ 600000 by omega), (show 1000 + 7 * k + 0 ≤ 7302250 by omega)⟩) (fun r u H locs hw hI => ?_)
      obtain ⟨rfl, hw⟩ := hw
      rw [hw] at hI
      refine lv_icmp_eq (tgt := 663) hx hb dL_law_658 (by decide) (fun c_35 => ?_) (fun c_35 => ?_)
      · refine lv_iinc (v := (nI (6 * k)) + 6) (lv' := [(3, .int ((nI (6 * k)) + 6)), (0, .ref b), (1, .ref (ad 0)), (2, .ref (am 0))]) hx hb dL_law_663 hl (k := 3) rfl rfl (by decide) rfl (fun ls hl => ?_)
        refine lv_goto (tgt := 18) hx hb dL_law_666 (by decide) ?_
        rw [h6] at hl
        refine W.widen (k := 100 + (k + 1)) (n := 1000 + 7 * (k + 1)) (by show 100 + k + 0 + 0 ≤ 100 + (k + 1); omega) (by show 1000 + 7 * k + 0 + 0 ≤ 1000 + 7 * (k + 1); omega) ?_
        exact ih _ _ _ ⟨ad, am, _, hKσ, hI, lv_sub hl [1, 2, 3, 0] rfl⟩
      · exact absurd rfl c_35
    refine lv_tableOut (tgt := 663) hx hb dL_law_33 (by have q0 := lv_neT hs_2 wk_lit0; have q1 := lv_neT hs_4 wk_lit1; have q2 := lv_neT hs_6 wk_lit2; have q3 := lv_neT hs_8 wk_lit3; have q4 := lv_neT hs_10 wk_lit4; have q5 := lv_neT hs_12 wk_lit5; have q6 := lv_neT hs_14 wk_lit6; have q7 := lv_neT hs_16 wk_lit7; have q8 := lv_neT hs_18 wk_lit8; have q9 := lv_neT hs_20 wk_lit9; have q10 := lv_neT hs_22 wk_lit10; have q11 := lv_neT hs_24 wk_lit11; have q12 := lv_neT hs_26 wk_lit12; have q13 := lv_neT hs_28 wk_lit13; have q14 := lv_neT hs_30 wk_lit14; have q15 := lv_neT hs_32 wk_lit15; have q16 := lv_neT hs_34 wk_lit16; omega) (by decide) ?_
    refine lv_iinc (v := (nI (6 * k)) + 6) (lv' := [(3, .int ((nI (6 * k)) + 6)), (0, .ref b), (1, .ref (ad 0)), (2, .ref (am 0))]) hx hb dL_law_663 hl (k := 3) rfl rfl (by decide) rfl (fun ls hl => ?_)
    refine lv_goto (tgt := 18) hx hb dL_law_666 (by decide) ?_
    rw [h6] at hl
    refine W.widen (k := 100 + (k + 1)) (n := 1000 + 7 * (k + 1)) (by omega) (by omega) ?_
    exact ih _ _ _ ⟨ad, am, _, hKσ, hI, lv_sub hl [1, 2, 3, 0] rfl⟩
