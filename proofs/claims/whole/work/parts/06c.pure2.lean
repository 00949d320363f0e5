/-! PURE ROWS for the calls of the face -/
theorem wk_nlt {a b : Int32} (h : ¬ a < b) : b ≤ a := by rw [Int32.lt_iff_toInt_lt] at h; rw [Int32.le_iff_toInt_le]; omega
theorem wk_nle {a b : Int32} (h : ¬ a ≤ b) : b < a := by rw [Int32.le_iff_toInt_le] at h; rw [Int32.lt_iff_toInt_lt]; omega
theorem wk_lnl {a b : Int32} (h : a < b) (k : b ≤ a) : False := by rw [Int32.lt_iff_toInt_lt] at h; rw [Int32.le_iff_toInt_le] at k; omega
theorem wk_lit4 : (4 : Int32).toInt = 4 := by decide
theorem wk_lit12 : (12 : Int32).toInt = 12 := by decide
theorem wk_lit20 : (20 : Int32).toInt = 20 := by decide
theorem wk_lit99 : (99 : Int32).toInt = 99 := by decide
theorem wk_lit1000 : (1000 : Int32).toInt = 1000 := by decide
theorem wk_clJ {σ : wk_St} {j : Nat} (hV : wk_V σ) (hj : j < wk_n σ) : (nI j).toNatClampNeg = j := nI_clamp (by have := hV.1; omega)
theorem wk_okJ {σ : wk_St} {j : Nat} (hV : wk_V σ) (hj : j < wk_n σ) : wk_ok σ (nI j) := by
  have := hV.1
  exact ⟨nI_pos' (by omega), nI_lt hj (by omega)⟩
theorem wk_okC {σ : wk_St} (hV : wk_V σ) (k : Int32) : (∃ j, j < wk_n σ ∧ k = nI j) ∨ ¬ wk_ok σ k := by
  have h12 := hV.1
  rcases Classical.em (wk_ok σ k) with h | h
  · left
    obtain ⟨h1, h2⟩ := h
    obtain ⟨j, hj, rfl⟩ := nI_of (x := k) (fun q => wk_lnl q h1)
    exact ⟨j, (nI_ltI hj (by omega)).mp h2, rfl⟩
  · exact Or.inr h
noncomputable def wx_find (ad : Nat → Nat) (σ : wk_St) (k : Int32) : Option Nat := wk_if (wk_ok σ k) (some (ad (16 + k.toNatClampNeg))) none
theorem wx_findJ {ad : Nat → Nat} {σ : wk_St} {j : Nat} (hV : wk_V σ) (hj : j < wk_n σ) : wx_find ad σ (nI j) = some (ad (16 + j)) := by
  unfold wx_find
  rw [wk_ifT (wk_okJ hV hj), wk_clJ hV hj]
theorem wx_findN {ad : Nat → Nat} {σ : wk_St} {k : Int32} (h : ¬ wk_ok σ k) : wx_find ad σ k = none := wk_ifF h
theorem wk_lineL_add (d n lo hi : Int32) (v : Int64) (σ : wk_St) : ∀ i, wk_lineL d n lo hi (v, σ) i = (v + (wk_lineL d n lo hi (0, σ) i).1, (wk_lineL d n lo hi (0, σ) i).2)
  | 0 => by simp [wk_lineL]
  | i + 1 => by
    have ih := wk_lineL_add d n lo hi v σ i
    simp only [wk_lineL]
    rw [ih]
    dsimp only
    split
    · simp only [Int64.add_assoc]
    · rfl
theorem wk_g_lineL (d n lo hi : Int32) (q : Int64 × wk_St) (hn : wk_n q.2 ≤ 12) : ∀ i, wk_G q.2 (wk_lineL d n lo hi q i).2 (28 * i)
  | 0 => wk_G.rf _ _
  | i + 1 => by
    have ih := wk_g_lineL d n lo hi q hn i
    unfold wk_lineL
    split
    · exact ((ih.trans (wk_g_do d _ i n (by rw [ih.n]; exact hn))).trans (wk_g_gain d i _)).up (by omega)
    · exact ih.up (by omega)
theorem wk_g_watchL (d n : Int32) (σ : wk_St) (hn : wk_n σ ≤ 12) : ∀ i, wk_G σ (wk_watchL d n σ i).2 (28 * i)
  | 0 => wk_G.rf _ _
  | i + 1 => by
    have ih := wk_g_watchL d n σ hn i
    exact (ih.trans (wk_g_do d _ i n (by rw [ih.n]; exact hn))).up (by omega)
theorem wk_g_sailI (q : Int64 × wk_St) (hn : wk_n q.2 ≤ 12) : ∀ i, wk_G q.2 (wk_sailI q i).2 (336 * i)
  | 0 => wk_G.rf _ _
  | i + 1 => by
    have ih := wk_g_sailI q hn i
    unfold wk_sailI
    split
    · exact ih.up (by omega)
    · exact (ih.trans (wk_g_lineL _ _ _ _ (wk_sailI q i) (by rw [ih.n]; exact hn) (wk_n q.2))).up (by omega)
theorem wk_g_sailT (q : Int64 × wk_St) (hn : wk_n q.2 ≤ 12) : ∀ i, wk_G q.2 (wk_sailT q i).2 (2688 * i)
  | 0 => wk_G.rf _ _
  | i + 1 => by
    have ih := wk_g_sailT q hn i
    exact (ih.trans (wk_g_sailI (wk_sailT q i) (by rw [ih.n]; exact hn) 8)).up (by omega)
theorem wk_g_restL (x : Int32) (σ : wk_St) : ∀ i, wk_G σ (wk_restL x σ i) 0
  | 0 => wk_G.rf _ _
  | i + 1 => (wk_g_restL x σ i).trans (wk_g_tire _ i x)
theorem wk_g_feedL (k : Nat) (x : Int32) (σ : wk_St) : ∀ i, wk_G σ (wk_feedL k x σ i) 0
  | 0 => wk_G.rf _ _
  | i + 1 => by
    have ih := wk_g_feedL k x σ i
    unfold wk_feedL
    split
    · exact ih
    · exact ih.trans (wk_g_tire _ i x)
theorem wk_g_raceL (r k : Nat) (n : Int32) : ∀ (t : Nat) (v : Int32) (σ : wk_St), wk_G σ (wk_raceL r k n t v σ).2 (3 * t)
  | 0, v, σ => wk_G.rf _ _
  | t + 1, v, σ => by
    unfold wk_raceL
    split
    · exact (wk_g_climbR r σ k n).up (by omega)
    · exact ((wk_g_climbR r σ k n).trans (wk_g_raceL r k n t _ _)).up (by omega)
theorem wx_apart {D : va_G} {A : Nat → Prop} {H0 H : Heap} {locs : List Loc} {cI cS : ClassId} {ad : Nat → Nat} {σ : wk_St} {i j : Nat} (hI : wk_I D A H0 H locs (wx_W cI cS ad σ)) (hi : i < wk_n σ) (hj : j < wk_n σ) (h : ad (16 + i) = ad (16 + j)) : i = j := by
  have := hI.2.1.1 (16 + i) (16 + j) _ _ (wx_em hi) (wx_em hj) h
  omega
