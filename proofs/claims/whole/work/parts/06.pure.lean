/-! PURE ROWS: answers and states; what a duty leaves as it was -/
theorem wk_post {α β : Type} {P : α × β} {a : α} {b : β} (h : (a, b) = P) : a = P.1 ∧ b = P.2 := by subst h; exact ⟨rfl, rfl⟩
noncomputable def wk_b (c : Prop) : Int32 := wk_if c 1 0
theorem wk_bT {c : Prop} (h : c) : (1 : Int32) = wk_b c := (wk_ifT h).symm
theorem wk_bF {c : Prop} (h : ¬ c) : (0 : Int32) = wk_b c := (wk_ifF h).symm
theorem wk_b0 {c : Prop} (h : wk_b c = 0) : ¬ c := fun hc => by rw [← wk_bT hc] at h; exact absurd h (by decide)
theorem wk_b1 {c : Prop} (h : ¬ wk_b c = 0) : c := Classical.byContradiction fun hc => h (wk_bF hc).symm
/-- the skeleton stays, and at most c notes come -/
def wk_G (σ τ : wk_St) (c : Nat) : Prop := (wk_n τ = wk_n σ ∧ wk_rk τ = wk_rk σ ∧ wk_sk τ = wk_sk σ ∧ wk_ld τ = wk_ld σ ∧ wk_ln τ = wk_ln σ ∧ wk_ll τ = wk_ll σ ∧ wk_lh τ = wk_lh σ) ∧ wk_nt τ ≤ wk_nt σ + c
theorem wk_G.rf (σ : wk_St) (c : Nat) : wk_G σ σ c := ⟨⟨rfl, rfl, rfl, rfl, rfl, rfl, rfl⟩, Nat.le_add_right _ _⟩
theorem wk_G.trans {σ τ υ : wk_St} {a b : Nat} (h : wk_G σ τ a) (k : wk_G τ υ b) : wk_G σ υ (a + b) := by
  obtain ⟨⟨h1, h2, h3, h4, h5, h6, h7⟩, h8⟩ := h
  obtain ⟨⟨k1, k2, k3, k4, k5, k6, k7⟩, k8⟩ := k
  exact ⟨⟨k1.trans h1, k2.trans h2, k3.trans h3, k4.trans h4, k5.trans h5, k6.trans h6, k7.trans h7⟩, by omega⟩
theorem wk_G.up {σ τ : wk_St} {a b : Nat} (h : wk_G σ τ a) (hb : a ≤ b) : wk_G σ τ b := ⟨h.1, Nat.le_trans h.2 (Nat.add_le_add_left hb _)⟩
theorem wk_G.n {σ τ : wk_St} {a : Nat} (h : wk_G σ τ a) : wk_n τ = wk_n σ := h.1.1
theorem wk_G.rk {σ τ : wk_St} {a : Nat} (h : wk_G σ τ a) : wk_rk τ = wk_rk σ := h.1.2.1
theorem wk_G.nt {σ τ : wk_St} {a : Nat} (h : wk_G σ τ a) : wk_nt τ ≤ wk_nt σ + a := h.2
theorem wk_G.lt {σ τ : wk_St} {a k : Nat} (h : wk_G σ τ a) (hk : k < wk_n σ) : k < wk_n τ := by rw [h.n]; exact hk
/-- at most twelve members, each of a rank -/
def wk_V (σ : wk_St) : Prop := wk_n σ ≤ 12 ∧ ∀ i, i < wk_n σ → wk_rk σ i < 8
theorem wk_G.V {σ τ : wk_St} {a : Nat} (h : wk_G σ τ a) (hV : wk_V σ) : wk_V τ := by
  refine ⟨by rw [h.n]; exact hV.1, fun i hi => ?_⟩
  rw [h.rk]
  exact hV.2 i (by rw [← h.n]; exact hi)
theorem wk_V.rk {σ : wk_St} (hV : wk_V σ) {k : Nat} (hk : k < wk_n σ) : wk_rk σ k < 8 := hV.2 k hk
theorem wk_g_note (σ : wk_St) (v : Int32) : wk_G σ (wk_note σ v) 1 := ⟨⟨rfl, rfl, rfl, rfl, rfl, rfl, rfl⟩, Nat.le_refl _⟩
theorem wk_g_tire (σ : wk_St) (k : Nat) (x : Int32) : wk_G σ (wk_tire σ k x) 0 := ⟨⟨rfl, rfl, rfl, rfl, rfl, rfl, rfl⟩, Nat.le_refl _⟩
theorem wk_g_soulToil (σ : wk_St) (k : Nat) (n : Int32) : wk_G σ (wk_soulToil σ k n).2 1 := (wk_g_note σ 80).trans (wk_g_tire _ k n)
theorem wk_g_topToil (σ : wk_St) (k : Nat) (n : Int32) : wk_G σ (wk_topToil σ k n).2 2 := by
  refine (wk_g_note σ 20).trans (b := 1) ?_
  unfold wk_topToil wk_topToil1
  split
  · exact wk_g_soulToil _ _ _
  · exact wk_G.rf _ _
theorem wk_g_mateToil (σ : wk_St) (k : Nat) (n : Int32) : wk_G σ (wk_mateToil σ k n).2 5 :=
  (wk_g_note σ 40).trans (b := 4) ((wk_g_topToil _ _ _).trans (wk_g_topToil _ _ _))
theorem wk_g_masterToil (σ : wk_St) (k : Nat) (n : Int32) : wk_G σ (wk_masterToil σ k n).2 6 := by
  refine (wk_g_note σ 50).trans (b := 5) ?_
  unfold wk_masterToil wk_masterToil1
  split
  · exact wk_g_mateToil _ _ _
  · exact wk_g_mateToil _ _ _
theorem wk_g_cookToil (σ : wk_St) (k : Nat) (n : Int32) : wk_G σ (wk_cookToil σ k n).2 2 :=
  (wk_g_note σ 60).trans (b := 1) ((wk_g_soulToil _ _ _).trans (wk_g_tire _ _ _))
theorem wk_g_toilR (r : Nat) (σ : wk_St) (k : Nat) (n : Int32) : wk_G σ (wk_toilR r σ k n).2 6 := by
  unfold wk_toilR
  split
  · exact (wk_g_soulToil _ _ _).up (by decide)
  · exact (wk_g_soulToil _ _ _).up (by decide)
  · exact (wk_g_topToil _ _ _).up (by decide)
  · exact (wk_g_topToil _ _ _).up (by decide)
  · exact (wk_g_mateToil _ _ _).up (by decide)
  · exact (wk_g_masterToil _ _ _).up (by decide)
  · exact (wk_g_cookToil _ _ _).up (by decide)
theorem wk_g_handPay (σ : wk_St) (k : Nat) (n : Int32) : wk_G σ (wk_handPay σ k n).2 1 := wk_g_note σ 1
theorem wk_g_bosunPay (σ : wk_St) (k : Nat) (n : Int32) : wk_G σ (wk_bosunPay σ k n).2 2 := (wk_g_note σ 31).trans (b := 1) (wk_g_handPay _ k n)
theorem wk_g_masterPay (σ : wk_St) (k : Nat) (n : Int32) : wk_G σ (wk_masterPay σ k n).2 3 := (wk_g_note σ 51).trans (b := 2) (wk_g_bosunPay _ k n)
theorem wk_g_surgPay (σ : wk_St) (k : Nat) (n : Int32) : wk_G σ (wk_surgPay σ k n).2 2 := (wk_g_note σ 71).trans (b := 1) (wk_g_handPay _ k n)
theorem wk_g_payR (r : Nat) (σ : wk_St) (k : Nat) (n : Int32) : wk_G σ (wk_payR r σ k n).2 3 := by
  unfold wk_payR
  split
  · exact (wk_g_handPay _ _ _).up (by decide)
  · exact (wk_g_handPay _ _ _).up (by decide)
  · exact (wk_g_handPay _ _ _).up (by decide)
  · exact (wk_g_bosunPay _ _ _).up (by decide)
  · exact (wk_g_bosunPay _ _ _).up (by decide)
  · exact (wk_g_masterPay _ _ _).up (by decide)
  · exact (wk_g_handPay _ _ _).up (by decide)
  · exact (wk_g_surgPay _ _ _).up (by decide)
theorem wk_g_soulClimb (σ : wk_St) (k : Nat) (n : Int32) : wk_G σ (wk_soulClimb σ k n).2 1 := by
  refine (wk_g_note σ 82).trans (b := 0) ?_
  unfold wk_soulClimb wk_soulClimb1
  split
  · exact wk_g_tire _ _ _
  · exact wk_G.rf _ _
theorem wk_g_sailorClimb (σ : wk_St) (k : Nat) (n : Int32) : wk_G σ (wk_sailorClimb σ k n).2 2 := by
  refine (wk_g_note σ 12).trans (b := 1) ?_
  unfold wk_sailorClimb wk_sailorClimb1
  split
  · exact (wk_g_tire _ _ _).up (by decide)
  · exact wk_g_soulClimb _ _ _
theorem wk_g_mateClimb (σ : wk_St) (k : Nat) (n : Int32) : wk_G σ (wk_mateClimb σ k n).2 3 := (wk_g_note σ 42).trans (b := 2) (wk_g_sailorClimb _ k n)
theorem wk_g_surgClimb (σ : wk_St) (k : Nat) (n : Int32) : wk_G σ (wk_surgClimb σ k n).2 2 := (wk_g_note σ 72).trans (b := 1) (wk_g_soulClimb _ k (n / 2))
theorem wk_g_climbR (r : Nat) (σ : wk_St) (k : Nat) (n : Int32) : wk_G σ (wk_climbR r σ k n).2 3 := by
  unfold wk_climbR
  split
  · exact (wk_g_soulClimb _ _ _).up (by decide)
  · exact (wk_g_sailorClimb _ _ _).up (by decide)
  · exact (wk_g_sailorClimb _ _ _).up (by decide)
  · exact (wk_g_sailorClimb _ _ _).up (by decide)
  · exact (wk_g_mateClimb _ _ _).up (by decide)
  · exact (wk_g_mateClimb _ _ _).up (by decide)
  · exact (wk_g_soulClimb _ _ _).up (by decide)
  · exact (wk_g_surgClimb _ _ _).up (by decide)
theorem wk_g_soulHeed (σ : wk_St) (k : Nat) (n : Int32) : wk_G σ (wk_soulHeed σ k n).2 1 := wk_g_note σ 83
theorem wk_g_topHeed (σ : wk_St) (k : Nat) (n : Int32) : wk_G σ (wk_topHeed σ k n).2 2 := by
  refine (wk_g_note σ 23).trans (b := 1) ?_
  unfold wk_topHeed wk_topHeed1
  split
  · dsimp only; exact wk_g_soulHeed (wk_note σ 23) k n
  · exact wk_G.rf _ _
theorem wk_g_loHeed (r : Nat) (σ : wk_St) (k : Nat) (n : Int32) : wk_G σ (wk_loHeed r σ k n).2 2 := by
  unfold wk_loHeed
  split
  · exact (wk_g_soulHeed _ _ _).up (by decide)
  · exact (wk_g_soulHeed _ _ _).up (by decide)
  · exact wk_g_topHeed _ _ _
theorem wk_g_heedL (n : Int32) (q : Int32 × wk_St) : ∀ i, wk_G q.2 (wk_heedL n q i).2 (2 * i)
  | 0 => wk_G.rf _ _
  | i + 1 => by
    have ih := wk_g_heedL n q i
    unfold wk_heedL
    split
    · exact (ih.trans (wk_g_loHeed _ _ _ _)).up (by omega)
    · exact ih.up (by omega)
theorem wk_g_bosunHeed (σ : wk_St) (k : Nat) (n : Int32) (hn : wk_n σ ≤ 12) : wk_G σ (wk_bosunHeed σ k n).2 27 :=
  ((wk_g_note σ 33).trans ((wk_g_topHeed _ k n).trans (wk_g_heedL n (wk_topHeed (wk_note σ 33) k n) (wk_n σ)))).up (by omega)
theorem wk_g_masterHeed (σ : wk_St) (k : Nat) (n : Int32) (hn : wk_n σ ≤ 12) : wk_G σ (wk_masterHeed σ k n).2 28 := by
  refine (wk_g_note σ 53).trans (b := 27) ?_
  unfold wk_masterHeed wk_masterHeed1
  split
  · exact wk_g_bosunHeed _ _ _ hn
  · exact wk_G.rf _ _
theorem wk_g_cookHeed (σ : wk_St) (k : Nat) (n : Int32) : wk_G σ (wk_cookHeed σ k n).2 2 := (wk_g_note σ 63).trans (b := 1) (wk_g_soulHeed _ k n)
theorem wk_g_heedR (r : Nat) (σ : wk_St) (k : Nat) (n : Int32) (hn : wk_n σ ≤ 12) : wk_G σ (wk_heedR r σ k n).2 28 := by
  unfold wk_heedR
  split
  · exact (wk_g_soulHeed _ _ _).up (by decide)
  · exact (wk_g_soulHeed _ _ _).up (by decide)
  · exact (wk_g_topHeed _ _ _).up (by decide)
  · exact (wk_g_bosunHeed _ _ _ hn).up (by decide)
  · exact (wk_g_bosunHeed _ _ _ hn).up (by decide)
  · exact wk_g_masterHeed _ _ _ hn
  · exact (wk_g_cookHeed _ _ _).up (by decide)
theorem wk_g_do (d : Int32) (σ : wk_St) (k : Nat) (n : Int32) (hn : wk_n σ ≤ 12) : wk_G σ (wk_do d σ k n).2 28 := by
  unfold wk_do
  split
  · exact (wk_g_toilR _ _ _ _).up (by decide)
  · split
    · exact (wk_g_payR _ _ _ _).up (by decide)
    · split
      · exact (wk_g_climbR _ _ _ _).up (by decide)
      · exact wk_g_heedR _ _ _ _ hn
theorem wk_g_gain (d : Int32) (k : Nat) (q : Int64 × wk_St) : wk_G q.2 (wk_gain d k q) 0 := by
  unfold wk_gain
  split
  · exact ⟨⟨rfl, rfl, rfl, rfl, rfl, rfl, rfl⟩, Nat.le_refl _⟩
  · exact wk_G.rf _ _
-- loops over the members, the lines, the times
section LOOPS
variable {p : Program} {l : Launch} {e : Env} {R : Room} {s : State} {m : MethodId} {args : Array Value} {below : List Frame} {meth : Method} {c : Code} {cells slots : Nat} {Q : State → Prop} {pc : Nat}
theorem wk_loop (Inv : Nat → Heap → List Loc → Array Slot → Prop) (N : Nat) (hexit : ∀ H locs ls, Inv N H locs ls → W p l e R s m args below meth c H locs cells slots Q (F0 m pc ls []))
    (hstep : ∀ i H locs ls, i < N → Inv i H locs ls → (∀ H' locs' ls', Inv (i + 1) H' locs' ls' → W p l e R s m args below meth c H' locs' cells slots Q (F0 m pc ls' [])) → W p l e R s m args below meth c H locs cells slots Q (F0 m pc ls [])) :
    ∀ (t i : Nat) H locs ls, i + t = N → Inv i H locs ls → W p l e R s m args below meth c H locs cells slots Q (F0 m pc ls []) := by
  intro t
  induction t with
  | zero => intro i H locs ls hi h; exact hexit H locs ls (by rw [← hi]; exact h)
  | succ t ih => intro i H locs ls hi h; exact hstep i H locs ls (by omega) h (fun H' locs' ls' h' => ih (i + 1) H' locs' ls' (by omega) h')
end LOOPS
theorem wk_lit0 : (0 : Int32).toInt = 0 := by decide
theorem wk_lit1 : (1 : Int32).toInt = 1 := by decide
theorem wk_lit2 : (2 : Int32).toInt = 2 := by decide
theorem wk_lit3 : (3 : Int32).toInt = 3 := by decide
theorem wk_lit5 : (5 : Int32).toInt = 5 := by decide
theorem wk_lit6 : (6 : Int32).toInt = 6 := by decide
theorem wk_lit7 : (7 : Int32).toInt = 7 := by decide
theorem wk_lit8 : (8 : Int32).toInt = 8 := by decide
theorem wk_lit64 : (64 : Int32).toInt = 64 := by decide
section AQ
variable {p : Program} {l : Launch} {e : Env} {R : Room} {s : State} {m : MethodId} {args : Array Value} {below : List Frame} {meth : Method} {c : Code} {H : Heap} {locs : List Loc} {cells slots : Nat} {Q : State → Prop} {pc : Nat} {ls : Array Slot} {rest : List Value} {cc : ByteArray}
theorem wk_astore (hx : p.tables.exec = Jvm.exec) (hb : c.code = cc) {i nL : Nat} {r : Option Nat} {lv lv' : List (Nat × Value)} (hdg : decode cc pc = .ok (.astore i, 2)) (h : lv_has ls nL lv) (hn : i < nL) (hl : (i, va_rf r) :: lv.filter (fun q => !(q.1 == i) && !(q.1 + 1 == i && q.2.category == 2)) = lv')
    (k : ∀ ls', lv_has ls' nL lv' → W p l e R s m args below meth c H locs cells slots Q (F0 m (pc + 2) ls' rest)) : W p l e R s m args below meth c H locs cells slots Q (F0 m pc ls (va_rf r :: rest)) := by
  cases r with
  | none => exact lv_astoreN hx hb hdg h hn hl k
  | some a => exact lv_astore hx hb hdg h hn hl k
theorem wk_astore_n (hx : p.tables.exec = Jvm.exec) (hb : c.code = cc) {k4 : Fin 4} {i nL : Nat} {r : Option Nat} {lv lv' : List (Nat × Value)} (hdg : decode cc pc = .ok (.astore_n k4, 1)) (hi : (k4 : Nat) = i) (h : lv_has ls nL lv) (hn : i < nL) (hl : (i, va_rf r) :: lv.filter (fun q => !(q.1 == i) && !(q.1 + 1 == i && q.2.category == 2)) = lv')
    (k : ∀ ls', lv_has ls' nL lv' → W p l e R s m args below meth c H locs cells slots Q (F0 m (pc + 1) ls' rest)) : W p l e R s m args below meth c H locs cells slots Q (F0 m pc ls (va_rf r :: rest)) := by
  cases r with
  | none => exact lv_astore_nN hx hb hdg hi h hn hl k
  | some a => exact lv_astore_n hx hb hdg hi h hn hl k
end AQ
theorem wx_mpT {ad : Nat → Nat} {n i : Nat} (h : i < n) : wx_mp ad n i = some (ad (16 + i)) := if_pos h
theorem wx_mpF {ad : Nat → Nat} {n i : Nat} (h : ¬ i < n) : wx_mp ad n i = none := if_neg h
