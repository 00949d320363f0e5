/-! WHAT EVERY CALL KEEPS -/
def wk_K (σ : wk_St) : Prop := wk_V σ ∧ wk_L σ
theorem wk_G.K {σ τ : wk_St} {a : Nat} (h : wk_G σ τ a) (hK : wk_K σ) : wk_K τ := ⟨h.V hK.1, h.L hK.2⟩
theorem wk_K.fg {σ : wk_St} (h : wk_K σ) : wk_K (wk_fg σ) := h
theorem wk_K_if {c : Prop} {α : Type} {x y : α × wk_St} (h1 : c → wk_K x.2) (h2 : ¬ c → wk_K y.2) : wk_K (wk_if c x y).2 := by
  rcases Classical.em c with h | h
  · rw [wk_ifT h]; exact h1 h
  · rw [wk_ifF h]; exact h2 h
theorem wk_k_new : wk_K wk_new := by
  refine ⟨⟨Nat.zero_le _, fun i hi => absurd hi (Nat.not_lt_zero _)⟩, fun i hi => Or.inl ?_⟩
  show (if i < 8 then (-1 : Int32) else 0) = -1
  rw [if_pos hi]
theorem wk_k_toil {σ : wk_St} (h : wk_K σ) (k n : Int32) : wk_K (wk_toil σ k n).2 := wk_K_if (fun _ => (wk_g_toilR _ _ _ _).K h.fg) (fun _ => h)
theorem wk_k_pay {σ : wk_St} (h : wk_K σ) (k n : Int32) : wk_K (wk_pay σ k n).2 := wk_K_if (fun _ => ((wk_g_payR _ _ _ _).trans (wk_g_gain _ _ _)).K h.fg) (fun _ => h)
theorem wk_k_climb {σ : wk_St} (h : wk_K σ) (k n : Int32) : wk_K (wk_climb σ k n).2 := wk_K_if (fun _ => (wk_g_climbR _ _ _ _).K h.fg) (fun _ => h)
theorem wk_k_heed {σ : wk_St} (h : wk_K σ) (k n : Int32) : wk_K (wk_heed σ k n).2 := wk_K_if (fun _ => (wk_g_heedR _ _ _ _ h.fg.1.1).K h.fg) (fun _ => h)
theorem wk_k_race {σ : wk_St} (h : wk_K σ) (k n m : Int32) : wk_K (wk_race σ k n m).2 := by
  refine wk_K_if (fun _ => ?_) (fun _ => h)
  unfold wk_raceR
  split
  · exact (wk_g_raceL _ _ _ _ _ _).K h.fg
  · exact (wk_g_raceL _ _ _ _ _ _).K h.fg
theorem wk_k_due {σ : wk_St} (h : wk_K σ) (k n x : Int32) : wk_K (wk_due σ k n x).2 := wk_K_if (fun _ => (wk_g_payR _ _ _ _).K h.fg) (fun _ => h)
theorem wk_k_feed {σ : wk_St} (h : wk_K σ) (k n : Int32) : wk_K (wk_feed σ k n).2 := wk_K_if (fun _ => ((wk_g_toilR _ _ _ _).trans (wk_g_feedL _ _ _ _)).K h.fg) (fun _ => h)
theorem wk_k_watch {σ : wk_St} (h : wk_K σ) (d n : Int32) : wk_K (wk_watch σ d n).2 := wk_K_if (fun _ => (wk_g_watchL _ _ _ h.fg.1.1 _).K h.fg) (fun _ => h)
theorem wk_k_sail {σ : wk_St} (h : wk_K σ) (t : Int32) : wk_K (wk_sail σ t).2 := wk_K_if (fun _ => (wk_g_sailT (0, wk_fg σ) h.fg.1.1 _).K h.fg) (fun _ => h)
theorem wk_k_rest {σ : wk_St} (h : wk_K σ) (n : Int32) : wk_K (wk_rest σ n).2 := wk_K_if (fun _ => (wk_g_restL _ _ _).K h) (fun _ => h)
theorem wk_k_told {σ : wk_St} (h : wk_K σ) (k w : Int32) : wk_K (wk_told σ k w).2 := wk_K_if (fun _ => h) (fun _ => h)
theorem wk_k_note {σ : wk_St} (h : wk_K σ) (i : Int32) : wk_K (wk_noteAt σ i).2 := wk_K_if (fun _ => h) (fun _ => h)
theorem wk_okN {σ : wk_St} (hV : wk_V σ) {k : Int32} (h : wk_ok σ k) : k.toNatClampNeg < wk_n σ := by
  rcases wk_okC hV k with ⟨j, hj, rfl⟩ | hno
  · rw [wk_clJ hV hj]; exact hj
  · exact absurd h hno
theorem wk_k_rk {σ : wk_St} (h : wk_K σ) (k q : Nat) (hq : q < 8) : wk_K (wk_sRk σ (va_up (wk_rk σ) k q)) := by
  refine ⟨⟨h.1.1, fun i hi => ?_⟩, h.2⟩
  show va_up (wk_rk σ) k q i < 8
  unfold va_up
  split
  · exact hq
  · exact h.1.2 i hi
theorem wk_k_promote {σ : wk_St} (h : wk_K σ) (k : Int32) : wk_K (wk_promote σ k).2 := by
  refine wk_K_if (fun hc => wk_k_rk h _ _ ?_) (fun _ => h)
  have h8 := h.1.2 _ (wk_okN h.1 hc.1)
  have h5 := hc.2.1
  have h7 := hc.2.2
  omega
theorem wk_k_demote {σ : wk_St} (h : wk_K σ) (k : Int32) : wk_K (wk_demote σ k).2 := by
  refine wk_K_if (fun hc => wk_k_rk h _ _ ?_) (fun _ => h)
  have h8 := h.1.2 _ (wk_okN h.1 hc.1)
  unfold wk_down
  split <;> omega
theorem wk_k_enlist {σ : wk_St} (h : wk_K σ) (r s : Int32) : wk_K (wk_enlist σ r s).2 := by
  refine wk_K_if (fun hc => ?_) (fun _ => h)
  obtain ⟨⟨h1, h2⟩, -, hn⟩ := hc
  obtain ⟨q, hq, rfl⟩ := nI_of2 (x := r) (M := 7) (n := 7) (by decide) (fun z => wk_lnl z h1) h2
  refine ⟨⟨hn, fun i hi => ?_⟩, h.2⟩
  show va_up (wk_rk σ) (wk_n σ) (nI q).toNatClampNeg i < 8
  unfold va_up
  split
  · rw [nI_clamp (by omega)]; omega
  · refine h.1.2 i ?_
    have : i < wk_n σ + 1 := hi
    omega
theorem wk_k_line {σ : wk_St} (h : wk_K σ) (i d n lo hi : Int32) : wk_K (wk_line σ i d n lo hi).2 := by
  refine wk_K_if (fun _ => wk_K_if (fun _ => ⟨h.1, fun j hj => ?_⟩) (fun _ => wk_K_if (fun hc => ⟨h.1, fun j hj => ?_⟩) (fun _ => h))) (fun _ => h)
  · show upd (wk_ld σ) i.toNatClampNeg (-1) j = -1 ∨ ((0 ≤ upd (wk_ld σ) i.toNatClampNeg (-1) j ∧ upd (wk_ld σ) i.toNatClampNeg (-1) j ≤ 3) ∧ wk_in (upd (wk_ld σ) i.toNatClampNeg (-1) j) (wk_ln σ j))
    unfold upd
    split
    · exact Or.inl rfl
    · exact h.2 j hj
  · show upd (wk_ld σ) i.toNatClampNeg d j = -1 ∨ ((0 ≤ upd (wk_ld σ) i.toNatClampNeg d j ∧ upd (wk_ld σ) i.toNatClampNeg d j ≤ 3) ∧ wk_in (upd (wk_ld σ) i.toNatClampNeg d j) (upd (wk_ln σ) i.toNatClampNeg n j))
    unfold upd
    split
    · exact Or.inr ⟨hc.1, hc.2.1⟩
    · exact h.2 j hj
-- the law's start
theorem wk_TL : ∀ w ∈ wk_T, w ∈ lw_tbl := fun _ h => (List.mem_filter.mp h).1
theorem wk_N_of {args : Array Value} {s : State} (hts : ∀ w ∈ lw_tbl, w.before args s = true) : wk_N s := by
  refine ⟨fun w hw => ?_, va_AO.of (hts _ ma_85)⟩
  have h2 : wk_isX w = true := (List.mem_filter.mp hw).2
  refine va_Nw.of ?_ (hts _ (List.mem_filter.mp hw).1)
  cases w <;> first | rfl | (simp [wk_isX] at h2)
section LOOPC
variable {p : Program} {l : Launch} {e : Env} {R : Room} {s : State} {m : MethodId} {args : Array Value} {below : List Frame} {meth : Method} {c : Code} {Q : State → Prop} {pc : Nat}
theorem wk_loopC (Inv : Nat → Heap → List Loc → Array Slot → Prop) (N c0 s0 : Nat) (hexit : ∀ H locs ls, Inv N H locs ls → W p l e R s m args below meth c H locs (c0 + N) (s0 + 7 * N) Q (F0 m pc ls []))
    (hstep : ∀ i H locs ls, i < N → Inv i H locs ls → (∀ H' locs' ls', Inv (i + 1) H' locs' ls' → W p l e R s m args below meth c H' locs' (c0 + (i + 1)) (s0 + 7 * (i + 1)) Q (F0 m pc ls' [])) → W p l e R s m args below meth c H locs (c0 + i) (s0 + 7 * i) Q (F0 m pc ls [])) :
    ∀ (t i : Nat) H locs ls, i + t = N → Inv i H locs ls → W p l e R s m args below meth c H locs (c0 + i) (s0 + 7 * i) Q (F0 m pc ls []) := by
  intro t
  induction t with
  | zero => intro i H locs ls hi h; have e9 : i = N := by omega
            subst e9; exact hexit H locs ls h
  | succ t ih => intro i H locs ls hi h; exact hstep i H locs ls (by omega) h (fun H' locs' ls' h' => ih (i + 1) H' locs' ls' (by omega) h')
end LOOPC
theorem wk_lit9 : (9 : Int32).toInt = 9 := by decide
theorem wk_lit10 : (10 : Int32).toInt = 10 := by decide
theorem wk_lit11 : (11 : Int32).toInt = 11 := by decide
theorem wk_lit13 : (13 : Int32).toInt = 13 := by decide
theorem wk_lit14 : (14 : Int32).toInt = 14 := by decide
theorem wk_lit15 : (15 : Int32).toInt = 15 := by decide
theorem wk_lit16 : (16 : Int32).toInt = 16 := by decide
theorem wk_sub6 {L : Nat} (h : L ≤ 3072) : (Int32.ofNat L - 6).toInt = (L : Int) - 6 := by
  have e1 : (Int32.ofNat L).toInt = (L : Int) := nI_toInt (n := L) (by omega)
  rw [wa_sub (by rw [e1, wk_lit6]; omega) (by rw [e1, wk_lit6]; omega), e1, wk_lit6]
