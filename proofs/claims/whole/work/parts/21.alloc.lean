/-! NEW CELLS, AND CALLS ON A PART OF THE WORLD -/
theorem wk_I.sub {D : va_G} {A : Nat → Prop} {H0 H : Heap} {locs : List Loc} {w w' : va_W} (h : wk_I D A H0 H locs w) (is : List Nat) (hn : va_nd is = true) (hs : is.map (fun i => w[i]?) = w'.map some) : wk_I D A H0 H locs w' := by
  refine ⟨h.1.sub is ?_, h.2.1.sub is hn hs, h.2.2⟩
  have e : is.filterMap (fun i => w[i]?) = (is.map (fun i => w[i]?)).filterMap id := by rw [List.filterMap_map]; rfl
  rw [e, hs, List.filterMap_map]
  simp
theorem wk_I.right {D : va_G} {A : Nat → Prop} {H0 H : Heap} {locs : List Loc} {w1 w2 : va_W} (h : wk_I D A H0 H locs (w1 ++ w2)) : wk_I D A H0 H locs w2 := by
  have at' : ∀ (k : Nat) (q : Nat × va_E), w2[k]? = some q → (w1 ++ w2)[w1.length + k]? = some q := fun k q hq => by
    rw [List.getElem?_append_right (by omega), Nat.add_sub_cancel_left]
    exact hq
  refine ⟨fun k q hq => h.1 _ q (at' k q hq), ⟨fun i j p q hp hq e => ?_, fun k q hq => h.2.1.2 _ q (at' k q hq)⟩, h.2.2⟩
  have := h.2.1.1 _ _ p q (at' i p hp) (at' j q hq) e
  omega
theorem wk_I.left {D : va_G} {A : Nat → Prop} {H0 H : Heap} {locs : List Loc} {w1 w2 : va_W} (h : wk_I D A H0 H locs (w1 ++ w2)) : wk_I D A H0 H locs w1 := by
  have at' : ∀ (k : Nat) (q : Nat × va_E), w1[k]? = some q → (w1 ++ w2)[k]? = some q := fun k q hq => by
    rw [List.getElem?_append_left (List.getElem?_eq_some_iff.mp hq).1]
    exact hq
  exact ⟨fun k q hq => h.1 _ q (at' k q hq), ⟨fun i j p q hp hq e => h.2.1.1 _ _ p q (at' i p hp) (at' j q hq) e, fun k q hq => h.2.1.2 _ q (at' k q hq)⟩, h.2.2⟩
/-- the cells of the one part are no cells of the other -/
theorem wk_apart {D : va_G} {A : Nat → Prop} {H0 H : Heap} {locs : List Loc} {w1 w2 : va_W} (h : wk_I D A H0 H locs (w1 ++ w2)) {i j : Nat} {p q : Nat × va_E} (hp : w1[i]? = some p) (hq : w2[j]? = some q) : p.1 ≠ q.1 := by
  intro e
  have hl := (List.getElem?_eq_some_iff.mp hp).1
  have := h.2.1.1 i (w1.length + j) p q (by rw [List.getElem?_append_left hl]; exact hp) (by rw [List.getElem?_append_right (by omega), Nat.add_sub_cancel_left]; exact hq) e
  omega
theorem wk_join {D : va_G} {A : Nat → Prop} {H0 H H1 : Heap} {locs locs1 : List Loc} {w1 w2 w2' : va_W} (hI : wk_I D A H0 H locs (w1 ++ w2)) (hA : ∀ q, H0.size ≤ q → A q) (hk : ∀ q : Nat, q < H.size → ¬ va_A w2 H.size q → H1[q]? = H[q]?) (hP1 : va_P D vwCl w2' H1) (hD1 : va_D (va_A w2 H.size) w2') (hS : va_S A H0 H1 locs1) : wk_I D A H0 H1 locs1 (w1 ++ w2') := by
  have out : ∀ (k : Nat) (q : Nat × va_E), w1[k]? = some q → q.1 < H.size ∧ ¬ va_A w2 H.size q.1 := by
    intro k q hq
    have hl := (hI.left.1 k q hq).lt
    refine ⟨hl, fun h => ?_⟩
    rcases h with ⟨k2, e, h⟩ | h
    · exact wk_apart hI hq h rfl
    · omega
  refine ⟨va_P.app (fun k q hq => (hI.left.1 k q hq).kept (hk q.1 (out k q hq).1 (out k q hq).2)) hP1, va_D.app hI.left.2.1 (hD1.weaken (fun _ q _ h => wk_free hI.right hA q.1 h)) (fun i j x y hx hy hxy => ?_), hS⟩
  exact (out i x hx).2 (by rw [hxy]; exact hD1.2 j y hy)
theorem wk_joinL {D : va_G} {A : Nat → Prop} {H0 H H1 : Heap} {locs locs1 : List Loc} {w1 w2 w1' : va_W} (hI : wk_I D A H0 H locs (w1 ++ w2)) (hA : ∀ q, H0.size ≤ q → A q) (hk : ∀ q : Nat, q < H.size → ¬ va_A w1 H.size q → H1[q]? = H[q]?) (hP1 : va_P D vwCl w1' H1) (hD1 : va_D (va_A w1 H.size) w1') (hS : va_S A H0 H1 locs1) : wk_I D A H0 H1 locs1 (w1' ++ w2) := by
  have out : ∀ (k : Nat) (q : Nat × va_E), w2[k]? = some q → q.1 < H.size ∧ ¬ va_A w1 H.size q.1 := by
    intro k q hq
    have hl := (hI.right.1 k q hq).lt
    refine ⟨hl, fun h => ?_⟩
    rcases h with ⟨k2, e, h⟩ | h
    · exact wk_apart hI h hq rfl
    · omega
  refine ⟨va_P.app hP1 (fun k q hq => (hI.right.1 k q hq).kept (hk q.1 (out k q hq).1 (out k q hq).2)), va_D.app (hD1.weaken (fun _ q _ h => wk_free hI.left hA q.1 h)) hI.right.2.1 (fun i j x y hx hy hxy => ?_), hS⟩
  exact (out j y hy).2 (by rw [← hxy]; exact hD1.2 i x hx)
section ALLOC
variable {p : Program} {l : Launch} {e : Env} {R : Room} {s : State} {m : MethodId} {args : Array Value} {below : List Frame} {meth : Method} {c : Code} {H : Heap} {locs : List Loc} {cells slots : Nat} {Q : State → Prop}
variable {D : va_G} {tys : List (ClassId × FieldType)} {A : Nat → Prop} {w w' w1 w2 : va_W} {pc : Nat} {ls : Array Slot} {rest st0 : List Value} {a : Array Value} {H0 : Heap} {mc ms : Nat} {cc : ByteArray}
-- a call on the second part, on the first part
theorem wk_fV {S : Type} {wf : S → va_W} {post : S → Prop} (hI : wk_I D A H0 H locs (w1 ++ w2)) (hA : ∀ q, H0.size ≤ q → A q) (hr : va_Run p l e R s m args below meth c H locs cells slots mc ms (F0 m pc ls st0) rest (va_Qv post (wk_B D tys (va_A w2 H.size) wf) (va_A w2 H.size) a) (va_A w2 H.size))
    (kk : ∀ (u : S) (H1 : Heap) (locs1 : List Loc), post u → wk_I D A H0 H1 locs1 (w1 ++ wf u) → W p l e R s m args below meth c H1 locs1 (cells + mc) (slots + ms) Q (F0 m (pc + 3) ls rest)) : W p l e R s m args below meth c H locs cells slots Q (F0 m pc ls st0) :=
  va_callv hr hI.2.2 (fun q _ h => wk_free hI.right hA q h) (wk_free hI.right hA) (fun u t H1 locs1 ht _ hw hB _ hk hS => kk u H1 locs1 hw (wk_join hI hA hk (by rw [← ht]; exact hB.1) hB.2.2 hS))
theorem wk_fI {S : Type} {wf : S → va_W} {post : Int32 → S → Prop} (hI : wk_I D A H0 H locs (w1 ++ w2)) (hA : ∀ q, H0.size ≤ q → A q) (hr : va_Run p l e R s m args below meth c H locs cells slots mc ms (F0 m pc ls st0) rest (va_Qi post (wk_B D tys (va_A w2 H.size) wf) (va_A w2 H.size) a) (va_A w2 H.size))
    (kk : ∀ (r : Int32) (u : S) (H1 : Heap) (locs1 : List Loc), post r u → wk_I D A H0 H1 locs1 (w1 ++ wf u) → W p l e R s m args below meth c H1 locs1 (cells + mc) (slots + ms) Q (F0 m (pc + 3) ls (.int r :: rest))) : W p l e R s m args below meth c H locs cells slots Q (F0 m pc ls st0) :=
  va_calli hr hI.2.2 (fun q _ h => wk_free hI.right hA q h) (wk_free hI.right hA) (fun r u t H1 locs1 ht _ hw hB _ hk hS => kk r u H1 locs1 hw (wk_join hI hA hk (by rw [← ht]; exact hB.1) hB.2.2 hS))
theorem wk_fL {S : Type} {wf : S → va_W} {post : Int64 → S → Prop} (hI : wk_I D A H0 H locs (w1 ++ w2)) (hA : ∀ q, H0.size ≤ q → A q) (hr : va_Run p l e R s m args below meth c H locs cells slots mc ms (F0 m pc ls st0) rest (va_Ql post (wk_B D tys (va_A w2 H.size) wf) (va_A w2 H.size) a) (va_A w2 H.size))
    (kk : ∀ (r : Int64) (u : S) (H1 : Heap) (locs1 : List Loc), post r u → wk_I D A H0 H1 locs1 (w1 ++ wf u) → W p l e R s m args below meth c H1 locs1 (cells + mc) (slots + ms) Q (F0 m (pc + 3) ls (.long r :: rest))) : W p l e R s m args below meth c H locs cells slots Q (F0 m pc ls st0) :=
  va_calll hr hI.2.2 (fun q _ h => wk_free hI.right hA q h) (wk_free hI.right hA) (fun r u t H1 locs1 ht _ hw hB _ hk hS => kk r u H1 locs1 hw (wk_join hI hA hk (by rw [← ht]; exact hB.1) hB.2.2 hS))
theorem wk_gI {S : Type} {wf : S → va_W} {post : Int32 → S → Prop} (hI : wk_I D A H0 H locs (w1 ++ w2)) (hA : ∀ q, H0.size ≤ q → A q) (hr : va_Run p l e R s m args below meth c H locs cells slots mc ms (F0 m pc ls st0) rest (va_Qi post (wk_B D tys (va_A w1 H.size) wf) (va_A w1 H.size) a) (va_A w1 H.size))
    (kk : ∀ (r : Int32) (u : S) (H1 : Heap) (locs1 : List Loc), post r u → wk_I D A H0 H1 locs1 (wf u ++ w2) → W p l e R s m args below meth c H1 locs1 (cells + mc) (slots + ms) Q (F0 m (pc + 3) ls (.int r :: rest))) : W p l e R s m args below meth c H locs cells slots Q (F0 m pc ls st0) :=
  va_calli hr hI.2.2 (fun q _ h => wk_free hI.left hA q h) (wk_free hI.left hA) (fun r u t H1 locs1 ht _ hw hB _ hk hS => kk r u H1 locs1 hw (wk_joinL hI hA hk (by rw [← ht]; exact hB.1) hB.2.2 hS))
theorem wk_gL {S : Type} {wf : S → va_W} {post : Int64 → S → Prop} (hI : wk_I D A H0 H locs (w1 ++ w2)) (hA : ∀ q, H0.size ≤ q → A q) (hr : va_Run p l e R s m args below meth c H locs cells slots mc ms (F0 m pc ls st0) rest (va_Ql post (wk_B D tys (va_A w1 H.size) wf) (va_A w1 H.size) a) (va_A w1 H.size))
    (kk : ∀ (r : Int64) (u : S) (H1 : Heap) (locs1 : List Loc), post r u → wk_I D A H0 H1 locs1 (wf u ++ w2) → W p l e R s m args below meth c H1 locs1 (cells + mc) (slots + ms) Q (F0 m (pc + 3) ls (.long r :: rest))) : W p l e R s m args below meth c H locs cells slots Q (F0 m pc ls st0) :=
  va_calll hr hI.2.2 (fun q _ h => wk_free hI.left hA q h) (wk_free hI.left hA) (fun r u t H1 locs1 ht _ hw hB _ hk hS => kk r u H1 locs1 hw (wk_joinL hI hA hk (by rw [← ht]; exact hB.1) hB.2.2 hS))
-- new
theorem wk_newO (hx : p.tables.exec = Jvm.exec) (hb : c.code = cc) {own C : String} {T : u_T} {N ci index : Nat} {Ts : List Cond} (hts : ∀ w ∈ Ts, w.before args s = true) (hin : ∀ w ∈ u_ws C T N, w ∈ Ts) (ty : Nat → FieldType) (hty : ∀ k, k < N → parseFieldDescriptor (T k).2.2.1 = some (ty k)) (hown : s.vm.findClass own = some m.cls) (hcl : (Cond.classLink own index C).before args s = true) (hinst : (Cond.instantiable C N).before args s = true) (hini : (Cond.initialized C).before args s = true)
    (hK : va_K D vwCl tys s) (hI : wk_I D A H0 H locs w) (hA : ∀ q, H0.size ≤ q → A q) (hc : vwCl[ci]? = some (C, T, N)) {fs : List Value} (hfs : ∀ j, j < N → defaultValue (ty j) = vp_V fs j) (hcells : cells + 1 ≤ R.cells) (hslots : slots + N ≤ R.slots) (hdg : decode cc pc = .ok (.new index, 3))
    (kk : ∀ (q : Nat) (H1 : Heap), wk_I D A H0 H1 locs (w ++ [(q, .inr (ci, fs))]) → W p l e R s m args below meth c H1 locs (cells + 1) (slots + N) Q (F0 m (pc + 3) ls (.ref q :: rest))) : W p l e R s m args below meth c H locs cells slots Q (F0 m pc ls rest) :=
  va_new hx hb hts hin ty hty hown hcl hinst hini hK hI.1 hI.2.1 hI.2.2 hA hc hfs hcells hslots hdg (fun q H1 h1 h2 h3 => kk q H1 ⟨h1, h2, h3⟩)
variable {cI cJ cS : ClassId}
theorem wk_newi (hx : p.tables.exec = Jvm.exec) (hb : c.code = cc) (harr : (Cond.arrayClass .int).before args s = true) (hK : va_K D vwCl (wk_tys cI cJ cS) s) (hI : wk_I D A H0 H locs w) (hA : ∀ q, H0.size ≤ q → A q) {n : Int32} {N' : Nat} (hn : ¬ n < 0) (hN : n.toNatClampNeg = N') (hbytes : N' * 4 ≤ 536870912) (hcells : cells + 1 ≤ R.cells) (hslots : slots + N' ≤ R.slots) (hdg : decode cc pc = .ok (.newarray .int, 2))
    (kk : ∀ (q : Nat) (H1 : Heap), wk_I D A H0 H1 locs (w ++ [(q, .inl (cI, N', .inl (fun _ => 0)))]) → W p l e R s m args below meth c H1 locs (cells + 1) (slots + N') Q (F0 m (pc + 2) ls (.ref q :: rest))) : W p l e R s m args below meth c H locs cells slots Q (F0 m pc ls (.int n :: rest)) := by
  refine va_newa (a0 := (N', .inl (fun _ => 0))) hx hb (atype := .int) harr (ty := .int) rfl hK hI.1 hI.2.1 hI.2.2 hA (fun _ => rfl) hn hN hbytes hcells hslots hdg (fun q cA H1 hK' h1 h2 h3 => ?_)
  have e1 : s.vm.findClass ("[" ++ (FieldType.int).toString) = some cA := (hK'.2 3 (cA, .int) rfl).2
  have e2 : s.vm.findClass ("[" ++ (FieldType.int).toString) = some cI := (hK.2 0 (cI, .int) rfl).2
  cases e1.symm.trans e2
  exact kk q H1 ⟨h1, h2, h3⟩
theorem wk_newl (hx : p.tables.exec = Jvm.exec) (hb : c.code = cc) (harr : (Cond.arrayClass .long).before args s = true) (hK : va_K D vwCl (wk_tys cI cJ cS) s) (hI : wk_I D A H0 H locs w) (hA : ∀ q, H0.size ≤ q → A q) {n : Int32} {N' : Nat} (hn : ¬ n < 0) (hN : n.toNatClampNeg = N') (hbytes : N' * 8 ≤ 536870912) (hcells : cells + 1 ≤ R.cells) (hslots : slots + N' ≤ R.slots) (hdg : decode cc pc = .ok (.newarray .long, 2))
    (kk : ∀ (q : Nat) (H1 : Heap), wk_I D A H0 H1 locs (w ++ [(q, .inl (cJ, N', .inr (.inl (fun _ => 0))))]) → W p l e R s m args below meth c H1 locs (cells + 1) (slots + N') Q (F0 m (pc + 2) ls (.ref q :: rest))) : W p l e R s m args below meth c H locs cells slots Q (F0 m pc ls (.int n :: rest)) := by
  refine va_newa (a0 := (N', .inr (.inl (fun _ => 0)))) hx hb (atype := .long) harr (ty := .long) rfl hK hI.1 hI.2.1 hI.2.2 hA (fun _ => rfl) hn hN hbytes hcells hslots hdg (fun q cA H1 hK' h1 h2 h3 => ?_)
  have e1 : s.vm.findClass ("[" ++ (FieldType.long).toString) = some cA := (hK'.2 3 (cA, .long) rfl).2
  have e2 : s.vm.findClass ("[" ++ (FieldType.long).toString) = some cJ := (hK.2 1 (cJ, .long) rfl).2
  cases e1.symm.trans e2
  exact kk q H1 ⟨h1, h2, h3⟩
theorem wk_newq (hx : p.tables.exec = Jvm.exec) (hb : c.code = cc) {own : String} {index : Nat} (hown : s.vm.findClass own = some m.cls) (hcl : (Cond.classLink own index RX8).before args s = true) (hN9 : wk_N s) (hK : va_K D vwCl (wk_tys cI cJ cS) s) (hI : wk_I D A H0 H locs w) (hA : ∀ q, H0.size ≤ q → A q) {n : Int32} {N' : Nat} (hn : ¬ n < 0) (hN : n.toNatClampNeg = N') (hbytes : N' * 4 ≤ 536870912) (hcells : cells + 1 ≤ R.cells) (hslots : slots + N' ≤ R.slots) (hdg : decode cc pc = .ok (.anewarray index, 3))
    (kk : ∀ (q : Nat) (H1 : Heap), wk_I D A H0 H1 locs (w ++ [(q, .inl (cS, N', .inr (.inr (.inr (.inr (fun _ => none))))))]) → W p l e R s m args below meth c H1 locs (cells + 1) (slots + N') Q (F0 m (pc + 3) ls (.ref q :: rest))) : W p l e R s m args below meth c H locs cells slots Q (F0 m pc ls (.int n :: rest)) := by
  refine va_newq hx hb hown hcl hN9.2 hK hI.1 hI.2.1 hI.2.2 hA hn hN hbytes hcells hslots hdg (fun q cA H1 hK' h1 h2 h3 => ?_)
  obtain ⟨_, _, -, -, -, e1⟩ := (hK'.2 3 (cA, .object RX8) rfl).2
  obtain ⟨_, _, -, -, -, e2⟩ := (hK.2 2 (cS, .object RX8) rfl).2
  cases e1.symm.trans e2
  exact kk q H1 ⟨h1, h2, h3⟩
theorem wk_aast (hx : p.tables.exec = Jvm.exec) (hb : c.code = cc) (hK : va_K D vwCl (wk_tys cI cJ cS) s) (hI : wk_I D A H0 H locs w) (q0 qk ci : Nat) {r : vw_C} {n v b : Nat} {vs : List Value} {f : Nat → Option Nat} (ha : w[q0]? = some (b, .inl (cS, n, .inr (.inr (.inr (.inr f)))))) (hca : va_Nw (.castable r.1 RX8) s) (hv : w[qk]? = some (v, .inr (ci, vs))) (hc : vwCl[ci]? = some r) {i : Int32} {j : Nat} (hi : i = nI j) (hj : j < n) (hn : n < 2 ^ 31) (hdg : decode cc pc = .ok (.aastore, 1))
    (kk : ∀ (H1 : Heap) (locs1 : List Loc), wk_I D A H0 H1 locs1 (w.set q0 (b, .inl (cS, n, .inr (.inr (.inr (.inr (va_up f j (some v)))))))) → W p l e R s m args below meth c H1 locs1 cells slots Q (F0 m (pc + 1) ls rest)) : W p l e R s m args below meth c H locs cells slots Q (F0 m pc ls (.ref v :: .int i :: .ref b :: rest)) := by
  subst hi
  refine va_astqO (E := RX8) hx hb hK hI.1 hI.2.1 hI.2.2 q0 2 qk ci ha rfl hca hv hc (vp_in_nI hj hn) hdg (fun H1 locs1 h1 h2 h3 => kk H1 locs1 ?_)
  rw [nI_clamp (Nat.lt_trans hj hn)] at h1 h2
  exact ⟨h1, h2, h3⟩
end ALLOC
