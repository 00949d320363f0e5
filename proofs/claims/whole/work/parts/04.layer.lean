/-! THE LAYER: one world a side, one form of contract; words of every method are its own code and the tables' words -/
theorem wk_Tg (w : Cond) (h : w ∈ wk_T) : goodWord w = true := (List.mem_filter.mp h).2
def wk_M (y : MethodName) (c : ByteArray) (n : Nat) (r : Option FieldType) : List Cond := .code y c n r :: wk_T
theorem wk_good {big : List Cond} {y : MethodName} {c : ByteArray} {n : Nat} {r : Option FieldType} (hb : ∀ w ∈ wk_T, w ∈ big) (h : Cond.code y c n r ∈ wk_T) : GoodIn big (wk_M y c n r) := by
  intro w hw
  have hT : w ∈ wk_T := by
    rcases List.mem_cons.mp hw with e | e
    · rw [e]; exact h
    · exact e
  exact ⟨hb w hT, good_of_word (wk_Tg w hT)⟩
theorem wk_goodT {big ws : List Cond} (hb : ∀ w ∈ wk_T, w ∈ big) (h : ∀ w ∈ ws, w ∈ wk_T) : GoodIn big ws := fun w hw => ⟨hb w (h w hw), good_of_word (wk_Tg w (h w hw))⟩
theorem wk_in_M {y : MethodName} {c : ByteArray} {n : Nat} {r : Option FieldType} : ∀ w ∈ wk_T, w ∈ wk_M y c n r := fun _ h => List.mem_cons_of_mem _ h
/-- words of a state that a call doesn't hand on by itself -/
def wk_N (U : State) : Prop := (∀ w ∈ wk_X, va_Nw w U) ∧ va_AO RX8 U
theorem wk_N.warm {s U : State} (hW : s.WarmedH U.vm) (h : wk_N s) : wk_N U := by
  refine ⟨fun w hw => ?_, va_AO.moved hW.alike h.2⟩
  have h1 := h.1 w hw
  have h2 : wk_isX w = true := (List.mem_filter.mp hw).2
  cases w <;> first | (exact absurd h2 (by decide)) | exact va_Nw.warmM hW h1 | exact va_Nw.warmD hW h1 | exact va_Nw.warmC hW h1 | (simp [wk_isX] at h2)
theorem wk_N.same {u U : State} (e : u.vm = U.vm) (h : wk_N u) : wk_N U := by
  refine ⟨fun w hw => ?_, va_AO.moved (by rw [e]; exact Vm.Alike.refl _) h.2⟩
  have h1 := h.1 w hw
  have h2 : wk_isX w = true := (List.mem_filter.mp hw).2
  refine va_Nw.same ?_ e h1
  cases w <;> first | rfl | (simp [wk_isX] at h2)
/-- the world between two instructions -/
def wk_I (D : va_G) (A : Nat → Prop) (H0 H : Heap) (locs : List Loc) (w : va_W) : Prop := va_P D vwCl w H ∧ va_D A w ∧ va_S A H0 H locs
def wk_Pc (D : va_G) (tys : List (ClassId × FieldType)) (av : List Value) (w : va_W) (sz : Nat) : Array Value → State → Prop := va_Pc av (fun U => U.heap.size = sz ∧ va_P D vwCl w U.heap ∧ va_K D vwCl tys U ∧ va_D (fun _ => True) w ∧ wk_N U)
def wk_B {S : Type} (D : va_G) (tys : List (ClassId × FieldType)) (A : Nat → Prop) (wf : S → va_W) (u : S) (t : State) : Prop := va_P D vwCl (wf u) t.heap ∧ va_K D vwCl tys t ∧ va_D A (wf u)
def wk_Ci {S : Type} (l : Launch) (D : va_G) (tys : List (ClassId × FieldType)) (y : MethodName) (ws : List Cond) (rm : Room) (av : List Value) (w : va_W) (wf : S → va_W) (post : Int32 → S → Prop) : Prop := ∀ sz, Met l y ws rm (wk_Pc D tys av w sz) (va_Qi post (wk_B D tys (va_A w sz) wf) (va_A w sz)) rm.cells rm.slots (va_A w sz)
def wk_Cl {S : Type} (l : Launch) (D : va_G) (tys : List (ClassId × FieldType)) (y : MethodName) (ws : List Cond) (rm : Room) (av : List Value) (w : va_W) (wf : S → va_W) (post : Int64 → S → Prop) : Prop := ∀ sz, Met l y ws rm (wk_Pc D tys av w sz) (va_Ql post (wk_B D tys (va_A w sz) wf) (va_A w sz)) rm.cells rm.slots (va_A w sz)
def wk_Cv {S : Type} (l : Launch) (D : va_G) (tys : List (ClassId × FieldType)) (y : MethodName) (ws : List Cond) (rm : Room) (av : List Value) (w : va_W) (wf : S → va_W) (post : S → Prop) : Prop := ∀ sz, Met l y ws rm (wk_Pc D tys av w sz) (va_Qv post (wk_B D tys (va_A w sz) wf) (va_A w sz)) rm.cells rm.slots (va_A w sz)
def wk_Cq {S : Type} (l : Launch) (D : va_G) (tys : List (ClassId × FieldType)) (y : MethodName) (ws : List Cond) (rm : Room) (av : List Value) (w : va_W) (wf : S → va_W) (post : Option Nat → S → Prop) : Prop := ∀ sz, Met l y ws rm (wk_Pc D tys av w sz) (va_Qq post (wk_B D tys (va_A w sz) wf) (va_A w sz)) rm.cells rm.slots (va_A w sz)
theorem wk_blind {D : va_G} {tys : List (ClassId × FieldType)} {av : List Value} {w : va_W} {sz : Nat} : FrameBlind (wk_Pc D tys av w sz) := fun a U g mk q => by
  obtain ⟨q0, q1, qP, qK, qD, qN⟩ := q
  exact ⟨q0, q1, qP, va_K.moved (u := U) (U := U.calling g mk a) (Vm.Alike.refl U.vm) qK, qD, wk_N.same (u := U) (U := U.calling g mk a) rfl qN⟩
section LAYER
variable {p : Program} {l : Launch} {e : Env} {R : Room} {s : State} {m : MethodId} {args : Array Value} {below : List Frame} {meth : Method} {c : Code} {H : Heap} {locs : List Loc} {cells slots : Nat} {Q : State → Prop}
variable {D : va_G} {tys : List (ClassId × FieldType)} {A : Nat → Prop} {w w' wr : va_W}
theorem wk_preS {As : List Value} {H0 : Heap} (hN : wk_N s) (hK : va_K D vwCl tys s) (hI : wk_I D A H0 H locs w) : PreS s H (wk_Pc D tys As w H.size) As :=
  ⟨wk_blind, fun U hU hW => ⟨rfl, by rw [hU], by rw [hU]; exact hI.1, va_K.moved hW.alike hK, hI.2.1.weaken (fun _ _ _ _ => trivial), wk_N.warm hW hN⟩⟩
theorem wk_preV {As : List Value} {H0 : Heap} {b q0 ci : Nat} {fs : List Value} {q : vw_C} (hN : wk_N s) (hK : va_K D vwCl tys s) (hI : wk_I D A H0 H locs w) (hc : vwCl[ci]? = some q) (he : w[q0]? = some (b, .inr (ci, fs))) : PreV s H q.1 b (wk_Pc D tys (.ref b :: As) w H.size) As :=
  ⟨wk_blind, va_recv hK hI.1 hc he, fun U hU hW => ⟨rfl, by rw [hU], by rw [hU]; exact hI.1, va_K.moved hW.alike hK, hI.2.1.weaken (fun _ _ _ _ => trivial), wk_N.warm hW hN⟩⟩
theorem wk_free {H0 : Heap} (hI : wk_I D A H0 H locs w) (hA : ∀ q, H0.size ≤ q → A q) : ∀ q, va_A w H.size q → A q := by
  intro q h
  rcases h with ⟨k, e, h⟩ | h
  · exact hI.2.1.2 k (q, e) h
  · exact hA q (Nat.le_trans hI.2.2.1 h)
variable {pc : Nat} {ls : Array Slot} {rest st0 : List Value} {a : Array Value} {H0 : Heap} {mc ms : Nat}
theorem wk_kI {S : Type} {wf : S → va_W} {post : Int32 → S → Prop} (hI : wk_I D A H0 H locs w) (hA : ∀ q, H0.size ≤ q → A q) (hr : va_Run p l e R s m args below meth c H locs cells slots mc ms (F0 m pc ls st0) rest (va_Qi post (wk_B D tys (va_A w H.size) wf) (va_A w H.size) a) (va_A w H.size))
    (kk : ∀ (r : Int32) (u : S) (H1 : Heap) (locs1 : List Loc), post r u → wk_I D A H0 H1 locs1 (wf u) → W p l e R s m args below meth c H1 locs1 (cells + mc) (slots + ms) Q (F0 m (pc + 3) ls (.int r :: rest))) : W p l e R s m args below meth c H locs cells slots Q (F0 m pc ls st0) :=
  va_calli hr hI.2.2 (fun q _ h => wk_free hI hA q h) (wk_free hI hA) (fun r u t H1 locs1 ht _ hw hB _ _ hS => kk r u H1 locs1 hw ⟨by rw [← ht]; exact hB.1, hB.2.2.weaken (fun _ q _ h => wk_free hI hA q.1 h), hS⟩)
theorem wk_kL {S : Type} {wf : S → va_W} {post : Int64 → S → Prop} (hI : wk_I D A H0 H locs w) (hA : ∀ q, H0.size ≤ q → A q) (hr : va_Run p l e R s m args below meth c H locs cells slots mc ms (F0 m pc ls st0) rest (va_Ql post (wk_B D tys (va_A w H.size) wf) (va_A w H.size) a) (va_A w H.size))
    (kk : ∀ (r : Int64) (u : S) (H1 : Heap) (locs1 : List Loc), post r u → wk_I D A H0 H1 locs1 (wf u) → W p l e R s m args below meth c H1 locs1 (cells + mc) (slots + ms) Q (F0 m (pc + 3) ls (.long r :: rest))) : W p l e R s m args below meth c H locs cells slots Q (F0 m pc ls st0) :=
  va_calll hr hI.2.2 (fun q _ h => wk_free hI hA q h) (wk_free hI hA) (fun r u t H1 locs1 ht _ hw hB _ _ hS => kk r u H1 locs1 hw ⟨by rw [← ht]; exact hB.1, hB.2.2.weaken (fun _ q _ h => wk_free hI hA q.1 h), hS⟩)
theorem wk_kV {S : Type} {wf : S → va_W} {post : S → Prop} (hI : wk_I D A H0 H locs w) (hA : ∀ q, H0.size ≤ q → A q) (hr : va_Run p l e R s m args below meth c H locs cells slots mc ms (F0 m pc ls st0) rest (va_Qv post (wk_B D tys (va_A w H.size) wf) (va_A w H.size) a) (va_A w H.size))
    (kk : ∀ (u : S) (H1 : Heap) (locs1 : List Loc), post u → wk_I D A H0 H1 locs1 (wf u) → W p l e R s m args below meth c H1 locs1 (cells + mc) (slots + ms) Q (F0 m (pc + 3) ls rest)) : W p l e R s m args below meth c H locs cells slots Q (F0 m pc ls st0) :=
  va_callv hr hI.2.2 (fun q _ h => wk_free hI hA q h) (wk_free hI hA) (fun u t H1 locs1 ht _ hw hB _ _ hS => kk u H1 locs1 hw ⟨by rw [← ht]; exact hB.1, hB.2.2.weaken (fun _ q _ h => wk_free hI hA q.1 h), hS⟩)
theorem wk_kQ {S : Type} {wf : S → va_W} {post : Option Nat → S → Prop} (hI : wk_I D A H0 H locs w) (hA : ∀ q, H0.size ≤ q → A q) (hr : va_Run p l e R s m args below meth c H locs cells slots mc ms (F0 m pc ls st0) rest (va_Qq post (wk_B D tys (va_A w H.size) wf) (va_A w H.size) a) (va_A w H.size))
    (kk : ∀ (r : Option Nat) (u : S) (H1 : Heap) (locs1 : List Loc), post r u → wk_I D A H0 H1 locs1 (wf u) → W p l e R s m args below meth c H1 locs1 (cells + mc) (slots + ms) Q (F0 m (pc + 3) ls (va_rf r :: rest))) : W p l e R s m args below meth c H locs cells slots Q (F0 m pc ls st0) :=
  va_callq hr hI.2.2 (fun q _ h => wk_free hI hA q h) (wk_free hI hA) (fun r u t H1 locs1 ht _ hw hB _ _ hS => kk r u H1 locs1 hw ⟨by rw [← ht]; exact hB.1, hB.2.2.weaken (fun _ q _ h => wk_free hI hA q.1 h), hS⟩)
-- returns
variable {cc : ByteArray}
theorem wk_ri {S : Type} {wf : S → va_W} {post : Int32 → S → Prop} {v : Int32} (u : S) (hx : p.tables.exec = Jvm.exec) (hb : c.code = cc) (hr : meth.sig.returnType = some .int) (hlk : meth.locks = false) (hK : va_K D vwCl tys s) (hI : wk_I D A s.heap H locs w) (hw : w = wf u) (hp : post v u) (hdg : decode cc pc = .ok (.ireturn, 1)) : W p l e R s m args below meth c H locs cells slots (MQ below (va_Qi post (wk_B D tys A wf) A) args s cells slots A) (F0 m pc ls [.int v]) := by
  subst hw
  exact W.iret hx hb hr (fun t ht hW => ⟨⟨v, u, rfl, hp, by rw [ht]; exact hI.1, va_K.moved hW.alike hK, hI.2.1⟩, hI.2.2.F ht⟩) hI.2.2.2.2 hdg hlk
theorem wk_rz {S : Type} {wf : S → va_W} {post : Int32 → S → Prop} {v : Int32} (u : S) (hx : p.tables.exec = Jvm.exec) (hb : c.code = cc) (hr : meth.sig.returnType = some .boolean) (hlk : meth.locks = false) (hn : narrow .boolean (.int v) = .int v) (hK : va_K D vwCl tys s) (hI : wk_I D A s.heap H locs w) (hw : w = wf u) (hp : post v u) (hdg : decode cc pc = .ok (.ireturn, 1)) : W p l e R s m args below meth c H locs cells slots (MQ below (va_Qi post (wk_B D tys A wf) A) args s cells slots A) (F0 m pc ls [.int v]) := by
  subst hw
  exact W.zret hx hb hr hn (fun t ht hW => ⟨⟨v, u, rfl, hp, by rw [ht]; exact hI.1, va_K.moved hW.alike hK, hI.2.1⟩, hI.2.2.F ht⟩) hI.2.2.2.2 hdg hlk
theorem wk_rl {S : Type} {wf : S → va_W} {post : Int64 → S → Prop} {v : Int64} (u : S) (hx : p.tables.exec = Jvm.exec) (hb : c.code = cc) (hr : meth.sig.returnType = some .long) (hlk : meth.locks = false) (hK : va_K D vwCl tys s) (hI : wk_I D A s.heap H locs w) (hw : w = wf u) (hp : post v u) (hdg : decode cc pc = .ok (.lreturn, 1)) : W p l e R s m args below meth c H locs cells slots (MQ below (va_Ql post (wk_B D tys A wf) A) args s cells slots A) (F0 m pc ls [.long v]) := by
  subst hw
  exact W.lret hx hb hr (fun t ht hW => ⟨⟨v, u, rfl, hp, by rw [ht]; exact hI.1, va_K.moved hW.alike hK, hI.2.1⟩, hI.2.2.F ht⟩) hI.2.2.2.2 hdg hlk
theorem wk_rv {S : Type} {wf : S → va_W} {post : S → Prop} (u : S) (hx : p.tables.exec = Jvm.exec) (hb : c.code = cc) (hr : meth.sig.returnType = none) (hlk : meth.locks = false) (hK : va_K D vwCl tys s) (hI : wk_I D A s.heap H locs w) (hw : w = wf u) (hp : post u) (hdg : decode cc pc = .ok (.return_, 1)) : W p l e R s m args below meth c H locs cells slots (MQ below (va_Qv post (wk_B D tys A wf) A) args s cells slots A) (F0 m pc ls []) := by
  subst hw
  exact W.vret hx hb hr (fun t ht hW => ⟨⟨u, rfl, hp, by rw [ht]; exact hI.1, va_K.moved hW.alike hK, hI.2.1⟩, hI.2.2.F ht⟩) hI.2.2.2.2 hdg hlk
theorem wk_rq {S : Type} {wf : S → va_W} {post : Option Nat → S → Prop} {r : Option Nat} {n : String} (u : S) (hx : p.tables.exec = Jvm.exec) (hb : c.code = cc) (hr : meth.sig.returnType = some (.object n)) (hlk : meth.locks = false) (hK : va_K D vwCl tys s) (hI : wk_I D A s.heap H locs w) (hw : w = wf u) (hp : post r u) (hdg : decode cc pc = .ok (.areturn, 1)) : W p l e R s m args below meth c H locs cells slots (MQ below (va_Qq post (wk_B D tys A wf) A) args s cells slots A) (F0 m pc ls [va_rf r]) := by
  subst hw
  exact W.aret hx hb hr (Or.inl ⟨n, rfl⟩) (va_rf_or r) (fun t ht hW => ⟨⟨r, u, rfl, hp, by rw [ht]; exact hI.1, va_K.moved hW.alike hK, hI.2.1⟩, hI.2.2.F ht⟩) hI.2.2.2.2 hdg hlk
-- fields and arrays
theorem wk_get (hx : p.tables.exec = Jvm.exec) (hb : c.code = cc) {own ref C : String} {T : u_T} {N ci index b : Nat} {Ts : List Cond} (hts : ∀ w ∈ Ts, w.before args s = true) (hin : ∀ w ∈ u_ws C T N, w ∈ Ts) (hown : s.vm.findClass own = some m.cls) (hK : va_K D vwCl tys s) (hI : wk_I D A H0 H locs w) (q0 : Nat) {fs : List Value} (he : w[q0]? = some (b, .inr (ci, fs))) (hc : vwCl[ci]? = some (C, T, N)) (k : Nat) (hk : k < N) (hlink : (Cond.fieldLink own index ref (T k).2.1 (T k).2.2.1).before args s = true) (hsame : (T k).1 = ref) {v : Value} (hv : fs[k]? = some v) (hdg : decode cc pc = .ok (.getfield index, 3))
    (kk : W p l e R s m args below meth c H locs cells slots Q (F0 m (pc + 3) ls (v :: rest))) : W p l e R s m args below meth c H locs cells slots Q (F0 m pc ls (.ref b :: rest)) :=
  va_get hx hb hts hin hown hK hI.1 q0 he hc k hk hlink (fun _ h9 => by rw [← hsame]; exact h9) hv hdg kk
theorem wk_put (hx : p.tables.exec = Jvm.exec) (hb : c.code = cc) {own ref C : String} {T : u_T} {N ci index b : Nat} {Ts : List Cond} (hts : ∀ w ∈ Ts, w.before args s = true) (hin : ∀ w ∈ u_ws C T N, w ∈ Ts) (ty0 : Nat → FieldType) (hty : ∀ k, k < N → parseFieldDescriptor (T k).2.2.1 = some (ty0 k)) (hnm : ∀ a, a < N → ∀ b, b < N → a ≠ b → (T a).2.1 ≠ (T b).2.1) (hown : s.vm.findClass own = some m.cls) (hK : va_K D vwCl tys s) (hI : wk_I D A H0 H locs w) (q0 : Nat) {fs : List Value} (he : w[q0]? = some (b, .inr (ci, fs))) (hc : vwCl[ci]? = some (C, T, N)) (k : Nat) (hk : k < N) (hlink : (Cond.fieldLink own index ref (T k).2.1 (T k).2.2.1).before args s = true) (hsame : (T k).1 = ref) (hfin : (T k).2.2.2 = false) {ty : FieldType} {v : Value} (hd : parseFieldDescriptor (T k).2.2.1 = some ty) (hn : narrow ty v = v) (hfit : fits ty v = true) (hl : k < fs.length) (hw' : w.set q0 (b, .inr (ci, fs.set k v)) = w')
    (hdg : decode cc pc = .ok (.putfield index, 3)) (kk : ∀ (H1 : Heap) (locs1 : List Loc), wk_I D A H0 H1 locs1 w' → W p l e R s m args below meth c H1 locs1 cells slots Q (F0 m (pc + 3) ls rest)) : W p l e R s m args below meth c H locs cells slots Q (F0 m pc ls (v :: .ref b :: rest)) := by
  subst hw'
  exact va_put hx hb hts hin ty0 hty hnm hown hK hI.1 hI.2.1 hI.2.2 q0 he hc k hk hlink (fun _ h9 => by rw [← hsame]; exact h9) hfin hd hn hfit hl hdg (fun H1 locs1 h1 h2 h3 => kk H1 locs1 ⟨h1, h2, h3⟩)
theorem wk_putF (hx : p.tables.exec = Jvm.exec) (hb : c.code = cc) {own ref C : String} {T : u_T} {N ci index b : Nat} {Ts : List Cond} (hts : ∀ w ∈ Ts, w.before args s = true) (hin : ∀ w ∈ u_ws C T N, w ∈ Ts) (ty0 : Nat → FieldType) (hty : ∀ k, k < N → parseFieldDescriptor (T k).2.2.1 = some (ty0 k)) (hnm : ∀ a, a < N → ∀ b, b < N → a ≠ b → (T a).2.1 ≠ (T b).2.1) (hown : s.vm.findClass own = some m.cls) (hK : va_K D vwCl tys s) (hI : wk_I D A H0 H locs w) (q0 : Nat) {fs : List Value} (he : w[q0]? = some (b, .inr (ci, fs))) (hc : vwCl[ci]? = some (C, T, N)) (k : Nat) (hk : k < N) (hlink : (Cond.fieldLink own index ref (T k).2.1 (T k).2.2.1).before args s = true) (hsame : (T k).1 = ref) (hfin : (T k).2.2.2 = true) (hin2 : meth.name = "<init>") (hdecl : (T k).1 = own) {ty : FieldType} {v : Value} (hd : parseFieldDescriptor (T k).2.2.1 = some ty) (hn : narrow ty v = v) (hfit : fits ty v = true) (hl : k < fs.length) (hw' : w.set q0 (b, .inr (ci, fs.set k v)) = w')
    (hdg : decode cc pc = .ok (.putfield index, 3)) (kk : ∀ (H1 : Heap) (locs1 : List Loc), wk_I D A H0 H1 locs1 w' → W p l e R s m args below meth c H1 locs1 cells slots Q (F0 m (pc + 3) ls rest)) : W p l e R s m args below meth c H locs cells slots Q (F0 m pc ls (v :: .ref b :: rest)) := by
  subst hw'
  exact va_putF hx hb hts hin ty0 hty hnm hown hK hI.1 hI.2.1 hI.2.2 q0 he hc k hk hlink (fun _ h9 => by rw [← hsame]; exact h9) hfin hin2 hdecl hd hn hfit hl hdg (fun H1 locs1 h1 h2 h3 => kk H1 locs1 ⟨h1, h2, h3⟩)
theorem wk_iald (hx : p.tables.exec = Jvm.exec) (hb : c.code = cc) (hK : va_K D vwCl tys s) (hI : wk_I D A H0 H locs w) (q0 t0 : Nat) {cA : ClassId} {n b : Nat} {f : Nat → Int32} (ha : w[q0]? = some (b, .inl (cA, n, .inl f))) (ht : tys[t0]? = some (cA, .int)) {i : Int32} {j : Nat} {v : Int32} (hi : i = nI j) (hj : j < n) (hn : n < 2 ^ 31) (hv : f j = v) (hdg : decode cc pc = .ok (.iaload, 1))
    (kk : W p l e R s m args below meth c H locs cells slots Q (F0 m (pc + 1) ls (.int v :: rest))) : W p l e R s m args below meth c H locs cells slots Q (F0 m pc ls (.int i :: .ref b :: rest)) := by
  subst hi; subst hv
  refine va_iald hx hb hK hI.1 q0 t0 ha ht (vp_in_nI hj hn) hdg ?_
  rw [nI_clamp (Nat.lt_trans hj hn)]
  exact kk
theorem wk_lald (hx : p.tables.exec = Jvm.exec) (hb : c.code = cc) (hK : va_K D vwCl tys s) (hI : wk_I D A H0 H locs w) (q0 t0 : Nat) {cA : ClassId} {n b : Nat} {f : Nat → Int64} (ha : w[q0]? = some (b, .inl (cA, n, .inr (.inl f)))) (ht : tys[t0]? = some (cA, .long)) {i : Int32} {j : Nat} {v : Int64} (hi : i = nI j) (hj : j < n) (hn : n < 2 ^ 31) (hv : f j = v) (hdg : decode cc pc = .ok (.laload, 1))
    (kk : W p l e R s m args below meth c H locs cells slots Q (F0 m (pc + 1) ls (.long v :: rest))) : W p l e R s m args below meth c H locs cells slots Q (F0 m pc ls (.int i :: .ref b :: rest)) := by
  subst hi; subst hv
  refine va_lald hx hb hK hI.1 q0 t0 ha ht (vp_in_nI hj hn) hdg ?_
  rw [nI_clamp (Nat.lt_trans hj hn)]
  exact kk
theorem wk_aald (hx : p.tables.exec = Jvm.exec) (hb : c.code = cc) (hK : va_K D vwCl tys s) (hI : wk_I D A H0 H locs w) (q0 t0 : Nat) {cA : ClassId} {C : String} {n b : Nat} {f : Nat → Option Nat} (ha : w[q0]? = some (b, .inl (cA, n, .inr (.inr (.inr (.inr f)))))) (ht : tys[t0]? = some (cA, .object C)) {i : Int32} {j : Nat} {v : Nat} (hi : i = nI j) (hj : j < n) (hn : n < 2 ^ 31) (hv : f j = some v) (hdg : decode cc pc = .ok (.aaload, 1))
    (kk : W p l e R s m args below meth c H locs cells slots Q (F0 m (pc + 1) ls (.ref v :: rest))) : W p l e R s m args below meth c H locs cells slots Q (F0 m pc ls (.int i :: .ref b :: rest)) := by
  subst hi
  refine va_aldq hx hb hK hI.1 q0 t0 ha ht (vp_in_nI hj hn) hdg ?_
  rw [nI_clamp (Nat.lt_trans hj hn), hv]
  exact kk
theorem wk_iast (hx : p.tables.exec = Jvm.exec) (hb : c.code = cc) (hK : va_K D vwCl tys s) (hI : wk_I D A H0 H locs w) (q0 t0 : Nat) {cA : ClassId} {n b : Nat} {f : Nat → Int32} (ha : w[q0]? = some (b, .inl (cA, n, .inl f))) (ht : tys[t0]? = some (cA, .int)) {i x : Int32} {j : Nat} (hi : i = nI j) (hj : j < n) (hn : n < 2 ^ 31) (hw' : w.set q0 (b, .inl (cA, n, .inl (upd f j x))) = w') (hdg : decode cc pc = .ok (.iastore, 1))
    (kk : ∀ (H1 : Heap) (locs1 : List Loc), wk_I D A H0 H1 locs1 w' → W p l e R s m args below meth c H1 locs1 cells slots Q (F0 m (pc + 1) ls rest)) : W p l e R s m args below meth c H locs cells slots Q (F0 m pc ls (.int x :: .int i :: .ref b :: rest)) := by
  subst hi; subst hw'
  refine va_iast hx hb hK hI.1 hI.2.1 hI.2.2 q0 t0 ha ht (vp_in_nI hj hn) hdg (fun H1 locs1 h1 h2 h3 => kk H1 locs1 ?_)
  rw [nI_clamp (Nat.lt_trans hj hn)] at h1 h2
  exact ⟨h1, h2, h3⟩
theorem wk_last (hx : p.tables.exec = Jvm.exec) (hb : c.code = cc) (hK : va_K D vwCl tys s) (hI : wk_I D A H0 H locs w) (q0 t0 : Nat) {cA : ClassId} {n b : Nat} {f : Nat → Int64} (ha : w[q0]? = some (b, .inl (cA, n, .inr (.inl f)))) (ht : tys[t0]? = some (cA, .long)) {i : Int32} {x : Int64} {j : Nat} (hi : i = nI j) (hj : j < n) (hn : n < 2 ^ 31) (hw' : w.set q0 (b, .inl (cA, n, .inr (.inl (vp_updL f j x)))) = w') (hdg : decode cc pc = .ok (.lastore, 1))
    (kk : ∀ (H1 : Heap) (locs1 : List Loc), wk_I D A H0 H1 locs1 w' → W p l e R s m args below meth c H1 locs1 cells slots Q (F0 m (pc + 1) ls rest)) : W p l e R s m args below meth c H locs cells slots Q (F0 m pc ls (.long x :: .int i :: .ref b :: rest)) := by
  subst hi; subst hw'
  refine va_last hx hb hK hI.1 hI.2.1 hI.2.2 q0 t0 ha ht (vp_in_nI hj hn) hdg (fun H1 locs1 h1 h2 h3 => kk H1 locs1 ?_)
  rw [nI_clamp (Nat.lt_trans hj hn)] at h1 h2
  exact ⟨h1, h2, h3⟩
-- what a call asks
theorem wk_cwV {Ts : List Cond} {own C : String} {index nL : Nat} {y : MethodName} {bytes : ByteArray} {ret : Option FieldType} {rm : Room} (n : Nat) (ht : ∀ w ∈ Ts, w.before args s = true) (hb : ∀ w ∈ wk_T, w ∈ Ts) (h1 : Cond.methodLink own index y ∈ wk_T) (h2 : Cond.instanceMethod y ∈ wk_T) (h3 : Cond.selects C y y ∈ wk_T) (h4 : Cond.initialized C ∈ wk_T) (h5 : Cond.code y bytes nL ret ∈ wk_T)
    (hd : y.cls = C ∧ y.cls ≠ "java/lang/invoke/MethodHandle" ∧ y.cls ≠ "java/lang/invoke/VarHandle" ∧ (parseMethodDescriptor y.desc).map (fun d => d.parameters.length) = some n) (hR : rm.frames + 1 ≤ R.frames ∧ 8 + (nL + 11) + rm.locals ≤ R.locals) : CallW R s args own C index y bytes nL ret (wk_M y bytes nL ret) rm rm.cells rm.slots n := by
  refine cwV n ht (goodIn_app ?_ (wk_good hb h5)) rfl rfl rfl hd hR
  refine wk_goodT hb ?_
  intro w hw
  simp only [List.mem_cons, List.not_mem_nil, or_false] at hw
  rcases hw with rfl | rfl | rfl | rfl <;> assumption
theorem wk_cwS {Ts : List Cond} {own : String} {index nL : Nat} {y : MethodName} {bytes : ByteArray} {ret : Option FieldType} {rm : Room} (n : Nat) (ht : ∀ w ∈ Ts, w.before args s = true) (hb : ∀ w ∈ wk_T, w ∈ Ts) (h1 : Cond.methodLink own index y ∈ wk_T) (h2 : Cond.static y ∈ wk_T) (h4 : Cond.initialized y.cls ∈ wk_T) (h5 : Cond.code y bytes nL ret ∈ wk_T)
    (hd : y.cls ≠ "java/lang/invoke/MethodHandle" ∧ y.cls ≠ "java/lang/invoke/VarHandle" ∧ (parseMethodDescriptor y.desc).map (fun d => d.parameters.length) = some n) (hR : rm.frames + 1 ≤ R.frames ∧ 8 + (nL + 11) + rm.locals ≤ R.locals) : CallB R s args own index y bytes nL ret (wk_M y bytes nL ret) rm rm.cells rm.slots n ∧ (Cond.static y).before args s = true :=
  ⟨callB_of n ht (wk_good hb h5) rfl rfl rfl (ht _ (hb _ h4)) (ht _ (hb _ h1)) hd hR, ht _ (hb _ h2)⟩
theorem wk_cwU {Ts : List Cond} {own C owner : String} {index nL : Nat} {x y : MethodName} {bytes : ByteArray} {ret : Option FieldType} {rm : Room} (n : Nat) (ht : ∀ w ∈ Ts, w.before args s = true) (hb : ∀ w ∈ wk_T, w ∈ Ts) (h1 : Cond.methodLink own index x ∈ wk_T) (h2 : Cond.sameMethod x.cls owner x.name x.desc ∈ wk_T) (h3 : Cond.selects C x y ∈ wk_T) (h4 : Cond.instanceMethod y ∈ wk_T) (h6 : Cond.initialized y.cls ∈ wk_T) (h5 : Cond.code y bytes nL ret ∈ wk_T) (hdecl : va_Decl s ⟨owner, x.name, x.desc⟩)
    (hd : owner ≠ "java/lang/invoke/MethodHandle" ∧ owner ≠ "java/lang/invoke/VarHandle" ∧ (parseMethodDescriptor x.desc).map (fun d => d.parameters.length) = some n) (hR : rm.frames + 1 ≤ R.frames ∧ 8 + (nL + 11) + rm.locals ≤ R.locals) : va_CU R s args own C owner index x y bytes nL ret (wk_M y bytes nL ret) rm rm.cells rm.slots n := by
  refine ⟨⟨rfl, rfl, hR.1, hR.2, pay_in ht (wk_good hb h5), List.mem_cons_self⟩, ht _ (hb _ h5), ht _ (hb _ h6), ⟨hd.1, hd.2.1⟩, fun sig h => ?_, ht _ (hb _ h1), ht _ (hb _ h2), hdecl, ht _ (hb _ h3), ht _ (hb _ h4)⟩
  have h2 := hd.2.2
  rw [h] at h2
  exact (Option.some.inj h2).symm
theorem wk_cwN {Ts : List Cond} {own host : String} {index nL : Nat} {y : MethodName} {bytes : ByteArray} {rm : Room} (n : Nat) (ht : ∀ w ∈ Ts, w.before args s = true) (hb : ∀ w ∈ wk_T, w ∈ Ts) (h1 : va_Nw (.methodLinkNest own index y host) s) (h2 : Cond.instanceMethod y ∈ wk_T) (h4 : Cond.initialized y.cls ∈ wk_T) (h5 : Cond.code y bytes nL none ∈ wk_T) (hy1 : y.name = "<init>")
    (hd : y.cls ≠ "java/lang/invoke/MethodHandle" ∧ y.cls ≠ "java/lang/invoke/VarHandle" ∧ (parseMethodDescriptor y.desc).map (fun d => d.parameters.length) = some n) (hR : rm.frames + 1 ≤ R.frames ∧ 8 + (nL + 11) + rm.locals ≤ R.locals) : va_CN R s args own index y host bytes nL none (wk_M y bytes nL none) rm rm.cells rm.slots n ∧ y.name = "<init>" ∧ (Cond.instanceMethod y).before args s = true := by
  refine ⟨⟨⟨rfl, rfl, hR.1, hR.2, pay_in ht (wk_good hb h5), List.mem_cons_self⟩, ht _ (hb _ h5), ht _ (hb _ h4), ⟨hd.1, hd.2.1⟩, fun sig h => ?_, va_Nw.use rfl h1⟩, hy1, ht _ (hb _ h2)⟩
  have h2 := hd.2.2
  rw [h] at h2
  exact (Option.some.inj h2).symm
end LAYER
