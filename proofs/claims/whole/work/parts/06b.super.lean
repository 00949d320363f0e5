/-! SUPER CALLS of a method that the superclass has from further above; the receiver is a rank -/
section SUPER
variable {p : Program} {l : Launch} {e : Env} {R : Room} {s : State} {m : MethodId} {args : Array Value} {below : List Frame} {meth : Method} {c : Code} {H : Heap} {locs : List Loc} {cells slots : Nat}
def wk_CP (R : Room) (s : State) (args : Array Value) (own : String) (index : Nat) (x y : MethodName) (bytes : ByteArray) (maxL : Nat) (ret : Option FieldType) (ws : List Cond) (rm : Room) (mc ms n : Nat) : Prop :=
  (rm.cells = mc ∧ rm.slots = ms ∧ rm.frames + 1 ≤ R.frames ∧ 8 + (maxL + 11) + rm.locals ≤ R.locals ∧ (∀ w ∈ ws, ∀ (a' : Array Value) (U : State), s.WarmedH U.vm → w.before a' U = true) ∧ Cond.code y bytes maxL ret ∈ ws) ∧
  (Cond.methodLink own index x).before args s = true ∧ (Cond.sameMethod x.cls y.cls x.name x.desc).before args s = true ∧ (Cond.superclass own x.cls).before args s = true ∧ (Cond.instanceMethod y).before args s = true ∧ (Cond.initialized y.cls).before args s = true ∧ (Cond.code y bytes maxL ret).before args s = true ∧ (x.name ≠ "<init>" ∧ y = ⟨y.cls, x.name, x.desc⟩ ∧ (parseMethodDescriptor y.desc).map (fun d => d.parameters.length) = some n) ∧ (∀ a b : ClassId, s.vm.findClass x.cls = some a → s.vm.findClass y.cls = some b → s.vm.isSubclass a b = true)
theorem wk_cwP {Ts : List Cond} {own : String} {index nL : Nat} {x y : MethodName} {bytes : ByteArray} {ret : Option FieldType} {rm : Room} (n : Nat) (ht : ∀ w ∈ Ts, w.before args s = true) (hb : ∀ w ∈ wk_T, w ∈ Ts) (h1 : Cond.methodLink own index x ∈ wk_T) (h2 : Cond.sameMethod x.cls y.cls x.name x.desc ∈ wk_T) (h3 : Cond.superclass own x.cls ∈ wk_T) (h4 : Cond.instanceMethod y ∈ wk_T) (h6 : Cond.initialized y.cls ∈ wk_T) (h5 : Cond.code y bytes nL ret ∈ wk_T)
    (hsub : (∀ w ∈ wk_T, w.before args s = true) → wk_N s → ∀ a b : ClassId, s.vm.findClass x.cls = some a → s.vm.findClass y.cls = some b → s.vm.isSubclass a b = true) (hN : wk_N s) (hd : x.name ≠ "<init>" ∧ y = ⟨y.cls, x.name, x.desc⟩ ∧ (parseMethodDescriptor y.desc).map (fun d => d.parameters.length) = some n) (hR : rm.frames + 1 ≤ R.frames ∧ 8 + (nL + 11) + rm.locals ≤ R.locals) : wk_CP R s args own index x y bytes nL ret (wk_M y bytes nL ret) rm rm.cells rm.slots n :=
  ⟨⟨rfl, rfl, hR.1, hR.2, pay_in ht (wk_good hb h5), List.mem_cons_self⟩, ht _ (hb _ h1), ht _ (hb _ h2), ht _ (hb _ h3), ht _ (hb _ h4), ht _ (hb _ h6), ht _ (hb _ h5), hd, hsub (fun w h => ht w (hb w h)) hN⟩
def wk_PreR (s : State) (H : Heap) (b : Addr) (Pc : Array Value → State → Prop) (As : List Value) : Prop :=
  FrameBlind Pc ∧ (∃ (cellB : Cell) (kB : Class), H[b]? = some cellB ∧ cellB.vm.isStatics = false ∧ s.vm.classes[cellB.cls]? = some kB) ∧ ∀ U : State, U.heap = H → s.WarmedH U.vm → Pc (Value.ref b :: As).toArray U
theorem wk_preR {D : va_G} {tys : List (ClassId × FieldType)} {A : Nat → Prop} {As : List Value} {H0 : Heap} {cI cS : ClassId} {ad : Nat → Nat} {σ : wk_St} {r : Nat} (hN : wk_N s) (hK : va_K D vwCl tys s) (hI : wk_I D A H0 H locs (wx_W cI cS ad σ)) (hr : r < 8) : wk_PreR s H (ad (8 + r)) (wk_Pc D tys (.ref (ad (8 + r)) :: As) (wx_W cI cS ad σ) H.size) As := by
  obtain ⟨q, hq⟩ : ∃ q, vwCl[wx_ci r]? = some q := by
    rcases (show r = 0 ∨ r = 1 ∨ r = 2 ∨ r = 3 ∨ r = 4 ∨ r = 5 ∨ r = 6 ∨ r = 7 by omega) with rfl | rfl | rfl | rfl | rfl | rfl | rfl | rfl <;> exact ⟨_, rfl⟩
  obtain ⟨cell, h1, h2, h3⟩ := va_recv hK hI.1 hq (wx_er hr)
  obtain ⟨-, hfc, kC, hkC, -⟩ := hK.1 _ _ hq
  have hcc := Option.some.inj (hfc.symm.trans h3)
  exact ⟨wk_blind, ⟨cell, kC, h1, h2, by rw [← hcc]; exact hkC⟩, (wk_preS hN hK hI).2⟩
theorem wk_callP {T : State} (X : Stand p l e R s m args below meth c T locs cells slots) (hexec : p.tables.exec = Jvm.exec) {own : String} {index : Nat} {x y : MethodName} {bytes : ByteArray} {maxL : Nat} {ret : Option FieldType}
    (hown : s.vm.findClass own = some m.cls) (hlink : (Cond.methodLink own index x).before args s = true) (hsame : (Cond.sameMethod x.cls y.cls x.name x.desc).before args s = true) (hsup : (Cond.superclass own x.cls).before args s = true)
    (hinst : (Cond.instanceMethod y).before args s = true) (hcode : (Cond.code y bytes maxL ret).before args s = true) (hno : x.name ≠ "<init>") (hyx : y = ⟨y.cls, x.name, x.desc⟩) (hsb : ∀ a b : ClassId, s.vm.findClass x.cls = some a → s.vm.findClass y.cls = some b → s.vm.isSubclass a b = true)
    {W : Nat} {Pre : Pt → Array Value → Prop} {Post : Pt → Array Value → Option Value → Pt → Prop} (hK : Back l R p e below s args y 3 W Pre Post)
    {b : Addr} {cellB : Cell} {kB : Class} (hcell : T.heap[b]? = some cellB) (hobj : cellB.vm.isStatics = false) (hkB : s.vm.classes[cellB.cls]? = some kB)
    {g : JFrame} (hg : g.method = m) (hsize : g.locals.size = c.maxLocals) {argsL rest : List Value} (hlen : ∀ sig, parseMethodDescriptor y.desc = some sig → argsL.length = sig.parameters.length)
    (hstack : g.stack = argsL.reverse ++ .ref b :: rest) (hW : 2 * g.monitorRoom + (rest.map fun v => v.category).sum ≤ W) (hdg : decode c.code g.pc = .ok (.invokespecial index, 3))
    (hpre : ∀ vm₁, s.WarmedH vm₁ → Pre ⟨T.setVm vm₁, locs, cells, slots⟩ (Value.ref b :: argsL).toArray) :
    ∃ (v : Option Value) (vm₁ : Vm) (B : Pt), s.WarmedH vm₁ ∧ Stand p l e R s m args below meth c B.U B.locs B.cells B.slots ∧ Post ⟨T.setVm vm₁, locs, cells, slots⟩ (Value.ref b :: argsL).toArray v B ∧
      ∀ target, Steps p.tables e below (B.U.setTop { g with pc := g.pc + 3, stack := v.toList ++ rest }) target → Steps p.tables e below (T.setTop g) target := by
  obtain ⟨mk, methM, hnamed, hmethM, hstM, habM⟩ := Cond.instanceMethod_spec hinst
  obtain ⟨methM', cM, hmethM', -, -, -, -, -, -, hsigM⟩ := Cond.code_spec hnamed hcode
  cases hmethM.symm.trans hmethM'
  obtain ⟨ps, dk, kp, hps, hdk, hkp, hsuper, -, -, hnid⟩ := Cond.superclass_spec hown hsup
  have hn : s.methodNamed? ⟨y.cls, x.name, x.desc⟩ = some mk := by rw [← hyx]; exact hnamed
  have hsub : s.vm.isSubclass ps mk.cls = true := hsb _ _ hps (findClass_of_methodNamed hnamed)
  obtain ⟨vm₁, X₁, hstep₁⟩ := X.invokespecialUp hexec hown hlink hsame hn hmethM hstM habM hno hdk hnid hps hsuper hsub (a := b) (cell := cellB) hcell
    (fun z h => by rw [h] at hobj; cases hobj) hkB (g := g) hg (argsL := argsL) (rest := rest) (hlen _ hsigM) hstack hdg
  obtain ⟨v, B, X', hpost, hsteps⟩ := hK m meth c ⟨T.setVm vm₁, locs, cells, slots⟩ { g with stack := rest } (.invokespecial index) mk (Value.ref b :: argsL).toArray X₁ hg hsize hdg hW (X₁.named hnamed) (hpre vm₁ X₁.warmed)
  exact ⟨v, vm₁, B, X₁.warmed, X', hpost, fun target h => hstep₁ _ (by rw [doInvoke_state]; exact hsteps.trans h)⟩
theorem wk_runP {x y : MethodName} {bytes cc : ByteArray} {maxL nL mc ms n index : Nat} {ret : Option FieldType} {ws : List Cond} {rm : Room} {Pc : Array Value → State → Prop} {Qc : Array Value → State → Outcome → State → Prop} {free : Addr → Prop} {Ts : List Cond} {own : String} {b : Addr} {As rest : List Value} {g : JFrame}
    (S : CallFix p m c cc nL s args Ts own) (hM : Met l y ws rm Pc Qc mc ms free) (cw : wk_CP R s args own index x y bytes maxL ret ws rm mc ms n) (hp : wk_PreR s H b Pc As)
    (hg : g.method = m) (hn : As.length = n) (hsize : g.locals.size = nL) (hstack : g.stack = As.reverse ++ .ref b :: rest) (hW : 2 * g.monitorRoom + (rest.map fun v => v.category).sum ≤ 8) (hdg : decode cc g.pc = .ok (.invokespecial index, 3)) (hf : cells + mc ≤ R.cells ∧ slots + ms ≤ R.slots) :
    va_Run p l e R s m args below meth c H locs cells slots mc ms g rest (Qc (Value.ref b :: As).toArray) (free) := by
  obtain ⟨⟨hrc, hrs, hfr, hlo, hws, hcw⟩, hl1, hl2, hl3, hl4, hini, hcode, ⟨hno, hyx, hnp⟩, hsb⟩ := cw
  have hK : Back l R p e below s args y 3 8 (PreOf R mc ms Pc) (PostOf Qc mc ms free) := back_of (bytes := bytes) (maxL := maxL) (ret := ret) hM hp.1 hrc hrs hfr hlo hws hcw (fun a' U hW => word_at hW (Or.inl (by first | rfl | simp [Cond.onTables, Cond.keeps, Cond.steady])) hini)
  obtain ⟨hx, hb, hml, ho, -⟩ := S
  obtain ⟨-, ⟨cellB, kB, hcB, hoB, hkB⟩, hPc⟩ := hp
  intro T hT X
  obtain ⟨v, vm₁, ⟨U', l2, c2, s2⟩, hW₁, X', ⟨g', mk, t, L, e1, e2, hq, h1, hL, h2, h3⟩, st⟩ := wk_callP X hx (bytes := bytes) (maxL := maxL) (ret := ret) ho hl1 hl2 hl3 hl4 hcode hno hyx hsb hK (by rw [hT]; exact hcB) hoB hkB hg (hsize.trans hml.symm) (argsL := As) (rest := rest) (fun sig h => by
      rw [h] at hnp
      exact hn.trans (Option.some.inj hnp).symm) hstack hW (by rw [hb]; exact hdg)
    (fun vm₁ hW₁ => ⟨hf.1, hf.2, hPc (T.setVm vm₁) hT hW₁⟩)
  dsimp only [Pt.U, Pt.locs, Pt.cells, Pt.slots] at X' e1 e2 h1 h2 h3 st
  subst h1; subst h2; subst h3
  exact ⟨v, (T.setVm vm₁).calling g' mk (Value.ref b :: As).toArray, t, U', L, hT, X', hL, e1, e2, hq, st⟩
/-- the superclass chain -/
theorem wk_sub0 {C : String} {args : Array Value} {s : State} (_ : ∀ w ∈ wk_T, w.before args s = true) (_ : wk_N s) (a b : ClassId) (ha : s.vm.findClass C = some a) (hb : s.vm.findClass C = some b) : s.vm.isSubclass a b = true := by
  cases ha.symm.trans hb
  simp [Vm.isSubclass, Vm.isSubclassAux]
theorem wk_sub1 {B C : String} (h1 : Cond.superclass B C ∈ wk_T) {args : Array Value} {s : State} (ht : ∀ w ∈ wk_T, w.before args s = true) (_ : wk_N s) (a b : ClassId) (ha : s.vm.findClass B = some a) (hb : s.vm.findClass C = some b) : s.vm.isSubclass a b = true := by
  obtain ⟨q, k, kq, hq, hk, hkq, hs, -⟩ := Cond.superclass_spec ha (ht _ h1)
  cases hq.symm.trans hb
  have hz : a < s.vm.classes.size := (Array.getElem?_eq_some_iff.mp hk).1
  have hp : 0 < s.vm.classes.size := Nat.lt_of_le_of_lt (Nat.zero_le _) hz
  obtain ⟨z, hz⟩ : ∃ z, s.vm.classes.size = z + 1 := ⟨s.vm.classes.size - 1, by omega⟩
  simp [Vm.isSubclass, Vm.isSubclassAux, hz, hk, hs]
theorem wk_sub2 {B C E : String} (h1 : Cond.superclass B C ∈ wk_T) (h2 : Cond.superclass C E ∈ wk_T) {args : Array Value} {s : State} (ht : ∀ w ∈ wk_T, w.before args s = true) (_ : wk_N s) (a b : ClassId) (ha : s.vm.findClass B = some a) (hb : s.vm.findClass E = some b) : s.vm.isSubclass a b = true := by
  obtain ⟨q, k, kq, hq, hk, hkq, hs, -⟩ := Cond.superclass_spec ha (ht _ h1)
  obtain ⟨q2, k2, kq2, hq2, hk2, hkq2, hs2, -⟩ := Cond.superclass_spec hq (ht _ h2)
  cases hq2.symm.trans hb
  have hz1 : a < s.vm.classes.size := (Array.getElem?_eq_some_iff.mp hk).1
  have hz2 : b < s.vm.classes.size := (Array.getElem?_eq_some_iff.mp hkq2).1
  by_cases hab : a = b
  · subst hab
    simp [Vm.isSubclass, Vm.isSubclassAux]
  · have key : ∀ (x y n : Nat), x < n → y < n → x ≠ y → 2 ≤ n := by omega
    have hp := key a b _ hz1 hz2 hab
    obtain ⟨z, hz⟩ : ∃ z, s.vm.classes.size = z + 2 := ⟨s.vm.classes.size - 2, by omega⟩
    simp [Vm.isSubclass, Vm.isSubclassAux, hz, hk, hs, hk2, hs2]
theorem wk_subS {B C : String} (h1 : Cond.superclass B C ∈ wk_T) (hc : Cond.castable B RX8 ∈ wk_X) {args : Array Value} {s : State} (ht : ∀ w ∈ wk_T, w.before args s = true) (hN : wk_N s) (a b : ClassId) (ha : s.vm.findClass B = some a) (hb : s.vm.findClass RX8 = some b) : s.vm.isSubclass a b = true := by
  obtain ⟨q, k, kq, hq, hk, hkq, hs, hko, -, hni⟩ := Cond.superclass_spec ha (ht _ h1)
  obtain ⟨c3, k3, r3, hc3, hk3, hni3, -, -⟩ := Cond.sameMethod_found (ht _ mw_270)
  obtain ⟨c8, k8, r8, hc8, hk8, hni8, -, -⟩ := Cond.sameMethod_found (ht _ mw_253)
  obtain ⟨q2, k2, kq2, hq2, hk2, hkq2, hs2, -, hko2, -⟩ := Cond.superclass_spec hc3 (ht _ mw_95)
  cases hq2.symm.trans hb
  cases hc8.symm.trans hb
  cases hk8.symm.trans hkq2
  have hasg : s.vm.assignable a b = true := vb_asgC (hN.1 _ hc) _ _ hb ha
  exact isSubclass_of_assignable hk hkq2 hko hko2 hni8 hasg
theorem wk_sub_X7_X8 {args : Array Value} {s : State} (ht : ∀ w ∈ wk_T, w.before args s = true) (hN : wk_N s) (a b : ClassId) (ha : s.vm.findClass RX7 = some a) (hb : s.vm.findClass RX8 = some b) : s.vm.isSubclass a b = true := wk_subS mw_102 mx_750 ht hN a b ha hb
theorem wk_sub_X0_X10 {args : Array Value} {s : State} (ht : ∀ w ∈ wk_T, w.before args s = true) (hN : wk_N s) (a b : ClassId) (ha : s.vm.findClass RX0 = some a) (hb : s.vm.findClass RX10 = some b) : s.vm.isSubclass a b = true := wk_sub1 mw_116 ht hN a b ha hb
theorem wk_sub_X3_X8 {args : Array Value} {s : State} (ht : ∀ w ∈ wk_T, w.before args s = true) (hN : wk_N s) (a b : ClassId) (ha : s.vm.findClass RX3 = some a) (hb : s.vm.findClass RX8 = some b) : s.vm.isSubclass a b = true := wk_subS mw_95 mx_747 ht hN a b ha hb
theorem wk_sub_X5_X5 {args : Array Value} {s : State} (ht : ∀ w ∈ wk_T, w.before args s = true) (hN : wk_N s) (a b : ClassId) (ha : s.vm.findClass RX5 = some a) (hb : s.vm.findClass RX5 = some b) : s.vm.isSubclass a b = true := wk_sub0 ht hN a b ha hb
theorem wk_sub_X10_X3 {args : Array Value} {s : State} (ht : ∀ w ∈ wk_T, w.before args s = true) (hN : wk_N s) (a b : ClassId) (ha : s.vm.findClass RX10 = some a) (hb : s.vm.findClass RX3 = some b) : s.vm.isSubclass a b = true := wk_sub2 mw_109 mw_102 ht hN a b ha hb
theorem wk_sub_X5_X0 {args : Array Value} {s : State} (ht : ∀ w ∈ wk_T, w.before args s = true) (hN : wk_N s) (a b : ClassId) (ha : s.vm.findClass RX5 = some a) (hb : s.vm.findClass RX0 = some b) : s.vm.isSubclass a b = true := wk_sub1 mw_123 ht hN a b ha hb
theorem wk_sub_X1_X3 {args : Array Value} {s : State} (ht : ∀ w ∈ wk_T, w.before args s = true) (hN : wk_N s) (a b : ClassId) (ha : s.vm.findClass RX1 = some a) (hb : s.vm.findClass RX3 = some b) : s.vm.isSubclass a b = true := wk_sub1 mw_137 ht hN a b ha hb
theorem wk_sub_X0_X7 {args : Array Value} {s : State} (ht : ∀ w ∈ wk_T, w.before args s = true) (hN : wk_N s) (a b : ClassId) (ha : s.vm.findClass RX0 = some a) (hb : s.vm.findClass RX7 = some b) : s.vm.isSubclass a b = true := wk_sub2 mw_116 mw_109 ht hN a b ha hb
theorem wk_sub_X1_X8 {args : Array Value} {s : State} (ht : ∀ w ∈ wk_T, w.before args s = true) (hN : wk_N s) (a b : ClassId) (ha : s.vm.findClass RX1 = some a) (hb : s.vm.findClass RX8 = some b) : s.vm.isSubclass a b = true := wk_subS mw_137 mx_746 ht hN a b ha hb
theorem wk_sub_X10_X10 {args : Array Value} {s : State} (ht : ∀ w ∈ wk_T, w.before args s = true) (hN : wk_N s) (a b : ClassId) (ha : s.vm.findClass RX10 = some a) (hb : s.vm.findClass RX10 = some b) : s.vm.isSubclass a b = true := wk_sub0 ht hN a b ha hb
theorem wk_sub_X5_X8 {args : Array Value} {s : State} (ht : ∀ w ∈ wk_T, w.before args s = true) (hN : wk_N s) (a b : ClassId) (ha : s.vm.findClass RX5 = some a) (hb : s.vm.findClass RX8 = some b) : s.vm.isSubclass a b = true := wk_subS mw_123 mx_749 ht hN a b ha hb
end SUPER
