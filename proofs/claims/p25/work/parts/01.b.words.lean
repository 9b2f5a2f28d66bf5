/-! ===== BEGIN words of one list among another's, by their places ===== -/
theorem goodIn_r {big : List Cond} (ws : List Cond) (ps : List Nat) (hp : ws = ps.filterMap (fun i => big[i]?)) (h : ws.all goodWord = true) : GoodIn big ws := by
  intro w hw
  have h1 := List.all_eq_true.mp h w hw
  rw [hp] at hw
  obtain ⟨i, -, hi⟩ := List.mem_filterMap.mp hw
  have hm : w ∈ big := by first | exact List.mem_of_getElem? hi | exact List.getElem?_mem hi
  exact ⟨hm, good_of_word h1⟩
theorem goodIn_app {big a b : List Cond} (ha : GoodIn big a) (hb : GoodIn big b) : GoodIn big (a ++ b) := fun w h => (List.mem_append.mp h).elim (ha w) (hb w)
theorem goodIn_ca {big a b : List Cond} {c : Cond} (ha : GoodIn big (c :: a)) (hb : GoodIn big b) : GoodIn big (c :: (a ++ b)) := fun w h => (List.mem_cons.mp h).elim (fun e => ha w (List.mem_cons.mpr (Or.inl e))) (fun h => (List.mem_append.mp h).elim (fun h => ha w (List.mem_cons.mpr (Or.inr h))) (hb w))
theorem goodIn_sub {big ws : List Cond} (hm : ∀ w ∈ ws, w ∈ big) (h : ws.all goodWord = true) : GoodIn big ws := fun w hw => ⟨hm w hw, good_of_word (List.all_eq_true.mp h w hw)⟩
/-! ===== END ===== -/

/-! ===== BEGIN exceptions that leave a method, and their catching by the caller (launches without stack traces) ===== -/
section VXA
/-! The laws vx_back, vx_callV, vx_callS, vx_callSW, vx_throw0, vx_throwS follow proofs of the library, with one case more: JvmDerived/Free/Laws.lean (Back.of_free), Shelf42/LK1.lean (callV, callS), Shelf/KitTraced.lean (throwNew0V, throwNewS). -/
/-- where a method has thrown q: the class by its name, the cell, what was written, the world -/
def vx_T (XC : String → State → State → Prop) (st : State) (q : Addr) (t : State) (mc ms : Nat) (free : Addr → Prop) : Prop :=
  ∃ (E : String) (ce : Cell) (L : List Loc), XC E st t ∧ t.heap[q]? = some ce ∧ ce.vm = .none ∧ st.vm.findClass E = some ce.cls ∧ st.WarmedH t.vm ∧ st.sameButNew ({ t with vm := st.vm } : State) L mc ms ∧ ∀ z ∈ L, free z.base
def vx_Q (Qc : Array Value → State → Outcome → State → Prop) (XC : String → State → State → Prop) (mc ms : Nat) (free : Addr → Prop) : Array Value → State → Outcome → State → Prop := fun a st o t =>
  (Qc a st o t ∧ ∃ L, FrameEnd st o t L mc ms ∧ ∀ q ∈ L, free q.base) ∨ ∃ q, o = .threw q ∧ vx_T XC st q t mc ms free
/-- a callee that returns or throws -/
def vx_Met (l : Launch) (y : MethodName) (ws : List Cond) (rm : Room) (Pc : Array Value → State → Prop) (Qc : Array Value → State → Outcome → State → Prop) (XC : String → State → State → Prop) (mc ms : Nat) (free : Addr → Prop) : Prop :=
  MetFree l y (headSpec ws rm) Pc (fun _ _ _ _ _ => True) (vx_Q Qc XC mc ms free)
def vx_Post (XC : String → State → State → Prop) (mc ms : Nat) (free : Addr → Prop) : Pt → Array Value → Addr → Pt → Prop := fun A a q B =>
  ∃ (g : JFrame) (mk : MethodId) (t : State) (L : List Loc) (E : String) (ce : Cell), B.U.heap = t.heap ∧ B.U.vm = t.vm ∧ XC E (A.U.calling g mk a) t ∧ t.heap[q]? = some ce ∧ ce.vm = .none ∧ A.U.vm.findClass E = some ce.cls ∧ B.locs = A.locs ++ L ∧ (∀ z ∈ L, free z.base) ∧ B.cells = A.cells + mc ∧ B.slots = A.slots + ms
def vx_Back (l : Launch) (R : Room) (p : Program) (e : Env) (below : List Frame) (s : State) (sargs : Array Value) (y : MethodName) (len W9 : Nat)
    (Pre : Pt → Array Value → Prop) (Post : Pt → Array Value → Option Value → Pt → Prop) (PostX : Pt → Array Value → Addr → Pt → Prop) : Prop :=
  ∀ (m : MethodId) (meth : Method) (c : Code) (A : Pt) (g : JFrame) (ig : Instr) (mk : MethodId) (a : Array Value),
    Stand p l e R s m sargs below meth c A.U A.locs A.cells A.slots → g.method = m → g.locals.size = c.maxLocals → decode c.code g.pc = .ok (ig, len) →
    2 * g.monitorRoom + (g.stack.map fun v => v.category).sum ≤ W9 → A.U.methodNamed? y = some mk → Pre A a →
    (∃ (v : Option Value) (B : Pt), Stand p l e R s m sargs below meth c B.U B.locs B.cells B.slots ∧ Post A a v B ∧
      Steps p.tables e below (doInvoke e (A.U.setTop g) [] mk a).1 (B.U.setTop { g with pc := g.pc + len, stack := v.toList ++ g.stack })) ∨
    (∃ (q : Addr) (B : Pt), Stand p l e R s m sargs below meth c B.U B.locs B.cells B.slots ∧ PostX A a q B ∧
      Steps p.tables e below (doInvoke e (A.U.setTop g) [] mk a).1 ((B.U.setTop g).pushFrame (.throwing q)))
section Payer
variable {l : Launch} {R : Room} {p : Program} {e : Env} {below : List Frame} {s : State} {sargs : Array Value} {y : MethodName} {len W9 : Nat}
theorem vx_back {ws : List Cond} {rm : Room} {Pc : Array Value → State → Prop} {Qc : Array Value → State → Outcome → State → Prop} {XC : String → State → State → Prop} {mc ms : Nat} {free : Addr → Prop} {bytes : ByteArray} {maxL : Nat} {ret : Option FieldType}
    (hM : vx_Met l y ws rm Pc Qc XC mc ms free) (hblind : FrameBlind Pc) (hrc : rm.cells = mc) (hrs : rm.slots = ms)
    (hframes : rm.frames + 1 ≤ R.frames) (hlocals : W9 + (maxL + 11) + rm.locals ≤ R.locals)
    (hws : ∀ w ∈ ws, ∀ a' U, s.WarmedH U.vm → w.before a' U = true) (hcode : Cond.code y bytes maxL ret ∈ ws) (hinit : ∀ a' U, s.WarmedH U.vm → (Cond.initialized y.cls).before a' U = true) :
    vx_Back l R p e below s sargs y len W9 (PreOf R mc ms Pc) (PostOf Qc mc ms free) (vx_Post XC mc ms free) := by
  intro m meth c A g ig mk a X hg hsize hdg hW hn hp
  have h1 : (headSpec ws rm).pre.before a A.U = true := atoms_intro fun w hw => hws w hw _ _ X.warmed
  have h2 : (Cond.code y bytes maxL ret).before a A.U = true := hws _ hcode _ _ X.warmed
  have h3 : (Cond.initialized y.cls).before a A.U = true := hinit _ _ X.warmed
  have h4 : A.cells + (headSpec ws rm).room.cells ≤ R.cells := by rw [show (headSpec ws rm).room.cells = mc from hrc]; exact hp.1
  have h5 : A.slots + (headSpec ws rm).room.slots ≤ R.slots := by rw [show (headSpec ws rm).room.slots = ms from hrs]; exact hp.2.1
  have hPc : Pc a (A.U.calling g mk a) := hblind _ _ _ _ hp.2.2
  obtain ⟨U, Ls, c0, s0⟩ := A
  dsimp only [Pt.U, Pt.locs, Pt.cells, Pt.slots] at h1 h2 h3 h4 h5 X hn hPc ⊢
  obtain ⟨methY, cY, hmY, hcY, -, hlY, -, -, -, -⟩ := Cond.code_spec hn h2
  obtain ⟨kY, hkY, -⟩ := className_of_methodNamed hn
  have hinitY : kY.init = .initialized := Cond.initialized_spec (findClass_of_methodNamed hn) hkY h3
  have h : At U g.method c below := by rw [hg]; exact X.here
  have hlocals9 : W9 + (maxL + 11) + (headSpec ws rm).room.locals ≤ R.locals := hlocals
  have happ : (headSpec ws rm).appliesLoose y e.platform (U.calling g mk a) = true :=
    Spec.appliesLoose_calling (g := g) h hdg hn hkY hinitY
      (X.room_calling (g := g) (R' := (headSpec ws rm).room) hsize hmY hcY hframes (by rw [hlY]; omega) h4 h5) h1
  obtain ⟨mid, hmid⟩ := h.above
  have hfr : (U.setTop g).frames = (.java g :: mid) ++ below := by rw [State.frames_setTop' g h.top, hmid]; rfl
  obtain ⟨o, s₂, hsteps, -, hend, hq⟩ := Steps.callFree hM p X.admits X.cas X.clock (acts := []) hfr happ hPc trivial
  have hq' : vx_Q Qc XC mc ms free a (U.calling g mk a) o s₂ := hq
  rw [State.frames_setTop' g h.top] at hend
  obtain ⟨g₀, hg0⟩ := Option.isSome_iff_exists.mp h.top
  obtain ⟨r, hr⟩ := State.topJava?_eq_some.mp hg0
  have hr' : (({ U with heap := s₂.heap, slotsUsed := s₂.slotsUsed } : State).setVm s₂.vm).frames = .java g₀ :: r := hr
  rcases hq' with ⟨hqc, L, hfe, hL⟩ | ⟨q, rfl, E, ce, L, hx, hce, hcv, hcl, hW₂, hsm, hL⟩
  · obtain ⟨⟨v, rfl⟩, hW₂, e2, q2, q3, q4, q5, q6⟩ := id hfe
    have e3 : s₂ = ({ (U.calling g mk a).setFrames s₂.frames with heap := s₂.heap, slotsUsed := s₂.slotsUsed } : State).setVm s₂.vm := by
      have : s₂ = ({ s₂ with vm := (U.calling g mk a).vm } : State).setVm s₂.vm := rfl
      rw [e2] at this
      exact this
    obtain ⟨c₂, i₂, len₂, hc₂, hd₂, hf₂⟩ := hend
    have hW' : U.WarmedH s₂.vm := hW₂
    have hcc : c₂ = c := by
      have h1 : s₂.code? g.method = U.code? g.method := by
        rw [State.code?_eq, State.code?_eq, hW'.alike.method?]
      exact Option.some.inj (hc₂.symm.trans (h1.trans h.code))
    subst hcc
    have hlen : len₂ = len := by rw [hdg] at hd₂; cases hd₂; rfl
    subst hlen
    have hs₂ : s₂ = (({ U with heap := s₂.heap, slotsUsed := s₂.slotsUsed } : State).setVm s₂.vm).setTop { g with pc := g.pc + len₂, stack := v.toList ++ g.stack } := by
      refine e3.trans ?_
      rw [hf₂, State.calling_eq h.top, State.setFrames_setFrames, State.setTop_of_frames _ hr', hr]
      rfl
    have hsame : U.sameButNew ({ U with heap := s₂.heap, slotsUsed := s₂.slotsUsed } : State) L mc ms := by
      refine ⟨?_, q2, q3, q4, q5, q6⟩
      obtain ⟨t, ht, -⟩ := State.frames_cons hr
      show ({ U with heap := s₂.heap, slotsUsed := s₂.slotsUsed } : State) = { U.setFrames U.frames with heap := s₂.heap, slotsUsed := s₂.slotsUsed }
      rw [State.setFrames_self ht]
    subst hg
    refine Or.inl ⟨v, ⟨(({ U with heap := s₂.heap, slotsUsed := s₂.slotsUsed } : State).setVm s₂.vm), Ls ++ L, c0 + mc, s0 + ms⟩,
      ⟨X.admits, X.cas, X.clock, X.frames, X.room, X.hears, X.method, X.code, (X.here.setHeapUsed s₂.heap s₂.slotsUsed).setVm hW'.alike, X.tail, State.WarmedH.trans X.warmed hW', X.limits, X.bytes, X.same.trans (hsame.setVm s.vm)⟩,
      ⟨g, mk, s₂, L, rfl, rfl, hqc, rfl, hL, rfl, rfl⟩, ?_⟩
    show Steps p.tables e below _ ((({ U with heap := s₂.heap, slotsUsed := s₂.slotsUsed } : State).setVm s₂.vm).setTop { g with pc := g.pc + len₂, stack := v.toList ++ g.stack })
    rw [← hs₂]
    exact hsteps
  · obtain ⟨e2, q2, q3, q4, q5, q6⟩ := id hsm
    have e3 : s₂ = ({ (U.calling g mk a).setFrames s₂.frames with heap := s₂.heap, slotsUsed := s₂.slotsUsed } : State).setVm s₂.vm := by
      have : s₂ = ({ s₂ with vm := (U.calling g mk a).vm } : State).setVm s₂.vm := rfl
      rw [e2] at this
      exact this
    have hf₂ : s₂.frames = .throwing q :: .java g :: U.frames.tail := hend
    have hW' : U.WarmedH s₂.vm := hW₂
    have hs₂ : s₂ = ((({ U with heap := s₂.heap, slotsUsed := s₂.slotsUsed } : State).setVm s₂.vm).setTop g).pushFrame (.throwing q) := by
      refine e3.trans ?_
      rw [hf₂, State.calling_eq h.top, State.setFrames_setFrames, State.pushFrame, State.frames_setTop _ hr', State.setTop_of_frames _ hr', State.setFrames_setFrames, hr]
      rfl
    have hsame : U.sameButNew ({ U with heap := s₂.heap, slotsUsed := s₂.slotsUsed } : State) L mc ms := by
      refine ⟨?_, q2, q3, q4, q5, q6⟩
      obtain ⟨t, ht, -⟩ := State.frames_cons hr
      show ({ U with heap := s₂.heap, slotsUsed := s₂.slotsUsed } : State) = { U.setFrames U.frames with heap := s₂.heap, slotsUsed := s₂.slotsUsed }
      rw [State.setFrames_self ht]
    subst hg
    refine Or.inr ⟨q, ⟨(({ U with heap := s₂.heap, slotsUsed := s₂.slotsUsed } : State).setVm s₂.vm), Ls ++ L, c0 + mc, s0 + ms⟩,
      ⟨X.admits, X.cas, X.clock, X.frames, X.room, X.hears, X.method, X.code, (X.here.setHeapUsed s₂.heap s₂.slotsUsed).setVm hW'.alike, X.tail, State.WarmedH.trans X.warmed hW', X.limits, X.bytes, X.same.trans (hsame.setVm s.vm)⟩,
      ⟨g, mk, s₂, L, E, ce, rfl, rfl, hx, hce, hcv, hcl, rfl, hL, rfl, rfl⟩, ?_⟩
    show Steps p.tables e below _ (((({ U with heap := s₂.heap, slotsUsed := s₂.slotsUsed } : State).setVm s₂.vm).setTop g).pushFrame (.throwing q))
    rw [← hs₂]
    exact hsteps
end Payer
section Calls
variable {p : Program} {l : Launch} {e : Env} {R : Room} {s : State} {m : MethodId} {args : Array Value} {below : List Frame} {meth : Method} {c : Code} {T : State} {locs : List Loc} {cells slots : Nat}
theorem vx_callV (X : Stand p l e R s m args below meth c T locs cells slots) (hexec : p.tables.exec = Jvm.exec) {own C : String} {index : Nat} {y : MethodName} {bytes : ByteArray} {maxL : Nat} {ret : Option FieldType}
    (hown : s.vm.findClass own = some m.cls) (hlink : (Cond.methodLink own index y).before args s = true) (hinst : (Cond.instanceMethod y).before args s = true) (hsel : (Cond.selects C y y).before args s = true)
    (hcode : (Cond.code y bytes maxL ret).before args s = true) (hy : y.cls ≠ "java/lang/invoke/MethodHandle" ∧ y.cls ≠ "java/lang/invoke/VarHandle")
    {W9 : Nat} {Pre : Pt → Array Value → Prop} {Post : Pt → Array Value → Option Value → Pt → Prop} {PostX : Pt → Array Value → Addr → Pt → Prop} (hK : vx_Back l R p e below s args y 3 W9 Pre Post PostX)
    {b : Addr} {cellB : Cell} (hcell : T.heap[b]? = some cellB) (hobj : cellB.vm.isStatics = false) (hcls : s.vm.findClass C = some cellB.cls)
    {g : JFrame} (hg : g.method = m) (hsize : g.locals.size = c.maxLocals) {argsL rest : List Value} (hlen : ∀ sig, parseMethodDescriptor y.desc = some sig → argsL.length = sig.parameters.length)
    (hstack : g.stack = argsL.reverse ++ .ref b :: rest) (hW : 2 * g.monitorRoom + (rest.map fun v => v.category).sum ≤ W9) (hdg : decode c.code g.pc = .ok (.invokevirtual index, 3))
    (hpre : ∀ vm₁, s.WarmedH vm₁ → Pre ⟨T.setVm vm₁, locs, cells, slots⟩ (Value.ref b :: argsL).toArray) :
    (∃ (v : Option Value) (vm₁ : Vm) (B : Pt), s.WarmedH vm₁ ∧ Stand p l e R s m args below meth c B.U B.locs B.cells B.slots ∧ Post ⟨T.setVm vm₁, locs, cells, slots⟩ (Value.ref b :: argsL).toArray v B ∧
      ∀ target, Steps p.tables e below (B.U.setTop { g with pc := g.pc + 3, stack := v.toList ++ rest }) target → Steps p.tables e below (T.setTop g) target) ∨
    (∃ (q : Addr) (vm₁ : Vm) (B : Pt), s.WarmedH vm₁ ∧ Stand p l e R s m args below meth c B.U B.locs B.cells B.slots ∧ PostX ⟨T.setVm vm₁, locs, cells, slots⟩ (Value.ref b :: argsL).toArray q B ∧
      Steps p.tables e below (T.setTop g) ((B.U.setTop { g with stack := rest }).pushFrame (.throwing q))) := by
  obtain ⟨mk, methM, hnamed, hmethM, hstM, habM⟩ := Cond.instanceMethod_spec hinst
  obtain ⟨methM', cM, hmethM', -, -, -, -, -, -, hsigM⟩ := Cond.code_spec hnamed hcode
  cases hmethM.symm.trans hmethM'
  obtain ⟨c2, r2, m2, q1, q2, q3, q4, kP, hkP, hkPi⟩ := Cond.selects_spec hsel
  cases hcls.symm.trans q1
  cases (State.methodFound?_of_named hnamed hy).symm.trans q2
  cases hnamed.symm.trans q3
  have hselP : selectMethod e.platform s.vm cellB.cls mk = .method mk := by rw [Launch.admits_selectMethod X.admits]; exact q4
  obtain ⟨vm₁, X₁, hstep₁⟩ := X.invokevirtual hexec hown hlink hnamed hmethM hstM hkP hkPi hy (a := b) (cell := cellB) hcell
    (fun z h => by rw [h] at hobj; cases hobj) hselP hmethM habM hkP hkPi (g := g) hg (argsL := argsL) (rest := rest) (hlen _ hsigM) hstack hdg
  rcases hK m meth c ⟨T.setVm vm₁, locs, cells, slots⟩ { g with stack := rest } (.invokevirtual index) mk (Value.ref b :: argsL).toArray X₁ hg hsize hdg hW (X₁.named hnamed) (hpre vm₁ X₁.warmed) with ⟨v, B, X', hpost, hsteps⟩ | ⟨q, B, X', hpost, hsteps⟩
  · exact Or.inl ⟨v, vm₁, B, X₁.warmed, X', hpost, fun target h => hstep₁ _ fun acts => by rw [doInvoke_state]; exact hsteps.trans h⟩
  · exact Or.inr ⟨q, vm₁, B, X₁.warmed, X', hpost, hstep₁ _ fun acts => by rw [doInvoke_state]; exact hsteps⟩
theorem vx_callS (X : Stand p l e R s m args below meth c T locs cells slots) (hexec : p.tables.exec = Jvm.exec) {own : String} {index : Nat} {y : MethodName} {bytes : ByteArray} {maxL : Nat} {ret : Option FieldType}
    (hown : s.vm.findClass own = some m.cls) (hlink : (Cond.methodLink own index y).before args s = true) (hstat : (Cond.static y).before args s = true) (hinit : (Cond.initialized y.cls).before args s = true)
    (hcode : (Cond.code y bytes maxL ret).before args s = true) (hy : y.cls ≠ "java/lang/invoke/MethodHandle" ∧ y.cls ≠ "java/lang/invoke/VarHandle")
    {W9 : Nat} {Pre : Pt → Array Value → Prop} {Post : Pt → Array Value → Option Value → Pt → Prop} {PostX : Pt → Array Value → Addr → Pt → Prop} (hK : vx_Back l R p e below s args y 3 W9 Pre Post PostX)
    {g : JFrame} (hg : g.method = m) (hsize : g.locals.size = c.maxLocals) {argsL rest : List Value} (hlen : ∀ sig, parseMethodDescriptor y.desc = some sig → argsL.length = sig.parameters.length)
    (hstack : g.stack = argsL.reverse ++ rest) (hW : 2 * g.monitorRoom + (rest.map fun v => v.category).sum ≤ W9) (hdg : decode c.code g.pc = .ok (.invokestatic index, 3))
    (hpre : ∀ vm₁, s.WarmedH vm₁ → Pre ⟨T.setVm vm₁, locs, cells, slots⟩ argsL.toArray) :
    (∃ (v : Option Value) (vm₁ : Vm) (B : Pt), s.WarmedH vm₁ ∧ Stand p l e R s m args below meth c B.U B.locs B.cells B.slots ∧ Post ⟨T.setVm vm₁, locs, cells, slots⟩ argsL.toArray v B ∧
      ∀ target, Steps p.tables e below (B.U.setTop { g with pc := g.pc + 3, stack := v.toList ++ rest }) target → Steps p.tables e below (T.setTop g) target) ∨
    (∃ (q : Addr) (vm₁ : Vm) (B : Pt), s.WarmedH vm₁ ∧ Stand p l e R s m args below meth c B.U B.locs B.cells B.slots ∧ PostX ⟨T.setVm vm₁, locs, cells, slots⟩ argsL.toArray q B ∧
      Steps p.tables e below (T.setTop g) ((B.U.setTop { g with stack := rest }).pushFrame (.throwing q))) := by
  obtain ⟨mk, hnamed⟩ := Cond.code_named hcode
  obtain ⟨methM, cM, hmethM, -, -, -, -, -, -, hsigM⟩ := Cond.code_spec hnamed hcode
  have hstatic : methM.isStatic = true := Cond.static_spec hnamed hmethM hstat
  obtain ⟨kP, hkP, -⟩ := className_of_methodNamed hnamed
  have hinitP : kP.init = .initialized := Cond.initialized_spec (findClass_of_methodNamed hnamed) hkP hinit
  obtain ⟨vm₁, X₁, hstep₁⟩ := X.invokestatic hexec hown hlink hnamed hmethM hstatic hkP hinitP hy (g := g) hg (argsL := argsL) (rest := rest) (hlen _ hsigM) hstack hdg
  rcases hK m meth c ⟨T.setVm vm₁, locs, cells, slots⟩ { g with stack := rest } (.invokestatic index) mk argsL.toArray X₁ hg hsize hdg hW (X₁.named hnamed) (hpre vm₁ X₁.warmed) with ⟨v, B, X', hpost, hsteps⟩ | ⟨q, B, X', hpost, hsteps⟩
  · exact Or.inl ⟨v, vm₁, B, X₁.warmed, X', hpost, fun target h => hstep₁ _ fun acts => by rw [doInvoke_state]; exact hsteps.trans h⟩
  · exact Or.inr ⟨q, vm₁, B, X₁.warmed, X', hpost, hstep₁ _ fun acts => by rw [doInvoke_state]; exact hsteps⟩
end Calls
theorem vx_cls {s : State} {T : State} {vm₁ : Vm} {E : String} {k : ClassId} (hW : s.WarmedH vm₁) (h : (T.setVm vm₁).vm.findClass E = some k) : s.vm.findClass E = some k := by
  have h1 : vm₁.findClass E = some k := h
  rw [hW.alike.findClass] at h1
  exact h1
/-- the method's frame g, with q thrown over it -/
def vx_W (p : Program) (l : Launch) (e : Env) (R : Room) (s : State) (m : MethodId) (args : Array Value) (below : List Frame) (meth : Method) (c : Code) (H : Heap) (locs : List Loc) (cells slots : Nat) (Q : State → Prop) (g : JFrame) (q : Addr) : Prop :=
  ∀ T : State, T.heap = H → Stand p l e R s m args below meth c T locs cells slots → ∃ t, Steps p.tables e below ((T.setTop g).pushFrame (.throwing q)) t ∧ Q t
def vx_Run (p : Program) (l : Launch) (e : Env) (R : Room) (s : State) (m : MethodId) (args : Array Value) (below : List Frame) (meth : Method) (c : Code) (H : Heap) (locs : List Loc) (cells slots mc ms : Nat) (g : JFrame) (rest : List Value) (Qa : State → Outcome → State → Prop) (XC : String → State → State → Prop) (free : Addr → Prop) : Prop :=
  ∀ T : State, T.heap = H → Stand p l e R s m args below meth c T locs cells slots →
    (∃ (v : Option Value) (st₀ t T' : State) (L : List Loc), st₀.heap = H ∧ Stand p l e R s m args below meth c T' (locs ++ L) (cells + mc) (slots + ms) ∧ (∀ q ∈ L, free q.base) ∧ T'.heap = t.heap ∧ T'.vm = t.vm ∧ Qa st₀ (.returned v) t ∧
      Goes p e below T g T' { g with pc := g.pc + 3, stack := v.toList ++ rest }) ∨
    (∃ (q : Addr) (st₀ t T' : State) (L : List Loc) (E : String) (ce : Cell), st₀.heap = H ∧ Stand p l e R s m args below meth c T' (locs ++ L) (cells + mc) (slots + ms) ∧ (∀ z ∈ L, free z.base) ∧ T'.heap = t.heap ∧ T'.vm = t.vm ∧ XC E st₀ t ∧ t.heap[q]? = some ce ∧ ce.vm = .none ∧ s.vm.findClass E = some ce.cls ∧
      Steps p.tables e below (T.setTop g) ((T'.setTop { g with stack := rest }).pushFrame (.throwing q)))
def vx_X {S : Type} (px : S → Prop) (B : String → S → State → Prop) (A : Nat → Prop) : String → State → State → Prop := fun E st t => ∃ u : S, px u ∧ B E u t ∧ va_F A st t
section Runs
variable {p : Program} {l : Launch} {e : Env} {R : Room} {s : State} {m : MethodId} {args : Array Value} {below : List Frame} {meth : Method} {c : Code} {H : Heap} {locs : List Loc} {cells slots : Nat}
variable {y : MethodName} {bytes cc : ByteArray} {maxL nL mc ms n index : Nat} {ret : Option FieldType} {ws : List Cond} {rm : Room} {Pc : Array Value → State → Prop} {Qc : Array Value → State → Outcome → State → Prop} {XC : String → State → State → Prop} {free : Addr → Prop} {Ts : List Cond} {own C : String} {b : Addr} {As rest : List Value} {g : JFrame}
theorem vx_callBack (cb : CallB R s args own index y bytes maxL ret ws rm mc ms n) (hM : vx_Met l y ws rm Pc Qc XC mc ms free) (hbl : FrameBlind Pc) : vx_Back l R p e below s args y 3 8 (PreOf R mc ms Pc) (PostOf Qc mc ms free) (vx_Post XC mc ms free) := by
  obtain ⟨hrc, hrs, hfr, hlo, hws, hcw, -, hini, -⟩ := cb
  exact vx_back (bytes := bytes) (maxL := maxL) (ret := ret) hM hbl hrc hrs hfr hlo hws hcw (fun a' U hW => word_at hW (Or.inl (by first | rfl | simp [Cond.onTables, Cond.keeps, Cond.steady])) hini)
theorem vx_runV (S : CallFix p m c cc nL s args Ts own) (hM : vx_Met l y ws rm Pc Qc XC mc ms free) (cw : CallW R s args own C index y bytes maxL ret ws rm mc ms n) (hp : PreV s H C b Pc As)
    (hg : g.method = m) (hn : As.length = n) (hsize : g.locals.size = nL) (hstack : g.stack = As.reverse ++ .ref b :: rest) (hW : 2 * g.monitorRoom + (rest.map fun v => v.category).sum ≤ 8) (hdg : decode cc g.pc = .ok (.invokevirtual index, 3)) (hf : cells + mc ≤ R.cells ∧ slots + ms ≤ R.slots) :
    vx_Run p l e R s m args below meth c H locs cells slots mc ms g rest (Qc (Value.ref b :: As).toArray) XC free := by
  have hK : vx_Back l R p e below s args y 3 8 (PreOf R mc ms Pc) (PostOf Qc mc ms free) (vx_Post XC mc ms free) := vx_callBack cw.1 hM hp.1
  obtain ⟨⟨-, -, -, -, -, -, hcode, -, hy, hlen, hl⟩, hin, hse⟩ := cw
  obtain ⟨hx, hb, hml, ho, -⟩ := S
  obtain ⟨-, ⟨cellB, hcB, hoB, hclB⟩, hPc⟩ := hp
  intro T hT X
  rcases vx_callV X hx (C := C) (bytes := bytes) (maxL := maxL) (ret := ret) ho hl hin hse hcode hy hK (by rw [hT]; exact hcB) hoB hclB hg (hsize.trans hml.symm) (argsL := As) (rest := rest) (fun sig h => hn.trans (hlen sig h)) hstack hW (by rw [hb]; exact hdg)
    (fun vm₁ hW₁ => ⟨hf.1, hf.2, hPc (T.setVm vm₁) hT hW₁⟩) with ⟨v, vm₁, ⟨U', l2, c2, s2⟩, hW₁, X', ⟨g', mk, t, L, e1, e2, hq, h1, hL, h2, h3⟩, st⟩ | ⟨q, vm₁, ⟨U', l2, c2, s2⟩, hW₁, X', ⟨g', mk, t, L, E, ce, e1, e2, hq, hce, hcv, hcl, h1, hL, h2, h3⟩, st⟩
  · dsimp only [Pt.U, Pt.locs, Pt.cells, Pt.slots] at X' e1 e2 h1 h2 h3 st
    subst h1; subst h2; subst h3
    exact Or.inl ⟨v, (T.setVm vm₁).calling g' mk (Value.ref b :: As).toArray, t, U', L, hT, X', hL, e1, e2, hq, st⟩
  · dsimp only [Pt.U, Pt.locs, Pt.cells, Pt.slots] at X' e1 e2 h1 h2 h3 st hcl
    subst h1; subst h2; subst h3
    exact Or.inr ⟨q, (T.setVm vm₁).calling g' mk (Value.ref b :: As).toArray, t, U', L, E, ce, hT, X', hL, e1, e2, hq, hce, hcv, vx_cls hW₁ hcl, st⟩
theorem vx_runS (S : CallFix p m c cc nL s args Ts own) (hM : vx_Met l y ws rm Pc Qc XC mc ms free) (cw : CallB R s args own index y bytes maxL ret ws rm mc ms n ∧ (Cond.static y).before args s = true) (hp : PreS s H Pc As)
    (hg : g.method = m) (hn : As.length = n) (hsize : g.locals.size = nL) (hstack : g.stack = As.reverse ++ rest) (hW : 2 * g.monitorRoom + (rest.map fun v => v.category).sum ≤ 8) (hdg : decode cc g.pc = .ok (.invokestatic index, 3)) (hf : cells + mc ≤ R.cells ∧ slots + ms ≤ R.slots) :
    vx_Run p l e R s m args below meth c H locs cells slots mc ms g rest (Qc As.toArray) XC free := by
  have hK : vx_Back l R p e below s args y 3 8 (PreOf R mc ms Pc) (PostOf Qc mc ms free) (vx_Post XC mc ms free) := vx_callBack cw.1 hM hp.1
  obtain ⟨⟨-, -, -, -, -, -, hcode, hini, hy, hlen, hl⟩, hstt⟩ := cw
  obtain ⟨hx, hb, hml, ho, -⟩ := S
  intro T hT X
  rcases vx_callS X hx (bytes := bytes) (maxL := maxL) (ret := ret) ho hl hstt hini hcode hy hK hg (hsize.trans hml.symm) (argsL := As) (rest := rest) (fun sig h => hn.trans (hlen sig h)) hstack hW (by rw [hb]; exact hdg)
    (fun vm₁ hW₁ => ⟨hf.1, hf.2, hp.2 (T.setVm vm₁) hT hW₁⟩) with ⟨v, vm₁, ⟨U', l2, c2, s2⟩, hW₁, X', ⟨g', mk, t, L, e1, e2, hq, h1, hL, h2, h3⟩, st⟩ | ⟨q, vm₁, ⟨U', l2, c2, s2⟩, hW₁, X', ⟨g', mk, t, L, E, ce, e1, e2, hq, hce, hcv, hcl, h1, hL, h2, h3⟩, st⟩
  · dsimp only [Pt.U, Pt.locs, Pt.cells, Pt.slots] at X' e1 e2 h1 h2 h3 st
    subst h1; subst h2; subst h3
    exact Or.inl ⟨v, (T.setVm vm₁).calling g' mk As.toArray, t, U', L, hT, X', hL, e1, e2, hq, st⟩
  · dsimp only [Pt.U, Pt.locs, Pt.cells, Pt.slots] at X' e1 e2 h1 h2 h3 st hcl
    subst h1; subst h2; subst h3
    exact Or.inr ⟨q, (T.setVm vm₁).calling g' mk As.toArray, t, U', L, E, ce, hT, X', hL, e1, e2, hq, hce, hcv, vx_cls hW₁ hcl, st⟩
end Runs
section Rows
variable {p : Program} {l : Launch} {e : Env} {R : Room} {s : State} {m : MethodId} {args : Array Value} {below : List Frame} {meth : Method} {c : Code} {H : Heap} {locs : List Loc} {cells slots : Nat} {Q : State → Prop}
variable {mc ms : Nat} {free : Addr → Prop} {A0 A1 : Nat → Prop} {H0 : Heap} {a : Array Value} {pc : Nat} {ls : Array Slot} {st0 rest : List Value}
theorem vx_keep {st₀ t T' : State} {L : List Loc} (h0 : st₀.heap = H) (e1 : T'.heap = t.heap) (hS : va_S A0 H0 H locs) (hA : ∀ q, q < H.size → A1 q → A0 q) (hf : ∀ q, free q → A0 q) (hL : ∀ q ∈ L, free q.base) (hF : va_F A1 st₀ t) :
    H.size ≤ T'.heap.size ∧ (∀ q : Nat, q < H.size → ¬ A1 q → T'.heap[q]? = H[q]?) ∧ va_S A0 H0 T'.heap (locs ++ L) := by
  obtain ⟨hz, hk⟩ := hF
  rw [h0] at hz hk
  exact ⟨by rw [e1]; exact hz, fun q h1 h2 => by rw [e1]; exact hk q h1 h2,
    ⟨Nat.le_trans hS.1 (by rw [e1]; exact hz), fun q h1 h2 => by rw [e1, hk q (Nat.lt_of_lt_of_le h1 hS.1) (fun z => h2 (hA q (Nat.lt_of_lt_of_le h1 hS.1) z))]; exact hS.2.1 q h1 h2, fun q hq => by
      rcases List.mem_append.mp hq with h | h
      · exact hS.2.2 q h
      · exact hf _ (hL q h)⟩⟩
theorem vx_calli {S SX : Type} {post : Int32 → S → Prop} {px : SX → Prop} {B : S → State → Prop} {BX : String → SX → State → Prop} {AX : Nat → Prop} (hr : vx_Run p l e R s m args below meth c H locs cells slots mc ms (F0 m pc ls st0) rest (va_Qi post B A1 a) (vx_X px BX AX) free) (hS : va_S A0 H0 H locs) (hA : ∀ q, q < H.size → A1 q → A0 q) (hf : ∀ q, free q → A0 q) (hAX : ∀ q, q < H.size → AX q → A0 q)
    (kx : ∀ (E : String) (ce : Cell) (q9 : Addr) (u : SX) (t : State) (H1 : Heap) (locs1 : List Loc), t.heap = H1 → s.vm.Alike t.vm → px u → BX E u t → H.size ≤ H1.size → (∀ q : Nat, q < H.size → ¬ AX q → H1[q]? = H[q]?) → va_S A0 H0 H1 locs1 → H1[q9]? = some ce → ce.vm = .none → s.vm.findClass E = some ce.cls → vx_W p l e R s m args below meth c H1 locs1 (cells + mc) (slots + ms) Q (F0 m pc ls rest) q9)
    (kk : ∀ (r : Int32) (u : S) (t : State) (H1 : Heap) (locs1 : List Loc), t.heap = H1 → s.vm.Alike t.vm → post r u → B u t → H.size ≤ H1.size → (∀ q : Nat, q < H.size → ¬ A1 q → H1[q]? = H[q]?) → va_S A0 H0 H1 locs1 → W p l e R s m args below meth c H1 locs1 (cells + mc) (slots + ms) Q (F0 m (pc + 3) ls (.int r :: rest))) : W p l e R s m args below meth c H locs cells slots Q (F0 m pc ls st0) := by
  intro T hT X
  rcases hr T hT X with ⟨v, st₀, t, T', L, h0, X', hL, e1, e2, ⟨⟨r, u, hv, hp, hb⟩, hF⟩, st⟩ | ⟨q, st₀, t, T', L, E, ce, h0, X', hL, e1, e2, ⟨u, hp, hb, hF⟩, hce, hcv, hcl, st⟩
  · cases hv
    obtain ⟨k1, k2, k3⟩ := vx_keep h0 e1 hS hA hf hL hF
    obtain ⟨t2, a1, b1⟩ := kk r u t T'.heap (locs ++ L) e1.symm (by rw [← e2]; exact X'.warmed.alike) hp hb k1 k2 k3 T' rfl X'
    exact ⟨t2, st t2 a1, b1⟩
  · obtain ⟨k1, k2, k3⟩ := vx_keep h0 e1 hS hAX hf hL hF
    obtain ⟨t2, a1, b1⟩ := kx E ce q u t T'.heap (locs ++ L) e1.symm (by rw [← e2]; exact X'.warmed.alike) hp hb k1 k2 k3 (by rw [e1]; exact hce) hcv hcl T' rfl X'
    exact ⟨t2, st.trans a1, b1⟩
theorem vx_calll {S SX : Type} {post : Int64 → S → Prop} {px : SX → Prop} {B : S → State → Prop} {BX : String → SX → State → Prop} {AX : Nat → Prop} (hr : vx_Run p l e R s m args below meth c H locs cells slots mc ms (F0 m pc ls st0) rest (va_Ql post B A1 a) (vx_X px BX AX) free) (hS : va_S A0 H0 H locs) (hA : ∀ q, q < H.size → A1 q → A0 q) (hf : ∀ q, free q → A0 q) (hAX : ∀ q, q < H.size → AX q → A0 q)
    (kx : ∀ (E : String) (ce : Cell) (q9 : Addr) (u : SX) (t : State) (H1 : Heap) (locs1 : List Loc), t.heap = H1 → s.vm.Alike t.vm → px u → BX E u t → H.size ≤ H1.size → (∀ q : Nat, q < H.size → ¬ AX q → H1[q]? = H[q]?) → va_S A0 H0 H1 locs1 → H1[q9]? = some ce → ce.vm = .none → s.vm.findClass E = some ce.cls → vx_W p l e R s m args below meth c H1 locs1 (cells + mc) (slots + ms) Q (F0 m pc ls rest) q9)
    (kk : ∀ (r : Int64) (u : S) (t : State) (H1 : Heap) (locs1 : List Loc), t.heap = H1 → s.vm.Alike t.vm → post r u → B u t → H.size ≤ H1.size → (∀ q : Nat, q < H.size → ¬ A1 q → H1[q]? = H[q]?) → va_S A0 H0 H1 locs1 → W p l e R s m args below meth c H1 locs1 (cells + mc) (slots + ms) Q (F0 m (pc + 3) ls (.long r :: rest))) : W p l e R s m args below meth c H locs cells slots Q (F0 m pc ls st0) := by
  intro T hT X
  rcases hr T hT X with ⟨v, st₀, t, T', L, h0, X', hL, e1, e2, ⟨⟨r, u, hv, hp, hb⟩, hF⟩, st⟩ | ⟨q, st₀, t, T', L, E, ce, h0, X', hL, e1, e2, ⟨u, hp, hb, hF⟩, hce, hcv, hcl, st⟩
  · cases hv
    obtain ⟨k1, k2, k3⟩ := vx_keep h0 e1 hS hA hf hL hF
    obtain ⟨t2, a1, b1⟩ := kk r u t T'.heap (locs ++ L) e1.symm (by rw [← e2]; exact X'.warmed.alike) hp hb k1 k2 k3 T' rfl X'
    exact ⟨t2, st t2 a1, b1⟩
  · obtain ⟨k1, k2, k3⟩ := vx_keep h0 e1 hS hAX hf hL hF
    obtain ⟨t2, a1, b1⟩ := kx E ce q u t T'.heap (locs ++ L) e1.symm (by rw [← e2]; exact X'.warmed.alike) hp hb k1 k2 k3 (by rw [e1]; exact hce) hcv hcl T' rfl X'
    exact ⟨t2, st.trans a1, b1⟩
theorem vx_callf {S SX : Type} {post : UInt32 → S → Prop} {px : SX → Prop} {B : S → State → Prop} {BX : String → SX → State → Prop} {AX : Nat → Prop} (hr : vx_Run p l e R s m args below meth c H locs cells slots mc ms (F0 m pc ls st0) rest (va_Qf post B A1 a) (vx_X px BX AX) free) (hS : va_S A0 H0 H locs) (hA : ∀ q, q < H.size → A1 q → A0 q) (hf : ∀ q, free q → A0 q) (hAX : ∀ q, q < H.size → AX q → A0 q)
    (kx : ∀ (E : String) (ce : Cell) (q9 : Addr) (u : SX) (t : State) (H1 : Heap) (locs1 : List Loc), t.heap = H1 → s.vm.Alike t.vm → px u → BX E u t → H.size ≤ H1.size → (∀ q : Nat, q < H.size → ¬ AX q → H1[q]? = H[q]?) → va_S A0 H0 H1 locs1 → H1[q9]? = some ce → ce.vm = .none → s.vm.findClass E = some ce.cls → vx_W p l e R s m args below meth c H1 locs1 (cells + mc) (slots + ms) Q (F0 m pc ls rest) q9)
    (kk : ∀ (r : UInt32) (u : S) (t : State) (H1 : Heap) (locs1 : List Loc), t.heap = H1 → s.vm.Alike t.vm → post r u → B u t → H.size ≤ H1.size → (∀ q : Nat, q < H.size → ¬ A1 q → H1[q]? = H[q]?) → va_S A0 H0 H1 locs1 → W p l e R s m args below meth c H1 locs1 (cells + mc) (slots + ms) Q (F0 m (pc + 3) ls (.float r :: rest))) : W p l e R s m args below meth c H locs cells slots Q (F0 m pc ls st0) := by
  intro T hT X
  rcases hr T hT X with ⟨v, st₀, t, T', L, h0, X', hL, e1, e2, ⟨⟨r, u, hv, hp, hb⟩, hF⟩, st⟩ | ⟨q, st₀, t, T', L, E, ce, h0, X', hL, e1, e2, ⟨u, hp, hb, hF⟩, hce, hcv, hcl, st⟩
  · cases hv
    obtain ⟨k1, k2, k3⟩ := vx_keep h0 e1 hS hA hf hL hF
    obtain ⟨t2, a1, b1⟩ := kk r u t T'.heap (locs ++ L) e1.symm (by rw [← e2]; exact X'.warmed.alike) hp hb k1 k2 k3 T' rfl X'
    exact ⟨t2, st t2 a1, b1⟩
  · obtain ⟨k1, k2, k3⟩ := vx_keep h0 e1 hS hAX hf hL hF
    obtain ⟨t2, a1, b1⟩ := kx E ce q u t T'.heap (locs ++ L) e1.symm (by rw [← e2]; exact X'.warmed.alike) hp hb k1 k2 k3 (by rw [e1]; exact hce) hcv hcl T' rfl X'
    exact ⟨t2, st.trans a1, b1⟩
theorem vx_calld {S SX : Type} {post : UInt64 → S → Prop} {px : SX → Prop} {B : S → State → Prop} {BX : String → SX → State → Prop} {AX : Nat → Prop} (hr : vx_Run p l e R s m args below meth c H locs cells slots mc ms (F0 m pc ls st0) rest (va_Qd post B A1 a) (vx_X px BX AX) free) (hS : va_S A0 H0 H locs) (hA : ∀ q, q < H.size → A1 q → A0 q) (hf : ∀ q, free q → A0 q) (hAX : ∀ q, q < H.size → AX q → A0 q)
    (kx : ∀ (E : String) (ce : Cell) (q9 : Addr) (u : SX) (t : State) (H1 : Heap) (locs1 : List Loc), t.heap = H1 → s.vm.Alike t.vm → px u → BX E u t → H.size ≤ H1.size → (∀ q : Nat, q < H.size → ¬ AX q → H1[q]? = H[q]?) → va_S A0 H0 H1 locs1 → H1[q9]? = some ce → ce.vm = .none → s.vm.findClass E = some ce.cls → vx_W p l e R s m args below meth c H1 locs1 (cells + mc) (slots + ms) Q (F0 m pc ls rest) q9)
    (kk : ∀ (r : UInt64) (u : S) (t : State) (H1 : Heap) (locs1 : List Loc), t.heap = H1 → s.vm.Alike t.vm → post r u → B u t → H.size ≤ H1.size → (∀ q : Nat, q < H.size → ¬ A1 q → H1[q]? = H[q]?) → va_S A0 H0 H1 locs1 → W p l e R s m args below meth c H1 locs1 (cells + mc) (slots + ms) Q (F0 m (pc + 3) ls (.double r :: rest))) : W p l e R s m args below meth c H locs cells slots Q (F0 m pc ls st0) := by
  intro T hT X
  rcases hr T hT X with ⟨v, st₀, t, T', L, h0, X', hL, e1, e2, ⟨⟨r, u, hv, hp, hb⟩, hF⟩, st⟩ | ⟨q, st₀, t, T', L, E, ce, h0, X', hL, e1, e2, ⟨u, hp, hb, hF⟩, hce, hcv, hcl, st⟩
  · cases hv
    obtain ⟨k1, k2, k3⟩ := vx_keep h0 e1 hS hA hf hL hF
    obtain ⟨t2, a1, b1⟩ := kk r u t T'.heap (locs ++ L) e1.symm (by rw [← e2]; exact X'.warmed.alike) hp hb k1 k2 k3 T' rfl X'
    exact ⟨t2, st t2 a1, b1⟩
  · obtain ⟨k1, k2, k3⟩ := vx_keep h0 e1 hS hAX hf hL hF
    obtain ⟨t2, a1, b1⟩ := kx E ce q u t T'.heap (locs ++ L) e1.symm (by rw [← e2]; exact X'.warmed.alike) hp hb k1 k2 k3 (by rw [e1]; exact hce) hcv hcl T' rfl X'
    exact ⟨t2, st.trans a1, b1⟩
theorem vx_callv {S SX : Type} {post : S → Prop} {px : SX → Prop} {B : S → State → Prop} {BX : String → SX → State → Prop} {AX : Nat → Prop} (hr : vx_Run p l e R s m args below meth c H locs cells slots mc ms (F0 m pc ls st0) rest (va_Qv post B A1 a) (vx_X px BX AX) free) (hS : va_S A0 H0 H locs) (hA : ∀ q, q < H.size → A1 q → A0 q) (hf : ∀ q, free q → A0 q) (hAX : ∀ q, q < H.size → AX q → A0 q)
    (kx : ∀ (E : String) (ce : Cell) (q9 : Addr) (u : SX) (t : State) (H1 : Heap) (locs1 : List Loc), t.heap = H1 → s.vm.Alike t.vm → px u → BX E u t → H.size ≤ H1.size → (∀ q : Nat, q < H.size → ¬ AX q → H1[q]? = H[q]?) → va_S A0 H0 H1 locs1 → H1[q9]? = some ce → ce.vm = .none → s.vm.findClass E = some ce.cls → vx_W p l e R s m args below meth c H1 locs1 (cells + mc) (slots + ms) Q (F0 m pc ls rest) q9)
    (kk : ∀ (u : S) (t : State) (H1 : Heap) (locs1 : List Loc), t.heap = H1 → s.vm.Alike t.vm → post u → B u t → H.size ≤ H1.size → (∀ q : Nat, q < H.size → ¬ A1 q → H1[q]? = H[q]?) → va_S A0 H0 H1 locs1 → W p l e R s m args below meth c H1 locs1 (cells + mc) (slots + ms) Q (F0 m (pc + 3) ls (rest))) : W p l e R s m args below meth c H locs cells slots Q (F0 m pc ls st0) := by
  intro T hT X
  rcases hr T hT X with ⟨v, st₀, t, T', L, h0, X', hL, e1, e2, ⟨⟨u, hv, hp, hb⟩, hF⟩, st⟩ | ⟨q, st₀, t, T', L, E, ce, h0, X', hL, e1, e2, ⟨u, hp, hb, hF⟩, hce, hcv, hcl, st⟩
  · cases hv
    obtain ⟨k1, k2, k3⟩ := vx_keep h0 e1 hS hA hf hL hF
    obtain ⟨t2, a1, b1⟩ := kk u t T'.heap (locs ++ L) e1.symm (by rw [← e2]; exact X'.warmed.alike) hp hb k1 k2 k3 T' rfl X'
    exact ⟨t2, st t2 a1, b1⟩
  · obtain ⟨k1, k2, k3⟩ := vx_keep h0 e1 hS hAX hf hL hF
    obtain ⟨t2, a1, b1⟩ := kx E ce q u t T'.heap (locs ++ L) e1.symm (by rw [← e2]; exact X'.warmed.alike) hp hb k1 k2 k3 (by rw [e1]; exact hce) hcv hcl T' rfl X'
    exact ⟨t2, st.trans a1, b1⟩
/-- caught by the row x of this method's table; the rows ahead don't take it -/
theorem vx_catch {own name : String} {E : String} {ce : Cell} {q : Addr} (hown : s.vm.findClass own = some m.cls) (pre : List ExceptionTableEntry) (x : ExceptionTableEntry) (suf : List ExceptionTableEntry) (hsplit : c.exceptionTable.toList = pre ++ x :: suf)
    (hpass : ∀ z ∈ pre, covers z pc = false ∨ (z.catchType ≠ 0 ∧ ∃ nm : String, (Cond.classLink own z.catchType nm).before args s = true ∧ va_Nc E nm s)) (hx : covers x pc = true) (h0 : x.catchType ≠ 0)
    (hlink : (Cond.classLink own x.catchType name).before args s = true) (hcast : (Cond.castable E name).before args s = true) (hcell : H[q]? = some ce) (hv : ce.vm = .none) (hcl : s.vm.findClass E = some ce.cls)
    (kk : W p l e R s m args below meth c H locs cells slots Q (F0 m x.handlerPc ls [.ref q])) : vx_W p l e R s m args below meth c H locs cells slots Q (F0 m pc ls rest) q := by
  intro T hT X
  have hpl : e.platform.magicAccessors = ({} : Platform).magicAccessors := by rw [X.admits.platform]
  obtain ⟨c3, c4, hc3, hc4, hasg⟩ := Cond.castable_spec hcast
  cases Option.some.inj (hc3.symm.trans hcl)
  obtain ⟨c5, hc5, hcl5⟩ := Cond.classLink_spec hown hlink e.platform hpl
  cases Option.some.inj (hc4.symm.trans hc5)
  obtain ⟨vm', X', st⟩ := X.thenCaughtThrough q (g := F0 m pc ls rest) rfl (Steps.refl _) (by rw [hT]; exact hcell) (by rw [hv]; rfl) (by obtain ⟨k9, h9, -⟩ := Vm.findClass_spec hcl; exact ⟨k9, h9⟩) pre x suf hsplit
    (fun z hz => by
      rcases hpass z hz with h | ⟨hz0, nm, hl1, hn1⟩
      · exact Or.inl h
      · obtain ⟨c6, hc6, hcl6⟩ := Cond.classLink_spec hown hl1 e.platform hpl
        obtain ⟨a8, b8, h1, h2, h3⟩ := hn1
        cases Option.some.inj (h1.symm.trans hcl)
        cases Option.some.inj (h2.symm.trans hc6)
        exact Or.inr ⟨hz0, _, hcl6, h3⟩) hx (Or.inr ⟨h0, c4, hcl5, hasg⟩)
  obtain ⟨t, a1, b1⟩ := kk (T.setVm vm') hT X'
  exact ⟨t, st.trans a1, b1⟩
end Rows
section Ends
variable {p : Program} {l : Launch} {e : Env} {R : Room} {s : State} {m : MethodId} {args : Array Value} {below : List Frame} {meth : Method} {c : Code} {H : Heap} {locs : List Loc} {cells slots : Nat} {Q : State → Prop}
variable {mc ms : Nat} {free : Addr → Prop} {A0 A1 : Nat → Prop} {H0 : Heap} {a : Array Value} {ls : Array Slot} {st0 rest : List Value}
variable {Qc : Array Value → State → Outcome → State → Prop} {XC : String → State → State → Prop}
/-- what a body that may throw owes at its end -/
def vx_MQ (below : List Frame) (Qc : Array Value → State → Outcome → State → Prop) (XC : String → State → State → Prop) (a : Array Value) (s : State) (mc ms : Nat) (free : Addr → Prop) : State → Prop := fun t =>
  ∃ o, t.status = .running ∧ Ended t below o ∧ vx_Q Qc XC mc ms free a s o t
theorem vx_ret {g : JFrame} {mc ms : Nat} (k : W p l e R s m args below meth c H locs cells slots (MQ below Qc args s mc ms free) g) : W p l e R s m args below meth c H locs cells slots (vx_MQ below Qc XC args s mc ms free) g := by
  intro T hT X
  obtain ⟨t, a1, o, b1, b2, b3, b4⟩ := k T hT X
  exact ⟨t, a1, o, b1, b2, Or.inl ⟨b3, b4⟩⟩
/-- not caught here: it goes on to the caller -/
theorem vx_widen {g : JFrame} {q : Addr} {k n : Nat} (h1 : cells ≤ k) (h2 : slots ≤ n) (kk : vx_W p l e R s m args below meth c H locs k n Q g q) : vx_W p l e R s m args below meth c H locs cells slots Q g q := fun T hT X => kk T hT (stand_widen X h1 h2)
theorem vx_out {pc : Nat} {E : String} {ce : Cell} {q : Addr} {mc ms : Nat} (hout : ∀ x ∈ c.exceptionTable.toList, covers x pc = false) (hlocks : meth.locks = false) (hcell : H[q]? = some ce) (hv : ce.vm = .none) (hcl : s.vm.findClass E = some ce.cls)
    (hx : ∀ t : State, t.heap = H → s.vm.Alike t.vm → XC E s t) (hf : ∀ z ∈ locs, free z.base) (hc : cells ≤ mc) (hs : slots ≤ ms) :
    vx_W p l e R s m args below meth c H locs cells slots (vx_MQ below Qc XC args s mc ms free) (F0 m pc ls rest) q := by
  intro T hT X
  obtain ⟨st1, hrun, hend, hW, hsm⟩ := X.leaveThrown q (g := F0 m pc ls rest) rfl rfl rfl hout hlocks
  have hcell9 : (T.setFrames (.throwing q :: below)).heap[q]? = some ce := by
    show T.heap[q]? = some ce
    rw [hT]; exact hcell
  exact ⟨_, st1, .threw q, hrun, hend, Or.inr ⟨q, rfl, E, ce, locs, hx _ hT hW.alike, hcell9, hv, hcl, hW, hsm.mono hc hs, hf⟩⟩
theorem vx_frame {U : State} {k n : Nat} (h : s.sameButNew ({ U with vm := s.vm } : State) locs k n) : s.heap.size ≤ U.heap.size ∧ ∀ q : Nat, q < s.heap.size → (∀ z ∈ locs, z.base ≠ q) → U.heap[q]? = s.heap[q]? := by
  obtain ⟨-, h2, -, -, -, h6⟩ := h
  refine ⟨h2, fun q hq hz => ?_⟩
  obtain ⟨c9, e1, e2, e3, e4⟩ := h6 q _ (Array.getElem?_eq_getElem hq)
  have hs : c9.slots = (s.heap[q]).slots := Array.ext_getElem? fun i => e4 i fun hm => hz _ hm rfl
  have h9 : c9 = s.heap[q] := by
    rw [hs] at e2
    exact e2
  have e5 : U.heap[q]? = some c9 := e1
  rw [e5, h9, Array.getElem?_eq_getElem hq]
/-- the words of a throw but the four that speak of the heap -/
def vx_no (w : Cond) : Bool := decide (w ≠ .isRef (.static Bundle.tN "UNASSIGNED_STACK" Bundle.steD)) && decide (w ≠ .isRef (.static Bundle.tN "SUPPRESSED_SENTINEL" Bundle.listD)) && decide (w ≠ .laysStatic Bundle.tN "UNASSIGNED_STACK" Bundle.steD) && decide (w ≠ .laysStatic Bundle.tN "SUPPRESSED_SENTINEL" Bundle.listD)
def vx_at0 (own : String) (ic : Nat) (X : String) (names : List String) : List Cond := (Bundle.ownAtoms0 own ic X names).filter vx_no
def vx_atS (own : String) (ic : Nat) (X : String) (names : List String) : List Cond := (Bundle.ownAtoms own ic X names).filter vx_no
/-- a word that the tables alone decide, or a good one -/
def vx_ot (w : Cond) : Bool := w.onTables || goodWord w
theorem vx_ot_at {args a' : Array Value} {s U : State} {w : Cond} (hW : s.WarmedH U.vm) (hvm : s.vm = U.vm) (hg : vx_ot w = true) (h : w.before args s = true) : w.before a' U = true := by
  simp only [vx_ot, Bool.or_eq_true] at hg
  rcases hg with hg | hg
  · exact va_tabs hg hvm h
  · exact word_at hW (good_of_word hg) h
/-- a list's words: the good ones out of the method's own list, the others by premises of their own -/
theorem vx_hat {args : Array Value} {s : State} {L B : List Cond} (h1 : ∀ w ∈ L.filter goodWord, w.before args s = true) (h2 : ∀ w ∈ L.filter (fun w => !goodWord w), w ∈ B) (h3 : ∀ w ∈ B, w.before args s = true) : ∀ w ∈ L, w.before args s = true := by
  intro w hw
  by_cases g : goodWord w = true
  · exact h1 w (List.mem_filter.mpr ⟨hw, g⟩)
  · refine h3 w (h2 w (List.mem_filter.mpr ⟨hw, ?_⟩))
    show (!goodWord w) = true
    cases hgw : goodWord w
    · rfl
    · exact absurd hgw g
theorem vx_c {args : Array Value} {s : State} {w : Cond} {B : List Cond} (h : w.before args s = true) (t : ∀ w ∈ B, w.before args s = true) : ∀ w' ∈ w :: B, w'.before args s = true := fun w' h' => (List.mem_cons.mp h').elim (fun e => by rw [e]; exact h) (t w')
theorem vx_n {args : Array Value} {s : State} : ∀ w ∈ ([] : List Cond), w.before args s = true := fun _ h => nomatch h
theorem vx_own {args : Array Value} {s : State} {L : List Cond} (h1 : ∀ w ∈ L.filter vx_no, w.before args s = true)
    (hU : (Cond.isRef (.static Bundle.tN "UNASSIGNED_STACK" Bundle.steD)).before args s = true) (hN : (Cond.isRef (.static Bundle.tN "SUPPRESSED_SENTINEL" Bundle.listD)).before args s = true)
    (lU : (Cond.laysStatic Bundle.tN "UNASSIGNED_STACK" Bundle.steD).before args s = true) (lN : (Cond.laysStatic Bundle.tN "SUPPRESSED_SENTINEL" Bundle.listD).before args s = true) : ∀ w ∈ L, w.before args s = true := by
  intro w hw
  by_cases e1 : w = .isRef (.static Bundle.tN "UNASSIGNED_STACK" Bundle.steD)
  · rw [e1]; exact hU
  · by_cases e2 : w = .isRef (.static Bundle.tN "SUPPRESSED_SENTINEL" Bundle.listD)
    · rw [e2]; exact hN
    · by_cases e3 : w = .laysStatic Bundle.tN "UNASSIGNED_STACK" Bundle.steD
      · rw [e3]; exact lU
      · by_cases e4 : w = .laysStatic Bundle.tN "SUPPRESSED_SENTINEL" Bundle.listD
        · rw [e4]; exact lN
        · exact h1 w (List.mem_filter.mpr ⟨hw, by unfold vx_no; rw [decide_eq_true e1, decide_eq_true e2, decide_eq_true e3, decide_eq_true e4]; rfl⟩)
/-- where a static field lies, its class's statics cell in H -/
def vx_L (C n d : String) (A : Nat → Prop) (U : State) (H : Heap) : Prop := ∃ (c : ClassId) (k : Class) (i : Nat) (f : Field) (a : Nat) (cell : Cell), U.vm.findClass C = some c ∧ U.fieldFound? C n d = some (c, k, i, f) ∧ f.isStatic = true ∧ k.statics = some a ∧ H[a]? = some cell ∧ cell.vm.isStatics = true ∧ cell.cls = c ∧ f.slot < cell.slots.size ∧ k.staticTypes[f.slot]? = some f.type ∧ ¬ A a
theorem vx_L.moved {C n d : String} {A : Nat → Prop} {u U : State} {H : Heap} (hvm : u.vm.Alike U.vm) (h : vx_L C n d A u H) : vx_L C n d A U H := by
  obtain ⟨c, k, i, f, a, cell, h1, h2, h3, h4, h5, h6, h7, h8, h9, h10⟩ := h
  obtain ⟨k', hi', he⟩ := State.fieldFound?_setVm hvm h2
  exact ⟨c, k', i, f, a, cell, by rw [hvm.findClass]; exact h1, hi', h3, by rw [he]; exact h4, h5, h6, h7, h8, by rw [he]; exact h9, h10⟩
theorem vx_L.kept {C n d : String} {A : Nat → Prop} {U : State} {H H1 : Heap} (h : vx_L C n d A U H) (hq : ∀ a : Nat, a < H.size → ¬ A a → H1[a]? = H[a]?) : vx_L C n d A U H1 := by
  obtain ⟨c, k, i, f, a, cell, h1, h2, h3, h4, h5, h6, h7, h8, h9, h10⟩ := h
  exact ⟨c, k, i, f, a, cell, h1, h2, h3, h4, by rw [hq a (Array.getElem?_eq_some_iff.mp h5).1 h10]; exact h5, h6, h7, h8, h9, h10⟩
theorem vx_L.narrow {C n d : String} {A B : Nat → Prop} {U : State} {H : Heap} (h : vx_L C n d A U H) (hAB : ∀ q, B q → A q) : vx_L C n d B U H := by
  obtain ⟨c, k, i, f, a, cell, h1, h2, h3, h4, h5, h6, h7, h8, h9, h10⟩ := h
  exact ⟨c, k, i, f, a, cell, h1, h2, h3, h4, h5, h6, h7, h8, h9, fun z => h10 (hAB _ z)⟩
theorem vx_L.word {C n d : String} {A : Nat → Prop} {s : State} {args : Array Value} (h : vx_L C n d A s s.heap) : (Cond.laysStatic C n d).before args s = true := by
  obtain ⟨c, k, i, f, a, cell, h1, h2, h3, h4, h5, h6, h7, h8, h9, -⟩ := h
  show (Cond.laysStatic C n d).holds args s none s [] = true
  exact Cond.laysStatic_of h1 h2 h3 h4 h5 h6 h7 h8 h9
/-- .. and what it holds: null or some reference -/
def vx_Zq (C n d : String) (A : Nat → Prop) (U : State) (H : Heap) : Prop := va_Zq C n d A U H ∧ vx_L C n d A U H
theorem vx_Zq.moved {C n d : String} {A : Nat → Prop} {u U : State} {H : Heap} (hvm : u.vm.Alike U.vm) (h : vx_Zq C n d A u H) : vx_Zq C n d A U H := ⟨va_Zq.moved hvm h.1, vx_L.moved hvm h.2⟩
theorem vx_Zq.kept {C n d : String} {A : Nat → Prop} {U : State} {H H1 : Heap} (h : vx_Zq C n d A U H) (hq : ∀ a : Nat, a < H.size → ¬ A a → H1[a]? = H[a]?) : vx_Zq C n d A U H1 := ⟨va_Zq.kept h.1 hq, vx_L.kept h.2 hq⟩
theorem vx_Zq.narrow {C n d : String} {A B : Nat → Prop} {U : State} {H : Heap} (h : vx_Zq C n d A U H) (hAB : ∀ q, B q → A q) : vx_Zq C n d B U H := ⟨va_Zq.narrow h.1 hAB, vx_L.narrow h.2 hAB⟩
theorem vx_Zqof {args : Array Value} {s : State} {C n d : String} {A : Nat → Prop} (hl : (Cond.laysStatic C n d).before args s = true) (hini : (Cond.initialized C).before args s = true) (h : (Cond.isRef (.static C n d)).before args s = true) (hA : ∀ a : Nat, a < s.heap.size → ¬ A a) : vx_Zq C n d A s s.heap := by
  refine ⟨va_Zqof hl hini h hA, ?_⟩
  obtain ⟨c, k, i, f, a, cell, h1, h2, h3, h4, h5, h6, h7, h8, h9⟩ := Cond.laysStatic_spec hl
  exact ⟨c, k, i, f, a, cell, h1, h2, h3, h4, h5, h6, h7, h8, h9, hA a (Array.getElem?_eq_some_iff.mp h5).1⟩
theorem vx_isRef {C n d : String} {v : Value} {A : Nat → Prop} {s : State} {args : Array Value} (h : va_Z C n d v A s s.heap) (hv : v.isRef = true) : (Cond.isRef (.static C n d)).before args s = true := by
  obtain ⟨cf, kf, fi, f, a, cell, h1, h2, h3, h4, h5, h6, h7, -⟩ := h
  have he : (Term.static C n d).eval args s none [] s = some v := by
    simp [Term.eval, State.fieldNamed?, h1, h2, h4, h5, h6, h7]
  simp only [Cond.before, Cond.holds, Cond.value, he]
  cases v <;> simp_all [Value.isRef]
theorem vx_isRefq {C n d : String} {A : Nat → Prop} {s : State} {args : Array Value} (h : va_Zq C n d A s s.heap) : (Cond.isRef (.static C n d)).before args s = true := by
  rcases h with h | ⟨t, h⟩
  · exact vx_isRef h rfl
  · exact vx_isRef h rfl
/-- the same frame, seen from here: as if the method were called anew in this heap -/
theorem vx_rebase {T : State} (X : Stand p l e R s m args below meth c T locs cells slots) {R' : Room} (hf : R'.frames ≤ R.frames) (hl : R'.locals ≤ R.locals) (hc : cells + R'.cells ≤ R.cells) (hs : slots + R'.slots ≤ R.slots) :
    Stand p l e R' ((T.setVm s.vm).setFrames (.invoking m args :: below)) m args below meth c T [] 0 0 := by
  have htop : (T.setVm s.vm).topJava?.isSome := X.here.top
  have hF : ((T.setVm s.vm).setFrames (.invoking m args :: below)).frames = .invoking m args :: below := State.frames_setFrames _ (State.cur_lt_of_top htop)
  obtain ⟨g₀, hg0⟩ := Option.isSome_iff_exists.mp htop
  obtain ⟨r, hr⟩ := State.topJava?_eq_some.mp hg0
  have hl9 : e.platform.stackLimits (T.setVm s.vm).me = e.platform.stackLimits s.me := X.limits
  have hb9 : (T.setVm s.vm).me.stackBytes = s.me.stackBytes := X.bytes
  refine ⟨X.admits, X.cas, X.clock, hF, ?_, X.hears, X.method, X.code, X.here, X.tail, X.warmed, ?_, ?_, ?_⟩
  · have h := X.room
    have hU : ((T.setVm s.vm).setFrames (.invoking m args :: below)).localsInUse = s.localsInUse := by
      rw [State.localsInUse_invoking hF (meth := meth) (c := c) X.method X.code, State.localsInUse_invoking X.frames X.method X.code]
    simp only [State.hasRoom, Bool.and_eq_true, decide_eq_true_eq] at h ⊢
    obtain ⟨⟨⟨⟨h1, h2, h3, h4, h5, h6⟩, h7⟩, h8⟩, h9⟩ := h
    rw [X.frames, List.length_cons] at h2 h3
    have q1 := X.heapSize
    have q2 := X.used
    simp only [hF, hU, List.length_cons, State.stackLimits_setFrames, State.stackBytes_setFrames, hl9, hb9]
    refine ⟨⟨⟨⟨by omega, by omega, by omega, by omega, by omega, h6⟩, ?_⟩, ?_⟩, X.book⟩
    · show T.heap.size + R'.cells ≤ e.platform.maxCells
      omega
    · show T.slotsUsed + R'.slots ≤ e.platform.maxSlots
      omega
  · rw [State.stackLimits_setFrames]; rfl
  · rw [State.stackBytes_setFrames]; rfl
  · refine ⟨?_, Nat.le_refl _, Nat.le_refl _, ?_, ?_, fun a c9 h9 => ⟨c9, h9, rfl, rfl, fun _ _ => rfl⟩⟩
    · obtain ⟨t, ht, -⟩ := State.frames_cons hr
      show T.setVm s.vm = { ((T.setVm s.vm).setFrames (.invoking m args :: below)).setFrames (T.setVm s.vm).frames with heap := T.heap, slotsUsed := T.slotsUsed }
      rw [State.setFrames_setFrames, State.setFrames_self ht]
      rfl
    · show T.slotsUsed = T.slotsUsed + ((T.heap.toList.drop T.heap.size).map (·.slots.size)).sum
      rw [List.drop_eq_nil_of_le (Nat.le_of_eq Array.length_toList)]
      rfl
    · show ((T.heap.toList.drop T.heap.size).map (·.slots.size)).sum ≤ 0
      rw [List.drop_eq_nil_of_le (Nat.le_of_eq Array.length_toList)]
      exact Nat.le_refl _
/-- 'throw new E()': new; dup; invokespecial; athrow -/
theorem vx_throw0 {cc : ByteArray} {pc : Nat} (hexec : p.tables.exec = Jvm.exec) (hb : c.code = cc) (hl : l.stackTraces = false) {own cls : String} {names : List String} {ik ic mc ms : Nat} {A : Nat → Prop}
    (hown : s.vm.findClass own = some m.cls) (hcls : Bundle.fit cls = true) (hnames : ∀ n ∈ names, Bundle.fit n = true)
    (hk : (Cond.classLink own ik cls).before args s = true) (hini : (Cond.initialized cls).before args s = true) (hat : ∀ w ∈ vx_at0 own ic cls names, w.before args s = true)
    (hgood : ∀ w ∈ Cond.classLink own ik cls :: Cond.initialized cls :: vx_at0 own ic cls names, vx_ot w = true)
    (hU : vx_Zq Bundle.tN "UNASSIGNED_STACK" Bundle.steD A s s.heap) (hN : vx_Zq Bundle.tN "SUPPRESSED_SENTINEL" Bundle.listD A s s.heap) (hS : va_S A s.heap H locs) (hsize : ls.size = c.maxLocals)
    (d0 : decode cc pc = .ok (.new ik, 3)) (d3 : decode cc (pc + 3) = .ok (.dup, 1)) (d4 : decode cc (pc + 4) = .ok (.invokespecial ic, 3)) (d7 : decode cc (pc + 7) = .ok (.athrow, 1))
    (hout : ∀ x ∈ c.exceptionTable.toList, covers x (pc + 7) = false)
    (hRframes : names.length + 3 < R.frames) (hRlocals : (rest.map fun v => v.category).sum + (13 * (names.length + 1) + 42) ≤ R.locals) (hRcells : cells + 1 ≤ R.cells) (hRslots : slots + 6 ≤ R.slots) (hlocks : meth.locks = false)
    (hx : ∀ t : State, s.vm.Alike t.vm → H.size ≤ t.heap.size → (∀ q : Nat, q < H.size → t.heap[q]? = H[q]?) → XC cls s t)
    (hf : ∀ z ∈ locs, free z.base) (hc : cells + 1 ≤ mc) (hs : slots + 6 ≤ ms) :
    W p l e R s m args below meth c H locs cells slots (vx_MQ below Qc XC args s mc ms free) (F0 m pc ls rest) := by
  intro T hT X
  have htr : e.platform.stackTraces = false := (show e.platform.stackTraces = l.stackTraces by rw [X.admits.platform]).trans hl
  have Y := vx_rebase X (R' := { frames := R.frames, locals := R.locals, cells := 1, slots := 6 }) (Nat.le_refl _) (Nat.le_refl _) hRcells hRslots
  obtain ⟨s', hA⟩ : ∃ z, z = (T.setVm s.vm).setFrames (.invoking m args :: below) := ⟨_, rfl⟩
  rw [← hA] at Y
  have hvm : s'.vm = s.vm := by rw [hA]; rfl
  have hhp : s'.heap = H := by rw [hA]; exact hT
  have hW0 : s.WarmedH s'.vm := by rw [hvm]; exact State.WarmedH.refl s
  have hat' : ∀ w ∈ vx_at0 own ic cls names, w.before args s' = true := fun w hw => vx_ot_at hW0 hvm.symm (hgood w (List.mem_cons_of_mem _ (List.mem_cons_of_mem _ hw))) (hat w hw)
  have hk' : (Cond.classLink own ik cls).before args s' = true := vx_ot_at hW0 hvm.symm (hgood _ List.mem_cons_self) hk
  have hini' : (Cond.initialized cls).before args s' = true := vx_ot_at hW0 hvm.symm (hgood _ (List.mem_cons_of_mem _ List.mem_cons_self)) hini
  have hU' : vx_Zq Bundle.tN "UNASSIGNED_STACK" Bundle.steD A s' s'.heap := by rw [hhp]; exact vx_Zq.moved hW0.alike (hU.kept hS.2.1)
  have hN' : vx_Zq Bundle.tN "SUPPRESSED_SENTINEL" Bundle.listD A s' s'.heap := by rw [hhp]; exact vx_Zq.moved hW0.alike (hN.kept hS.2.1)
  have h : ∀ w ∈ Bundle.ownAtoms0 own ic cls names, w.before args s' = true := vx_own hat' (vx_isRefq hU'.1) (vx_isRefq hN'.1) hU'.2.word hN'.2.word
  have hown' : s'.vm.findClass own = some m.cls := by rw [hvm]; exact hown
  have hins : (Cond.instantiable cls 6).before args s' = true := h _ (by simp [Bundle.ownAtoms0])
  obtain ⟨vm₁, cX, kX, hfX, hkX, -, -, X₁, st1⟩ := Y.newCold hexec (own := own) (C := cls) (index := ik) (n := 6) hown' hk' hins hini'
    (g := F0 m pc ls rest) rfl (by rw [hb]; exact d0) (Nat.le_refl _) (Nat.le_refl _)
  generalize hT1 : (T.setVm vm₁).pushCell { cls := cX, slots := kX.instanceTypes.map defaultValue, vm := .none } = T1 at X₁ st1
  have hcat : (Value.ref T.heap.size).category = 1 := rfl
  have hcellA : T1.heap[T.heap.size]? = some (freshCell cX kX) := by rw [← hT1]; exact State.heap_pushCell_size _ _
  have d3' : decode c.code (pc + 3) = .ok (.dup, 1) := by rw [hb]; exact d3
  obtain ⟨U, hsteps, hrun, hend, hW, hsame, ce, hce, hO⟩ := X₁.ctorThrow0 hexec htr (own := own) (cls := cls) (names := names) (ic := ic) hown' hcls hnames h (fun x hx => nomatch hx) hfX hkX hcellA (by rw [hhp, hT]; exact Nat.le_refl _)
    (g := { method := m, pc := pc + 4, locals := ls, stack := .ref T.heap.size :: .ref T.heap.size :: rest, locked := none }) rfl hsize rfl rfl (rest := rest) rfl
    (by rw [hb]; exact d4) (by rw [hb]; exact d7) hout hRframes (by simp only [List.map_cons, List.sum_cons, hcat]; omega) hlocks
  obtain ⟨f1, f2⟩ := vx_frame hsame
  rw [hhp] at f1 f2
  have hWs : s.WarmedH U.vm := State.WarmedH.trans hW0 hW
  have hcl : s.vm.findClass cls = some ce.cls := by
    have h9 := hO.cls
    rw [hvm] at h9
    exact h9
  have hall : s.sameButNew ({ U with vm := s.vm } : State) locs mc ms := by
    subst hA
    obtain ⟨e1, e2⟩ := hsame
    rw [State.setFrames_setFrames] at e1
    have h2 : (T.setVm s.vm).sameButNew ({ U with vm := s.vm } : State) [] (0 + 1) (0 + 6) := ⟨e1, e2⟩
    have h3 := X.same.trans h2
    rw [List.append_nil] at h3
    exact h3.mono hc hs
  refine ⟨U, ?_, .threw T.heap.size, hrun, hend, Or.inr ⟨T.heap.size, rfl, cls, ce, locs, hx U hWs.alike f1 (fun q hq => f2 q hq (fun z hz => nomatch hz)), hce, hO.vm, hcl, hWs, hall, hf⟩⟩
  refine st1 _ ?_
  show Steps p.tables e below (T1.setTop { method := m, pc := pc + 3, locals := ls, stack := .ref T.heap.size :: rest, locked := none }) _
  jvm_step X₁.here [X₁.here.top, hexec, d3', Value.category]
  exact hsteps
/-- 'throw new E("text")': new; dup; ldc; invokespecial; athrow -/
theorem vx_throwS {cc : ByteArray} {pc : Nat} (hexec : p.tables.exec = Jvm.exec) (hb : c.code = cc) (hl : l.stackTraces = false) {own cls text : String} {names : List String} {ik is ic mc ms sa : Nat} {A : Nat → Prop}
    (hown : s.vm.findClass own = some m.cls) (hcls : Bundle.fit cls = true) (hnames : ∀ n ∈ names, Bundle.fit n = true)
    (hk : (Cond.classLink own ik cls).before args s = true) (hini : (Cond.initialized cls).before args s = true) (hstr : vk_R own is text sa s) (hat : ∀ w ∈ vx_atS own ic cls names, w.before args s = true)
    (hgood : ∀ w ∈ Cond.classLink own ik cls :: Cond.initialized cls :: vx_atS own ic cls names, vx_ot w = true)
    (hU : vx_Zq Bundle.tN "UNASSIGNED_STACK" Bundle.steD A s s.heap) (hN : vx_Zq Bundle.tN "SUPPRESSED_SENTINEL" Bundle.listD A s s.heap) (hS : va_S A s.heap H locs) (hsize : ls.size = c.maxLocals)
    (d0 : decode cc pc = .ok (.new ik, 3)) (d3 : decode cc (pc + 3) = .ok (.dup, 1)) (d4 : decode cc (pc + 4) = .ok (.ldc is, 2)) (d6 : decode cc (pc + 6) = .ok (.invokespecial ic, 3)) (d9 : decode cc (pc + 9) = .ok (.athrow, 1))
    (hout : ∀ x ∈ c.exceptionTable.toList, covers x (pc + 9) = false)
    (hRframes : names.length + 3 < R.frames) (hRlocals : (rest.map fun v => v.category).sum + (13 * (names.length + 1) + 43) ≤ R.locals) (hRcells : cells + 1 ≤ R.cells) (hRslots : slots + 6 ≤ R.slots) (hlocks : meth.locks = false)
    (hx : ∀ t : State, s.vm.Alike t.vm → H.size ≤ t.heap.size → (∀ q : Nat, q < H.size → t.heap[q]? = H[q]?) → XC cls s t)
    (hf : ∀ z ∈ locs, free z.base) (hc : cells + 1 ≤ mc) (hs : slots + 6 ≤ ms) :
    W p l e R s m args below meth c H locs cells slots (vx_MQ below Qc XC args s mc ms free) (F0 m pc ls rest) := by
  intro T hT X
  have htr : e.platform.stackTraces = false := (show e.platform.stackTraces = l.stackTraces by rw [X.admits.platform]).trans hl
  have Y := vx_rebase X (R' := { frames := R.frames, locals := R.locals, cells := 1, slots := 6 }) (Nat.le_refl _) (Nat.le_refl _) hRcells hRslots
  obtain ⟨s', hA⟩ : ∃ z, z = (T.setVm s.vm).setFrames (.invoking m args :: below) := ⟨_, rfl⟩
  rw [← hA] at Y
  have hvm : s'.vm = s.vm := by rw [hA]; rfl
  have hhp : s'.heap = H := by rw [hA]; exact hT
  have hW0 : s.WarmedH s'.vm := by rw [hvm]; exact State.WarmedH.refl s
  have hat' : ∀ w ∈ vx_atS own ic cls names, w.before args s' = true := fun w hw => vx_ot_at hW0 hvm.symm (hgood w (List.mem_cons_of_mem _ (List.mem_cons_of_mem _ hw))) (hat w hw)
  have hk' : (Cond.classLink own ik cls).before args s' = true := vx_ot_at hW0 hvm.symm (hgood _ List.mem_cons_self) hk
  have hini' : (Cond.initialized cls).before args s' = true := vx_ot_at hW0 hvm.symm (hgood _ (List.mem_cons_of_mem _ List.mem_cons_self)) hini
  have hU' : vx_Zq Bundle.tN "UNASSIGNED_STACK" Bundle.steD A s' s'.heap := by rw [hhp]; exact vx_Zq.moved hW0.alike (hU.kept hS.2.1)
  have hN' : vx_Zq Bundle.tN "SUPPRESSED_SENTINEL" Bundle.listD A s' s'.heap := by rw [hhp]; exact vx_Zq.moved hW0.alike (hN.kept hS.2.1)
  have h : ∀ w ∈ Bundle.ownAtoms own ic cls names, w.before args s' = true := vx_own hat' (vx_isRefq hU'.1) (vx_isRefq hN'.1) hU'.2.word hN'.2.word
  have hown' : s'.vm.findClass own = some m.cls := by rw [hvm]; exact hown
  have hins : (Cond.instantiable cls 6).before args s' = true := h _ (by simp [Bundle.ownAtoms])
  obtain ⟨vm₁, cX, kX, hfX, hkX, -, -, X₁, st1⟩ := Y.newCold hexec (own := own) (C := cls) (index := ik) (n := 6) hown' hk' hins hini'
    (g := F0 m pc ls rest) rfl (by rw [hb]; exact d0) (Nat.le_refl _) (Nat.le_refl _)
  generalize hT1 : (T.setVm vm₁).pushCell { cls := cX, slots := kX.instanceTypes.map defaultValue, vm := .none } = T1 at X₁ st1
  have hcat : (Value.ref T.heap.size).category = 1 := rfl
  have hcellA : T1.heap[T.heap.size]? = some (freshCell cX kX) := by rw [← hT1]; exact State.heap_pushCell_size _ _
  have d3' : decode c.code (pc + 3) = .ok (.dup, 1) := by rw [hb]; exact d3
  have d4' : decode c.code (pc + 4) = .ok (.ldc is, 2) := by rw [hb]; exact d4
  have hstr' : vk_R own is text sa s' := vk_R.warm hW0 hstr
  obtain ⟨U, hsteps, hrun, hend, hW, hsame, ce, hce, hO⟩ := X₁.ctorThrowS hexec htr (own := own) (cls := cls) (names := names) (ic := ic) hown' hcls hnames h (fun x hx => nomatch hx) hfX hkX hcellA (by rw [hhp, hT]; exact Nat.le_refl _) (msg := .ref sa) rfl
    (g := { method := m, pc := pc + 6, locals := ls, stack := .ref sa :: .ref T.heap.size :: .ref T.heap.size :: rest, locked := none }) rfl hsize rfl rfl (rest := rest) rfl
    (by rw [hb]; exact d6) (by rw [hb]; exact d9) hout hRframes (by simp only [List.map_cons, List.sum_cons, hcat]; omega) hlocks
  obtain ⟨f1, f2⟩ := vx_frame hsame
  rw [hhp] at f1 f2
  have hWs : s.WarmedH U.vm := State.WarmedH.trans hW0 hW
  have hcl : s.vm.findClass cls = some ce.cls := by
    have h9 := hO.cls
    rw [hvm] at h9
    exact h9
  have hall : s.sameButNew ({ U with vm := s.vm } : State) locs mc ms := by
    subst hA
    obtain ⟨e1, e2⟩ := hsame
    rw [State.setFrames_setFrames] at e1
    have h2 : (T.setVm s.vm).sameButNew ({ U with vm := s.vm } : State) [] (0 + 1) (0 + 6) := ⟨e1, e2⟩
    have h3 := X.same.trans h2
    rw [List.append_nil] at h3
    exact h3.mono hc hs
  refine ⟨U, ?_, .threw T.heap.size, hrun, hend, Or.inr ⟨T.heap.size, rfl, cls, ce, locs, hx U hWs.alike f1 (fun q hq => f2 q hq (fun z hz => nomatch hz)), hce, hO.vm, hcl, hWs, hall, hf⟩⟩
  refine st1 _ ?_
  show Steps p.tables e below (T1.setTop { method := m, pc := pc + 3, locals := ls, stack := .ref T.heap.size :: rest, locked := none }) _
  jvm_step X₁.here [X₁.here.top, hexec, d3', Value.category]
  exact X₁.ldcString hexec (own := own) (text := text) (index := is) (a := sa) hown' hstr'.1 hstr'.2
    (g := { method := m, pc := pc + 4, locals := ls, stack := .ref T.heap.size :: .ref T.heap.size :: rest, locked := none }) rfl d4' _ hsteps
/-- 'throw new E("text")', the text by a wide index -/
theorem vx_throwSW {cc : ByteArray} {pc : Nat} (hexec : p.tables.exec = Jvm.exec) (hb : c.code = cc) (hl : l.stackTraces = false) {own cls text : String} {names : List String} {ik is ic mc ms sa : Nat} {A : Nat → Prop}
    (hown : s.vm.findClass own = some m.cls) (hcls : Bundle.fit cls = true) (hnames : ∀ n ∈ names, Bundle.fit n = true)
    (hk : (Cond.classLink own ik cls).before args s = true) (hini : (Cond.initialized cls).before args s = true) (hstr : vk_R own is text sa s) (hat : ∀ w ∈ vx_atS own ic cls names, w.before args s = true)
    (hgood : ∀ w ∈ Cond.classLink own ik cls :: Cond.initialized cls :: vx_atS own ic cls names, vx_ot w = true)
    (hU : vx_Zq Bundle.tN "UNASSIGNED_STACK" Bundle.steD A s s.heap) (hN : vx_Zq Bundle.tN "SUPPRESSED_SENTINEL" Bundle.listD A s s.heap) (hS : va_S A s.heap H locs) (hsize : ls.size = c.maxLocals)
    (d0 : decode cc pc = .ok (.new ik, 3)) (d3 : decode cc (pc + 3) = .ok (.dup, 1)) (d4 : decode cc (pc + 4) = .ok (.ldc_w is, 3)) (d7 : decode cc (pc + 7) = .ok (.invokespecial ic, 3)) (d10 : decode cc (pc + 10) = .ok (.athrow, 1))
    (hout : ∀ x ∈ c.exceptionTable.toList, covers x (pc + 10) = false)
    (hRframes : names.length + 3 < R.frames) (hRlocals : (rest.map fun v => v.category).sum + (13 * (names.length + 1) + 43) ≤ R.locals) (hRcells : cells + 1 ≤ R.cells) (hRslots : slots + 6 ≤ R.slots) (hlocks : meth.locks = false)
    (hx : ∀ t : State, s.vm.Alike t.vm → H.size ≤ t.heap.size → (∀ q : Nat, q < H.size → t.heap[q]? = H[q]?) → XC cls s t)
    (hf : ∀ z ∈ locs, free z.base) (hc : cells + 1 ≤ mc) (hs : slots + 6 ≤ ms) :
    W p l e R s m args below meth c H locs cells slots (vx_MQ below Qc XC args s mc ms free) (F0 m pc ls rest) := by
  intro T hT X
  have htr : e.platform.stackTraces = false := (show e.platform.stackTraces = l.stackTraces by rw [X.admits.platform]).trans hl
  have Y := vx_rebase X (R' := { frames := R.frames, locals := R.locals, cells := 1, slots := 6 }) (Nat.le_refl _) (Nat.le_refl _) hRcells hRslots
  obtain ⟨s', hA⟩ : ∃ z, z = (T.setVm s.vm).setFrames (.invoking m args :: below) := ⟨_, rfl⟩
  rw [← hA] at Y
  have hvm : s'.vm = s.vm := by rw [hA]; rfl
  have hhp : s'.heap = H := by rw [hA]; exact hT
  have hW0 : s.WarmedH s'.vm := by rw [hvm]; exact State.WarmedH.refl s
  have hat' : ∀ w ∈ vx_atS own ic cls names, w.before args s' = true := fun w hw => vx_ot_at hW0 hvm.symm (hgood w (List.mem_cons_of_mem _ (List.mem_cons_of_mem _ hw))) (hat w hw)
  have hk' : (Cond.classLink own ik cls).before args s' = true := vx_ot_at hW0 hvm.symm (hgood _ List.mem_cons_self) hk
  have hini' : (Cond.initialized cls).before args s' = true := vx_ot_at hW0 hvm.symm (hgood _ (List.mem_cons_of_mem _ List.mem_cons_self)) hini
  have hU' : vx_Zq Bundle.tN "UNASSIGNED_STACK" Bundle.steD A s' s'.heap := by rw [hhp]; exact vx_Zq.moved hW0.alike (hU.kept hS.2.1)
  have hN' : vx_Zq Bundle.tN "SUPPRESSED_SENTINEL" Bundle.listD A s' s'.heap := by rw [hhp]; exact vx_Zq.moved hW0.alike (hN.kept hS.2.1)
  have h : ∀ w ∈ Bundle.ownAtoms own ic cls names, w.before args s' = true := vx_own hat' (vx_isRefq hU'.1) (vx_isRefq hN'.1) hU'.2.word hN'.2.word
  have hown' : s'.vm.findClass own = some m.cls := by rw [hvm]; exact hown
  have hins : (Cond.instantiable cls 6).before args s' = true := h _ (by simp [Bundle.ownAtoms])
  obtain ⟨vm₁, cX, kX, hfX, hkX, -, -, X₁, st1⟩ := Y.newCold hexec (own := own) (C := cls) (index := ik) (n := 6) hown' hk' hins hini'
    (g := F0 m pc ls rest) rfl (by rw [hb]; exact d0) (Nat.le_refl _) (Nat.le_refl _)
  generalize hT1 : (T.setVm vm₁).pushCell { cls := cX, slots := kX.instanceTypes.map defaultValue, vm := .none } = T1 at X₁ st1
  have hcat : (Value.ref T.heap.size).category = 1 := rfl
  have hcellA : T1.heap[T.heap.size]? = some (freshCell cX kX) := by rw [← hT1]; exact State.heap_pushCell_size _ _
  have d3' : decode c.code (pc + 3) = .ok (.dup, 1) := by rw [hb]; exact d3
  have d4' : decode c.code (pc + 4) = .ok (.ldc_w is, 3) := by rw [hb]; exact d4
  have hstr' : vk_R own is text sa s' := vk_R.warm hW0 hstr
  obtain ⟨U, hsteps, hrun, hend, hW, hsame, ce, hce, hO⟩ := X₁.ctorThrowS hexec htr (own := own) (cls := cls) (names := names) (ic := ic) hown' hcls hnames h (fun x hx => nomatch hx) hfX hkX hcellA (by rw [hhp, hT]; exact Nat.le_refl _) (msg := .ref sa) rfl
    (g := { method := m, pc := pc + 7, locals := ls, stack := .ref sa :: .ref T.heap.size :: .ref T.heap.size :: rest, locked := none }) rfl hsize rfl rfl (rest := rest) rfl
    (by rw [hb]; exact d7) (by rw [hb]; exact d10) hout hRframes (by simp only [List.map_cons, List.sum_cons, hcat]; omega) hlocks
  obtain ⟨f1, f2⟩ := vx_frame hsame
  rw [hhp] at f1 f2
  have hWs : s.WarmedH U.vm := State.WarmedH.trans hW0 hW
  have hcl : s.vm.findClass cls = some ce.cls := by
    have h9 := hO.cls
    rw [hvm] at h9
    exact h9
  have hall : s.sameButNew ({ U with vm := s.vm } : State) locs mc ms := by
    subst hA
    obtain ⟨e1, e2⟩ := hsame
    rw [State.setFrames_setFrames] at e1
    have h2 : (T.setVm s.vm).sameButNew ({ U with vm := s.vm } : State) [] (0 + 1) (0 + 6) := ⟨e1, e2⟩
    have h3 := X.same.trans h2
    rw [List.append_nil] at h3
    exact h3.mono hc hs
  refine ⟨U, ?_, .threw T.heap.size, hrun, hend, Or.inr ⟨T.heap.size, rfl, cls, ce, locs, hx U hWs.alike f1 (fun q hq => f2 q hq (fun z hz => nomatch hz)), hce, hO.vm, hcl, hWs, hall, hf⟩⟩
  refine st1 _ ?_
  show Steps p.tables e below (T1.setTop { method := m, pc := pc + 3, locals := ls, stack := .ref T.heap.size :: rest, locked := none }) _
  jvm_step X₁.here [X₁.here.top, hexec, d3', Value.category]
  exact X₁.ldcStringW hexec (own := own) (text := text) (index := is) (a := sa) hown' hstr'.1 hstr'.2
    (g := { method := m, pc := pc + 4, locals := ls, stack := .ref T.heap.size :: .ref T.heap.size :: rest, locked := none }) rfl d4' _ hsteps
end Ends
section Bodies
variable {l : Launch}
theorem vx_ofW {y : MethodName} {ws ws' : List Cond} {rm : Room} {Pc : Array Value → State → Prop} {Qc : Array Value → State → Outcome → State → Prop} {XC : String → State → State → Prop} {mc ms : Nat} {free : Addr → Prop} {cc : ByteArray} {maxL : Nat} {ret : Option FieldType}
    (hy : plainName y.cls = true) (hw : ws = Cond.code y cc maxL ret :: ws')
    (body : ∀ p e s m args below meth c s₁, BodyLoose p l y (headSpec ws rm) cc maxL ret e s m args below meth c s₁ → c.maxLocals = maxL → (∀ x ∈ c.exceptionTable.toList, False) → Pc args s →
      W p l e (headSpec ws rm).room s m args below meth c s.heap [] 0 0 (vx_MQ below Qc XC args s mc ms free) (entryFrame m args maxL)) : vx_Met l y ws rm Pc Qc XC mc ms free := by
  refine MetFree.of_bodyS (code := cc) (maxLocals := maxL) (ret := ret) hy ?_ ?_
  · intro args s m h hn
    obtain ⟨meth, c, h1, h2, h3, h4, h5, h6, -, -⟩ := Cond.code_spec hn (atoms_spec (ws := ws) h _ (by rw [hw]; exact List.mem_cons_self))
    exact ⟨meth, c, h1, h2, h3, h4, h5, h6⟩
  · intro p e s m args below meth c s₁ B hml hP _
    have hh0 : s₁.heap = s.heap := by rw [B.state]; rfl
    have ht : ∀ x ∈ c.exceptionTable.toList, False := by
      obtain ⟨meth9, c9, h1, h2, -, -, -, -, h7, -⟩ := Cond.code_spec B.named (atoms_spec (ws := ws) B.pre _ (by rw [hw]; exact List.mem_cons_self))
      cases Option.some.inj (h1.symm.trans B.method)
      cases Option.some.inj (h2.symm.trans (Stand.of_body B).code)
      intro x hx
      rw [Array.isEmpty_iff.mp h7] at hx
      cases hx
    obtain ⟨t, a1, o, b1, b2, b3⟩ := body p e s m args below meth c s₁ B hml ht hP s₁ hh0 (Stand.of_body B)
    exact ⟨t, o, a1, b1, b2, b3⟩
/-- the table of a body with handlers -/
theorem vx_table {p : Program} {x y : MethodName} {S : Spec} {cc bytes : ByteArray} {maxL maxL' : Nat} {ret ret' : Option FieldType} {e : Env} {s s₁ : State} {m : MethodId} {args : Array Value} {below : List Frame} {meth : Method} {c : Code} {hh : List (Nat × Nat × Nat × Nat)}
    (B : BodyLoose p l y S cc maxL ret e s m args below meth c s₁) (h : (Cond.codeWith y bytes maxL' ret' hh).before args s = true) : c.exceptionTable.toList = tableOf hh := by
  obtain ⟨m9, meth9, c9, hn9, h1, h2, -, -, h6, -⟩ := Cond.codeWith_spec h
  cases Option.some.inj (hn9.symm.trans B.named)
  cases Option.some.inj (h1.symm.trans B.method)
  cases Option.some.inj (h2.symm.trans (Stand.of_body B).code)
  rw [← h6, table_eq]
end Bodies
end VXA
/-! ===== END ===== -/
/-! ===== BEGIN a static call of a method with an exception table ===== -/
section VXS
variable {p : Program} {l : Launch} {e : Env} {R : Room} {s : State} {m : MethodId} {args : Array Value} {below : List Frame} {meth : Method} {c : Code} {T : State} {H : Heap} {locs : List Loc} {cells slots : Nat}
abbrev vx_CSW (R : Room) (s : State) (args : Array Value) (own : String) (index : Nat) (y : MethodName) (bytes : ByteArray) (maxL : Nat) (ret : Option FieldType) (hh : List (Nat × Nat × Nat × Nat)) (ws : List Cond) (rm : Room) (mc ms n : Nat) : Prop :=
  (rm.cells = mc ∧ rm.slots = ms ∧ rm.frames + 1 ≤ R.frames ∧ 8 + (maxL + 11) + rm.locals ≤ R.locals ∧ (∀ w ∈ ws, ∀ (a' : Array Value) (U : State), s.WarmedH U.vm → w.before a' U = true) ∧ Cond.codeWith y bytes maxL ret hh ∈ ws) ∧
  (Cond.codeWith y bytes maxL ret hh).before args s = true ∧ (Cond.initialized y.cls).before args s = true ∧ (y.cls ≠ "java/lang/invoke/MethodHandle" ∧ y.cls ≠ "java/lang/invoke/VarHandle") ∧
  (∀ sig, parseMethodDescriptor y.desc = some sig → n = sig.parameters.length) ∧ (Cond.methodLink own index y).before args s = true ∧ (Cond.static y).before args s = true
theorem vx_cwSW {own : String} {index maxL mc ms : Nat} {y : MethodName} {bytes : ByteArray} {ret : Option FieldType} {hh : List (Nat × Nat × Nat × Nat)} {Ts ws ws' : List Cond} {rm : Room} (n : Nat) (ht : ∀ w ∈ Ts, w.before args s = true) (hT : GoodIn Ts (va_wsS own index y ws)) (hw : ws = Cond.codeWith y bytes maxL ret hh :: ws') (hrc : rm.cells = mc) (hrs : rm.slots = ms)
    (hd : y.cls ≠ "java/lang/invoke/MethodHandle" ∧ y.cls ≠ "java/lang/invoke/VarHandle" ∧ (parseMethodDescriptor y.desc).map (fun d => d.parameters.length) = some n) (hR : rm.frames + 1 ≤ R.frames ∧ 8 + (maxL + 11) + rm.locals ≤ R.locals) :
    vx_CSW R s args own index y bytes maxL ret hh ws rm mc ms n := by
  have ok : ∀ w ∈ va_wsS own index y ws, w.before args s = true := fun w h => ht w (hT w h).1
  have hG : GoodIn Ts ws := fun w h => hT w (by unfold va_wsS; exact List.mem_append_right _ h)
  have hc : Cond.codeWith y bytes maxL ret hh ∈ ws := by rw [hw]; exact List.mem_cons_self
  refine ⟨⟨hrc, hrs, hR.1, hR.2, pay_in ht hG, hc⟩, ht _ (hG _ hc).1, ok _ (by simp [va_wsS]), ⟨hd.1, hd.2.1⟩, fun sig h => ?_, ok _ (by simp [va_wsS]), ok _ (by simp [va_wsS])⟩
  have h2 := hd.2.2
  rw [h] at h2
  exact (Option.some.inj h2).symm
theorem vx_callSW (X : Stand p l e R s m args below meth c T locs cells slots) (hexec : p.tables.exec = Jvm.exec) {own : String} {index : Nat} {y : MethodName} {bytes : ByteArray} {maxL : Nat} {ret : Option FieldType} {hh : List (Nat × Nat × Nat × Nat)}
    (hown : s.vm.findClass own = some m.cls) (hlink : (Cond.methodLink own index y).before args s = true) (hstat : (Cond.static y).before args s = true) (hinit : (Cond.initialized y.cls).before args s = true)
    (hcode : (Cond.codeWith y bytes maxL ret hh).before args s = true) (hy : y.cls ≠ "java/lang/invoke/MethodHandle" ∧ y.cls ≠ "java/lang/invoke/VarHandle")
    {W9 : Nat} {Pre : Pt → Array Value → Prop} {Post : Pt → Array Value → Option Value → Pt → Prop} (hK : Back l R p e below s args y 3 W9 Pre Post)
    {g : JFrame} (hg : g.method = m) (hsize : g.locals.size = c.maxLocals) {argsL rest : List Value} (hlen : ∀ sig, parseMethodDescriptor y.desc = some sig → argsL.length = sig.parameters.length)
    (hstack : g.stack = argsL.reverse ++ rest) (hW : 2 * g.monitorRoom + (rest.map fun v => v.category).sum ≤ W9) (hdg : decode c.code g.pc = .ok (.invokestatic index, 3))
    (hpre : ∀ vm₁, s.WarmedH vm₁ → Pre ⟨T.setVm vm₁, locs, cells, slots⟩ argsL.toArray) :
    ∃ (v : Option Value) (vm₁ : Vm) (B : Pt), s.WarmedH vm₁ ∧ Stand p l e R s m args below meth c B.U B.locs B.cells B.slots ∧ Post ⟨T.setVm vm₁, locs, cells, slots⟩ argsL.toArray v B ∧
      ∀ target, Steps p.tables e below (B.U.setTop { g with pc := g.pc + 3, stack := v.toList ++ rest }) target → Steps p.tables e below (T.setTop g) target := by
  obtain ⟨mk, methM, cM, hnamed, hmethM, -, -, -, -, -, -, hsigM⟩ := Cond.codeWith_spec hcode
  have hstatic : methM.isStatic = true := Cond.static_spec hnamed hmethM hstat
  obtain ⟨kP, hkP, -⟩ := className_of_methodNamed hnamed
  have hinitP : kP.init = .initialized := Cond.initialized_spec (findClass_of_methodNamed hnamed) hkP hinit
  obtain ⟨vm₁, X₁, hstep₁⟩ := X.invokestatic hexec hown hlink hnamed hmethM hstatic hkP hinitP hy (g := g) hg (argsL := argsL) (rest := rest) (hlen _ hsigM) hstack hdg
  obtain ⟨v, B, X', hpost, hsteps⟩ := hK m meth c ⟨T.setVm vm₁, locs, cells, slots⟩ { g with stack := rest } (.invokestatic index) mk argsL.toArray X₁ hg hsize hdg hW (X₁.named hnamed) (hpre vm₁ X₁.warmed)
  exact ⟨v, vm₁, B, X₁.warmed, X', hpost, fun target h => hstep₁ _ fun acts => by rw [doInvoke_state]; exact hsteps.trans h⟩
theorem vx_runSW {y : MethodName} {bytes cc : ByteArray} {maxL nL mc ms n index : Nat} {ret : Option FieldType} {hh : List (Nat × Nat × Nat × Nat)} {ws : List Cond} {rm : Room} {Pc : Array Value → State → Prop} {Qc : Array Value → State → Outcome → State → Prop} {free : Addr → Prop} {Ts : List Cond} {own : String} {As rest : List Value} {g : JFrame}
    (S : CallFix p m c cc nL s args Ts own) (hM : Met l y ws rm Pc Qc mc ms free) (cw : vx_CSW R s args own index y bytes maxL ret hh ws rm mc ms n) (hp : PreS s H Pc As)
    (hg : g.method = m) (hn : As.length = n) (hsize : g.locals.size = nL) (hstack : g.stack = As.reverse ++ rest) (hW : 2 * g.monitorRoom + (rest.map fun v => v.category).sum ≤ 8) (hdg : decode cc g.pc = .ok (.invokestatic index, 3)) (hf : cells + mc ≤ R.cells ∧ slots + ms ≤ R.slots) :
    va_Run p l e R s m args below meth c H locs cells slots mc ms g rest (Qc As.toArray) (free) := by
  obtain ⟨⟨hrc, hrs, hfr, hlo, hws, hcw⟩, hcode, hini, hy, hlen, hl, hstt⟩ := cw
  have hK : Back l R p e below s args y 3 8 (PreOf R mc ms Pc) (PostOf Qc mc ms free) := va_backW (hh := hh) (bytes := bytes) (maxL := maxL) (ret := ret) hM hp.1 hrc hrs hfr hlo hws hcw (fun a' U hW => word_at hW (Or.inl (by first | rfl | simp [Cond.onTables, Cond.keeps, Cond.steady])) hini)
  obtain ⟨hx, hb, hml, ho, -⟩ := S
  intro T hT X
  obtain ⟨v, vm₁, ⟨U', l2, c2, s2⟩, hW₁, X', ⟨g', mk, t, L, e1, e2, hq, h1, hL, h2, h3⟩, st⟩ := vx_callSW X hx (hh := hh) (bytes := bytes) (maxL := maxL) (ret := ret) ho hl hstt hini hcode hy hK hg (hsize.trans hml.symm) (argsL := As) (rest := rest) (fun sig h => hn.trans (hlen sig h)) hstack hW (by rw [hb]; exact hdg)
    (fun vm₁ hW₁ => ⟨hf.1, hf.2, hp.2 (T.setVm vm₁) hT hW₁⟩)
  dsimp only [Pt.U, Pt.locs, Pt.cells, Pt.slots] at X' e1 e2 h1 h2 h3 st
  subst h1; subst h2; subst h3
  exact ⟨v, (T.setVm vm₁).calling g' mk As.toArray, t, U', L, hT, X', hL, e1, e2, hq, st⟩
/-- not caught here, past rows that name other classes: it goes on to the caller -/
theorem vx_outP {p : Program} {l : Launch} {e : Env} {R : Room} {s : State} {m : MethodId} {args : Array Value} {below : List Frame} {meth : Method} {c : Code} {H : Heap} {locs : List Loc} {cells slots : Nat} {free : Addr → Prop} {ls : Array Slot} {rest : List Value} {Qc : Array Value → State → Outcome → State → Prop} {XC : String → State → State → Prop}
    {pc : Nat} {own E : String} {ce : Cell} {q : Addr} {mc ms : Nat} (hown : s.vm.findClass own = some m.cls) (hlocks : meth.locks = false)
    (hpass : ∀ z ∈ c.exceptionTable.toList, covers z pc = false ∨ (z.catchType ≠ 0 ∧ ∃ nm : String, (Cond.classLink own z.catchType nm).before args s = true ∧ va_Nc E nm s)) (hcell : H[q]? = some ce) (hv : ce.vm = .none) (hcl : s.vm.findClass E = some ce.cls)
    (hx : ∀ t : State, t.heap = H → s.vm.Alike t.vm → XC E s t) (hf : ∀ z ∈ locs, free z.base) (hc : cells ≤ mc) (hs : slots ≤ ms) :
    vx_W p l e R s m args below meth c H locs cells slots (vx_MQ below Qc XC args s mc ms free) (F0 m pc ls rest) q := by
  intro T hT X
  have hpl : e.platform.magicAccessors = ({} : Platform).magicAccessors := by rw [X.admits.platform]
  obtain ⟨vm', hW', X', st⟩ := X.outThrough hlocks q (g := F0 m pc ls rest) rfl rfl rfl (cell := ce) (by rw [hT]; exact hcell) (by rw [hv]; rfl)
    (by obtain ⟨k9, h9, -⟩ := Vm.findClass_spec hcl; exact ⟨k9, h9⟩) (fun z hz => by
      rcases hpass z hz with h | ⟨hz0, nm, hl1, hn1⟩
      · exact Or.inl h
      · obtain ⟨c6, hc6, hcl6⟩ := Cond.classLink_spec hown hl1 e.platform hpl
        obtain ⟨a8, b8, h1, h2, h3⟩ := hn1
        cases Option.some.inj (h1.symm.trans hcl)
        cases Option.some.inj (h2.symm.trans hc6)
        exact Or.inr ⟨hz0, _, hcl6, h3⟩)
  obtain ⟨g₀, hfr⟩ := X'.frames_eq
  have hcell9 : ((T.setVm vm').setFrames (.throwing q :: below)).heap[q]? = some ce := by
    show T.heap[q]? = some ce
    rw [hT]; exact hcell
  have hend : Ended ((T.setVm vm').setFrames (.throwing q :: below)) below (.threw q) := State.frames_setFrames _ (State.cur_lt_of_frames hfr)
  refine ⟨(T.setVm vm').setFrames (.throwing q :: below), ?_, .threw q, X'.here.running, hend, Or.inr ⟨q, rfl, E, ce, locs, hx _ hT (X'.ends _).1.alike, hcell9, hv, hcl, (X'.ends _).1, (X'.ends _).2.mono hc hs, hf⟩⟩
  rw [X.pushThrowing_eq]
  exact st
/-- a thing of a world lies in the heap -/
theorem vx_lt {D : va_G} {cl : List vw_C} {ws : va_W} {H1 : Heap} (h : va_P D cl ws H1) {k : Nat} {q : Nat × va_E} (hk : ws[k]? = some q) : q.1 < H1.size := (h k q hk).lt
end VXS
/-! ===== END ===== -/
/-! ===== BEGIN methods with a table of their own: called by a name, returning or throwing ===== -/
section VXH
/-! vx_backW, vx_callVX, vx_callSX, vx_callVW, vx_runVW, vx_runVX, vx_runSX, vx_ofWH follow the same proofs as their sisters above (Free/Laws.lean, Shelf42/LK1.lean); vx_outP calls Shelf42/NT130.lean (outThrough). -/
section
variable {l : Launch} {R : Room} {p : Program} {e : Env} {below : List Frame} {s : State} {sargs : Array Value} {y : MethodName} {len W9 : Nat}
theorem vx_backW {ws : List Cond} {rm : Room} {Pc : Array Value → State → Prop} {Qc : Array Value → State → Outcome → State → Prop} {XC : String → State → State → Prop} {mc ms : Nat} {free : Addr → Prop} {bytes : ByteArray} {maxL : Nat} {ret : Option FieldType} {hh : List (Nat × Nat × Nat × Nat)}
    (hM : vx_Met l y ws rm Pc Qc XC mc ms free) (hblind : FrameBlind Pc) (hrc : rm.cells = mc) (hrs : rm.slots = ms)
    (hframes : rm.frames + 1 ≤ R.frames) (hlocals : W9 + (maxL + 11) + rm.locals ≤ R.locals)
    (hws : ∀ w ∈ ws, ∀ a' U, s.WarmedH U.vm → w.before a' U = true) (hcode : Cond.codeWith y bytes maxL ret hh ∈ ws) (hinit : ∀ a' U, s.WarmedH U.vm → (Cond.initialized y.cls).before a' U = true) :
    vx_Back l R p e below s sargs y len W9 (PreOf R mc ms Pc) (PostOf Qc mc ms free) (vx_Post XC mc ms free) := by
  intro m meth c A g ig mk a X hg hsize hdg hW hn hp
  have h1 : (headSpec ws rm).pre.before a A.U = true := atoms_intro fun w hw => hws w hw _ _ X.warmed
  have h2 : (Cond.codeWith y bytes maxL ret hh).before a A.U = true := hws _ hcode _ _ X.warmed
  have h3 : (Cond.initialized y.cls).before a A.U = true := hinit _ _ X.warmed
  have h4 : A.cells + (headSpec ws rm).room.cells ≤ R.cells := by rw [show (headSpec ws rm).room.cells = mc from hrc]; exact hp.1
  have h5 : A.slots + (headSpec ws rm).room.slots ≤ R.slots := by rw [show (headSpec ws rm).room.slots = ms from hrs]; exact hp.2.1
  have hPc : Pc a (A.U.calling g mk a) := hblind _ _ _ _ hp.2.2
  obtain ⟨U, Ls, c0, s0⟩ := A
  dsimp only [Pt.U, Pt.locs, Pt.cells, Pt.slots] at h1 h2 h3 h4 h5 X hn hPc ⊢
  obtain ⟨m9, methY, cY, hn9, hmY, hcY, -, hlY, -⟩ := Cond.codeWith_spec h2
  cases Option.some.inj (hn9.symm.trans hn)
  obtain ⟨kY, hkY, -⟩ := className_of_methodNamed hn
  have hinitY : kY.init = .initialized := Cond.initialized_spec (findClass_of_methodNamed hn) hkY h3
  have h : At U g.method c below := by rw [hg]; exact X.here
  have hlocals9 : W9 + (maxL + 11) + (headSpec ws rm).room.locals ≤ R.locals := hlocals
  have happ : (headSpec ws rm).appliesLoose y e.platform (U.calling g mk a) = true :=
    Spec.appliesLoose_calling (g := g) h hdg hn hkY hinitY
      (X.room_calling (g := g) (R' := (headSpec ws rm).room) hsize hmY hcY hframes (by rw [hlY]; omega) h4 h5) h1
  obtain ⟨mid, hmid⟩ := h.above
  have hfr : (U.setTop g).frames = (.java g :: mid) ++ below := by rw [State.frames_setTop' g h.top, hmid]; rfl
  obtain ⟨o, s₂, hsteps, -, hend, hq⟩ := Steps.callFree hM p X.admits X.cas X.clock (acts := []) hfr happ hPc trivial
  have hq' : vx_Q Qc XC mc ms free a (U.calling g mk a) o s₂ := hq
  rw [State.frames_setTop' g h.top] at hend
  obtain ⟨g₀, hg0⟩ := Option.isSome_iff_exists.mp h.top
  obtain ⟨r, hr⟩ := State.topJava?_eq_some.mp hg0
  have hr' : (({ U with heap := s₂.heap, slotsUsed := s₂.slotsUsed } : State).setVm s₂.vm).frames = .java g₀ :: r := hr
  rcases hq' with ⟨hqc, L, hfe, hL⟩ | ⟨q, rfl, E, ce, L, hx, hce, hcv, hcl, hW₂, hsm, hL⟩
  · obtain ⟨⟨v, rfl⟩, hW₂, e2, q2, q3, q4, q5, q6⟩ := id hfe
    have e3 : s₂ = ({ (U.calling g mk a).setFrames s₂.frames with heap := s₂.heap, slotsUsed := s₂.slotsUsed } : State).setVm s₂.vm := by
      have : s₂ = ({ s₂ with vm := (U.calling g mk a).vm } : State).setVm s₂.vm := rfl
      rw [e2] at this
      exact this
    obtain ⟨c₂, i₂, len₂, hc₂, hd₂, hf₂⟩ := hend
    have hW' : U.WarmedH s₂.vm := hW₂
    have hcc : c₂ = c := by
      have h1 : s₂.code? g.method = U.code? g.method := by
        rw [State.code?_eq, State.code?_eq, hW'.alike.method?]
      exact Option.some.inj (hc₂.symm.trans (h1.trans h.code))
    subst hcc
    have hlen : len₂ = len := by rw [hdg] at hd₂; cases hd₂; rfl
    subst hlen
    have hs₂ : s₂ = (({ U with heap := s₂.heap, slotsUsed := s₂.slotsUsed } : State).setVm s₂.vm).setTop { g with pc := g.pc + len₂, stack := v.toList ++ g.stack } := by
      refine e3.trans ?_
      rw [hf₂, State.calling_eq h.top, State.setFrames_setFrames, State.setTop_of_frames _ hr', hr]
      rfl
    have hsame : U.sameButNew ({ U with heap := s₂.heap, slotsUsed := s₂.slotsUsed } : State) L mc ms := by
      refine ⟨?_, q2, q3, q4, q5, q6⟩
      obtain ⟨t, ht, -⟩ := State.frames_cons hr
      show ({ U with heap := s₂.heap, slotsUsed := s₂.slotsUsed } : State) = { U.setFrames U.frames with heap := s₂.heap, slotsUsed := s₂.slotsUsed }
      rw [State.setFrames_self ht]
    subst hg
    refine Or.inl ⟨v, ⟨(({ U with heap := s₂.heap, slotsUsed := s₂.slotsUsed } : State).setVm s₂.vm), Ls ++ L, c0 + mc, s0 + ms⟩,
      ⟨X.admits, X.cas, X.clock, X.frames, X.room, X.hears, X.method, X.code, (X.here.setHeapUsed s₂.heap s₂.slotsUsed).setVm hW'.alike, X.tail, State.WarmedH.trans X.warmed hW', X.limits, X.bytes, X.same.trans (hsame.setVm s.vm)⟩,
      ⟨g, mk, s₂, L, rfl, rfl, hqc, rfl, hL, rfl, rfl⟩, ?_⟩
    show Steps p.tables e below _ ((({ U with heap := s₂.heap, slotsUsed := s₂.slotsUsed } : State).setVm s₂.vm).setTop { g with pc := g.pc + len₂, stack := v.toList ++ g.stack })
    rw [← hs₂]
    exact hsteps
  · obtain ⟨e2, q2, q3, q4, q5, q6⟩ := id hsm
    have e3 : s₂ = ({ (U.calling g mk a).setFrames s₂.frames with heap := s₂.heap, slotsUsed := s₂.slotsUsed } : State).setVm s₂.vm := by
      have : s₂ = ({ s₂ with vm := (U.calling g mk a).vm } : State).setVm s₂.vm := rfl
      rw [e2] at this
      exact this
    have hf₂ : s₂.frames = .throwing q :: .java g :: U.frames.tail := hend
    have hW' : U.WarmedH s₂.vm := hW₂
    have hs₂ : s₂ = ((({ U with heap := s₂.heap, slotsUsed := s₂.slotsUsed } : State).setVm s₂.vm).setTop g).pushFrame (.throwing q) := by
      refine e3.trans ?_
      rw [hf₂, State.calling_eq h.top, State.setFrames_setFrames, State.pushFrame, State.frames_setTop _ hr', State.setTop_of_frames _ hr', State.setFrames_setFrames, hr]
      rfl
    have hsame : U.sameButNew ({ U with heap := s₂.heap, slotsUsed := s₂.slotsUsed } : State) L mc ms := by
      refine ⟨?_, q2, q3, q4, q5, q6⟩
      obtain ⟨t, ht, -⟩ := State.frames_cons hr
      show ({ U with heap := s₂.heap, slotsUsed := s₂.slotsUsed } : State) = { U.setFrames U.frames with heap := s₂.heap, slotsUsed := s₂.slotsUsed }
      rw [State.setFrames_self ht]
    subst hg
    refine Or.inr ⟨q, ⟨(({ U with heap := s₂.heap, slotsUsed := s₂.slotsUsed } : State).setVm s₂.vm), Ls ++ L, c0 + mc, s0 + ms⟩,
      ⟨X.admits, X.cas, X.clock, X.frames, X.room, X.hears, X.method, X.code, (X.here.setHeapUsed s₂.heap s₂.slotsUsed).setVm hW'.alike, X.tail, State.WarmedH.trans X.warmed hW', X.limits, X.bytes, X.same.trans (hsame.setVm s.vm)⟩,
      ⟨g, mk, s₂, L, E, ce, rfl, rfl, hx, hce, hcv, hcl, rfl, hL, rfl, rfl⟩, ?_⟩
    show Steps p.tables e below _ (((({ U with heap := s₂.heap, slotsUsed := s₂.slotsUsed } : State).setVm s₂.vm).setTop g).pushFrame (.throwing q))
    rw [← hs₂]
    exact hsteps
end
variable {p : Program} {l : Launch} {e : Env} {R : Room} {s : State} {m : MethodId} {args : Array Value} {below : List Frame} {meth : Method} {c : Code} {T : State} {H : Heap} {locs : List Loc} {cells slots : Nat}
theorem vx_callVX (X : Stand p l e R s m args below meth c T locs cells slots) (hexec : p.tables.exec = Jvm.exec) {own C : String} {index : Nat} {y : MethodName} {bytes : ByteArray} {maxL : Nat} {ret : Option FieldType} {hh : List (Nat × Nat × Nat × Nat)}
    (hown : s.vm.findClass own = some m.cls) (hlink : (Cond.methodLink own index y).before args s = true) (hinst : (Cond.instanceMethod y).before args s = true) (hsel : (Cond.selects C y y).before args s = true)
    (hcode : (Cond.codeWith y bytes maxL ret hh).before args s = true) (hy : y.cls ≠ "java/lang/invoke/MethodHandle" ∧ y.cls ≠ "java/lang/invoke/VarHandle")
    {W9 : Nat} {Pre : Pt → Array Value → Prop} {Post : Pt → Array Value → Option Value → Pt → Prop} {PostX : Pt → Array Value → Addr → Pt → Prop} (hK : vx_Back l R p e below s args y 3 W9 Pre Post PostX)
    {b : Addr} {cellB : Cell} (hcell : T.heap[b]? = some cellB) (hobj : cellB.vm.isStatics = false) (hcls : s.vm.findClass C = some cellB.cls)
    {g : JFrame} (hg : g.method = m) (hsize : g.locals.size = c.maxLocals) {argsL rest : List Value} (hlen : ∀ sig, parseMethodDescriptor y.desc = some sig → argsL.length = sig.parameters.length)
    (hstack : g.stack = argsL.reverse ++ .ref b :: rest) (hW : 2 * g.monitorRoom + (rest.map fun v => v.category).sum ≤ W9) (hdg : decode c.code g.pc = .ok (.invokevirtual index, 3))
    (hpre : ∀ vm₁, s.WarmedH vm₁ → Pre ⟨T.setVm vm₁, locs, cells, slots⟩ (Value.ref b :: argsL).toArray) :
    (∃ (v : Option Value) (vm₁ : Vm) (B : Pt), s.WarmedH vm₁ ∧ Stand p l e R s m args below meth c B.U B.locs B.cells B.slots ∧ Post ⟨T.setVm vm₁, locs, cells, slots⟩ (Value.ref b :: argsL).toArray v B ∧
      ∀ target, Steps p.tables e below (B.U.setTop { g with pc := g.pc + 3, stack := v.toList ++ rest }) target → Steps p.tables e below (T.setTop g) target) ∨
    (∃ (q : Addr) (vm₁ : Vm) (B : Pt), s.WarmedH vm₁ ∧ Stand p l e R s m args below meth c B.U B.locs B.cells B.slots ∧ PostX ⟨T.setVm vm₁, locs, cells, slots⟩ (Value.ref b :: argsL).toArray q B ∧
      Steps p.tables e below (T.setTop g) ((B.U.setTop { g with stack := rest }).pushFrame (.throwing q))) := by
  obtain ⟨mk, methM, hnamed, hmethM, hstM, habM⟩ := Cond.instanceMethod_spec hinst
  obtain ⟨m8, methM', cM, hn8, hmethM', -, -, -, -, -, -, hsigM⟩ := Cond.codeWith_spec hcode
  cases Option.some.inj (hn8.symm.trans hnamed)
  cases hmethM.symm.trans hmethM'
  obtain ⟨c2, r2, m2, q1, q2, q3, q4, kP, hkP, hkPi⟩ := Cond.selects_spec hsel
  cases hcls.symm.trans q1
  cases (State.methodFound?_of_named hnamed hy).symm.trans q2
  cases hnamed.symm.trans q3
  have hselP : selectMethod e.platform s.vm cellB.cls mk = .method mk := by rw [Launch.admits_selectMethod X.admits]; exact q4
  obtain ⟨vm₁, X₁, hstep₁⟩ := X.invokevirtual hexec hown hlink hnamed hmethM hstM hkP hkPi hy (a := b) (cell := cellB) hcell
    (fun z h => by rw [h] at hobj; cases hobj) hselP hmethM habM hkP hkPi (g := g) hg (argsL := argsL) (rest := rest) (hlen _ hsigM) hstack hdg
  rcases hK m meth c ⟨T.setVm vm₁, locs, cells, slots⟩ { g with stack := rest } (.invokevirtual index) mk (Value.ref b :: argsL).toArray X₁ hg hsize hdg hW (X₁.named hnamed) (hpre vm₁ X₁.warmed) with ⟨v, B, X', hpost, hsteps⟩ | ⟨q, B, X', hpost, hsteps⟩
  · exact Or.inl ⟨v, vm₁, B, X₁.warmed, X', hpost, fun target h => hstep₁ _ fun acts => by rw [doInvoke_state]; exact hsteps.trans h⟩
  · exact Or.inr ⟨q, vm₁, B, X₁.warmed, X', hpost, hstep₁ _ fun acts => by rw [doInvoke_state]; exact hsteps⟩
theorem vx_callSX (X : Stand p l e R s m args below meth c T locs cells slots) (hexec : p.tables.exec = Jvm.exec) {own : String} {index : Nat} {y : MethodName} {bytes : ByteArray} {maxL : Nat} {ret : Option FieldType} {hh : List (Nat × Nat × Nat × Nat)}
    (hown : s.vm.findClass own = some m.cls) (hlink : (Cond.methodLink own index y).before args s = true) (hstat : (Cond.static y).before args s = true) (hinit : (Cond.initialized y.cls).before args s = true)
    (hcode : (Cond.codeWith y bytes maxL ret hh).before args s = true) (hy : y.cls ≠ "java/lang/invoke/MethodHandle" ∧ y.cls ≠ "java/lang/invoke/VarHandle")
    {W9 : Nat} {Pre : Pt → Array Value → Prop} {Post : Pt → Array Value → Option Value → Pt → Prop} {PostX : Pt → Array Value → Addr → Pt → Prop} (hK : vx_Back l R p e below s args y 3 W9 Pre Post PostX)
    {g : JFrame} (hg : g.method = m) (hsize : g.locals.size = c.maxLocals) {argsL rest : List Value} (hlen : ∀ sig, parseMethodDescriptor y.desc = some sig → argsL.length = sig.parameters.length)
    (hstack : g.stack = argsL.reverse ++ rest) (hW : 2 * g.monitorRoom + (rest.map fun v => v.category).sum ≤ W9) (hdg : decode c.code g.pc = .ok (.invokestatic index, 3))
    (hpre : ∀ vm₁, s.WarmedH vm₁ → Pre ⟨T.setVm vm₁, locs, cells, slots⟩ argsL.toArray) :
    (∃ (v : Option Value) (vm₁ : Vm) (B : Pt), s.WarmedH vm₁ ∧ Stand p l e R s m args below meth c B.U B.locs B.cells B.slots ∧ Post ⟨T.setVm vm₁, locs, cells, slots⟩ argsL.toArray v B ∧
      ∀ target, Steps p.tables e below (B.U.setTop { g with pc := g.pc + 3, stack := v.toList ++ rest }) target → Steps p.tables e below (T.setTop g) target) ∨
    (∃ (q : Addr) (vm₁ : Vm) (B : Pt), s.WarmedH vm₁ ∧ Stand p l e R s m args below meth c B.U B.locs B.cells B.slots ∧ PostX ⟨T.setVm vm₁, locs, cells, slots⟩ argsL.toArray q B ∧
      Steps p.tables e below (T.setTop g) ((B.U.setTop { g with stack := rest }).pushFrame (.throwing q))) := by
  obtain ⟨mk, methM, cM, hnamed, hmethM, -, -, -, -, -, -, hsigM⟩ := Cond.codeWith_spec hcode
  have hstatic : methM.isStatic = true := Cond.static_spec hnamed hmethM hstat
  obtain ⟨kP, hkP, -⟩ := className_of_methodNamed hnamed
  have hinitP : kP.init = .initialized := Cond.initialized_spec (findClass_of_methodNamed hnamed) hkP hinit
  obtain ⟨vm₁, X₁, hstep₁⟩ := X.invokestatic hexec hown hlink hnamed hmethM hstatic hkP hinitP hy (g := g) hg (argsL := argsL) (rest := rest) (hlen _ hsigM) hstack hdg
  rcases hK m meth c ⟨T.setVm vm₁, locs, cells, slots⟩ { g with stack := rest } (.invokestatic index) mk argsL.toArray X₁ hg hsize hdg hW (X₁.named hnamed) (hpre vm₁ X₁.warmed) with ⟨v, B, X', hpost, hsteps⟩ | ⟨q, B, X', hpost, hsteps⟩
  · exact Or.inl ⟨v, vm₁, B, X₁.warmed, X', hpost, fun target h => hstep₁ _ fun acts => by rw [doInvoke_state]; exact hsteps.trans h⟩
  · exact Or.inr ⟨q, vm₁, B, X₁.warmed, X', hpost, hstep₁ _ fun acts => by rw [doInvoke_state]; exact hsteps⟩
theorem vx_callVW (X : Stand p l e R s m args below meth c T locs cells slots) (hexec : p.tables.exec = Jvm.exec) {own C : String} {index : Nat} {y : MethodName} {bytes : ByteArray} {maxL : Nat} {ret : Option FieldType} {hh : List (Nat × Nat × Nat × Nat)}
    (hown : s.vm.findClass own = some m.cls) (hlink : (Cond.methodLink own index y).before args s = true) (hinst : (Cond.instanceMethod y).before args s = true) (hsel : (Cond.selects C y y).before args s = true)
    (hcode : (Cond.codeWith y bytes maxL ret hh).before args s = true) (hy : y.cls ≠ "java/lang/invoke/MethodHandle" ∧ y.cls ≠ "java/lang/invoke/VarHandle")
    {W9 : Nat} {Pre : Pt → Array Value → Prop} {Post : Pt → Array Value → Option Value → Pt → Prop} (hK : Back l R p e below s args y 3 W9 Pre Post)
    {b : Addr} {cellB : Cell} (hcell : T.heap[b]? = some cellB) (hobj : cellB.vm.isStatics = false) (hcls : s.vm.findClass C = some cellB.cls)
    {g : JFrame} (hg : g.method = m) (hsize : g.locals.size = c.maxLocals) {argsL rest : List Value} (hlen : ∀ sig, parseMethodDescriptor y.desc = some sig → argsL.length = sig.parameters.length)
    (hstack : g.stack = argsL.reverse ++ .ref b :: rest) (hW : 2 * g.monitorRoom + (rest.map fun v => v.category).sum ≤ W9) (hdg : decode c.code g.pc = .ok (.invokevirtual index, 3))
    (hpre : ∀ vm₁, s.WarmedH vm₁ → Pre ⟨T.setVm vm₁, locs, cells, slots⟩ (Value.ref b :: argsL).toArray) :
    ∃ (v : Option Value) (vm₁ : Vm) (B : Pt), s.WarmedH vm₁ ∧ Stand p l e R s m args below meth c B.U B.locs B.cells B.slots ∧ Post ⟨T.setVm vm₁, locs, cells, slots⟩ (Value.ref b :: argsL).toArray v B ∧
      ∀ target, Steps p.tables e below (B.U.setTop { g with pc := g.pc + 3, stack := v.toList ++ rest }) target → Steps p.tables e below (T.setTop g) target := by
  obtain ⟨mk, methM, hnamed, hmethM, hstM, habM⟩ := Cond.instanceMethod_spec hinst
  obtain ⟨m8, methM', cM, hn8, hmethM', -, -, -, -, -, -, hsigM⟩ := Cond.codeWith_spec hcode
  cases Option.some.inj (hn8.symm.trans hnamed)
  cases hmethM.symm.trans hmethM'
  obtain ⟨c2, r2, m2, q1, q2, q3, q4, kP, hkP, hkPi⟩ := Cond.selects_spec hsel
  cases hcls.symm.trans q1
  cases (State.methodFound?_of_named hnamed hy).symm.trans q2
  cases hnamed.symm.trans q3
  have hselP : selectMethod e.platform s.vm cellB.cls mk = .method mk := by rw [Launch.admits_selectMethod X.admits]; exact q4
  obtain ⟨vm₁, X₁, hstep₁⟩ := X.invokevirtual hexec hown hlink hnamed hmethM hstM hkP hkPi hy (a := b) (cell := cellB) hcell
    (fun z h => by rw [h] at hobj; cases hobj) hselP hmethM habM hkP hkPi (g := g) hg (argsL := argsL) (rest := rest) (hlen _ hsigM) hstack hdg
  obtain ⟨v, B, X', hpost, hsteps⟩ := hK m meth c ⟨T.setVm vm₁, locs, cells, slots⟩ { g with stack := rest } (.invokevirtual index) mk (Value.ref b :: argsL).toArray X₁ hg hsize hdg hW (X₁.named hnamed) (hpre vm₁ X₁.warmed)
  exact ⟨v, vm₁, B, X₁.warmed, X', hpost, fun target h => hstep₁ _ fun acts => by rw [doInvoke_state]; exact hsteps.trans h⟩
abbrev vx_CVW (R : Room) (s : State) (args : Array Value) (own C : String) (index : Nat) (y : MethodName) (bytes : ByteArray) (maxL : Nat) (ret : Option FieldType) (hh : List (Nat × Nat × Nat × Nat)) (ws : List Cond) (rm : Room) (mc ms n : Nat) : Prop :=
  (rm.cells = mc ∧ rm.slots = ms ∧ rm.frames + 1 ≤ R.frames ∧ 8 + (maxL + 11) + rm.locals ≤ R.locals ∧ (∀ w ∈ ws, ∀ (a' : Array Value) (U : State), s.WarmedH U.vm → w.before a' U = true) ∧ Cond.codeWith y bytes maxL ret hh ∈ ws) ∧
  (Cond.codeWith y bytes maxL ret hh).before args s = true ∧ (Cond.initialized y.cls).before args s = true ∧ (y.cls ≠ "java/lang/invoke/MethodHandle" ∧ y.cls ≠ "java/lang/invoke/VarHandle") ∧
  (∀ sig, parseMethodDescriptor y.desc = some sig → n = sig.parameters.length) ∧ (Cond.methodLink own index y).before args s = true ∧ (Cond.instanceMethod y).before args s = true ∧ (Cond.selects C y y).before args s = true
theorem vx_cwVW {own C : String} {index maxL mc ms : Nat} {y : MethodName} {bytes : ByteArray} {ret : Option FieldType} {hh : List (Nat × Nat × Nat × Nat)} {Ts ws ws' : List Cond} {rm : Room} (n : Nat) (ht : ∀ w ∈ Ts, w.before args s = true) (hT : GoodIn Ts (wsV own index C y ws)) (hw : ws = Cond.codeWith y bytes maxL ret hh :: ws') (hrc : rm.cells = mc) (hrs : rm.slots = ms)
    (hd : y.cls = C ∧ y.cls ≠ "java/lang/invoke/MethodHandle" ∧ y.cls ≠ "java/lang/invoke/VarHandle" ∧ (parseMethodDescriptor y.desc).map (fun d => d.parameters.length) = some n) (hR : rm.frames + 1 ≤ R.frames ∧ 8 + (maxL + 11) + rm.locals ≤ R.locals) :
    vx_CVW R s args own C index y bytes maxL ret hh ws rm mc ms n := by
  obtain ⟨hC, hd⟩ := hd
  subst hC
  have ok : ∀ w ∈ wsV own index y.cls y ws, w.before args s = true := fun w h => ht w (hT w h).1
  have hG : GoodIn Ts ws := fun w h => hT w (by unfold wsV; exact List.mem_append_right _ h)
  have hc : Cond.codeWith y bytes maxL ret hh ∈ ws := by rw [hw]; exact List.mem_cons_self
  refine ⟨⟨hrc, hrs, hR.1, hR.2, pay_in ht hG, hc⟩, ht _ (hG _ hc).1, ok _ (by simp [wsV]), ⟨hd.1, hd.2.1⟩, fun sig h => ?_, ok _ (by simp [wsV]), ok _ (by simp [wsV]), ok _ (by simp [wsV])⟩
  have h2 := hd.2.2
  rw [h] at h2
  exact (Option.some.inj h2).symm
theorem vx_runVW {y : MethodName} {bytes cc : ByteArray} {maxL nL mc ms n index : Nat} {ret : Option FieldType} {hh : List (Nat × Nat × Nat × Nat)} {ws : List Cond} {rm : Room} {Pc : Array Value → State → Prop} {Qc : Array Value → State → Outcome → State → Prop} {free : Addr → Prop} {Ts : List Cond} {own C : String} {b : Addr} {As rest : List Value} {g : JFrame}
    (S : CallFix p m c cc nL s args Ts own) (hM : Met l y ws rm Pc Qc mc ms free) (cw : vx_CVW R s args own C index y bytes maxL ret hh ws rm mc ms n) (hp : PreV s H C b Pc As)
    (hg : g.method = m) (hn : As.length = n) (hsize : g.locals.size = nL) (hstack : g.stack = As.reverse ++ .ref b :: rest) (hW : 2 * g.monitorRoom + (rest.map fun v => v.category).sum ≤ 8) (hdg : decode cc g.pc = .ok (.invokevirtual index, 3)) (hf : cells + mc ≤ R.cells ∧ slots + ms ≤ R.slots) :
    va_Run p l e R s m args below meth c H locs cells slots mc ms g rest (Qc (Value.ref b :: As).toArray) free := by
  obtain ⟨⟨hrc, hrs, hfr, hlo, hws, hcw⟩, hcode, hini, hy, hlen, hl, hin, hse⟩ := cw
  have hK : Back l R p e below s args y 3 8 (PreOf R mc ms Pc) (PostOf Qc mc ms free) := va_backW (hh := hh) (bytes := bytes) (maxL := maxL) (ret := ret) hM hp.1 hrc hrs hfr hlo hws hcw (fun a' U hW => word_at hW (Or.inl (by first | rfl | simp [Cond.onTables, Cond.keeps, Cond.steady])) hini)
  obtain ⟨hx, hb, hml, ho, -⟩ := S
  obtain ⟨-, ⟨cellB, hcB, hoB, hclB⟩, hPc⟩ := hp
  intro T hT X
  obtain ⟨v, vm₁, ⟨U', l2, c2, s2⟩, hW₁, X', ⟨g', mk, t, L, e1, e2, hq, h1, hL, h2, h3⟩, st⟩ := vx_callVW X hx (C := C) (hh := hh) (bytes := bytes) (maxL := maxL) (ret := ret) ho hl hin hse hcode hy hK (by rw [hT]; exact hcB) hoB hclB hg (hsize.trans hml.symm) (argsL := As) (rest := rest) (fun sig h => hn.trans (hlen sig h)) hstack hW (by rw [hb]; exact hdg)
    (fun vm₁ hW₁ => ⟨hf.1, hf.2, hPc (T.setVm vm₁) hT hW₁⟩)
  dsimp only [Pt.U, Pt.locs, Pt.cells, Pt.slots] at X' e1 e2 h1 h2 h3 st
  subst h1; subst h2; subst h3
  exact ⟨v, (T.setVm vm₁).calling g' mk (Value.ref b :: As).toArray, t, U', L, hT, X', hL, e1, e2, hq, st⟩
section
variable {y : MethodName} {bytes cc : ByteArray} {maxL nL mc ms n index : Nat} {ret : Option FieldType} {ws : List Cond} {rm : Room} {Pc : Array Value → State → Prop} {Qc : Array Value → State → Outcome → State → Prop} {XC : String → State → State → Prop} {free : Addr → Prop} {Ts : List Cond} {own C : String} {b : Addr} {As rest : List Value} {g : JFrame}
theorem vx_runVX {hh : List (Nat × Nat × Nat × Nat)} (S : CallFix p m c cc nL s args Ts own) (hM : vx_Met l y ws rm Pc Qc XC mc ms free) (cw : vx_CVW R s args own C index y bytes maxL ret hh ws rm mc ms n) (hp : PreV s H C b Pc As)
    (hg : g.method = m) (hn : As.length = n) (hsize : g.locals.size = nL) (hstack : g.stack = As.reverse ++ .ref b :: rest) (hW : 2 * g.monitorRoom + (rest.map fun v => v.category).sum ≤ 8) (hdg : decode cc g.pc = .ok (.invokevirtual index, 3)) (hf : cells + mc ≤ R.cells ∧ slots + ms ≤ R.slots) :
    vx_Run p l e R s m args below meth c H locs cells slots mc ms g rest (Qc (Value.ref b :: As).toArray) XC free := by
  obtain ⟨⟨hrc, hrs, hfr, hlo, hws, hcw⟩, hcode, hini, hy, hlen, hl, hin, hse⟩ := cw
  have hK : vx_Back l R p e below s args y 3 8 (PreOf R mc ms Pc) (PostOf Qc mc ms free) (vx_Post XC mc ms free) := vx_backW (hh := hh) (bytes := bytes) (maxL := maxL) (ret := ret) hM hp.1 hrc hrs hfr hlo hws hcw (fun a' U hW => word_at hW (Or.inl (by first | rfl | simp [Cond.onTables, Cond.keeps, Cond.steady])) hini)
  obtain ⟨hx, hb, hml, ho, -⟩ := S
  obtain ⟨-, ⟨cellB, hcB, hoB, hclB⟩, hPc⟩ := hp
  intro T hT X
  rcases vx_callVX X hx (C := C) (hh := hh) (bytes := bytes) (maxL := maxL) (ret := ret) ho hl hin hse hcode hy hK (by rw [hT]; exact hcB) hoB hclB hg (hsize.trans hml.symm) (argsL := As) (rest := rest) (fun sig h => hn.trans (hlen sig h)) hstack hW (by rw [hb]; exact hdg)
    (fun vm₁ hW₁ => ⟨hf.1, hf.2, hPc (T.setVm vm₁) hT hW₁⟩) with ⟨v, vm₁, ⟨U', l2, c2, s2⟩, hW₁, X', ⟨g', mk, t, L, e1, e2, hq, h1, hL, h2, h3⟩, st⟩ | ⟨q, vm₁, ⟨U', l2, c2, s2⟩, hW₁, X', ⟨g', mk, t, L, E, ce, e1, e2, hq, hce, hcv, hcl, h1, hL, h2, h3⟩, st⟩
  · dsimp only [Pt.U, Pt.locs, Pt.cells, Pt.slots] at X' e1 e2 h1 h2 h3 st
    subst h1; subst h2; subst h3
    exact Or.inl ⟨v, (T.setVm vm₁).calling g' mk (Value.ref b :: As).toArray, t, U', L, hT, X', hL, e1, e2, hq, st⟩
  · dsimp only [Pt.U, Pt.locs, Pt.cells, Pt.slots] at X' e1 e2 h1 h2 h3 st hcl
    subst h1; subst h2; subst h3
    exact Or.inr ⟨q, (T.setVm vm₁).calling g' mk (Value.ref b :: As).toArray, t, U', L, E, ce, hT, X', hL, e1, e2, hq, hce, hcv, vx_cls hW₁ hcl, st⟩
theorem vx_runSX {hh : List (Nat × Nat × Nat × Nat)} (S : CallFix p m c cc nL s args Ts own) (hM : vx_Met l y ws rm Pc Qc XC mc ms free) (cw : vx_CSW R s args own index y bytes maxL ret hh ws rm mc ms n) (hp : PreS s H Pc As)
    (hg : g.method = m) (hn : As.length = n) (hsize : g.locals.size = nL) (hstack : g.stack = As.reverse ++ rest) (hW : 2 * g.monitorRoom + (rest.map fun v => v.category).sum ≤ 8) (hdg : decode cc g.pc = .ok (.invokestatic index, 3)) (hf : cells + mc ≤ R.cells ∧ slots + ms ≤ R.slots) :
    vx_Run p l e R s m args below meth c H locs cells slots mc ms g rest (Qc As.toArray) XC free := by
  obtain ⟨⟨hrc, hrs, hfr, hlo, hws, hcw⟩, hcode, hini, hy, hlen, hl, hstt⟩ := cw
  have hK : vx_Back l R p e below s args y 3 8 (PreOf R mc ms Pc) (PostOf Qc mc ms free) (vx_Post XC mc ms free) := vx_backW (hh := hh) (bytes := bytes) (maxL := maxL) (ret := ret) hM hp.1 hrc hrs hfr hlo hws hcw (fun a' U hW => word_at hW (Or.inl (by first | rfl | simp [Cond.onTables, Cond.keeps, Cond.steady])) hini)
  obtain ⟨hx, hb, hml, ho, -⟩ := S
  intro T hT X
  rcases vx_callSX X hx (hh := hh) (bytes := bytes) (maxL := maxL) (ret := ret) ho hl hstt hini hcode hy hK hg (hsize.trans hml.symm) (argsL := As) (rest := rest) (fun sig h => hn.trans (hlen sig h)) hstack hW (by rw [hb]; exact hdg)
    (fun vm₁ hW₁ => ⟨hf.1, hf.2, hp.2 (T.setVm vm₁) hT hW₁⟩) with ⟨v, vm₁, ⟨U', l2, c2, s2⟩, hW₁, X', ⟨g', mk, t, L, e1, e2, hq, h1, hL, h2, h3⟩, st⟩ | ⟨q, vm₁, ⟨U', l2, c2, s2⟩, hW₁, X', ⟨g', mk, t, L, E, ce, e1, e2, hq, hce, hcv, hcl, h1, hL, h2, h3⟩, st⟩
  · dsimp only [Pt.U, Pt.locs, Pt.cells, Pt.slots] at X' e1 e2 h1 h2 h3 st
    subst h1; subst h2; subst h3
    exact Or.inl ⟨v, (T.setVm vm₁).calling g' mk As.toArray, t, U', L, hT, X', hL, e1, e2, hq, st⟩
  · dsimp only [Pt.U, Pt.locs, Pt.cells, Pt.slots] at X' e1 e2 h1 h2 h3 st hcl
    subst h1; subst h2; subst h3
    exact Or.inr ⟨q, (T.setVm vm₁).calling g' mk As.toArray, t, U', L, E, ce, hT, X', hL, e1, e2, hq, hce, hcv, vx_cls hW₁ hcl, st⟩
end
end VXH
theorem vx_ofWH {l : Launch} {y : MethodName} {ws ws' : List Cond} {rm : Room} {Pc : Array Value → State → Prop} {Qc : Array Value → State → Outcome → State → Prop} {XC : String → State → State → Prop} {mc ms : Nat} {free : Addr → Prop} {cc : ByteArray} {maxL : Nat} {ret : Option FieldType} {hh : List (Nat × Nat × Nat × Nat)}
    (hy : plainName y.cls = true) (hw : ws = Cond.codeWith y cc maxL ret hh :: ws')
    (body : ∀ p e s m args below meth c s₁, BodyLoose p l y (headSpec ws rm) cc maxL ret e s m args below meth c s₁ → c.maxLocals = maxL → Pc args s →
      W p l e (headSpec ws rm).room s m args below meth c s.heap [] 0 0 (vx_MQ below Qc XC args s mc ms free) (entryFrame m args maxL)) : vx_Met l y ws rm Pc Qc XC mc ms free := by
  refine MetFree.of_bodyS (code := cc) (maxLocals := maxL) (ret := ret) hy ?_ ?_
  · intro args s m h hn
    obtain ⟨m9, meth, c, hn9, h1, h2, h3, h4, -, h5, h6, -⟩ := Cond.codeWith_spec (atoms_spec (ws := ws) h _ (by rw [hw]; exact List.mem_cons_self))
    cases hn.symm.trans hn9
    exact ⟨meth, c, h1, h2, h3, h4, h5, h6⟩
  · intro p e s m args below meth c s₁ B hml hP _
    have hh0 : s₁.heap = s.heap := by rw [B.state]; rfl
    obtain ⟨t, a1, o, b1, b2, b3⟩ := body p e s m args below meth c s₁ B hml hP s₁ hh0 (Stand.of_body B)
    exact ⟨t, o, a1, b1, b2, b3⟩
/-! ===== END ===== -/

/-! ===== BEGIN printed: names, fields, word lists, decode rows ===== -/
def RX0 : String := "RoamingHouse$Call"
def TX0 : u_T := fun k => match k with
  | 0 => ("RoamingHouse$Call", "file", "LRoamingHouse$CallFile;", true)
  | 1 => ("RoamingHouse$Call", "seconds", "I", true)
  | 2 => ("RoamingHouse$Call", "told", "I", true)
  | 3 => ("RoamingHouse$Call", "state", "I", false)
  | 4 => ("RoamingHouse$Call", "acceptedIn", "I", false)
  | 5 => ("RoamingHouse$Call", "disputedIn", "I", false)
  | _ => ("RoamingHouse$Call", "secondsAhead", "I", false)
def tyX0 : Nat → FieldType := fun k => match k with
  | 0 => .object "RoamingHouse$CallFile"
  | 1 => .int
  | 2 => .int
  | 3 => .int
  | 4 => .int
  | 5 => .int
  | _ => .int
abbrev wsX00 : List Cond := u_ws RX0 TX0 7
theorem nmX0 : ∀ a, a < 7 → ∀ b, b < 7 → a ≠ b → (TX0 a).2.1 ≠ (TX0 b).2.1 := by decide +kernel
theorem tyX0_ok : ∀ k, k < 7 → parseFieldDescriptor (TX0 k).2.2.1 = some (tyX0 k) := by decide +kernel
abbrev cX0_init : ByteArray := prog_2_method_1_code
def yX0_init : MethodName := ⟨RX0, "<init>", "(LRoamingHouse$CallFile;II)V"⟩
abbrev cX0_isRight : ByteArray := prog_2_method_2_code
def yX0_isRight : MethodName := ⟨RX0, "isRight", "()Z"⟩
abbrev cX0_acceptIn : ByteArray := prog_2_method_3_code
def yX0_acceptIn : MethodName := ⟨RX0, "acceptIn", "(I)V"⟩
abbrev cX0_amount : ByteArray := prog_2_method_4_code
def yX0_amount : MethodName := ⟨RX0, "amount", "()I"⟩
def RX1 : String := "RoamingHouse$CallFile"
def TX1 : u_T := fun k => match k with
  | 0 => ("RoamingHouse$CallFile", "pair", "LRoamingHouse$Pair;", true)
  | 1 => ("RoamingHouse$CallFile", "begunIn", "I", true)
  | 2 => ("RoamingHouse$CallFile", "state", "I", false)
  | 3 => ("RoamingHouse$CallFile", "size", "I", false)
  | _ => ("RoamingHouse$CallFile", "number", "I", false)
def tyX1 : Nat → FieldType := fun k => match k with
  | 0 => .object "RoamingHouse$Pair"
  | 1 => .int
  | 2 => .int
  | 3 => .int
  | _ => .int
abbrev wsX10 : List Cond := u_ws RX1 TX1 5
theorem nmX1 : ∀ a, a < 5 → ∀ b, b < 5 → a ≠ b → (TX1 a).2.1 ≠ (TX1 b).2.1 := by decide +kernel
theorem tyX1_ok : ∀ k, k < 5 → parseFieldDescriptor (TX1 k).2.2.1 = some (tyX1 k) := by decide +kernel
abbrev cX1_init : ByteArray := prog_3_method_1_code
def yX1_init : MethodName := ⟨RX1, "<init>", "(LRoamingHouse$Pair;I)V"⟩
def RX2 : String := "RoamingHouse$Operator"
def TX2 : u_T := fun k => match k with
  | 0 => ("RoamingHouse$Operator", "step", "I", false)
  | 1 => ("RoamingHouse$Operator", "price", "I", false)
  | 2 => ("RoamingHouse$Operator", "beginning", "I", false)
  | _ => ("RoamingHouse$Operator", "unitRate", "I", false)
def tyX2 : Nat → FieldType := fun k => match k with
  | 0 => .int
  | 1 => .int
  | 2 => .int
  | _ => .int
abbrev wsX20 : List Cond := u_ws RX2 TX2 4
theorem nmX2 : ∀ a, a < 4 → ∀ b, b < 4 → a ≠ b → (TX2 a).2.1 ≠ (TX2 b).2.1 := by decide +kernel
theorem tyX2_ok : ∀ k, k < 4 → parseFieldDescriptor (TX2 k).2.2.1 = some (tyX2 k) := by decide +kernel
abbrev cX2_init : ByteArray := prog_4_method_1_code
def yX2_init : MethodName := ⟨RX2, "<init>", "()V"⟩
abbrev cX2_chargeFor : ByteArray := prog_4_method_2_code
def yX2_chargeFor : MethodName := ⟨RX2, "chargeFor", "(I)I"⟩
def RX3 : String := "RoamingHouse$Pair"
def TX3 : u_T := fun k => match k with
  | 0 => ("RoamingHouse$Pair", "host", "LRoamingHouse$Operator;", true)
  | 1 => ("RoamingHouse$Pair", "expectedNumber", "I", false)
  | 2 => ("RoamingHouse$Pair", "promised", "I", false)
  | 3 => ("RoamingHouse$Pair", "volume", "I", false)
  | 4 => ("RoamingHouse$Pair", "discountRate", "I", false)
  | 5 => ("RoamingHouse$Pair", "goesBack", "Z", false)
  | _ => ("RoamingHouse$Pair", "acceptedSeconds", "[I", true)
def tyX3 : Nat → FieldType := fun k => match k with
  | 0 => .object "RoamingHouse$Operator"
  | 1 => .int
  | 2 => .int
  | 3 => .int
  | 4 => .int
  | 5 => .boolean
  | _ => .array .int
abbrev wsX30 : List Cond := u_ws RX3 TX3 7
theorem nmX3 : ∀ a, a < 7 → ∀ b, b < 7 → a ≠ b → (TX3 a).2.1 ≠ (TX3 b).2.1 := by decide +kernel
theorem tyX3_ok : ∀ k, k < 7 → parseFieldDescriptor (TX3 k).2.2.1 = some (tyX3 k) := by decide +kernel
abbrev cX3_init : ByteArray := prog_5_method_1_code
def yX3_init : MethodName := ⟨RX3, "<init>", "(LRoamingHouse$Operator;)V"⟩
abbrev cX3_discounts : ByteArray := prog_5_method_2_code
def yX3_discounts : MethodName := ⟨RX3, "discounts", "(II)Z"⟩
def RX4 : String := "RoamingHouse"
def TX4 : u_T := fun k => match k with
  | 0 => ("RoamingHouse", "operators", "[LRoamingHouse$Operator;", true)
  | 1 => ("RoamingHouse", "pairs", "[LRoamingHouse$Pair;", true)
  | 2 => ("RoamingHouse", "fileRows", "[LRoamingHouse$CallFile;", true)
  | 3 => ("RoamingHouse", "fileCount", "I", false)
  | 4 => ("RoamingHouse", "callRows", "[LRoamingHouse$Call;", true)
  | 5 => ("RoamingHouse", "callCount", "I", false)
  | _ => ("RoamingHouse", "now", "I", false)
def tyX4 : Nat → FieldType := fun k => match k with
  | 0 => .array (.object "RoamingHouse$Operator")
  | 1 => .array (.object "RoamingHouse$Pair")
  | 2 => .array (.object "RoamingHouse$CallFile")
  | 3 => .int
  | 4 => .array (.object "RoamingHouse$Call")
  | 5 => .int
  | _ => .int
abbrev wsX40 : List Cond := u_ws RX4 TX4 7
theorem nmX4 : ∀ a, a < 7 → ∀ b, b < 7 → a ≠ b → (TX4 a).2.1 ≠ (TX4 b).2.1 := by decide +kernel
theorem tyX4_ok : ∀ k, k < 7 → parseFieldDescriptor (TX4 k).2.2.1 = some (tyX4 k) := by decide +kernel
abbrev cX4_init : ByteArray := prog_1_method_1_code
def yX4_init : MethodName := ⟨RX4, "<init>", "()V"⟩
abbrev cX4_setTariff : ByteArray := prog_1_method_2_code
def yX4_setTariff : MethodName := ⟨RX4, "setTariff", "(IIII)I"⟩
abbrev cX4_charge : ByteArray := prog_1_method_3_code
def yX4_charge : MethodName := ⟨RX4, "charge", "(II)I"⟩
abbrev cX4_begin : ByteArray := prog_1_method_4_code
def yX4_begin : MethodName := ⟨RX4, "begin", "(II)I"⟩
abbrev cX4_enter : ByteArray := prog_1_method_5_code
def yX4_enter : MethodName := ⟨RX4, "enter", "(III)I"⟩
abbrev cX4_send : ByteArray := prog_1_method_6_code
def yX4_send : MethodName := ⟨RX4, "send", "(II)I"⟩
abbrev cX4_stateOf : ByteArray := prog_1_method_7_code
def yX4_stateOf : MethodName := ⟨RX4, "stateOf", "(I)I"⟩
abbrev cX4_expected : ByteArray := prog_1_method_8_code
def yX4_expected : MethodName := ⟨RX4, "expected", "(II)I"⟩
abbrev cX4_lacking : ByteArray := prog_1_method_9_code
def yX4_lacking : MethodName := ⟨RX4, "lacking", "(II)I"⟩
abbrev cX4_calls : ByteArray := prog_1_method_10_code
def yX4_calls : MethodName := ⟨RX4, "calls", "()I"⟩
abbrev cX4_call : ByteArray := prog_1_method_11_code
def yX4_call : MethodName := ⟨RX4, "call", "(I)I"⟩
abbrev cX4_monthOf : ByteArray := prog_1_method_12_code
def yX4_monthOf : MethodName := ⟨RX4, "monthOf", "(I)I"⟩
abbrev cX4_owedFor : ByteArray := prog_1_method_13_code
def yX4_owedFor : MethodName := ⟨RX4, "owedFor", "(I)I"⟩
abbrev cX4_dispute : ByteArray := prog_1_method_14_code
def yX4_dispute : MethodName := ⟨RX4, "dispute", "(I)V"⟩
abbrev cX4_answer : ByteArray := prog_1_method_15_code
def yX4_answer : MethodName := ⟨RX4, "answer", "(IZ)V"⟩
abbrev cX4_agree : ByteArray := prog_1_method_16_code
def yX4_agree : MethodName := ⟨RX4, "agree", "(IIIIZ)V"⟩
abbrev cX4_promise : ByteArray := prog_1_method_17_code
def yX4_promise : MethodName := ⟨RX4, "promise", "(III)I"⟩
abbrev cX4_setRate : ByteArray := prog_1_method_18_code
def yX4_setRate : MethodName := ⟨RX4, "setRate", "(II)I"⟩
abbrev cX4_nextMonth : ByteArray := prog_1_method_19_code
def yX4_nextMonth : MethodName := ⟨RX4, "nextMonth", "()I"⟩
abbrev cX4_month : ByteArray := prog_1_method_20_code
def yX4_month : MethodName := ⟨RX4, "month", "()I"⟩
abbrev cX4_owed : ByteArray := prog_1_method_21_code
def yX4_owed : MethodName := ⟨RX4, "owed", "(III)J"⟩
abbrev cX4_shortfall : ByteArray := prog_1_method_22_code
def yX4_shortfall : MethodName := ⟨RX4, "shortfall", "(III)J"⟩
abbrev cX4_net : ByteArray := prog_1_method_23_code
def yX4_net : MethodName := ⟨RX4, "net", "(II)J"⟩
abbrev cX4_isOperator : ByteArray := prog_1_method_24_code
def yX4_isOperator : MethodName := ⟨RX4, "isOperator", "(I)Z"⟩
abbrev cX4_yearOf : ByteArray := prog_1_method_25_code
def yX4_yearOf : MethodName := ⟨RX4, "yearOf", "(I)I"⟩
abbrev cX4_refuseOutside : ByteArray := prog_1_method_26_code
def yX4_refuseOutside : MethodName := ⟨RX4, "refuseOutside", "(III)V"⟩
abbrev cX4_operatorAt : ByteArray := prog_1_method_27_code
def yX4_operatorAt : MethodName := ⟨RX4, "operatorAt", "(I)LRoamingHouse$Operator;"⟩
abbrev cX4_pairAt : ByteArray := prog_1_method_28_code
def yX4_pairAt : MethodName := ⟨RX4, "pairAt", "(II)LRoamingHouse$Pair;"⟩
abbrev cX4_fileAt : ByteArray := prog_1_method_29_code
def yX4_fileAt : MethodName := ⟨RX4, "fileAt", "(I)LRoamingHouse$CallFile;"⟩
abbrev cX4_callAt : ByteArray := prog_1_method_30_code
def yX4_callAt : MethodName := ⟨RX4, "callAt", "(I)LRoamingHouse$Call;"⟩
abbrev cX4_waitingFile : ByteArray := prog_1_method_31_code
def yX4_waitingFile : MethodName := ⟨RX4, "waitingFile", "(LRoamingHouse$Pair;I)LRoamingHouse$CallFile;"⟩
abbrev cX4_lookAtAllFrom : ByteArray := prog_1_method_32_code
def yX4_lookAtAllFrom : MethodName := ⟨RX4, "lookAtAllFrom", "(LRoamingHouse$CallFile;)V"⟩
abbrev cX4_lookAt : ByteArray := prog_1_method_33_code
def yX4_lookAt : MethodName := ⟨RX4, "lookAt", "(LRoamingHouse$CallFile;)V"⟩
abbrev cX4_wrongCallsOf : ByteArray := prog_1_method_34_code
def yX4_wrongCallsOf : MethodName := ⟨RX4, "wrongCallsOf", "(LRoamingHouse$CallFile;)I"⟩
abbrev cX4_acceptRightCallsOf : ByteArray := prog_1_method_35_code
def yX4_acceptRightCallsOf : MethodName := ⟨RX4, "acceptRightCallsOf", "(LRoamingHouse$CallFile;)V"⟩
abbrev cX4_giveBackUnanswered : ByteArray := prog_1_method_36_code
def yX4_giveBackUnanswered : MethodName := ⟨RX4, "giveBackUnanswered", "()V"⟩
abbrev cX4_amountOfMonths : ByteArray := prog_1_method_37_code
def yX4_amountOfMonths : MethodName := ⟨RX4, "amountOfMonths", "(LRoamingHouse$Pair;II)J"⟩
abbrev cX4_unitsOfMonth : ByteArray := prog_1_method_38_code
def yX4_unitsOfMonth : MethodName := ⟨RX4, "unitsOfMonth", "(LRoamingHouse$Pair;I)J"⟩
def RX5 : String := "RoamingHouseModel"
def TX5 : u_T := fun k => match k with
  | _ => ("", "", "", false)
def tyX5 : Nat → FieldType := fun k => match k with
  | _ => .int
abbrev wsX50 : List Cond := u_ws RX5 TX5 0
theorem nmX5 : ∀ a, a < 0 → ∀ b, b < 0 → a ≠ b → (TX5 a).2.1 ≠ (TX5 b).2.1 := by decide +kernel
theorem tyX5_ok : ∀ k, k < 0 → parseFieldDescriptor (TX5 k).2.2.1 = some (tyX5 k) := by decide +kernel
def RJ9 : String := "java/lang/Math"
def TJ9 : u_T := fun k => match k with
  | _ => ("", "", "", false)
def tyJ9 : Nat → FieldType := fun k => match k with
  | _ => .int
abbrev wsJ90 : List Cond := u_ws RJ9 TJ9 0
theorem nmJ9 : ∀ a, a < 0 → ∀ b, b < 0 → a ≠ b → (TJ9 a).2.1 ≠ (TJ9 b).2.1 := by decide +kernel
theorem tyJ9_ok : ∀ k, k < 0 → parseFieldDescriptor (TJ9 k).2.2.1 = some (tyJ9 k) := by decide +kernel
abbrev cJ9_max_7cf53 : ByteArray := prog_12_method_65_code
def yJ9_max_7cf53 : MethodName := ⟨RJ9, "max", "(II)I"⟩
abbrev cJ9_max_f86c9 : ByteArray := prog_12_method_66_code
def yJ9_max_f86c9 : MethodName := ⟨RJ9, "max", "(JJ)J"⟩
def RJ0 : String := "java/lang/String"
def TJ0 : u_T := fun k => match k with
  | _ => ("", "", "", false)
def tyJ0 : Nat → FieldType := fun k => match k with
  | _ => .int
abbrev wsJ00 : List Cond := u_ws RJ0 TJ0 0
theorem nmJ0 : ∀ a, a < 0 → ∀ b, b < 0 → a ≠ b → (TJ0 a).2.1 ≠ (TJ0 b).2.1 := by decide +kernel
theorem tyJ0_ok : ∀ k, k < 0 → parseFieldDescriptor (TJ0 k).2.2.1 = some (tyJ0 k) := by decide +kernel
def RL : String := "RoamingHouseLaw"
abbrev cL_charge : ByteArray := method_2_code
def yL_charge : MethodName := ⟨RL, "charge", "([III)I"⟩
abbrev cL_state : ByteArray := method_3_code
def yL_state : MethodName := ⟨RL, "state", "([II)I"⟩
abbrev cL_month : ByteArray := method_4_code
def yL_month : MethodName := ⟨RL, "month", "([II)I"⟩
abbrev cL_pair : ByteArray := method_5_code
def yL_pair : MethodName := ⟨RL, "pair", "([I[II)I"⟩
abbrev cL_looks : ByteArray := method_6_code
def yL_looks : MethodName := ⟨RL, "looks", "([I[I[I[I[I[I[II)V"⟩
abbrev cL_sends : ByteArray := method_7_code
def yL_sends : MethodName := ⟨RL, "sends", "([I[I[I[I[I[I[I[III)I"⟩
abbrev cL_owed : ByteArray := method_8_code
def yL_owed : MethodName := ⟨RL, "owed", "([I[I[I[I[I[I[IIIII)J"⟩
abbrev cL_does : ByteArray := method_9_code
def yL_does : MethodName := ⟨RL, "does", "(LRoamingHouse;IIII)I"⟩
abbrev cL_isDisputed : ByteArray := method_10_code
def yL_isDisputed : MethodName := ⟨RL, "isDisputed", "(LRoamingHouse;I)Z"⟩
abbrev cL_isAnswered : ByteArray := method_11_code
def yL_isAnswered : MethodName := ⟨RL, "isAnswered", "(LRoamingHouse;IZ)Z"⟩
abbrev cL_short1 : ByteArray := method_12_code
def yL_short1 : MethodName := ⟨RL, "short1", "(LRoamingHouse;III)J"⟩
abbrev cL_lacking : ByteArray := method_13_code
def yL_lacking : MethodName := ⟨RL, "lacking", "([I[I[II)I"⟩
abbrev cL_isHouse : ByteArray := method_14_code
def yL_isHouse : MethodName := ⟨RL, "isHouse", "(LRoamingHouse;[I[I[I[I[I[I[I[I[II)Z"⟩
abbrev cL_law : ByteArray := code
def yL_law : MethodName := ⟨RL, "law", "([I)Z"⟩
def wsX0_init : List Cond := .code yX0_init cX0_init 4 none :: ([.methodLink RX0 3 objectInit, .instanceMethod objectInit, .code objectInit ⟨#[0xb1]⟩ 1 none, .fieldLink RX0 9 "RoamingHouse$Call" "state" "I", .fieldLink RX0 15 "RoamingHouse$Call" "acceptedIn" "I", .fieldLink RX0 18 "RoamingHouse$Call" "disputedIn" "I", .fieldLink RX0 21 "RoamingHouse$Call" "secondsAhead" "I", .fieldLink RX0 24 "RoamingHouse$Call" "file" "LRoamingHouse$CallFile;", .fieldLink RX0 28 "RoamingHouse$Call" "seconds" "I", .fieldLink RX0 31 "RoamingHouse$Call" "told" "I"] ++ wsX00)
def wsX2_chargeFor : List Cond := .code yX2_chargeFor cX2_chargeFor 3 (some .int) :: ([.fieldLink RX2 9 "RoamingHouse$Operator" "step" "I", .fieldLink RX2 18 "RoamingHouse$Operator" "beginning" "I", .fieldLink RX2 15 "RoamingHouse$Operator" "price" "I"] ++ wsX20)
def wsX0_isRight : List Cond := .code yX0_isRight cX0_isRight 1 (some .boolean) :: ([.fieldLink RX0 31 "RoamingHouse$Call" "told" "I", .fieldLink RX0 24 "RoamingHouse$Call" "file" "LRoamingHouse$CallFile;", .fieldLink RX0 34 "RoamingHouse$CallFile" "pair" "LRoamingHouse$Pair;", .fieldLink RX0 40 "RoamingHouse$Pair" "host" "LRoamingHouse$Operator;", .fieldLink RX0 28 "RoamingHouse$Call" "seconds" "I", .methodLink RX0 46 yX2_chargeFor, .instanceMethod yX2_chargeFor, .selects RX2 yX2_chargeFor yX2_chargeFor, .initialized RX2, .code yX2_chargeFor cX2_chargeFor 3 (some .int), .fieldLink RX2 9 "RoamingHouse$Operator" "step" "I", .fieldLink RX2 18 "RoamingHouse$Operator" "beginning" "I", .fieldLink RX2 15 "RoamingHouse$Operator" "price" "I"] ++ wsX00 ++ wsX10 ++ wsX30 ++ wsX20)
def wsX4_yearOf : List Cond := .code yX4_yearOf cX4_yearOf 1 (some .int) :: ([])
def wsX0_acceptIn : List Cond := .code yX0_acceptIn cX0_acceptIn 3 none :: ([.fieldLink RX0 9 "RoamingHouse$Call" "state" "I", .fieldLink RX0 15 "RoamingHouse$Call" "acceptedIn" "I", .fieldLink RX0 24 "RoamingHouse$Call" "file" "LRoamingHouse$CallFile;", .fieldLink RX0 34 "RoamingHouse$CallFile" "pair" "LRoamingHouse$Pair;", .fieldLink RX0 55 "RoamingHouse$Pair" "acceptedSeconds" "[I", .fieldLink RX0 21 "RoamingHouse$Call" "secondsAhead" "I", .fieldLink RX0 28 "RoamingHouse$Call" "seconds" "I", .static yX4_yearOf, .initialized RX4, .code yX4_yearOf cX4_yearOf 1 (some .int)] ++ wsX00 ++ wsX10 ++ wsX30)
def wsX3_discounts : List Cond := .code yX3_discounts cX3_discounts 3 (some .boolean) :: ([.fieldLink RX3 24 "RoamingHouse$Pair" "goesBack" "Z", .fieldLink RX3 28 "RoamingHouse$Pair" "acceptedSeconds" "[I", .fieldLink RX3 18 "RoamingHouse$Pair" "volume" "I"] ++ wsX30)
def wsX0_amount : List Cond := .code yX0_amount cX0_amount 1 (some .int) :: ([.fieldLink RX0 9 "RoamingHouse$Call" "state" "I", .fieldLink RX0 24 "RoamingHouse$Call" "file" "LRoamingHouse$CallFile;", .fieldLink RX0 34 "RoamingHouse$CallFile" "pair" "LRoamingHouse$Pair;", .fieldLink RX0 15 "RoamingHouse$Call" "acceptedIn" "I", .fieldLink RX0 21 "RoamingHouse$Call" "secondsAhead" "I", .fieldLink RX0 31 "RoamingHouse$Call" "told" "I", .fieldLink RX0 63 "RoamingHouse$Pair" "discountRate" "I", .constantLong RX0 66 (10000), .static yX4_yearOf, .initialized RX4, .code yX4_yearOf cX4_yearOf 1 (some .int), .methodLink RX0 59 yX3_discounts, .instanceMethod yX3_discounts, .selects RX3 yX3_discounts yX3_discounts, .initialized RX3, .code yX3_discounts cX3_discounts 3 (some .boolean), .fieldLink RX3 24 "RoamingHouse$Pair" "goesBack" "Z", .fieldLink RX3 28 "RoamingHouse$Pair" "acceptedSeconds" "[I", .fieldLink RX3 18 "RoamingHouse$Pair" "volume" "I"] ++ wsX00 ++ wsX10 ++ wsX30)
def wsX1_init : List Cond := .code yX1_init cX1_init 3 none :: ([.methodLink RX1 3 objectInit, .instanceMethod objectInit, .code objectInit ⟨#[0xb1]⟩ 1 none, .fieldLink RX1 9 "RoamingHouse$CallFile" "state" "I", .fieldLink RX1 15 "RoamingHouse$CallFile" "size" "I", .fieldLink RX1 18 "RoamingHouse$CallFile" "number" "I", .fieldLink RX1 21 "RoamingHouse$CallFile" "pair" "LRoamingHouse$Pair;", .fieldLink RX1 25 "RoamingHouse$CallFile" "begunIn" "I"] ++ wsX10)
def wsX2_init : List Cond := .code yX2_init cX2_init 1 none :: ([.methodLink RX2 3 objectInit, .instanceMethod objectInit, .code objectInit ⟨#[0xb1]⟩ 1 none, .fieldLink RX2 9 "RoamingHouse$Operator" "step" "I", .fieldLink RX2 15 "RoamingHouse$Operator" "price" "I", .fieldLink RX2 18 "RoamingHouse$Operator" "beginning" "I", .fieldLink RX2 21 "RoamingHouse$Operator" "unitRate" "I"] ++ wsX20)
def wsX3_init : List Cond := .code yX3_init cX3_init 2 none :: ([.methodLink RX3 3 objectInit, .instanceMethod objectInit, .code objectInit ⟨#[0xb1]⟩ 1 none, .fieldLink RX3 9 "RoamingHouse$Pair" "expectedNumber" "I", .fieldLink RX3 15 "RoamingHouse$Pair" "promised" "I", .fieldLink RX3 18 "RoamingHouse$Pair" "volume" "I", .fieldLink RX3 21 "RoamingHouse$Pair" "discountRate" "I", .fieldLink RX3 24 "RoamingHouse$Pair" "goesBack" "Z", .arrayClass .int, .fieldLink RX3 28 "RoamingHouse$Pair" "acceptedSeconds" "[I", .fieldLink RX3 32 "RoamingHouse$Pair" "host" "LRoamingHouse$Operator;"] ++ wsX30)
def wsX4_init_r1 : List Cond := [Cond.methodLink RX4 1 objectInit, Cond.instanceMethod objectInit, Cond.code objectInit ⟨#[0xb1]⟩ 1 none, Cond.classLink RX4 9 RX2, Cond.fieldLink RX4 11 "RoamingHouse" "operators" "[LRoamingHouse$Operator;", Cond.classLink RX4 15 RX3, Cond.fieldLink RX4 17 "RoamingHouse" "pairs" "[LRoamingHouse$Pair;", Cond.classLink RX4 21 RX1, Cond.fieldLink RX4 23 "RoamingHouse" "fileRows" "[LRoamingHouse$CallFile;", Cond.fieldLink RX4 27 "RoamingHouse" "fileCount" "I", Cond.classLink RX4 31 RX0, Cond.fieldLink RX4 33 "RoamingHouse" "callRows" "[LRoamingHouse$Call;", Cond.fieldLink RX4 37 "RoamingHouse" "callCount" "I", Cond.fieldLink RX4 40 "RoamingHouse" "now" "I", Cond.instantiable RX2 4, Cond.initialized RX2, Cond.instantiable RX3 7, Cond.initialized RX3, Cond.instanceMethod yX2_init, Cond.code yX2_init cX2_init 1 none, Cond.methodLink RX2 3 objectInit, Cond.fieldLink RX2 9 "RoamingHouse$Operator" "step" "I", Cond.fieldLink RX2 15 "RoamingHouse$Operator" "price" "I", Cond.fieldLink RX2 18 "RoamingHouse$Operator" "beginning" "I"]
def wsX4_init_r2 : List Cond := [Cond.fieldLink RX2 21 "RoamingHouse$Operator" "unitRate" "I", Cond.methodLink RX4 44 yX3_init, Cond.instanceMethod yX3_init, Cond.code yX3_init cX3_init 2 none, Cond.methodLink RX3 3 objectInit, Cond.fieldLink RX3 9 "RoamingHouse$Pair" "expectedNumber" "I", Cond.fieldLink RX3 15 "RoamingHouse$Pair" "promised" "I", Cond.fieldLink RX3 18 "RoamingHouse$Pair" "volume" "I", Cond.fieldLink RX3 21 "RoamingHouse$Pair" "discountRate" "I", Cond.fieldLink RX3 24 "RoamingHouse$Pair" "goesBack" "Z", Cond.arrayClass .int, Cond.fieldLink RX3 28 "RoamingHouse$Pair" "acceptedSeconds" "[I", Cond.fieldLink RX3 32 "RoamingHouse$Pair" "host" "LRoamingHouse$Operator;"]
def wsX4_init : List Cond := .code yX4_init cX4_init 3 none :: ((wsX4_init_r1 ++ wsX4_init_r2) ++ wsX40 ++ wsX20 ++ wsX30)
def wsX4_isOperator : List Cond := .code yX4_isOperator cX4_isOperator 1 (some .boolean) :: ([])
def wsX4_operatorAt : List Cond := .code yX4_operatorAt cX4_operatorAt 2 (some (.object "RoamingHouse$Operator")) :: ([.classLink RX4 197 "java/lang/IndexOutOfBoundsException", .initialized "java/lang/IndexOutOfBoundsException", .fieldLink RX4 11 "RoamingHouse" "operators" "[LRoamingHouse$Operator;", .methodLink RX4 193 yX4_isOperator, .static yX4_isOperator, .initialized RX4, .code yX4_isOperator cX4_isOperator 1 (some .boolean)] ++ wsX40 ++ (vx_atS RX4 201 "java/lang/IndexOutOfBoundsException" ["java/lang/RuntimeException", "java/lang/Exception"]).filter goodWord)
def wsX4_refuseOutside : List Cond := .code yX4_refuseOutside cX4_refuseOutside 3 none :: ([.classLink RX4 188 "java/lang/IllegalArgumentException", .initialized "java/lang/IllegalArgumentException"] ++ (vx_atS RX4 192 "java/lang/IllegalArgumentException" ["java/lang/RuntimeException", "java/lang/Exception"]).filter goodWord)
def wsX4_setTariff : List Cond := .code yX4_setTariff cX4_setTariff 7 (some .int) :: ([.fieldLink RX4 55 "RoamingHouse$Operator" "price" "I", .fieldLink RX4 58 "RoamingHouse$Operator" "step" "I", .fieldLink RX4 61 "RoamingHouse$Operator" "beginning" "I", .methodLink RX4 47 yX4_operatorAt, .instanceMethod yX4_operatorAt, .selects RX4 yX4_operatorAt yX4_operatorAt, .initialized RX4, .code yX4_operatorAt cX4_operatorAt 2 (some (.object "RoamingHouse$Operator")), .classLink RX4 197 "java/lang/IndexOutOfBoundsException", .initialized "java/lang/IndexOutOfBoundsException", .fieldLink RX4 11 "RoamingHouse" "operators" "[LRoamingHouse$Operator;", .methodLink RX4 193 yX4_isOperator, .static yX4_isOperator, .code yX4_isOperator cX4_isOperator 1 (some .boolean), .methodLink RX4 51 yX4_refuseOutside, .static yX4_refuseOutside, .code yX4_refuseOutside cX4_refuseOutside 3 none, .classLink RX4 188 "java/lang/IllegalArgumentException", .initialized "java/lang/IllegalArgumentException"] ++ wsX20 ++ wsX40 ++ (vx_atS RX4 201 "java/lang/IndexOutOfBoundsException" ["java/lang/RuntimeException", "java/lang/Exception"]).filter goodWord ++ (vx_atS RX4 192 "java/lang/IllegalArgumentException" ["java/lang/RuntimeException", "java/lang/Exception"]).filter goodWord)
def wsX4_charge_r1 : List Cond := [Cond.constant RX4 64 (36000), Cond.methodLink RX4 47 yX4_operatorAt, Cond.instanceMethod yX4_operatorAt, Cond.selects RX4 yX4_operatorAt yX4_operatorAt, Cond.initialized RX4, Cond.code yX4_operatorAt cX4_operatorAt 2 (some (.object "RoamingHouse$Operator")), Cond.classLink RX4 197 "java/lang/IndexOutOfBoundsException", Cond.initialized "java/lang/IndexOutOfBoundsException", Cond.fieldLink RX4 11 "RoamingHouse" "operators" "[LRoamingHouse$Operator;", Cond.methodLink RX4 193 yX4_isOperator, Cond.static yX4_isOperator, Cond.code yX4_isOperator cX4_isOperator 1 (some .boolean), Cond.methodLink RX4 51 yX4_refuseOutside, Cond.static yX4_refuseOutside, Cond.code yX4_refuseOutside cX4_refuseOutside 3 none, Cond.classLink RX4 188 "java/lang/IllegalArgumentException", Cond.initialized "java/lang/IllegalArgumentException", Cond.methodLink RX4 65 yX2_chargeFor, Cond.instanceMethod yX2_chargeFor, Cond.selects RX2 yX2_chargeFor yX2_chargeFor, Cond.initialized RX2, Cond.code yX2_chargeFor cX2_chargeFor 3 (some .int), Cond.fieldLink RX2 9 "RoamingHouse$Operator" "step" "I", Cond.fieldLink RX2 18 "RoamingHouse$Operator" "beginning" "I"]
def wsX4_charge_r2 : List Cond := [Cond.fieldLink RX2 15 "RoamingHouse$Operator" "price" "I"]
def wsX4_charge : List Cond := .code yX4_charge cX4_charge 4 (some .int) :: ((wsX4_charge_r1 ++ wsX4_charge_r2) ++ wsX40 ++ wsX20 ++ (vx_atS RX4 201 "java/lang/IndexOutOfBoundsException" ["java/lang/RuntimeException", "java/lang/Exception"]).filter goodWord ++ (vx_atS RX4 192 "java/lang/IllegalArgumentException" ["java/lang/RuntimeException", "java/lang/Exception"]).filter goodWord)
def wsX4_pairAt : List Cond := .code yX4_pairAt cX4_pairAt 3 (some (.object "RoamingHouse$Pair")) :: ([.classLink RX4 197 "java/lang/IndexOutOfBoundsException", .initialized "java/lang/IndexOutOfBoundsException", .classLink RX4 188 "java/lang/IllegalArgumentException", .initialized "java/lang/IllegalArgumentException", .fieldLink RX4 17 "RoamingHouse" "pairs" "[LRoamingHouse$Pair;", .methodLink RX4 193 yX4_isOperator, .static yX4_isOperator, .initialized RX4, .code yX4_isOperator cX4_isOperator 1 (some .boolean)] ++ wsX40 ++ (vx_atS RX4 201 "java/lang/IndexOutOfBoundsException" ["java/lang/RuntimeException", "java/lang/Exception"]).filter goodWord ++ (vx_atS RX4 192 "java/lang/IllegalArgumentException" ["java/lang/RuntimeException", "java/lang/Exception"]).filter goodWord)
def wsX4_begin_r1 : List Cond := [Cond.classLink RX4 73 "java/lang/IllegalStateException", Cond.initialized "java/lang/IllegalStateException", Cond.fieldLink RX4 27 "RoamingHouse" "fileCount" "I", Cond.fieldLink RX4 23 "RoamingHouse" "fileRows" "[LRoamingHouse$CallFile;", Cond.classLink RX4 21 RX1, Cond.instantiable RX1 5, Cond.initialized RX1, Cond.fieldLink RX4 40 "RoamingHouse" "now" "I", Cond.methodLink RX4 69 yX4_pairAt, Cond.instanceMethod yX4_pairAt, Cond.selects RX4 yX4_pairAt yX4_pairAt, Cond.initialized RX4, Cond.code yX4_pairAt cX4_pairAt 3 (some (.object "RoamingHouse$Pair")), Cond.classLink RX4 197 "java/lang/IndexOutOfBoundsException", Cond.initialized "java/lang/IndexOutOfBoundsException", Cond.classLink RX4 188 "java/lang/IllegalArgumentException", Cond.initialized "java/lang/IllegalArgumentException", Cond.fieldLink RX4 17 "RoamingHouse" "pairs" "[LRoamingHouse$Pair;", Cond.methodLink RX4 193 yX4_isOperator, Cond.static yX4_isOperator, Cond.code yX4_isOperator cX4_isOperator 1 (some .boolean), Cond.methodLink RX4 80 yX1_init, Cond.instanceMethod yX1_init, Cond.code yX1_init cX1_init 3 none]
def wsX4_begin_r2 : List Cond := [Cond.methodLink RX1 3 objectInit, Cond.instanceMethod objectInit, Cond.code objectInit ⟨#[0xb1]⟩ 1 none, Cond.fieldLink RX1 9 "RoamingHouse$CallFile" "state" "I", Cond.fieldLink RX1 15 "RoamingHouse$CallFile" "size" "I", Cond.fieldLink RX1 18 "RoamingHouse$CallFile" "number" "I", Cond.fieldLink RX1 21 "RoamingHouse$CallFile" "pair" "LRoamingHouse$Pair;", Cond.fieldLink RX1 25 "RoamingHouse$CallFile" "begunIn" "I"]
def wsX4_begin : List Cond := .code yX4_begin cX4_begin 5 (some .int) :: ((wsX4_begin_r1 ++ wsX4_begin_r2) ++ wsX40 ++ wsX10 ++ (vx_atS RX4 77 "java/lang/IllegalStateException" ["java/lang/RuntimeException", "java/lang/Exception"]).filter goodWord ++ (vx_atS RX4 201 "java/lang/IndexOutOfBoundsException" ["java/lang/RuntimeException", "java/lang/Exception"]).filter goodWord ++ (vx_atS RX4 192 "java/lang/IllegalArgumentException" ["java/lang/RuntimeException", "java/lang/Exception"]).filter goodWord)
def wsX4_fileAt : List Cond := .code yX4_fileAt cX4_fileAt 2 (some (.object "RoamingHouse$CallFile")) :: ([.classLink RX4 197 "java/lang/IndexOutOfBoundsException", .initialized "java/lang/IndexOutOfBoundsException", .fieldLink RX4 27 "RoamingHouse" "fileCount" "I", .fieldLink RX4 23 "RoamingHouse" "fileRows" "[LRoamingHouse$CallFile;"] ++ wsX40 ++ (vx_atS RX4 201 "java/lang/IndexOutOfBoundsException" ["java/lang/RuntimeException", "java/lang/Exception"]).filter goodWord)
def wsX4_enter_r1 : List Cond := [Cond.classLink RX4 73 "java/lang/IllegalStateException", Cond.initialized "java/lang/IllegalStateException", Cond.constant RX4 64 (36000), Cond.constant RX4 87 (50000000), Cond.fieldLink RX4 88 "RoamingHouse$CallFile" "state" "I", Cond.fieldLink RX4 37 "RoamingHouse" "callCount" "I", Cond.fieldLink RX4 33 "RoamingHouse" "callRows" "[LRoamingHouse$Call;", Cond.classLink RX4 31 RX0, Cond.instantiable RX0 7, Cond.initialized RX0, Cond.fieldLink RX4 98 "RoamingHouse$CallFile" "size" "I", Cond.methodLink RX4 83 yX4_fileAt, Cond.instanceMethod yX4_fileAt, Cond.selects RX4 yX4_fileAt yX4_fileAt, Cond.initialized RX4, Cond.code yX4_fileAt cX4_fileAt 2 (some (.object "RoamingHouse$CallFile")), Cond.classLink RX4 197 "java/lang/IndexOutOfBoundsException", Cond.initialized "java/lang/IndexOutOfBoundsException", Cond.fieldLink RX4 27 "RoamingHouse" "fileCount" "I", Cond.fieldLink RX4 23 "RoamingHouse" "fileRows" "[LRoamingHouse$CallFile;", Cond.methodLink RX4 51 yX4_refuseOutside, Cond.static yX4_refuseOutside, Cond.code yX4_refuseOutside cX4_refuseOutside 3 none, Cond.classLink RX4 188 "java/lang/IllegalArgumentException"]
def wsX4_enter_r2 : List Cond := [Cond.initialized "java/lang/IllegalArgumentException", Cond.methodLink RX4 95 yX0_init, Cond.instanceMethod yX0_init, Cond.code yX0_init cX0_init 4 none, Cond.methodLink RX0 3 objectInit, Cond.instanceMethod objectInit, Cond.code objectInit ⟨#[0xb1]⟩ 1 none, Cond.fieldLink RX0 9 "RoamingHouse$Call" "state" "I", Cond.fieldLink RX0 15 "RoamingHouse$Call" "acceptedIn" "I", Cond.fieldLink RX0 18 "RoamingHouse$Call" "disputedIn" "I", Cond.fieldLink RX0 21 "RoamingHouse$Call" "secondsAhead" "I", Cond.fieldLink RX0 24 "RoamingHouse$Call" "file" "LRoamingHouse$CallFile;", Cond.fieldLink RX0 28 "RoamingHouse$Call" "seconds" "I", Cond.fieldLink RX0 31 "RoamingHouse$Call" "told" "I"]
def wsX4_enter : List Cond := .code yX4_enter cX4_enter 6 (some .int) :: ((wsX4_enter_r1 ++ wsX4_enter_r2) ++ wsX10 ++ wsX40 ++ wsX00 ++ (vx_atS RX4 77 "java/lang/IllegalStateException" ["java/lang/RuntimeException", "java/lang/Exception"]).filter goodWord ++ (vx_atS RX4 201 "java/lang/IndexOutOfBoundsException" ["java/lang/RuntimeException", "java/lang/Exception"]).filter goodWord ++ (vx_atS RX4 192 "java/lang/IllegalArgumentException" ["java/lang/RuntimeException", "java/lang/Exception"]).filter goodWord)
def wsX4_waitingFile : List Cond := .code yX4_waitingFile cX4_waitingFile 5 (some (.object "RoamingHouse$CallFile")) :: ([.fieldLink RX4 27 "RoamingHouse" "fileCount" "I", .fieldLink RX4 23 "RoamingHouse" "fileRows" "[LRoamingHouse$CallFile;", .fieldLink RX4 103 "RoamingHouse$CallFile" "pair" "LRoamingHouse$Pair;", .fieldLink RX4 88 "RoamingHouse$CallFile" "state" "I", .fieldLink RX4 114 "RoamingHouse$CallFile" "number" "I"] ++ wsX40 ++ wsX10)
def wsX4_wrongCallsOf : List Cond := .code yX4_wrongCallsOf cX4_wrongCallsOf 5 (some .int) :: ([.fieldLink RX4 37 "RoamingHouse" "callCount" "I", .fieldLink RX4 33 "RoamingHouse" "callRows" "[LRoamingHouse$Call;", .fieldLink RX4 221 "RoamingHouse$Call" "file" "LRoamingHouse$CallFile;", .methodLink RX4 225 yX0_isRight, .instanceMethod yX0_isRight, .selects RX0 yX0_isRight yX0_isRight, .initialized RX0, .code yX0_isRight cX0_isRight 1 (some .boolean), .fieldLink RX0 31 "RoamingHouse$Call" "told" "I", .fieldLink RX0 24 "RoamingHouse$Call" "file" "LRoamingHouse$CallFile;", .fieldLink RX0 34 "RoamingHouse$CallFile" "pair" "LRoamingHouse$Pair;", .fieldLink RX0 40 "RoamingHouse$Pair" "host" "LRoamingHouse$Operator;", .fieldLink RX0 28 "RoamingHouse$Call" "seconds" "I", .methodLink RX0 46 yX2_chargeFor, .instanceMethod yX2_chargeFor, .selects RX2 yX2_chargeFor yX2_chargeFor, .initialized RX2, .code yX2_chargeFor cX2_chargeFor 3 (some .int), .fieldLink RX2 9 "RoamingHouse$Operator" "step" "I", .fieldLink RX2 18 "RoamingHouse$Operator" "beginning" "I", .fieldLink RX2 15 "RoamingHouse$Operator" "price" "I"] ++ wsX40 ++ wsX00 ++ wsX10 ++ wsX30 ++ wsX20)
def wsX4_acceptRightCallsOf_r1 : List Cond := [Cond.fieldLink RX4 37 "RoamingHouse" "callCount" "I", Cond.fieldLink RX4 33 "RoamingHouse" "callRows" "[LRoamingHouse$Call;", Cond.fieldLink RX4 221 "RoamingHouse$Call" "file" "LRoamingHouse$CallFile;", Cond.fieldLink RX4 40 "RoamingHouse" "now" "I", Cond.methodLink RX4 225 yX0_isRight, Cond.instanceMethod yX0_isRight, Cond.selects RX0 yX0_isRight yX0_isRight, Cond.initialized RX0, Cond.code yX0_isRight cX0_isRight 1 (some .boolean), Cond.fieldLink RX0 31 "RoamingHouse$Call" "told" "I", Cond.fieldLink RX0 24 "RoamingHouse$Call" "file" "LRoamingHouse$CallFile;", Cond.fieldLink RX0 34 "RoamingHouse$CallFile" "pair" "LRoamingHouse$Pair;", Cond.fieldLink RX0 40 "RoamingHouse$Pair" "host" "LRoamingHouse$Operator;", Cond.fieldLink RX0 28 "RoamingHouse$Call" "seconds" "I", Cond.methodLink RX0 46 yX2_chargeFor, Cond.instanceMethod yX2_chargeFor, Cond.selects RX2 yX2_chargeFor yX2_chargeFor, Cond.initialized RX2, Cond.code yX2_chargeFor cX2_chargeFor 3 (some .int), Cond.fieldLink RX2 9 "RoamingHouse$Operator" "step" "I", Cond.fieldLink RX2 18 "RoamingHouse$Operator" "beginning" "I", Cond.fieldLink RX2 15 "RoamingHouse$Operator" "price" "I", Cond.methodLink RX4 229 yX0_acceptIn, Cond.instanceMethod yX0_acceptIn]
def wsX4_acceptRightCallsOf_r2 : List Cond := [Cond.selects RX0 yX0_acceptIn yX0_acceptIn, Cond.code yX0_acceptIn cX0_acceptIn 3 none, Cond.fieldLink RX0 9 "RoamingHouse$Call" "state" "I", Cond.fieldLink RX0 15 "RoamingHouse$Call" "acceptedIn" "I", Cond.fieldLink RX0 55 "RoamingHouse$Pair" "acceptedSeconds" "[I", Cond.fieldLink RX0 21 "RoamingHouse$Call" "secondsAhead" "I", Cond.static yX4_yearOf, Cond.initialized RX4, Cond.code yX4_yearOf cX4_yearOf 1 (some .int)]
def wsX4_acceptRightCallsOf : List Cond := .code yX4_acceptRightCallsOf cX4_acceptRightCallsOf 4 none :: ((wsX4_acceptRightCallsOf_r1 ++ wsX4_acceptRightCallsOf_r2) ++ wsX40 ++ wsX00 ++ wsX10 ++ wsX30 ++ wsX20)
def wsX4_lookAt_r1 : List Cond := [Cond.fieldLink RX4 40 "RoamingHouse" "now" "I", Cond.fieldLink RX4 211 "RoamingHouse$CallFile" "begunIn" "I", Cond.fieldLink RX4 88 "RoamingHouse$CallFile" "state" "I", Cond.fieldLink RX4 98 "RoamingHouse$CallFile" "size" "I", Cond.methodLink RX4 214 yX4_wrongCallsOf, Cond.instanceMethod yX4_wrongCallsOf, Cond.selects RX4 yX4_wrongCallsOf yX4_wrongCallsOf, Cond.initialized RX4, Cond.code yX4_wrongCallsOf cX4_wrongCallsOf 5 (some .int), Cond.fieldLink RX4 37 "RoamingHouse" "callCount" "I", Cond.fieldLink RX4 33 "RoamingHouse" "callRows" "[LRoamingHouse$Call;", Cond.fieldLink RX4 221 "RoamingHouse$Call" "file" "LRoamingHouse$CallFile;", Cond.methodLink RX4 225 yX0_isRight, Cond.instanceMethod yX0_isRight, Cond.selects RX0 yX0_isRight yX0_isRight, Cond.initialized RX0, Cond.code yX0_isRight cX0_isRight 1 (some .boolean), Cond.fieldLink RX0 31 "RoamingHouse$Call" "told" "I", Cond.fieldLink RX0 24 "RoamingHouse$Call" "file" "LRoamingHouse$CallFile;", Cond.fieldLink RX0 34 "RoamingHouse$CallFile" "pair" "LRoamingHouse$Pair;", Cond.fieldLink RX0 40 "RoamingHouse$Pair" "host" "LRoamingHouse$Operator;", Cond.fieldLink RX0 28 "RoamingHouse$Call" "seconds" "I", Cond.methodLink RX0 46 yX2_chargeFor, Cond.instanceMethod yX2_chargeFor]
def wsX4_lookAt_r2 : List Cond := [Cond.selects RX2 yX2_chargeFor yX2_chargeFor, Cond.initialized RX2, Cond.code yX2_chargeFor cX2_chargeFor 3 (some .int), Cond.fieldLink RX2 9 "RoamingHouse$Operator" "step" "I", Cond.fieldLink RX2 18 "RoamingHouse$Operator" "beginning" "I", Cond.fieldLink RX2 15 "RoamingHouse$Operator" "price" "I", Cond.methodLink RX4 218 yX4_acceptRightCallsOf, Cond.instanceMethod yX4_acceptRightCallsOf, Cond.selects RX4 yX4_acceptRightCallsOf yX4_acceptRightCallsOf, Cond.code yX4_acceptRightCallsOf cX4_acceptRightCallsOf 4 none, Cond.methodLink RX4 229 yX0_acceptIn, Cond.instanceMethod yX0_acceptIn, Cond.selects RX0 yX0_acceptIn yX0_acceptIn, Cond.code yX0_acceptIn cX0_acceptIn 3 none, Cond.fieldLink RX0 9 "RoamingHouse$Call" "state" "I", Cond.fieldLink RX0 15 "RoamingHouse$Call" "acceptedIn" "I", Cond.fieldLink RX0 55 "RoamingHouse$Pair" "acceptedSeconds" "[I", Cond.fieldLink RX0 21 "RoamingHouse$Call" "secondsAhead" "I", Cond.static yX4_yearOf, Cond.code yX4_yearOf cX4_yearOf 1 (some .int)]
def wsX4_lookAt : List Cond := .code yX4_lookAt cX4_lookAt 2 none :: ((wsX4_lookAt_r1 ++ wsX4_lookAt_r2) ++ wsX40 ++ wsX10 ++ wsX00 ++ wsX30 ++ wsX20)
def wsX4_lookAtAllFrom_r1 : List Cond := [Cond.fieldLink RX4 103 "RoamingHouse$CallFile" "pair" "LRoamingHouse$Pair;", Cond.fieldLink RX4 107 "RoamingHouse$Pair" "expectedNumber" "I", Cond.methodLink RX4 208 yX4_lookAt, Cond.instanceMethod yX4_lookAt, Cond.selects RX4 yX4_lookAt yX4_lookAt, Cond.initialized RX4, Cond.code yX4_lookAt cX4_lookAt 2 none, Cond.fieldLink RX4 40 "RoamingHouse" "now" "I", Cond.fieldLink RX4 211 "RoamingHouse$CallFile" "begunIn" "I", Cond.fieldLink RX4 88 "RoamingHouse$CallFile" "state" "I", Cond.fieldLink RX4 98 "RoamingHouse$CallFile" "size" "I", Cond.methodLink RX4 214 yX4_wrongCallsOf, Cond.instanceMethod yX4_wrongCallsOf, Cond.selects RX4 yX4_wrongCallsOf yX4_wrongCallsOf, Cond.code yX4_wrongCallsOf cX4_wrongCallsOf 5 (some .int), Cond.fieldLink RX4 37 "RoamingHouse" "callCount" "I", Cond.fieldLink RX4 33 "RoamingHouse" "callRows" "[LRoamingHouse$Call;", Cond.fieldLink RX4 221 "RoamingHouse$Call" "file" "LRoamingHouse$CallFile;", Cond.methodLink RX4 225 yX0_isRight, Cond.instanceMethod yX0_isRight, Cond.selects RX0 yX0_isRight yX0_isRight, Cond.initialized RX0, Cond.code yX0_isRight cX0_isRight 1 (some .boolean), Cond.fieldLink RX0 31 "RoamingHouse$Call" "told" "I"]
def wsX4_lookAtAllFrom_r2 : List Cond := [Cond.fieldLink RX0 24 "RoamingHouse$Call" "file" "LRoamingHouse$CallFile;", Cond.fieldLink RX0 34 "RoamingHouse$CallFile" "pair" "LRoamingHouse$Pair;", Cond.fieldLink RX0 40 "RoamingHouse$Pair" "host" "LRoamingHouse$Operator;", Cond.fieldLink RX0 28 "RoamingHouse$Call" "seconds" "I", Cond.methodLink RX0 46 yX2_chargeFor, Cond.instanceMethod yX2_chargeFor, Cond.selects RX2 yX2_chargeFor yX2_chargeFor, Cond.initialized RX2, Cond.code yX2_chargeFor cX2_chargeFor 3 (some .int), Cond.fieldLink RX2 9 "RoamingHouse$Operator" "step" "I", Cond.fieldLink RX2 18 "RoamingHouse$Operator" "beginning" "I", Cond.fieldLink RX2 15 "RoamingHouse$Operator" "price" "I", Cond.methodLink RX4 218 yX4_acceptRightCallsOf, Cond.instanceMethod yX4_acceptRightCallsOf, Cond.selects RX4 yX4_acceptRightCallsOf yX4_acceptRightCallsOf, Cond.code yX4_acceptRightCallsOf cX4_acceptRightCallsOf 4 none, Cond.methodLink RX4 229 yX0_acceptIn, Cond.instanceMethod yX0_acceptIn, Cond.selects RX0 yX0_acceptIn yX0_acceptIn, Cond.code yX0_acceptIn cX0_acceptIn 3 none, Cond.fieldLink RX0 9 "RoamingHouse$Call" "state" "I", Cond.fieldLink RX0 15 "RoamingHouse$Call" "acceptedIn" "I", Cond.fieldLink RX0 55 "RoamingHouse$Pair" "acceptedSeconds" "[I", Cond.fieldLink RX0 21 "RoamingHouse$Call" "secondsAhead" "I"]
def wsX4_lookAtAllFrom_r3 : List Cond := [Cond.static yX4_yearOf, Cond.code yX4_yearOf cX4_yearOf 1 (some .int), Cond.methodLink RX4 110 yX4_waitingFile, Cond.instanceMethod yX4_waitingFile, Cond.selects RX4 yX4_waitingFile yX4_waitingFile, Cond.code yX4_waitingFile cX4_waitingFile 5 (some (.object "RoamingHouse$CallFile")), Cond.fieldLink RX4 27 "RoamingHouse" "fileCount" "I", Cond.fieldLink RX4 23 "RoamingHouse" "fileRows" "[LRoamingHouse$CallFile;", Cond.fieldLink RX4 114 "RoamingHouse$CallFile" "number" "I"]
def wsX4_lookAtAllFrom : List Cond := .code yX4_lookAtAllFrom cX4_lookAtAllFrom 5 none :: ((wsX4_lookAtAllFrom_r1 ++ (wsX4_lookAtAllFrom_r2 ++ wsX4_lookAtAllFrom_r3)) ++ wsX10 ++ wsX30 ++ wsX40 ++ wsX00 ++ wsX20)
def wsX4_send_r1 : List Cond := [Cond.classLink RX4 73 "java/lang/IllegalStateException", Cond.initialized "java/lang/IllegalStateException", Cond.fieldLink RX4 88 "RoamingHouse$CallFile" "state" "I", Cond.fieldLink RX4 98 "RoamingHouse$CallFile" "size" "I", Cond.fieldLink RX4 103 "RoamingHouse$CallFile" "pair" "LRoamingHouse$Pair;", Cond.fieldLink RX4 107 "RoamingHouse$Pair" "expectedNumber" "I", Cond.fieldLink RX4 114 "RoamingHouse$CallFile" "number" "I", Cond.methodLink RX4 83 yX4_fileAt, Cond.instanceMethod yX4_fileAt, Cond.selects RX4 yX4_fileAt yX4_fileAt, Cond.initialized RX4, Cond.code yX4_fileAt cX4_fileAt 2 (some (.object "RoamingHouse$CallFile")), Cond.classLink RX4 197 "java/lang/IndexOutOfBoundsException", Cond.initialized "java/lang/IndexOutOfBoundsException", Cond.fieldLink RX4 27 "RoamingHouse" "fileCount" "I", Cond.fieldLink RX4 23 "RoamingHouse" "fileRows" "[LRoamingHouse$CallFile;", Cond.methodLink RX4 51 yX4_refuseOutside, Cond.static yX4_refuseOutside, Cond.code yX4_refuseOutside cX4_refuseOutside 3 none, Cond.classLink RX4 188 "java/lang/IllegalArgumentException", Cond.initialized "java/lang/IllegalArgumentException", Cond.methodLink RX4 110 yX4_waitingFile, Cond.instanceMethod yX4_waitingFile, Cond.selects RX4 yX4_waitingFile yX4_waitingFile]
def wsX4_send_r2 : List Cond := [Cond.code yX4_waitingFile cX4_waitingFile 5 (some (.object "RoamingHouse$CallFile")), Cond.methodLink RX4 117 yX4_lookAtAllFrom, Cond.instanceMethod yX4_lookAtAllFrom, Cond.selects RX4 yX4_lookAtAllFrom yX4_lookAtAllFrom, Cond.code yX4_lookAtAllFrom cX4_lookAtAllFrom 5 none, Cond.methodLink RX4 208 yX4_lookAt, Cond.instanceMethod yX4_lookAt, Cond.selects RX4 yX4_lookAt yX4_lookAt, Cond.code yX4_lookAt cX4_lookAt 2 none, Cond.fieldLink RX4 40 "RoamingHouse" "now" "I", Cond.fieldLink RX4 211 "RoamingHouse$CallFile" "begunIn" "I", Cond.methodLink RX4 214 yX4_wrongCallsOf, Cond.instanceMethod yX4_wrongCallsOf, Cond.selects RX4 yX4_wrongCallsOf yX4_wrongCallsOf, Cond.code yX4_wrongCallsOf cX4_wrongCallsOf 5 (some .int), Cond.fieldLink RX4 37 "RoamingHouse" "callCount" "I", Cond.fieldLink RX4 33 "RoamingHouse" "callRows" "[LRoamingHouse$Call;", Cond.fieldLink RX4 221 "RoamingHouse$Call" "file" "LRoamingHouse$CallFile;", Cond.methodLink RX4 225 yX0_isRight, Cond.instanceMethod yX0_isRight, Cond.selects RX0 yX0_isRight yX0_isRight, Cond.initialized RX0, Cond.code yX0_isRight cX0_isRight 1 (some .boolean), Cond.fieldLink RX0 31 "RoamingHouse$Call" "told" "I"]
def wsX4_send_r3 : List Cond := [Cond.fieldLink RX0 24 "RoamingHouse$Call" "file" "LRoamingHouse$CallFile;", Cond.fieldLink RX0 34 "RoamingHouse$CallFile" "pair" "LRoamingHouse$Pair;", Cond.fieldLink RX0 40 "RoamingHouse$Pair" "host" "LRoamingHouse$Operator;", Cond.fieldLink RX0 28 "RoamingHouse$Call" "seconds" "I", Cond.methodLink RX0 46 yX2_chargeFor, Cond.instanceMethod yX2_chargeFor, Cond.selects RX2 yX2_chargeFor yX2_chargeFor, Cond.initialized RX2, Cond.code yX2_chargeFor cX2_chargeFor 3 (some .int), Cond.fieldLink RX2 9 "RoamingHouse$Operator" "step" "I", Cond.fieldLink RX2 18 "RoamingHouse$Operator" "beginning" "I", Cond.fieldLink RX2 15 "RoamingHouse$Operator" "price" "I", Cond.methodLink RX4 218 yX4_acceptRightCallsOf, Cond.instanceMethod yX4_acceptRightCallsOf, Cond.selects RX4 yX4_acceptRightCallsOf yX4_acceptRightCallsOf, Cond.code yX4_acceptRightCallsOf cX4_acceptRightCallsOf 4 none, Cond.methodLink RX4 229 yX0_acceptIn, Cond.instanceMethod yX0_acceptIn, Cond.selects RX0 yX0_acceptIn yX0_acceptIn, Cond.code yX0_acceptIn cX0_acceptIn 3 none, Cond.fieldLink RX0 9 "RoamingHouse$Call" "state" "I", Cond.fieldLink RX0 15 "RoamingHouse$Call" "acceptedIn" "I", Cond.fieldLink RX0 55 "RoamingHouse$Pair" "acceptedSeconds" "[I", Cond.fieldLink RX0 21 "RoamingHouse$Call" "secondsAhead" "I"]
def wsX4_send_r4 : List Cond := [Cond.static yX4_yearOf, Cond.code yX4_yearOf cX4_yearOf 1 (some .int)]
def wsX4_send : List Cond := .code yX4_send cX4_send 5 (some .int) :: ((wsX4_send_r1 ++ (wsX4_send_r2 ++ (wsX4_send_r3 ++ wsX4_send_r4))) ++ wsX10 ++ wsX30 ++ wsX40 ++ wsX00 ++ wsX20 ++ (vx_atS RX4 77 "java/lang/IllegalStateException" ["java/lang/RuntimeException", "java/lang/Exception"]).filter goodWord ++ (vx_atS RX4 201 "java/lang/IndexOutOfBoundsException" ["java/lang/RuntimeException", "java/lang/Exception"]).filter goodWord ++ (vx_atS RX4 192 "java/lang/IllegalArgumentException" ["java/lang/RuntimeException", "java/lang/Exception"]).filter goodWord)
def wsX4_stateOf : List Cond := .code yX4_stateOf cX4_stateOf 2 (some .int) :: ([.fieldLink RX4 88 "RoamingHouse$CallFile" "state" "I", .methodLink RX4 83 yX4_fileAt, .instanceMethod yX4_fileAt, .selects RX4 yX4_fileAt yX4_fileAt, .initialized RX4, .code yX4_fileAt cX4_fileAt 2 (some (.object "RoamingHouse$CallFile")), .classLink RX4 197 "java/lang/IndexOutOfBoundsException", .initialized "java/lang/IndexOutOfBoundsException", .fieldLink RX4 27 "RoamingHouse" "fileCount" "I", .fieldLink RX4 23 "RoamingHouse" "fileRows" "[LRoamingHouse$CallFile;"] ++ wsX10 ++ wsX40 ++ (vx_atS RX4 201 "java/lang/IndexOutOfBoundsException" ["java/lang/RuntimeException", "java/lang/Exception"]).filter goodWord)
def wsX4_expected : List Cond := .code yX4_expected cX4_expected 3 (some .int) :: ([.fieldLink RX4 107 "RoamingHouse$Pair" "expectedNumber" "I", .methodLink RX4 69 yX4_pairAt, .instanceMethod yX4_pairAt, .selects RX4 yX4_pairAt yX4_pairAt, .initialized RX4, .code yX4_pairAt cX4_pairAt 3 (some (.object "RoamingHouse$Pair")), .classLink RX4 197 "java/lang/IndexOutOfBoundsException", .initialized "java/lang/IndexOutOfBoundsException", .classLink RX4 188 "java/lang/IllegalArgumentException", .initialized "java/lang/IllegalArgumentException", .fieldLink RX4 17 "RoamingHouse" "pairs" "[LRoamingHouse$Pair;", .methodLink RX4 193 yX4_isOperator, .static yX4_isOperator, .code yX4_isOperator cX4_isOperator 1 (some .boolean)] ++ wsX30 ++ wsX40 ++ (vx_atS RX4 201 "java/lang/IndexOutOfBoundsException" ["java/lang/RuntimeException", "java/lang/Exception"]).filter goodWord ++ (vx_atS RX4 192 "java/lang/IllegalArgumentException" ["java/lang/RuntimeException", "java/lang/Exception"]).filter goodWord)
def wsX4_lacking : List Cond := .code yX4_lacking cX4_lacking 8 (some .int) :: ([.fieldLink RX4 27 "RoamingHouse" "fileCount" "I", .fieldLink RX4 23 "RoamingHouse" "fileRows" "[LRoamingHouse$CallFile;", .fieldLink RX4 103 "RoamingHouse$CallFile" "pair" "LRoamingHouse$Pair;", .fieldLink RX4 88 "RoamingHouse$CallFile" "state" "I", .fieldLink RX4 114 "RoamingHouse$CallFile" "number" "I", .methodLink RX4 121 Lib.Math.max.name, .static Lib.Math.max.name, .initialized "java/lang/Math", .code Lib.Math.max.name Lib.Math.max.code 2 (some .int), .fieldLink RX4 107 "RoamingHouse$Pair" "expectedNumber" "I", .methodLink RX4 69 yX4_pairAt, .instanceMethod yX4_pairAt, .selects RX4 yX4_pairAt yX4_pairAt, .initialized RX4, .code yX4_pairAt cX4_pairAt 3 (some (.object "RoamingHouse$Pair")), .classLink RX4 197 "java/lang/IndexOutOfBoundsException", .initialized "java/lang/IndexOutOfBoundsException", .classLink RX4 188 "java/lang/IllegalArgumentException", .initialized "java/lang/IllegalArgumentException", .fieldLink RX4 17 "RoamingHouse" "pairs" "[LRoamingHouse$Pair;", .methodLink RX4 193 yX4_isOperator, .static yX4_isOperator, .code yX4_isOperator cX4_isOperator 1 (some .boolean)] ++ wsX40 ++ wsX10 ++ wsX30 ++ (vx_atS RX4 201 "java/lang/IndexOutOfBoundsException" ["java/lang/RuntimeException", "java/lang/Exception"]).filter goodWord ++ (vx_atS RX4 192 "java/lang/IllegalArgumentException" ["java/lang/RuntimeException", "java/lang/Exception"]).filter goodWord)
def wsX4_calls : List Cond := .code yX4_calls cX4_calls 1 (some .int) :: ([.fieldLink RX4 37 "RoamingHouse" "callCount" "I"] ++ wsX40)
def wsX4_callAt : List Cond := .code yX4_callAt cX4_callAt 2 (some (.object "RoamingHouse$Call")) :: ([.classLink RX4 197 "java/lang/IndexOutOfBoundsException", .initialized "java/lang/IndexOutOfBoundsException", .fieldLink RX4 37 "RoamingHouse" "callCount" "I", .fieldLink RX4 33 "RoamingHouse" "callRows" "[LRoamingHouse$Call;"] ++ wsX40 ++ (vx_atS RX4 201 "java/lang/IndexOutOfBoundsException" ["java/lang/RuntimeException", "java/lang/Exception"]).filter goodWord)
def wsX4_call : List Cond := .code yX4_call cX4_call 2 (some .int) :: ([.fieldLink RX4 131 "RoamingHouse$Call" "state" "I", .methodLink RX4 127 yX4_callAt, .instanceMethod yX4_callAt, .selects RX4 yX4_callAt yX4_callAt, .initialized RX4, .code yX4_callAt cX4_callAt 2 (some (.object "RoamingHouse$Call")), .classLink RX4 197 "java/lang/IndexOutOfBoundsException", .initialized "java/lang/IndexOutOfBoundsException", .fieldLink RX4 37 "RoamingHouse" "callCount" "I", .fieldLink RX4 33 "RoamingHouse" "callRows" "[LRoamingHouse$Call;"] ++ wsX00 ++ wsX40 ++ (vx_atS RX4 201 "java/lang/IndexOutOfBoundsException" ["java/lang/RuntimeException", "java/lang/Exception"]).filter goodWord)
def wsX4_monthOf : List Cond := .code yX4_monthOf cX4_monthOf 2 (some .int) :: ([.fieldLink RX4 132 "RoamingHouse$Call" "acceptedIn" "I", .methodLink RX4 127 yX4_callAt, .instanceMethod yX4_callAt, .selects RX4 yX4_callAt yX4_callAt, .initialized RX4, .code yX4_callAt cX4_callAt 2 (some (.object "RoamingHouse$Call")), .classLink RX4 197 "java/lang/IndexOutOfBoundsException", .initialized "java/lang/IndexOutOfBoundsException", .fieldLink RX4 37 "RoamingHouse" "callCount" "I", .fieldLink RX4 33 "RoamingHouse" "callRows" "[LRoamingHouse$Call;"] ++ wsX00 ++ wsX40 ++ (vx_atS RX4 201 "java/lang/IndexOutOfBoundsException" ["java/lang/RuntimeException", "java/lang/Exception"]).filter goodWord)
def wsX4_owedFor_r1 : List Cond := [Cond.methodLink RX4 127 yX4_callAt, Cond.instanceMethod yX4_callAt, Cond.selects RX4 yX4_callAt yX4_callAt, Cond.initialized RX4, Cond.code yX4_callAt cX4_callAt 2 (some (.object "RoamingHouse$Call")), Cond.classLink RX4 197 "java/lang/IndexOutOfBoundsException", Cond.initialized "java/lang/IndexOutOfBoundsException", Cond.fieldLink RX4 37 "RoamingHouse" "callCount" "I", Cond.fieldLink RX4 33 "RoamingHouse" "callRows" "[LRoamingHouse$Call;", Cond.methodLink RX4 135 yX0_amount, Cond.instanceMethod yX0_amount, Cond.selects RX0 yX0_amount yX0_amount, Cond.initialized RX0, Cond.code yX0_amount cX0_amount 1 (some .int), Cond.fieldLink RX0 9 "RoamingHouse$Call" "state" "I", Cond.fieldLink RX0 24 "RoamingHouse$Call" "file" "LRoamingHouse$CallFile;", Cond.fieldLink RX0 34 "RoamingHouse$CallFile" "pair" "LRoamingHouse$Pair;", Cond.fieldLink RX0 15 "RoamingHouse$Call" "acceptedIn" "I", Cond.fieldLink RX0 21 "RoamingHouse$Call" "secondsAhead" "I", Cond.fieldLink RX0 31 "RoamingHouse$Call" "told" "I", Cond.fieldLink RX0 63 "RoamingHouse$Pair" "discountRate" "I", Cond.constantLong RX0 66 (10000), Cond.static yX4_yearOf, Cond.code yX4_yearOf cX4_yearOf 1 (some .int)]
def wsX4_owedFor_r2 : List Cond := [Cond.methodLink RX0 59 yX3_discounts, Cond.instanceMethod yX3_discounts, Cond.selects RX3 yX3_discounts yX3_discounts, Cond.initialized RX3, Cond.code yX3_discounts cX3_discounts 3 (some .boolean), Cond.fieldLink RX3 24 "RoamingHouse$Pair" "goesBack" "Z", Cond.fieldLink RX3 28 "RoamingHouse$Pair" "acceptedSeconds" "[I", Cond.fieldLink RX3 18 "RoamingHouse$Pair" "volume" "I"]
def wsX4_owedFor : List Cond := .code yX4_owedFor cX4_owedFor 2 (some .int) :: ((wsX4_owedFor_r1 ++ wsX4_owedFor_r2) ++ wsX40 ++ wsX00 ++ wsX10 ++ wsX30 ++ (vx_atS RX4 201 "java/lang/IndexOutOfBoundsException" ["java/lang/RuntimeException", "java/lang/Exception"]).filter goodWord)
def wsX4_dispute : List Cond := .code yX4_dispute cX4_dispute 3 none :: ([.classLink RX4 73 "java/lang/IllegalStateException", .initialized "java/lang/IllegalStateException", .fieldLink RX4 131 "RoamingHouse$Call" "state" "I", .fieldLink RX4 40 "RoamingHouse" "now" "I", .fieldLink RX4 132 "RoamingHouse$Call" "acceptedIn" "I", .fieldLink RX4 143 "RoamingHouse$Call" "disputedIn" "I", .methodLink RX4 127 yX4_callAt, .instanceMethod yX4_callAt, .selects RX4 yX4_callAt yX4_callAt, .initialized RX4, .code yX4_callAt cX4_callAt 2 (some (.object "RoamingHouse$Call")), .classLink RX4 197 "java/lang/IndexOutOfBoundsException", .initialized "java/lang/IndexOutOfBoundsException", .fieldLink RX4 37 "RoamingHouse" "callCount" "I", .fieldLink RX4 33 "RoamingHouse" "callRows" "[LRoamingHouse$Call;"] ++ wsX00 ++ wsX40 ++ (vx_atS RX4 77 "java/lang/IllegalStateException" ["java/lang/RuntimeException", "java/lang/Exception"]).filter goodWord ++ (vx_atS RX4 201 "java/lang/IndexOutOfBoundsException" ["java/lang/RuntimeException", "java/lang/Exception"]).filter goodWord)
def wsX4_answer : List Cond := .code yX4_answer cX4_answer 4 none :: ([.classLink RX4 73 "java/lang/IllegalStateException", .initialized "java/lang/IllegalStateException", .fieldLink RX4 131 "RoamingHouse$Call" "state" "I", .methodLink RX4 127 yX4_callAt, .instanceMethod yX4_callAt, .selects RX4 yX4_callAt yX4_callAt, .initialized RX4, .code yX4_callAt cX4_callAt 2 (some (.object "RoamingHouse$Call")), .classLink RX4 197 "java/lang/IndexOutOfBoundsException", .initialized "java/lang/IndexOutOfBoundsException", .fieldLink RX4 37 "RoamingHouse" "callCount" "I", .fieldLink RX4 33 "RoamingHouse" "callRows" "[LRoamingHouse$Call;"] ++ wsX00 ++ wsX40 ++ (vx_atS RX4 77 "java/lang/IllegalStateException" ["java/lang/RuntimeException", "java/lang/Exception"]).filter goodWord ++ (vx_atS RX4 201 "java/lang/IndexOutOfBoundsException" ["java/lang/RuntimeException", "java/lang/Exception"]).filter goodWord)
def wsX4_agree : List Cond := .code yX4_agree cX4_agree 7 none :: ([.constant RX4 148 (1000000), .fieldLink RX4 149 "RoamingHouse$Pair" "volume" "I", .fieldLink RX4 152 "RoamingHouse$Pair" "discountRate" "I", .fieldLink RX4 155 "RoamingHouse$Pair" "goesBack" "Z", .methodLink RX4 69 yX4_pairAt, .instanceMethod yX4_pairAt, .selects RX4 yX4_pairAt yX4_pairAt, .initialized RX4, .code yX4_pairAt cX4_pairAt 3 (some (.object "RoamingHouse$Pair")), .classLink RX4 197 "java/lang/IndexOutOfBoundsException", .initialized "java/lang/IndexOutOfBoundsException", .classLink RX4 188 "java/lang/IllegalArgumentException", .initialized "java/lang/IllegalArgumentException", .fieldLink RX4 17 "RoamingHouse" "pairs" "[LRoamingHouse$Pair;", .methodLink RX4 193 yX4_isOperator, .static yX4_isOperator, .code yX4_isOperator cX4_isOperator 1 (some .boolean), .methodLink RX4 51 yX4_refuseOutside, .static yX4_refuseOutside, .code yX4_refuseOutside cX4_refuseOutside 3 none] ++ wsX30 ++ wsX40 ++ (vx_atS RX4 201 "java/lang/IndexOutOfBoundsException" ["java/lang/RuntimeException", "java/lang/Exception"]).filter goodWord ++ (vx_atS RX4 192 "java/lang/IllegalArgumentException" ["java/lang/RuntimeException", "java/lang/Exception"]).filter goodWord)
def wsX4_promise : List Cond := .code yX4_promise cX4_promise 6 (some .int) :: ([.constant RX4 159 (100000000), .fieldLink RX4 160 "RoamingHouse$Pair" "promised" "I", .methodLink RX4 69 yX4_pairAt, .instanceMethod yX4_pairAt, .selects RX4 yX4_pairAt yX4_pairAt, .initialized RX4, .code yX4_pairAt cX4_pairAt 3 (some (.object "RoamingHouse$Pair")), .classLink RX4 197 "java/lang/IndexOutOfBoundsException", .initialized "java/lang/IndexOutOfBoundsException", .classLink RX4 188 "java/lang/IllegalArgumentException", .initialized "java/lang/IllegalArgumentException", .fieldLink RX4 17 "RoamingHouse" "pairs" "[LRoamingHouse$Pair;", .methodLink RX4 193 yX4_isOperator, .static yX4_isOperator, .code yX4_isOperator cX4_isOperator 1 (some .boolean), .methodLink RX4 51 yX4_refuseOutside, .static yX4_refuseOutside, .code yX4_refuseOutside cX4_refuseOutside 3 none] ++ wsX30 ++ wsX40 ++ (vx_atS RX4 201 "java/lang/IndexOutOfBoundsException" ["java/lang/RuntimeException", "java/lang/Exception"]).filter goodWord ++ (vx_atS RX4 192 "java/lang/IllegalArgumentException" ["java/lang/RuntimeException", "java/lang/Exception"]).filter goodWord)
def wsX4_setRate : List Cond := .code yX4_setRate cX4_setRate 5 (some .int) :: ([.constant RX4 163 (100000), .fieldLink RX4 164 "RoamingHouse$Operator" "unitRate" "I", .methodLink RX4 47 yX4_operatorAt, .instanceMethod yX4_operatorAt, .selects RX4 yX4_operatorAt yX4_operatorAt, .initialized RX4, .code yX4_operatorAt cX4_operatorAt 2 (some (.object "RoamingHouse$Operator")), .classLink RX4 197 "java/lang/IndexOutOfBoundsException", .initialized "java/lang/IndexOutOfBoundsException", .fieldLink RX4 11 "RoamingHouse" "operators" "[LRoamingHouse$Operator;", .methodLink RX4 193 yX4_isOperator, .static yX4_isOperator, .code yX4_isOperator cX4_isOperator 1 (some .boolean), .methodLink RX4 51 yX4_refuseOutside, .static yX4_refuseOutside, .code yX4_refuseOutside cX4_refuseOutside 3 none, .classLink RX4 188 "java/lang/IllegalArgumentException", .initialized "java/lang/IllegalArgumentException"] ++ wsX20 ++ wsX40 ++ (vx_atS RX4 201 "java/lang/IndexOutOfBoundsException" ["java/lang/RuntimeException", "java/lang/Exception"]).filter goodWord ++ (vx_atS RX4 192 "java/lang/IllegalArgumentException" ["java/lang/RuntimeException", "java/lang/Exception"]).filter goodWord)
def wsX4_giveBackUnanswered : List Cond := .code yX4_giveBackUnanswered cX4_giveBackUnanswered 3 none :: ([.fieldLink RX4 37 "RoamingHouse" "callCount" "I", .fieldLink RX4 33 "RoamingHouse" "callRows" "[LRoamingHouse$Call;", .fieldLink RX4 131 "RoamingHouse$Call" "state" "I", .fieldLink RX4 40 "RoamingHouse" "now" "I", .fieldLink RX4 143 "RoamingHouse$Call" "disputedIn" "I"] ++ wsX40 ++ wsX00)
def wsX4_nextMonth : List Cond := .code yX4_nextMonth cX4_nextMonth 1 (some .int) :: ([.classLink RX4 73 "java/lang/IllegalStateException", .initialized "java/lang/IllegalStateException", .fieldLink RX4 40 "RoamingHouse" "now" "I", .methodLink RX4 169 yX4_giveBackUnanswered, .instanceMethod yX4_giveBackUnanswered, .selects RX4 yX4_giveBackUnanswered yX4_giveBackUnanswered, .initialized RX4, .code yX4_giveBackUnanswered cX4_giveBackUnanswered 3 none, .fieldLink RX4 37 "RoamingHouse" "callCount" "I", .fieldLink RX4 33 "RoamingHouse" "callRows" "[LRoamingHouse$Call;", .fieldLink RX4 131 "RoamingHouse$Call" "state" "I", .fieldLink RX4 143 "RoamingHouse$Call" "disputedIn" "I"] ++ wsX40 ++ wsX00 ++ (vx_atS RX4 77 "java/lang/IllegalStateException" ["java/lang/RuntimeException", "java/lang/Exception"]).filter goodWord)
def wsX4_month : List Cond := .code yX4_month cX4_month 1 (some .int) :: ([.fieldLink RX4 40 "RoamingHouse" "now" "I"] ++ wsX40)
def wsX4_amountOfMonths_r1 : List Cond := [Cond.fieldLink RX4 37 "RoamingHouse" "callCount" "I", Cond.fieldLink RX4 33 "RoamingHouse" "callRows" "[LRoamingHouse$Call;", Cond.fieldLink RX4 221 "RoamingHouse$Call" "file" "LRoamingHouse$CallFile;", Cond.fieldLink RX4 103 "RoamingHouse$CallFile" "pair" "LRoamingHouse$Pair;", Cond.fieldLink RX4 132 "RoamingHouse$Call" "acceptedIn" "I", Cond.methodLink RX4 135 yX0_amount, Cond.instanceMethod yX0_amount, Cond.selects RX0 yX0_amount yX0_amount, Cond.initialized RX0, Cond.code yX0_amount cX0_amount 1 (some .int), Cond.fieldLink RX0 9 "RoamingHouse$Call" "state" "I", Cond.fieldLink RX0 24 "RoamingHouse$Call" "file" "LRoamingHouse$CallFile;", Cond.fieldLink RX0 34 "RoamingHouse$CallFile" "pair" "LRoamingHouse$Pair;", Cond.fieldLink RX0 15 "RoamingHouse$Call" "acceptedIn" "I", Cond.fieldLink RX0 21 "RoamingHouse$Call" "secondsAhead" "I", Cond.fieldLink RX0 31 "RoamingHouse$Call" "told" "I", Cond.fieldLink RX0 63 "RoamingHouse$Pair" "discountRate" "I", Cond.constantLong RX0 66 (10000), Cond.static yX4_yearOf, Cond.initialized RX4, Cond.code yX4_yearOf cX4_yearOf 1 (some .int), Cond.methodLink RX0 59 yX3_discounts, Cond.instanceMethod yX3_discounts, Cond.selects RX3 yX3_discounts yX3_discounts]
def wsX4_amountOfMonths_r2 : List Cond := [Cond.initialized RX3, Cond.code yX3_discounts cX3_discounts 3 (some .boolean), Cond.fieldLink RX3 24 "RoamingHouse$Pair" "goesBack" "Z", Cond.fieldLink RX3 28 "RoamingHouse$Pair" "acceptedSeconds" "[I", Cond.fieldLink RX3 18 "RoamingHouse$Pair" "volume" "I"]
def wsX4_amountOfMonths : List Cond := .code yX4_amountOfMonths cX4_amountOfMonths 8 (some .long) :: ((wsX4_amountOfMonths_r1 ++ wsX4_amountOfMonths_r2) ++ wsX40 ++ wsX00 ++ wsX10 ++ wsX30)
def wsX4_owed_r1 : List Cond := [Cond.fieldLink RX4 40 "RoamingHouse" "now" "I", Cond.methodLink RX4 69 yX4_pairAt, Cond.instanceMethod yX4_pairAt, Cond.selects RX4 yX4_pairAt yX4_pairAt, Cond.initialized RX4, Cond.code yX4_pairAt cX4_pairAt 3 (some (.object "RoamingHouse$Pair")), Cond.classLink RX4 197 "java/lang/IndexOutOfBoundsException", Cond.initialized "java/lang/IndexOutOfBoundsException", Cond.classLink RX4 188 "java/lang/IllegalArgumentException", Cond.initialized "java/lang/IllegalArgumentException", Cond.fieldLink RX4 17 "RoamingHouse" "pairs" "[LRoamingHouse$Pair;", Cond.methodLink RX4 193 yX4_isOperator, Cond.static yX4_isOperator, Cond.code yX4_isOperator cX4_isOperator 1 (some .boolean), Cond.methodLink RX4 51 yX4_refuseOutside, Cond.static yX4_refuseOutside, Cond.code yX4_refuseOutside cX4_refuseOutside 3 none, Cond.methodLink RX4 172 yX4_amountOfMonths, Cond.instanceMethod yX4_amountOfMonths, Cond.selects RX4 yX4_amountOfMonths yX4_amountOfMonths, Cond.code yX4_amountOfMonths cX4_amountOfMonths 8 (some .long), Cond.fieldLink RX4 37 "RoamingHouse" "callCount" "I", Cond.fieldLink RX4 33 "RoamingHouse" "callRows" "[LRoamingHouse$Call;", Cond.fieldLink RX4 221 "RoamingHouse$Call" "file" "LRoamingHouse$CallFile;"]
def wsX4_owed_r2 : List Cond := [Cond.fieldLink RX4 103 "RoamingHouse$CallFile" "pair" "LRoamingHouse$Pair;", Cond.fieldLink RX4 132 "RoamingHouse$Call" "acceptedIn" "I", Cond.methodLink RX4 135 yX0_amount, Cond.instanceMethod yX0_amount, Cond.selects RX0 yX0_amount yX0_amount, Cond.initialized RX0, Cond.code yX0_amount cX0_amount 1 (some .int), Cond.fieldLink RX0 9 "RoamingHouse$Call" "state" "I", Cond.fieldLink RX0 24 "RoamingHouse$Call" "file" "LRoamingHouse$CallFile;", Cond.fieldLink RX0 34 "RoamingHouse$CallFile" "pair" "LRoamingHouse$Pair;", Cond.fieldLink RX0 15 "RoamingHouse$Call" "acceptedIn" "I", Cond.fieldLink RX0 21 "RoamingHouse$Call" "secondsAhead" "I", Cond.fieldLink RX0 31 "RoamingHouse$Call" "told" "I", Cond.fieldLink RX0 63 "RoamingHouse$Pair" "discountRate" "I", Cond.constantLong RX0 66 (10000), Cond.static yX4_yearOf, Cond.code yX4_yearOf cX4_yearOf 1 (some .int), Cond.methodLink RX0 59 yX3_discounts, Cond.instanceMethod yX3_discounts, Cond.selects RX3 yX3_discounts yX3_discounts, Cond.initialized RX3, Cond.code yX3_discounts cX3_discounts 3 (some .boolean), Cond.fieldLink RX3 24 "RoamingHouse$Pair" "goesBack" "Z", Cond.fieldLink RX3 28 "RoamingHouse$Pair" "acceptedSeconds" "[I"]
def wsX4_owed_r3 : List Cond := [Cond.fieldLink RX3 18 "RoamingHouse$Pair" "volume" "I"]
def wsX4_owed : List Cond := .code yX4_owed cX4_owed 5 (some .long) :: ((wsX4_owed_r1 ++ (wsX4_owed_r2 ++ wsX4_owed_r3)) ++ wsX40 ++ wsX00 ++ wsX10 ++ wsX30 ++ (vx_atS RX4 201 "java/lang/IndexOutOfBoundsException" ["java/lang/RuntimeException", "java/lang/Exception"]).filter goodWord ++ (vx_atS RX4 192 "java/lang/IllegalArgumentException" ["java/lang/RuntimeException", "java/lang/Exception"]).filter goodWord)
def wsX4_shortfall_r1 : List Cond := [Cond.classLink RX4 73 "java/lang/IllegalStateException", Cond.initialized "java/lang/IllegalStateException", Cond.fieldLink RX4 40 "RoamingHouse" "now" "I", Cond.fieldLink RX4 160 "RoamingHouse$Pair" "promised" "I", Cond.methodLink RX4 181 Lib.MathLoose.max_long.x, Cond.static Lib.MathLoose.max_long.x, Cond.initialized "java/lang/Math", Cond.code Lib.MathLoose.max_long.x Lib.MathLoose.max_long.code 4 (some .long), Cond.methodLink RX4 69 yX4_pairAt, Cond.instanceMethod yX4_pairAt, Cond.selects RX4 yX4_pairAt yX4_pairAt, Cond.initialized RX4, Cond.code yX4_pairAt cX4_pairAt 3 (some (.object "RoamingHouse$Pair")), Cond.classLink RX4 197 "java/lang/IndexOutOfBoundsException", Cond.initialized "java/lang/IndexOutOfBoundsException", Cond.classLink RX4 188 "java/lang/IllegalArgumentException", Cond.initialized "java/lang/IllegalArgumentException", Cond.fieldLink RX4 17 "RoamingHouse" "pairs" "[LRoamingHouse$Pair;", Cond.methodLink RX4 193 yX4_isOperator, Cond.static yX4_isOperator, Cond.code yX4_isOperator cX4_isOperator 1 (some .boolean), Cond.methodLink RX4 51 yX4_refuseOutside, Cond.static yX4_refuseOutside, Cond.code yX4_refuseOutside cX4_refuseOutside 3 none]
def wsX4_shortfall_r2 : List Cond := [Cond.methodLink RX4 176 yX4_yearOf, Cond.static yX4_yearOf, Cond.code yX4_yearOf cX4_yearOf 1 (some .int), Cond.methodLink RX4 172 yX4_amountOfMonths, Cond.instanceMethod yX4_amountOfMonths, Cond.selects RX4 yX4_amountOfMonths yX4_amountOfMonths, Cond.code yX4_amountOfMonths cX4_amountOfMonths 8 (some .long), Cond.fieldLink RX4 37 "RoamingHouse" "callCount" "I", Cond.fieldLink RX4 33 "RoamingHouse" "callRows" "[LRoamingHouse$Call;", Cond.fieldLink RX4 221 "RoamingHouse$Call" "file" "LRoamingHouse$CallFile;", Cond.fieldLink RX4 103 "RoamingHouse$CallFile" "pair" "LRoamingHouse$Pair;", Cond.fieldLink RX4 132 "RoamingHouse$Call" "acceptedIn" "I", Cond.methodLink RX4 135 yX0_amount, Cond.instanceMethod yX0_amount, Cond.selects RX0 yX0_amount yX0_amount, Cond.initialized RX0, Cond.code yX0_amount cX0_amount 1 (some .int), Cond.fieldLink RX0 9 "RoamingHouse$Call" "state" "I", Cond.fieldLink RX0 24 "RoamingHouse$Call" "file" "LRoamingHouse$CallFile;", Cond.fieldLink RX0 34 "RoamingHouse$CallFile" "pair" "LRoamingHouse$Pair;", Cond.fieldLink RX0 15 "RoamingHouse$Call" "acceptedIn" "I", Cond.fieldLink RX0 21 "RoamingHouse$Call" "secondsAhead" "I", Cond.fieldLink RX0 31 "RoamingHouse$Call" "told" "I", Cond.fieldLink RX0 63 "RoamingHouse$Pair" "discountRate" "I"]
def wsX4_shortfall_r3 : List Cond := [Cond.constantLong RX0 66 (10000), Cond.methodLink RX0 59 yX3_discounts, Cond.instanceMethod yX3_discounts, Cond.selects RX3 yX3_discounts yX3_discounts, Cond.initialized RX3, Cond.code yX3_discounts cX3_discounts 3 (some .boolean), Cond.fieldLink RX3 24 "RoamingHouse$Pair" "goesBack" "Z", Cond.fieldLink RX3 28 "RoamingHouse$Pair" "acceptedSeconds" "[I", Cond.fieldLink RX3 18 "RoamingHouse$Pair" "volume" "I"]
def wsX4_shortfall : List Cond := .code yX4_shortfall cX4_shortfall 6 (some .long) :: ((wsX4_shortfall_r1 ++ (wsX4_shortfall_r2 ++ wsX4_shortfall_r3)) ++ wsX40 ++ wsX30 ++ wsX00 ++ wsX10 ++ (vx_atS RX4 77 "java/lang/IllegalStateException" ["java/lang/RuntimeException", "java/lang/Exception"]).filter goodWord ++ (vx_atS RX4 201 "java/lang/IndexOutOfBoundsException" ["java/lang/RuntimeException", "java/lang/Exception"]).filter goodWord ++ (vx_atS RX4 192 "java/lang/IllegalArgumentException" ["java/lang/RuntimeException", "java/lang/Exception"]).filter goodWord)
def wsX4_unitsOfMonth_r1 : List Cond := [Cond.fieldLink RX4 233 "RoamingHouse$Pair" "host" "LRoamingHouse$Operator;", Cond.fieldLink RX4 164 "RoamingHouse$Operator" "unitRate" "I", Cond.constantLong RX4 237 (1000), Cond.methodLink RX4 172 yX4_amountOfMonths, Cond.instanceMethod yX4_amountOfMonths, Cond.selects RX4 yX4_amountOfMonths yX4_amountOfMonths, Cond.initialized RX4, Cond.code yX4_amountOfMonths cX4_amountOfMonths 8 (some .long), Cond.fieldLink RX4 37 "RoamingHouse" "callCount" "I", Cond.fieldLink RX4 33 "RoamingHouse" "callRows" "[LRoamingHouse$Call;", Cond.fieldLink RX4 221 "RoamingHouse$Call" "file" "LRoamingHouse$CallFile;", Cond.fieldLink RX4 103 "RoamingHouse$CallFile" "pair" "LRoamingHouse$Pair;", Cond.fieldLink RX4 132 "RoamingHouse$Call" "acceptedIn" "I", Cond.methodLink RX4 135 yX0_amount, Cond.instanceMethod yX0_amount, Cond.selects RX0 yX0_amount yX0_amount, Cond.initialized RX0, Cond.code yX0_amount cX0_amount 1 (some .int), Cond.fieldLink RX0 9 "RoamingHouse$Call" "state" "I", Cond.fieldLink RX0 24 "RoamingHouse$Call" "file" "LRoamingHouse$CallFile;", Cond.fieldLink RX0 34 "RoamingHouse$CallFile" "pair" "LRoamingHouse$Pair;", Cond.fieldLink RX0 15 "RoamingHouse$Call" "acceptedIn" "I", Cond.fieldLink RX0 21 "RoamingHouse$Call" "secondsAhead" "I", Cond.fieldLink RX0 31 "RoamingHouse$Call" "told" "I"]
def wsX4_unitsOfMonth_r2 : List Cond := [Cond.fieldLink RX0 63 "RoamingHouse$Pair" "discountRate" "I", Cond.constantLong RX0 66 (10000), Cond.static yX4_yearOf, Cond.code yX4_yearOf cX4_yearOf 1 (some .int), Cond.methodLink RX0 59 yX3_discounts, Cond.instanceMethod yX3_discounts, Cond.selects RX3 yX3_discounts yX3_discounts, Cond.initialized RX3, Cond.code yX3_discounts cX3_discounts 3 (some .boolean), Cond.fieldLink RX3 24 "RoamingHouse$Pair" "goesBack" "Z", Cond.fieldLink RX3 28 "RoamingHouse$Pair" "acceptedSeconds" "[I", Cond.fieldLink RX3 18 "RoamingHouse$Pair" "volume" "I"]
def wsX4_unitsOfMonth : List Cond := .code yX4_unitsOfMonth cX4_unitsOfMonth 3 (some .long) :: ((wsX4_unitsOfMonth_r1 ++ wsX4_unitsOfMonth_r2) ++ wsX30 ++ wsX20 ++ wsX40 ++ wsX00 ++ wsX10)
def wsX4_net_r1 : List Cond := [Cond.fieldLink RX4 40 "RoamingHouse" "now" "I", Cond.fieldLink RX4 17 "RoamingHouse" "pairs" "[LRoamingHouse$Pair;", Cond.methodLink RX4 47 yX4_operatorAt, Cond.instanceMethod yX4_operatorAt, Cond.selects RX4 yX4_operatorAt yX4_operatorAt, Cond.initialized RX4, Cond.code yX4_operatorAt cX4_operatorAt 2 (some (.object "RoamingHouse$Operator")), Cond.classLink RX4 197 "java/lang/IndexOutOfBoundsException", Cond.initialized "java/lang/IndexOutOfBoundsException", Cond.fieldLink RX4 11 "RoamingHouse" "operators" "[LRoamingHouse$Operator;", Cond.methodLink RX4 193 yX4_isOperator, Cond.static yX4_isOperator, Cond.code yX4_isOperator cX4_isOperator 1 (some .boolean), Cond.methodLink RX4 51 yX4_refuseOutside, Cond.static yX4_refuseOutside, Cond.code yX4_refuseOutside cX4_refuseOutside 3 none, Cond.classLink RX4 188 "java/lang/IllegalArgumentException", Cond.initialized "java/lang/IllegalArgumentException", Cond.methodLink RX4 184 yX4_unitsOfMonth, Cond.instanceMethod yX4_unitsOfMonth, Cond.selects RX4 yX4_unitsOfMonth yX4_unitsOfMonth, Cond.code yX4_unitsOfMonth cX4_unitsOfMonth 3 (some .long), Cond.fieldLink RX4 233 "RoamingHouse$Pair" "host" "LRoamingHouse$Operator;", Cond.fieldLink RX4 164 "RoamingHouse$Operator" "unitRate" "I"]
def wsX4_net_r2 : List Cond := [Cond.constantLong RX4 237 (1000), Cond.methodLink RX4 172 yX4_amountOfMonths, Cond.instanceMethod yX4_amountOfMonths, Cond.selects RX4 yX4_amountOfMonths yX4_amountOfMonths, Cond.code yX4_amountOfMonths cX4_amountOfMonths 8 (some .long), Cond.fieldLink RX4 37 "RoamingHouse" "callCount" "I", Cond.fieldLink RX4 33 "RoamingHouse" "callRows" "[LRoamingHouse$Call;", Cond.fieldLink RX4 221 "RoamingHouse$Call" "file" "LRoamingHouse$CallFile;", Cond.fieldLink RX4 103 "RoamingHouse$CallFile" "pair" "LRoamingHouse$Pair;", Cond.fieldLink RX4 132 "RoamingHouse$Call" "acceptedIn" "I", Cond.methodLink RX4 135 yX0_amount, Cond.instanceMethod yX0_amount, Cond.selects RX0 yX0_amount yX0_amount, Cond.initialized RX0, Cond.code yX0_amount cX0_amount 1 (some .int), Cond.fieldLink RX0 9 "RoamingHouse$Call" "state" "I", Cond.fieldLink RX0 24 "RoamingHouse$Call" "file" "LRoamingHouse$CallFile;", Cond.fieldLink RX0 34 "RoamingHouse$CallFile" "pair" "LRoamingHouse$Pair;", Cond.fieldLink RX0 15 "RoamingHouse$Call" "acceptedIn" "I", Cond.fieldLink RX0 21 "RoamingHouse$Call" "secondsAhead" "I", Cond.fieldLink RX0 31 "RoamingHouse$Call" "told" "I", Cond.fieldLink RX0 63 "RoamingHouse$Pair" "discountRate" "I", Cond.constantLong RX0 66 (10000), Cond.static yX4_yearOf]
def wsX4_net_r3 : List Cond := [Cond.code yX4_yearOf cX4_yearOf 1 (some .int), Cond.methodLink RX0 59 yX3_discounts, Cond.instanceMethod yX3_discounts, Cond.selects RX3 yX3_discounts yX3_discounts, Cond.initialized RX3, Cond.code yX3_discounts cX3_discounts 3 (some .boolean), Cond.fieldLink RX3 24 "RoamingHouse$Pair" "goesBack" "Z", Cond.fieldLink RX3 28 "RoamingHouse$Pair" "acceptedSeconds" "[I", Cond.fieldLink RX3 18 "RoamingHouse$Pair" "volume" "I"]
def wsX4_net : List Cond := .code yX4_net cX4_net 6 (some .long) :: ((wsX4_net_r1 ++ (wsX4_net_r2 ++ wsX4_net_r3)) ++ wsX40 ++ wsX30 ++ wsX20 ++ wsX00 ++ wsX10 ++ (vx_atS RX4 201 "java/lang/IndexOutOfBoundsException" ["java/lang/RuntimeException", "java/lang/Exception"]).filter goodWord ++ (vx_atS RX4 192 "java/lang/IllegalArgumentException" ["java/lang/RuntimeException", "java/lang/Exception"]).filter goodWord)
def wsJ9_max_7cf53 : List Cond := .code yJ9_max_7cf53 cJ9_max_7cf53 2 (some .int) :: ([])
def wsJ9_max_f86c9 : List Cond := .code yJ9_max_f86c9 cJ9_max_f86c9 4 (some .long) :: ([])
def wsL_charge : List Cond := .code yL_charge cL_charge 5 (some .int) :: ([])
def wsL_state : List Cond := .code yL_state cL_state 2 (some .int) :: ([])
def wsL_month : List Cond := .code yL_month cL_month 2 (some .int) :: ([])
def wsL_pair : List Cond := .code yL_pair cL_pair 3 (some .int) :: ([])
def wsL_looks : List Cond := .code yL_looks cL_looks 12 none :: ([.methodLink RL 7 yL_charge, .static yL_charge, .initialized RL, .code yL_charge cL_charge 5 (some .int)])
def wsL_sends : List Cond := .code yL_sends cL_sends 14 (some .int) :: ([.methodLink RL 13 yL_looks, .static yL_looks, .initialized RL, .code yL_looks cL_looks 12 none, .methodLink RL 7 yL_charge, .static yL_charge, .code yL_charge cL_charge 5 (some .int)])
def wsL_owed : List Cond := .code yL_owed cL_owed 23 (some .long) :: ([.constantLong RL 25 (10000), .methodLink RL 17 yL_pair, .static yL_pair, .initialized RL, .code yL_pair cL_pair 3 (some .int), .methodLink RL 21 yL_month, .static yL_month, .code yL_month cL_month 2 (some .int), .methodLink RL 27 yL_state, .static yL_state, .code yL_state cL_state 2 (some .int)])
def wsL_does_r1 : List Cond := [Cond.classLink RL 47 "java/lang/IndexOutOfBoundsException", Cond.classLink RL 49 "java/lang/IllegalArgumentException", Cond.classLink RL 51 "java/lang/IllegalStateException", Cond.methodLink RL 30 yX4_begin, Cond.instanceMethod yX4_begin, Cond.selects RX4 yX4_begin yX4_begin, Cond.initialized RX4, Cond.code yX4_begin cX4_begin 5 (some .int), Cond.classLink RX4 73 "java/lang/IllegalStateException", Cond.initialized "java/lang/IllegalStateException", Cond.fieldLink RX4 27 "RoamingHouse" "fileCount" "I", Cond.fieldLink RX4 23 "RoamingHouse" "fileRows" "[LRoamingHouse$CallFile;", Cond.classLink RX4 21 RX1, Cond.instantiable RX1 5, Cond.initialized RX1, Cond.fieldLink RX4 40 "RoamingHouse" "now" "I", Cond.methodLink RX4 69 yX4_pairAt, Cond.instanceMethod yX4_pairAt, Cond.selects RX4 yX4_pairAt yX4_pairAt, Cond.code yX4_pairAt cX4_pairAt 3 (some (.object "RoamingHouse$Pair")), Cond.classLink RX4 197 "java/lang/IndexOutOfBoundsException", Cond.initialized "java/lang/IndexOutOfBoundsException", Cond.classLink RX4 188 "java/lang/IllegalArgumentException", Cond.initialized "java/lang/IllegalArgumentException"]
def wsL_does_r2 : List Cond := [Cond.fieldLink RX4 17 "RoamingHouse" "pairs" "[LRoamingHouse$Pair;", Cond.methodLink RX4 193 yX4_isOperator, Cond.static yX4_isOperator, Cond.code yX4_isOperator cX4_isOperator 1 (some .boolean), Cond.methodLink RX4 80 yX1_init, Cond.instanceMethod yX1_init, Cond.code yX1_init cX1_init 3 none, Cond.methodLink RX1 3 objectInit, Cond.instanceMethod objectInit, Cond.code objectInit ⟨#[0xb1]⟩ 1 none, Cond.fieldLink RX1 9 "RoamingHouse$CallFile" "state" "I", Cond.fieldLink RX1 15 "RoamingHouse$CallFile" "size" "I", Cond.fieldLink RX1 18 "RoamingHouse$CallFile" "number" "I", Cond.fieldLink RX1 21 "RoamingHouse$CallFile" "pair" "LRoamingHouse$Pair;", Cond.fieldLink RX1 25 "RoamingHouse$CallFile" "begunIn" "I", Cond.methodLink RL 36 yX4_enter, Cond.instanceMethod yX4_enter, Cond.selects RX4 yX4_enter yX4_enter, Cond.code yX4_enter cX4_enter 6 (some .int), Cond.constant RX4 64 (36000), Cond.constant RX4 87 (50000000), Cond.fieldLink RX4 88 "RoamingHouse$CallFile" "state" "I", Cond.fieldLink RX4 37 "RoamingHouse" "callCount" "I", Cond.fieldLink RX4 33 "RoamingHouse" "callRows" "[LRoamingHouse$Call;"]
def wsL_does_r3 : List Cond := [Cond.classLink RX4 31 RX0, Cond.instantiable RX0 7, Cond.initialized RX0, Cond.fieldLink RX4 98 "RoamingHouse$CallFile" "size" "I", Cond.methodLink RX4 83 yX4_fileAt, Cond.instanceMethod yX4_fileAt, Cond.selects RX4 yX4_fileAt yX4_fileAt, Cond.code yX4_fileAt cX4_fileAt 2 (some (.object "RoamingHouse$CallFile")), Cond.methodLink RX4 51 yX4_refuseOutside, Cond.static yX4_refuseOutside, Cond.code yX4_refuseOutside cX4_refuseOutside 3 none, Cond.methodLink RX4 95 yX0_init, Cond.instanceMethod yX0_init, Cond.code yX0_init cX0_init 4 none, Cond.methodLink RX0 3 objectInit, Cond.fieldLink RX0 9 "RoamingHouse$Call" "state" "I", Cond.fieldLink RX0 15 "RoamingHouse$Call" "acceptedIn" "I", Cond.fieldLink RX0 18 "RoamingHouse$Call" "disputedIn" "I", Cond.fieldLink RX0 21 "RoamingHouse$Call" "secondsAhead" "I", Cond.fieldLink RX0 24 "RoamingHouse$Call" "file" "LRoamingHouse$CallFile;", Cond.fieldLink RX0 28 "RoamingHouse$Call" "seconds" "I", Cond.fieldLink RX0 31 "RoamingHouse$Call" "told" "I", Cond.methodLink RL 40 yX4_send, Cond.instanceMethod yX4_send]
def wsL_does_r4 : List Cond := [Cond.selects RX4 yX4_send yX4_send, Cond.code yX4_send cX4_send 5 (some .int), Cond.fieldLink RX4 103 "RoamingHouse$CallFile" "pair" "LRoamingHouse$Pair;", Cond.fieldLink RX4 107 "RoamingHouse$Pair" "expectedNumber" "I", Cond.fieldLink RX4 114 "RoamingHouse$CallFile" "number" "I", Cond.methodLink RX4 110 yX4_waitingFile, Cond.instanceMethod yX4_waitingFile, Cond.selects RX4 yX4_waitingFile yX4_waitingFile, Cond.code yX4_waitingFile cX4_waitingFile 5 (some (.object "RoamingHouse$CallFile")), Cond.methodLink RX4 117 yX4_lookAtAllFrom, Cond.instanceMethod yX4_lookAtAllFrom, Cond.selects RX4 yX4_lookAtAllFrom yX4_lookAtAllFrom, Cond.code yX4_lookAtAllFrom cX4_lookAtAllFrom 5 none, Cond.methodLink RX4 208 yX4_lookAt, Cond.instanceMethod yX4_lookAt, Cond.selects RX4 yX4_lookAt yX4_lookAt, Cond.code yX4_lookAt cX4_lookAt 2 none, Cond.fieldLink RX4 211 "RoamingHouse$CallFile" "begunIn" "I", Cond.methodLink RX4 214 yX4_wrongCallsOf, Cond.instanceMethod yX4_wrongCallsOf, Cond.selects RX4 yX4_wrongCallsOf yX4_wrongCallsOf, Cond.code yX4_wrongCallsOf cX4_wrongCallsOf 5 (some .int), Cond.fieldLink RX4 221 "RoamingHouse$Call" "file" "LRoamingHouse$CallFile;", Cond.methodLink RX4 225 yX0_isRight]
def wsL_does_r5 : List Cond := [Cond.instanceMethod yX0_isRight, Cond.selects RX0 yX0_isRight yX0_isRight, Cond.code yX0_isRight cX0_isRight 1 (some .boolean), Cond.fieldLink RX0 34 "RoamingHouse$CallFile" "pair" "LRoamingHouse$Pair;", Cond.fieldLink RX0 40 "RoamingHouse$Pair" "host" "LRoamingHouse$Operator;", Cond.methodLink RX0 46 yX2_chargeFor, Cond.instanceMethod yX2_chargeFor, Cond.selects RX2 yX2_chargeFor yX2_chargeFor, Cond.initialized RX2, Cond.code yX2_chargeFor cX2_chargeFor 3 (some .int), Cond.fieldLink RX2 9 "RoamingHouse$Operator" "step" "I", Cond.fieldLink RX2 18 "RoamingHouse$Operator" "beginning" "I", Cond.fieldLink RX2 15 "RoamingHouse$Operator" "price" "I", Cond.methodLink RX4 218 yX4_acceptRightCallsOf, Cond.instanceMethod yX4_acceptRightCallsOf, Cond.selects RX4 yX4_acceptRightCallsOf yX4_acceptRightCallsOf, Cond.code yX4_acceptRightCallsOf cX4_acceptRightCallsOf 4 none, Cond.methodLink RX4 229 yX0_acceptIn, Cond.instanceMethod yX0_acceptIn, Cond.selects RX0 yX0_acceptIn yX0_acceptIn, Cond.code yX0_acceptIn cX0_acceptIn 3 none, Cond.fieldLink RX0 55 "RoamingHouse$Pair" "acceptedSeconds" "[I", Cond.static yX4_yearOf, Cond.code yX4_yearOf cX4_yearOf 1 (some .int)]
def wsL_does_r6 : List Cond := [Cond.methodLink RL 43 yX4_nextMonth, Cond.instanceMethod yX4_nextMonth, Cond.selects RX4 yX4_nextMonth yX4_nextMonth, Cond.code yX4_nextMonth cX4_nextMonth 1 (some .int), Cond.methodLink RX4 169 yX4_giveBackUnanswered, Cond.instanceMethod yX4_giveBackUnanswered, Cond.selects RX4 yX4_giveBackUnanswered yX4_giveBackUnanswered, Cond.code yX4_giveBackUnanswered cX4_giveBackUnanswered 3 none, Cond.fieldLink RX4 131 "RoamingHouse$Call" "state" "I", Cond.fieldLink RX4 143 "RoamingHouse$Call" "disputedIn" "I"]
def wsL_does : List Cond := .codeWith yL_does cL_does 6 (some .int) [(0, 47, 48, 47), (0, 47, 53, 49), (0, 47, 58, 51)] :: ((wsL_does_r1 ++ (wsL_does_r2 ++ (wsL_does_r3 ++ (wsL_does_r4 ++ (wsL_does_r5 ++ wsL_does_r6))))) ++ wsX40 ++ wsX10 ++ wsX00 ++ wsX30 ++ wsX20 ++ (vx_atS RX4 77 "java/lang/IllegalStateException" ["java/lang/RuntimeException", "java/lang/Exception"]).filter goodWord ++ (vx_atS RX4 201 "java/lang/IndexOutOfBoundsException" ["java/lang/RuntimeException", "java/lang/Exception"]).filter goodWord ++ (vx_atS RX4 192 "java/lang/IllegalArgumentException" ["java/lang/RuntimeException", "java/lang/Exception"]).filter goodWord)
def wsL_isDisputed : List Cond := .codeWith yL_isDisputed cL_isDisputed 3 (some .boolean) [(0, 6, 7, 51)] :: ([.classLink RL 51 "java/lang/IllegalStateException", .methodLink RL 53 yX4_dispute, .instanceMethod yX4_dispute, .selects RX4 yX4_dispute yX4_dispute, .initialized RX4, .code yX4_dispute cX4_dispute 3 none, .classLink RX4 73 "java/lang/IllegalStateException", .initialized "java/lang/IllegalStateException", .fieldLink RX4 131 "RoamingHouse$Call" "state" "I", .fieldLink RX4 40 "RoamingHouse" "now" "I", .fieldLink RX4 132 "RoamingHouse$Call" "acceptedIn" "I", .fieldLink RX4 143 "RoamingHouse$Call" "disputedIn" "I", .methodLink RX4 127 yX4_callAt, .instanceMethod yX4_callAt, .selects RX4 yX4_callAt yX4_callAt, .code yX4_callAt cX4_callAt 2 (some (.object "RoamingHouse$Call")), .classLink RX4 197 "java/lang/IndexOutOfBoundsException", .initialized "java/lang/IndexOutOfBoundsException", .fieldLink RX4 37 "RoamingHouse" "callCount" "I", .fieldLink RX4 33 "RoamingHouse" "callRows" "[LRoamingHouse$Call;"] ++ wsX00 ++ wsX40 ++ (vx_atS RX4 77 "java/lang/IllegalStateException" ["java/lang/RuntimeException", "java/lang/Exception"]).filter goodWord ++ (vx_atS RX4 201 "java/lang/IndexOutOfBoundsException" ["java/lang/RuntimeException", "java/lang/Exception"]).filter goodWord)
def wsL_isAnswered : List Cond := .codeWith yL_isAnswered cL_isAnswered 4 (some .boolean) [(0, 7, 8, 51)] :: ([.classLink RL 51 "java/lang/IllegalStateException", .methodLink RL 57 yX4_answer, .instanceMethod yX4_answer, .selects RX4 yX4_answer yX4_answer, .initialized RX4, .code yX4_answer cX4_answer 4 none, .classLink RX4 73 "java/lang/IllegalStateException", .initialized "java/lang/IllegalStateException", .fieldLink RX4 131 "RoamingHouse$Call" "state" "I", .methodLink RX4 127 yX4_callAt, .instanceMethod yX4_callAt, .selects RX4 yX4_callAt yX4_callAt, .code yX4_callAt cX4_callAt 2 (some (.object "RoamingHouse$Call")), .classLink RX4 197 "java/lang/IndexOutOfBoundsException", .initialized "java/lang/IndexOutOfBoundsException", .fieldLink RX4 37 "RoamingHouse" "callCount" "I", .fieldLink RX4 33 "RoamingHouse" "callRows" "[LRoamingHouse$Call;"] ++ wsX00 ++ wsX40 ++ (vx_atS RX4 77 "java/lang/IllegalStateException" ["java/lang/RuntimeException", "java/lang/Exception"]).filter goodWord ++ (vx_atS RX4 201 "java/lang/IndexOutOfBoundsException" ["java/lang/RuntimeException", "java/lang/Exception"]).filter goodWord)
def wsL_short1_r1 : List Cond := [Cond.classLink RL 51 "java/lang/IllegalStateException", Cond.constantLong RL 65 (-13), Cond.methodLink RL 61 yX4_shortfall, Cond.instanceMethod yX4_shortfall, Cond.selects RX4 yX4_shortfall yX4_shortfall, Cond.initialized RX4, Cond.code yX4_shortfall cX4_shortfall 6 (some .long), Cond.classLink RX4 73 "java/lang/IllegalStateException", Cond.initialized "java/lang/IllegalStateException", Cond.fieldLink RX4 40 "RoamingHouse" "now" "I", Cond.fieldLink RX4 160 "RoamingHouse$Pair" "promised" "I", Cond.methodLink RX4 181 Lib.MathLoose.max_long.x, Cond.static Lib.MathLoose.max_long.x, Cond.initialized "java/lang/Math", Cond.code Lib.MathLoose.max_long.x Lib.MathLoose.max_long.code 4 (some .long), Cond.methodLink RX4 69 yX4_pairAt, Cond.instanceMethod yX4_pairAt, Cond.selects RX4 yX4_pairAt yX4_pairAt, Cond.code yX4_pairAt cX4_pairAt 3 (some (.object "RoamingHouse$Pair")), Cond.classLink RX4 197 "java/lang/IndexOutOfBoundsException", Cond.initialized "java/lang/IndexOutOfBoundsException", Cond.classLink RX4 188 "java/lang/IllegalArgumentException", Cond.initialized "java/lang/IllegalArgumentException", Cond.fieldLink RX4 17 "RoamingHouse" "pairs" "[LRoamingHouse$Pair;"]
def wsL_short1_r2 : List Cond := [Cond.methodLink RX4 193 yX4_isOperator, Cond.static yX4_isOperator, Cond.code yX4_isOperator cX4_isOperator 1 (some .boolean), Cond.methodLink RX4 51 yX4_refuseOutside, Cond.static yX4_refuseOutside, Cond.code yX4_refuseOutside cX4_refuseOutside 3 none, Cond.methodLink RX4 176 yX4_yearOf, Cond.static yX4_yearOf, Cond.code yX4_yearOf cX4_yearOf 1 (some .int), Cond.methodLink RX4 172 yX4_amountOfMonths, Cond.instanceMethod yX4_amountOfMonths, Cond.selects RX4 yX4_amountOfMonths yX4_amountOfMonths, Cond.code yX4_amountOfMonths cX4_amountOfMonths 8 (some .long), Cond.fieldLink RX4 37 "RoamingHouse" "callCount" "I", Cond.fieldLink RX4 33 "RoamingHouse" "callRows" "[LRoamingHouse$Call;", Cond.fieldLink RX4 221 "RoamingHouse$Call" "file" "LRoamingHouse$CallFile;", Cond.fieldLink RX4 103 "RoamingHouse$CallFile" "pair" "LRoamingHouse$Pair;", Cond.fieldLink RX4 132 "RoamingHouse$Call" "acceptedIn" "I", Cond.methodLink RX4 135 yX0_amount, Cond.instanceMethod yX0_amount, Cond.selects RX0 yX0_amount yX0_amount, Cond.initialized RX0, Cond.code yX0_amount cX0_amount 1 (some .int), Cond.fieldLink RX0 9 "RoamingHouse$Call" "state" "I"]
def wsL_short1_r3 : List Cond := [Cond.fieldLink RX0 24 "RoamingHouse$Call" "file" "LRoamingHouse$CallFile;", Cond.fieldLink RX0 34 "RoamingHouse$CallFile" "pair" "LRoamingHouse$Pair;", Cond.fieldLink RX0 15 "RoamingHouse$Call" "acceptedIn" "I", Cond.fieldLink RX0 21 "RoamingHouse$Call" "secondsAhead" "I", Cond.fieldLink RX0 31 "RoamingHouse$Call" "told" "I", Cond.fieldLink RX0 63 "RoamingHouse$Pair" "discountRate" "I", Cond.constantLong RX0 66 (10000), Cond.methodLink RX0 59 yX3_discounts, Cond.instanceMethod yX3_discounts, Cond.selects RX3 yX3_discounts yX3_discounts, Cond.initialized RX3, Cond.code yX3_discounts cX3_discounts 3 (some .boolean), Cond.fieldLink RX3 24 "RoamingHouse$Pair" "goesBack" "Z", Cond.fieldLink RX3 28 "RoamingHouse$Pair" "acceptedSeconds" "[I", Cond.fieldLink RX3 18 "RoamingHouse$Pair" "volume" "I"]
def wsL_short1 : List Cond := .codeWith yL_short1 cL_short1 5 (some .long) [(0, 7, 8, 51)] :: ((wsL_short1_r1 ++ (wsL_short1_r2 ++ wsL_short1_r3)) ++ wsX40 ++ wsX30 ++ wsX00 ++ wsX10 ++ (vx_atS RX4 77 "java/lang/IllegalStateException" ["java/lang/RuntimeException", "java/lang/Exception"]).filter goodWord ++ (vx_atS RX4 201 "java/lang/IndexOutOfBoundsException" ["java/lang/RuntimeException", "java/lang/Exception"]).filter goodWord ++ (vx_atS RX4 192 "java/lang/IllegalArgumentException" ["java/lang/RuntimeException", "java/lang/Exception"]).filter goodWord)
def wsL_lacking : List Cond := .code yL_lacking cL_lacking 10 (some .int) :: ([])
def wsL_isHouse_r1 : List Cond := [Cond.arrayClass .long, Cond.constantLong RL 65 (-13), Cond.constantLong RL 104 (1000), Cond.constant RL 110 (36000), Cond.methodLink RL 67 yX4_calls, Cond.instanceMethod yX4_calls, Cond.selects RX4 yX4_calls yX4_calls, Cond.initialized RX4, Cond.code yX4_calls cX4_calls 1 (some .int), Cond.fieldLink RX4 37 "RoamingHouse" "callCount" "I", Cond.methodLink RL 70 yX4_month, Cond.instanceMethod yX4_month, Cond.selects RX4 yX4_month yX4_month, Cond.code yX4_month cX4_month 1 (some .int), Cond.fieldLink RX4 40 "RoamingHouse" "now" "I", Cond.methodLink RL 72 yX4_stateOf, Cond.instanceMethod yX4_stateOf, Cond.selects RX4 yX4_stateOf yX4_stateOf, Cond.code yX4_stateOf cX4_stateOf 2 (some .int), Cond.fieldLink RX4 88 "RoamingHouse$CallFile" "state" "I", Cond.methodLink RX4 83 yX4_fileAt, Cond.instanceMethod yX4_fileAt, Cond.selects RX4 yX4_fileAt yX4_fileAt, Cond.code yX4_fileAt cX4_fileAt 2 (some (.object "RoamingHouse$CallFile"))]
def wsL_isHouse_r2 : List Cond := [Cond.classLink RX4 197 "java/lang/IndexOutOfBoundsException", Cond.initialized "java/lang/IndexOutOfBoundsException", Cond.fieldLink RX4 27 "RoamingHouse" "fileCount" "I", Cond.fieldLink RX4 23 "RoamingHouse" "fileRows" "[LRoamingHouse$CallFile;", Cond.methodLink RL 21 yL_month, Cond.static yL_month, Cond.initialized RL, Cond.code yL_month cL_month 2 (some .int), Cond.methodLink RL 76 yX4_call, Cond.instanceMethod yX4_call, Cond.selects RX4 yX4_call yX4_call, Cond.code yX4_call cX4_call 2 (some .int), Cond.fieldLink RX4 131 "RoamingHouse$Call" "state" "I", Cond.methodLink RX4 127 yX4_callAt, Cond.instanceMethod yX4_callAt, Cond.selects RX4 yX4_callAt yX4_callAt, Cond.code yX4_callAt cX4_callAt 2 (some (.object "RoamingHouse$Call")), Cond.fieldLink RX4 33 "RoamingHouse" "callRows" "[LRoamingHouse$Call;", Cond.methodLink RL 27 yL_state, Cond.static yL_state, Cond.code yL_state cL_state 2 (some .int), Cond.methodLink RL 79 yX4_monthOf, Cond.instanceMethod yX4_monthOf, Cond.selects RX4 yX4_monthOf yX4_monthOf]
def wsL_isHouse_r3 : List Cond := [Cond.code yX4_monthOf cX4_monthOf 2 (some .int), Cond.fieldLink RX4 132 "RoamingHouse$Call" "acceptedIn" "I", Cond.methodLink RL 82 yX4_owedFor, Cond.instanceMethod yX4_owedFor, Cond.selects RX4 yX4_owedFor yX4_owedFor, Cond.code yX4_owedFor cX4_owedFor 2 (some .int), Cond.methodLink RX4 135 yX0_amount, Cond.instanceMethod yX0_amount, Cond.selects RX0 yX0_amount yX0_amount, Cond.initialized RX0, Cond.code yX0_amount cX0_amount 1 (some .int), Cond.fieldLink RX0 9 "RoamingHouse$Call" "state" "I", Cond.fieldLink RX0 24 "RoamingHouse$Call" "file" "LRoamingHouse$CallFile;", Cond.fieldLink RX0 34 "RoamingHouse$CallFile" "pair" "LRoamingHouse$Pair;", Cond.fieldLink RX0 15 "RoamingHouse$Call" "acceptedIn" "I", Cond.fieldLink RX0 21 "RoamingHouse$Call" "secondsAhead" "I", Cond.fieldLink RX0 31 "RoamingHouse$Call" "told" "I", Cond.fieldLink RX0 63 "RoamingHouse$Pair" "discountRate" "I", Cond.constantLong RX0 66 (10000), Cond.static yX4_yearOf, Cond.code yX4_yearOf cX4_yearOf 1 (some .int), Cond.methodLink RX0 59 yX3_discounts, Cond.instanceMethod yX3_discounts, Cond.selects RX3 yX3_discounts yX3_discounts]
def wsL_isHouse_r4 : List Cond := [Cond.initialized RX3, Cond.code yX3_discounts cX3_discounts 3 (some .boolean), Cond.fieldLink RX3 24 "RoamingHouse$Pair" "goesBack" "Z", Cond.fieldLink RX3 28 "RoamingHouse$Pair" "acceptedSeconds" "[I", Cond.fieldLink RX3 18 "RoamingHouse$Pair" "volume" "I", Cond.methodLink RL 17 yL_pair, Cond.static yL_pair, Cond.code yL_pair cL_pair 3 (some .int), Cond.methodLink RL 85 yL_owed, Cond.static yL_owed, Cond.code yL_owed cL_owed 23 (some .long), Cond.constantLong RL 25 (10000), Cond.methodLink RL 89 yX4_expected, Cond.instanceMethod yX4_expected, Cond.selects RX4 yX4_expected yX4_expected, Cond.code yX4_expected cX4_expected 3 (some .int), Cond.fieldLink RX4 107 "RoamingHouse$Pair" "expectedNumber" "I", Cond.methodLink RX4 69 yX4_pairAt, Cond.instanceMethod yX4_pairAt, Cond.selects RX4 yX4_pairAt yX4_pairAt, Cond.code yX4_pairAt cX4_pairAt 3 (some (.object "RoamingHouse$Pair")), Cond.classLink RX4 188 "java/lang/IllegalArgumentException", Cond.initialized "java/lang/IllegalArgumentException", Cond.fieldLink RX4 17 "RoamingHouse" "pairs" "[LRoamingHouse$Pair;"]
def wsL_isHouse_r5 : List Cond := [Cond.methodLink RX4 193 yX4_isOperator, Cond.static yX4_isOperator, Cond.code yX4_isOperator cX4_isOperator 1 (some .boolean), Cond.methodLink RL 92 yX4_lacking, Cond.instanceMethod yX4_lacking, Cond.selects RX4 yX4_lacking yX4_lacking, Cond.code yX4_lacking cX4_lacking 8 (some .int), Cond.fieldLink RX4 103 "RoamingHouse$CallFile" "pair" "LRoamingHouse$Pair;", Cond.fieldLink RX4 114 "RoamingHouse$CallFile" "number" "I", Cond.methodLink RX4 121 Lib.Math.max.name, Cond.static Lib.Math.max.name, Cond.initialized "java/lang/Math", Cond.code Lib.Math.max.name Lib.Math.max.code 2 (some .int), Cond.methodLink RL 95 yL_lacking, Cond.static yL_lacking, Cond.code yL_lacking cL_lacking 10 (some .int), Cond.methodLink RL 98 yX4_owed, Cond.instanceMethod yX4_owed, Cond.selects RX4 yX4_owed yX4_owed, Cond.code yX4_owed cX4_owed 5 (some .long), Cond.methodLink RX4 51 yX4_refuseOutside, Cond.static yX4_refuseOutside, Cond.code yX4_refuseOutside cX4_refuseOutside 3 none, Cond.methodLink RX4 172 yX4_amountOfMonths]
def wsL_isHouse_r6 : List Cond := [Cond.instanceMethod yX4_amountOfMonths, Cond.selects RX4 yX4_amountOfMonths yX4_amountOfMonths, Cond.code yX4_amountOfMonths cX4_amountOfMonths 8 (some .long), Cond.fieldLink RX4 221 "RoamingHouse$Call" "file" "LRoamingHouse$CallFile;", Cond.methodLink RL 100 yL_short1, Cond.static yL_short1, Cond.codeWith yL_short1 cL_short1 5 (some .long) [(0, 7, 8, 51)], Cond.classLink RL 51 "java/lang/IllegalStateException", Cond.methodLink RL 61 yX4_shortfall, Cond.instanceMethod yX4_shortfall, Cond.selects RX4 yX4_shortfall yX4_shortfall, Cond.code yX4_shortfall cX4_shortfall 6 (some .long), Cond.classLink RX4 73 "java/lang/IllegalStateException", Cond.initialized "java/lang/IllegalStateException", Cond.fieldLink RX4 160 "RoamingHouse$Pair" "promised" "I", Cond.methodLink RX4 181 Lib.MathLoose.max_long.x, Cond.static Lib.MathLoose.max_long.x, Cond.code Lib.MathLoose.max_long.x Lib.MathLoose.max_long.code 4 (some .long), Cond.methodLink RX4 176 yX4_yearOf, Cond.methodLink RL 106 yX4_net, Cond.instanceMethod yX4_net, Cond.selects RX4 yX4_net yX4_net, Cond.code yX4_net cX4_net 6 (some .long), Cond.methodLink RX4 47 yX4_operatorAt]
def wsL_isHouse_r7 : List Cond := [Cond.instanceMethod yX4_operatorAt, Cond.selects RX4 yX4_operatorAt yX4_operatorAt, Cond.code yX4_operatorAt cX4_operatorAt 2 (some (.object "RoamingHouse$Operator")), Cond.fieldLink RX4 11 "RoamingHouse" "operators" "[LRoamingHouse$Operator;", Cond.methodLink RX4 184 yX4_unitsOfMonth, Cond.instanceMethod yX4_unitsOfMonth, Cond.selects RX4 yX4_unitsOfMonth yX4_unitsOfMonth, Cond.code yX4_unitsOfMonth cX4_unitsOfMonth 3 (some .long), Cond.fieldLink RX4 233 "RoamingHouse$Pair" "host" "LRoamingHouse$Operator;", Cond.fieldLink RX4 164 "RoamingHouse$Operator" "unitRate" "I", Cond.constantLong RX4 237 (1000), Cond.methodLink RL 111 yX4_charge, Cond.instanceMethod yX4_charge, Cond.selects RX4 yX4_charge yX4_charge, Cond.code yX4_charge cX4_charge 4 (some .int), Cond.constant RX4 64 (36000), Cond.methodLink RX4 65 yX2_chargeFor, Cond.instanceMethod yX2_chargeFor, Cond.selects RX2 yX2_chargeFor yX2_chargeFor, Cond.initialized RX2, Cond.code yX2_chargeFor cX2_chargeFor 3 (some .int), Cond.fieldLink RX2 9 "RoamingHouse$Operator" "step" "I", Cond.fieldLink RX2 18 "RoamingHouse$Operator" "beginning" "I", Cond.fieldLink RX2 15 "RoamingHouse$Operator" "price" "I"]
def wsL_isHouse_r8 : List Cond := [Cond.methodLink RL 7 yL_charge, Cond.static yL_charge, Cond.code yL_charge cL_charge 5 (some .int)]
def wsL_isHouse : List Cond := .code yL_isHouse cL_isHouse 22 (some .boolean) :: ((wsL_isHouse_r1 ++ (wsL_isHouse_r2 ++ (wsL_isHouse_r3 ++ (wsL_isHouse_r4 ++ (wsL_isHouse_r5 ++ (wsL_isHouse_r6 ++ (wsL_isHouse_r7 ++ wsL_isHouse_r8))))))) ++ wsX40 ++ wsX10 ++ wsX00 ++ wsX30 ++ wsX20 ++ (vx_atS RX4 201 "java/lang/IndexOutOfBoundsException" ["java/lang/RuntimeException", "java/lang/Exception"]).filter goodWord ++ (vx_atS RX4 192 "java/lang/IllegalArgumentException" ["java/lang/RuntimeException", "java/lang/Exception"]).filter goodWord ++ (vx_atS RX4 77 "java/lang/IllegalStateException" ["java/lang/RuntimeException", "java/lang/Exception"]).filter goodWord)
def wsL_law0_r1 : List Cond := [Cond.classLink RL 31 RX4, Cond.instantiable RX4 7, Cond.initialized RX4, Cond.arrayClass .int, Cond.constant RL 118 (2147483647), Cond.constant RL 119 (52009), Cond.constant RL 124 (100000), Cond.constant RL 110 (36000), Cond.constant RL 144 (1000001), Cond.constant RL 149 (100000001), Cond.methodLink RL 113 yX4_init, Cond.instanceMethod yX4_init, Cond.code yX4_init cX4_init 3 none, Cond.methodLink RX4 1 objectInit, Cond.instanceMethod objectInit, Cond.code objectInit ⟨#[0xb1]⟩ 1 none, Cond.classLink RX4 9 RX2, Cond.fieldLink RX4 11 "RoamingHouse" "operators" "[LRoamingHouse$Operator;", Cond.classLink RX4 15 RX3, Cond.fieldLink RX4 17 "RoamingHouse" "pairs" "[LRoamingHouse$Pair;", Cond.classLink RX4 21 RX1, Cond.fieldLink RX4 23 "RoamingHouse" "fileRows" "[LRoamingHouse$CallFile;", Cond.fieldLink RX4 27 "RoamingHouse" "fileCount" "I", Cond.classLink RX4 31 RX0]
def wsL_law0_r2 : List Cond := [Cond.fieldLink RX4 33 "RoamingHouse" "callRows" "[LRoamingHouse$Call;", Cond.fieldLink RX4 37 "RoamingHouse" "callCount" "I", Cond.fieldLink RX4 40 "RoamingHouse" "now" "I", Cond.instantiable RX2 4, Cond.initialized RX2, Cond.instantiable RX3 7, Cond.initialized RX3, Cond.instanceMethod yX2_init, Cond.code yX2_init cX2_init 1 none, Cond.methodLink RX2 3 objectInit, Cond.fieldLink RX2 9 "RoamingHouse$Operator" "step" "I", Cond.fieldLink RX2 15 "RoamingHouse$Operator" "price" "I", Cond.fieldLink RX2 18 "RoamingHouse$Operator" "beginning" "I", Cond.fieldLink RX2 21 "RoamingHouse$Operator" "unitRate" "I", Cond.methodLink RX4 44 yX3_init, Cond.instanceMethod yX3_init, Cond.code yX3_init cX3_init 2 none, Cond.methodLink RX3 3 objectInit, Cond.fieldLink RX3 9 "RoamingHouse$Pair" "expectedNumber" "I", Cond.fieldLink RX3 15 "RoamingHouse$Pair" "promised" "I", Cond.fieldLink RX3 18 "RoamingHouse$Pair" "volume" "I", Cond.fieldLink RX3 21 "RoamingHouse$Pair" "discountRate" "I", Cond.fieldLink RX3 24 "RoamingHouse$Pair" "goesBack" "Z", Cond.fieldLink RX3 28 "RoamingHouse$Pair" "acceptedSeconds" "[I"]
def wsL_law0_r3 : List Cond := [Cond.fieldLink RX3 32 "RoamingHouse$Pair" "host" "LRoamingHouse$Operator;", Cond.methodLink RL 114 yL_isHouse, Cond.static yL_isHouse, Cond.initialized RL, Cond.code yL_isHouse cL_isHouse 22 (some .boolean), Cond.arrayClass .long, Cond.constantLong RL 65 (-13), Cond.constantLong RL 104 (1000), Cond.methodLink RL 67 yX4_calls, Cond.instanceMethod yX4_calls, Cond.selects RX4 yX4_calls yX4_calls, Cond.code yX4_calls cX4_calls 1 (some .int), Cond.methodLink RL 70 yX4_month, Cond.instanceMethod yX4_month, Cond.selects RX4 yX4_month yX4_month, Cond.code yX4_month cX4_month 1 (some .int), Cond.methodLink RL 72 yX4_stateOf, Cond.instanceMethod yX4_stateOf, Cond.selects RX4 yX4_stateOf yX4_stateOf, Cond.code yX4_stateOf cX4_stateOf 2 (some .int), Cond.fieldLink RX4 88 "RoamingHouse$CallFile" "state" "I", Cond.methodLink RX4 83 yX4_fileAt, Cond.instanceMethod yX4_fileAt, Cond.selects RX4 yX4_fileAt yX4_fileAt]
def wsL_law0_r4 : List Cond := [Cond.code yX4_fileAt cX4_fileAt 2 (some (.object "RoamingHouse$CallFile")), Cond.classLink RX4 197 "java/lang/IndexOutOfBoundsException", Cond.initialized "java/lang/IndexOutOfBoundsException", Cond.methodLink RL 21 yL_month, Cond.static yL_month, Cond.code yL_month cL_month 2 (some .int), Cond.methodLink RL 76 yX4_call, Cond.instanceMethod yX4_call, Cond.selects RX4 yX4_call yX4_call, Cond.code yX4_call cX4_call 2 (some .int), Cond.fieldLink RX4 131 "RoamingHouse$Call" "state" "I", Cond.methodLink RX4 127 yX4_callAt, Cond.instanceMethod yX4_callAt, Cond.selects RX4 yX4_callAt yX4_callAt, Cond.code yX4_callAt cX4_callAt 2 (some (.object "RoamingHouse$Call")), Cond.methodLink RL 27 yL_state, Cond.static yL_state, Cond.code yL_state cL_state 2 (some .int), Cond.methodLink RL 79 yX4_monthOf, Cond.instanceMethod yX4_monthOf, Cond.selects RX4 yX4_monthOf yX4_monthOf, Cond.code yX4_monthOf cX4_monthOf 2 (some .int), Cond.fieldLink RX4 132 "RoamingHouse$Call" "acceptedIn" "I", Cond.methodLink RL 82 yX4_owedFor]
def wsL_law0_r5 : List Cond := [Cond.instanceMethod yX4_owedFor, Cond.selects RX4 yX4_owedFor yX4_owedFor, Cond.code yX4_owedFor cX4_owedFor 2 (some .int), Cond.methodLink RX4 135 yX0_amount, Cond.instanceMethod yX0_amount, Cond.selects RX0 yX0_amount yX0_amount, Cond.initialized RX0, Cond.code yX0_amount cX0_amount 1 (some .int), Cond.fieldLink RX0 9 "RoamingHouse$Call" "state" "I", Cond.fieldLink RX0 24 "RoamingHouse$Call" "file" "LRoamingHouse$CallFile;", Cond.fieldLink RX0 34 "RoamingHouse$CallFile" "pair" "LRoamingHouse$Pair;", Cond.fieldLink RX0 15 "RoamingHouse$Call" "acceptedIn" "I", Cond.fieldLink RX0 21 "RoamingHouse$Call" "secondsAhead" "I", Cond.fieldLink RX0 31 "RoamingHouse$Call" "told" "I", Cond.fieldLink RX0 63 "RoamingHouse$Pair" "discountRate" "I", Cond.constantLong RX0 66 (10000), Cond.static yX4_yearOf, Cond.code yX4_yearOf cX4_yearOf 1 (some .int), Cond.methodLink RX0 59 yX3_discounts, Cond.instanceMethod yX3_discounts, Cond.selects RX3 yX3_discounts yX3_discounts, Cond.code yX3_discounts cX3_discounts 3 (some .boolean), Cond.methodLink RL 17 yL_pair, Cond.static yL_pair]
def wsL_law0_r6 : List Cond := [Cond.code yL_pair cL_pair 3 (some .int), Cond.methodLink RL 85 yL_owed, Cond.static yL_owed, Cond.code yL_owed cL_owed 23 (some .long), Cond.constantLong RL 25 (10000), Cond.methodLink RL 89 yX4_expected, Cond.instanceMethod yX4_expected, Cond.selects RX4 yX4_expected yX4_expected, Cond.code yX4_expected cX4_expected 3 (some .int), Cond.fieldLink RX4 107 "RoamingHouse$Pair" "expectedNumber" "I", Cond.methodLink RX4 69 yX4_pairAt, Cond.instanceMethod yX4_pairAt, Cond.selects RX4 yX4_pairAt yX4_pairAt, Cond.code yX4_pairAt cX4_pairAt 3 (some (.object "RoamingHouse$Pair")), Cond.classLink RX4 188 "java/lang/IllegalArgumentException", Cond.initialized "java/lang/IllegalArgumentException", Cond.methodLink RX4 193 yX4_isOperator, Cond.static yX4_isOperator, Cond.code yX4_isOperator cX4_isOperator 1 (some .boolean), Cond.methodLink RL 92 yX4_lacking, Cond.instanceMethod yX4_lacking, Cond.selects RX4 yX4_lacking yX4_lacking, Cond.code yX4_lacking cX4_lacking 8 (some .int), Cond.fieldLink RX4 103 "RoamingHouse$CallFile" "pair" "LRoamingHouse$Pair;"]
def wsL_law0_r7 : List Cond := [Cond.fieldLink RX4 114 "RoamingHouse$CallFile" "number" "I", Cond.methodLink RX4 121 Lib.Math.max.name, Cond.static Lib.Math.max.name, Cond.initialized "java/lang/Math", Cond.code Lib.Math.max.name Lib.Math.max.code 2 (some .int), Cond.methodLink RL 95 yL_lacking, Cond.static yL_lacking, Cond.code yL_lacking cL_lacking 10 (some .int), Cond.methodLink RL 98 yX4_owed, Cond.instanceMethod yX4_owed, Cond.selects RX4 yX4_owed yX4_owed, Cond.code yX4_owed cX4_owed 5 (some .long), Cond.methodLink RX4 51 yX4_refuseOutside, Cond.static yX4_refuseOutside, Cond.code yX4_refuseOutside cX4_refuseOutside 3 none, Cond.methodLink RX4 172 yX4_amountOfMonths, Cond.instanceMethod yX4_amountOfMonths, Cond.selects RX4 yX4_amountOfMonths yX4_amountOfMonths, Cond.code yX4_amountOfMonths cX4_amountOfMonths 8 (some .long), Cond.fieldLink RX4 221 "RoamingHouse$Call" "file" "LRoamingHouse$CallFile;", Cond.methodLink RL 100 yL_short1, Cond.static yL_short1, Cond.codeWith yL_short1 cL_short1 5 (some .long) [(0, 7, 8, 51)], Cond.classLink RL 51 "java/lang/IllegalStateException"]
def wsL_law0_r8 : List Cond := [Cond.methodLink RL 61 yX4_shortfall, Cond.instanceMethod yX4_shortfall, Cond.selects RX4 yX4_shortfall yX4_shortfall, Cond.code yX4_shortfall cX4_shortfall 6 (some .long), Cond.classLink RX4 73 "java/lang/IllegalStateException", Cond.initialized "java/lang/IllegalStateException", Cond.fieldLink RX4 160 "RoamingHouse$Pair" "promised" "I", Cond.methodLink RX4 181 Lib.MathLoose.max_long.x, Cond.static Lib.MathLoose.max_long.x, Cond.code Lib.MathLoose.max_long.x Lib.MathLoose.max_long.code 4 (some .long), Cond.methodLink RX4 176 yX4_yearOf, Cond.methodLink RL 106 yX4_net, Cond.instanceMethod yX4_net, Cond.selects RX4 yX4_net yX4_net, Cond.code yX4_net cX4_net 6 (some .long), Cond.methodLink RX4 47 yX4_operatorAt, Cond.instanceMethod yX4_operatorAt, Cond.selects RX4 yX4_operatorAt yX4_operatorAt, Cond.code yX4_operatorAt cX4_operatorAt 2 (some (.object "RoamingHouse$Operator")), Cond.methodLink RX4 184 yX4_unitsOfMonth, Cond.instanceMethod yX4_unitsOfMonth, Cond.selects RX4 yX4_unitsOfMonth yX4_unitsOfMonth, Cond.code yX4_unitsOfMonth cX4_unitsOfMonth 3 (some .long), Cond.fieldLink RX4 233 "RoamingHouse$Pair" "host" "LRoamingHouse$Operator;"]
def wsL_law0_r9 : List Cond := [Cond.fieldLink RX4 164 "RoamingHouse$Operator" "unitRate" "I", Cond.constantLong RX4 237 (1000), Cond.methodLink RL 111 yX4_charge, Cond.instanceMethod yX4_charge, Cond.selects RX4 yX4_charge yX4_charge, Cond.code yX4_charge cX4_charge 4 (some .int), Cond.constant RX4 64 (36000), Cond.methodLink RX4 65 yX2_chargeFor, Cond.instanceMethod yX2_chargeFor, Cond.selects RX2 yX2_chargeFor yX2_chargeFor, Cond.code yX2_chargeFor cX2_chargeFor 3 (some .int), Cond.methodLink RL 7 yL_charge, Cond.static yL_charge, Cond.code yL_charge cL_charge 5 (some .int), Cond.methodLink RL 120 yX4_setTariff, Cond.instanceMethod yX4_setTariff, Cond.selects RX4 yX4_setTariff yX4_setTariff, Cond.code yX4_setTariff cX4_setTariff 7 (some .int), Cond.fieldLink RX4 55 "RoamingHouse$Operator" "price" "I", Cond.fieldLink RX4 58 "RoamingHouse$Operator" "step" "I", Cond.fieldLink RX4 61 "RoamingHouse$Operator" "beginning" "I", Cond.methodLink RL 125 yX4_setRate, Cond.instanceMethod yX4_setRate, Cond.selects RX4 yX4_setRate yX4_setRate]
def wsL_law0_r10 : List Cond := [Cond.code yX4_setRate cX4_setRate 5 (some .int), Cond.constant RX4 163 (100000), Cond.methodLink RL 128 yL_does, Cond.static yL_does, Cond.codeWith yL_does cL_does 6 (some .int) [(0, 47, 48, 47), (0, 47, 53, 49), (0, 47, 58, 51)], Cond.classLink RL 47 "java/lang/IndexOutOfBoundsException", Cond.classLink RL 49 "java/lang/IllegalArgumentException", Cond.methodLink RL 30 yX4_begin, Cond.instanceMethod yX4_begin, Cond.selects RX4 yX4_begin yX4_begin, Cond.code yX4_begin cX4_begin 5 (some .int), Cond.instantiable RX1 5, Cond.initialized RX1, Cond.methodLink RX4 80 yX1_init, Cond.instanceMethod yX1_init, Cond.code yX1_init cX1_init 3 none, Cond.methodLink RX1 3 objectInit, Cond.fieldLink RX1 9 "RoamingHouse$CallFile" "state" "I", Cond.fieldLink RX1 15 "RoamingHouse$CallFile" "size" "I", Cond.fieldLink RX1 18 "RoamingHouse$CallFile" "number" "I", Cond.fieldLink RX1 21 "RoamingHouse$CallFile" "pair" "LRoamingHouse$Pair;", Cond.fieldLink RX1 25 "RoamingHouse$CallFile" "begunIn" "I", Cond.methodLink RL 36 yX4_enter, Cond.instanceMethod yX4_enter]
def wsL_law0_r11 : List Cond := [Cond.selects RX4 yX4_enter yX4_enter, Cond.code yX4_enter cX4_enter 6 (some .int), Cond.constant RX4 87 (50000000), Cond.instantiable RX0 7, Cond.fieldLink RX4 98 "RoamingHouse$CallFile" "size" "I", Cond.methodLink RX4 95 yX0_init, Cond.instanceMethod yX0_init, Cond.code yX0_init cX0_init 4 none, Cond.methodLink RX0 3 objectInit, Cond.fieldLink RX0 18 "RoamingHouse$Call" "disputedIn" "I", Cond.fieldLink RX0 28 "RoamingHouse$Call" "seconds" "I", Cond.methodLink RL 40 yX4_send, Cond.instanceMethod yX4_send, Cond.selects RX4 yX4_send yX4_send, Cond.code yX4_send cX4_send 5 (some .int), Cond.methodLink RX4 110 yX4_waitingFile, Cond.instanceMethod yX4_waitingFile, Cond.selects RX4 yX4_waitingFile yX4_waitingFile, Cond.code yX4_waitingFile cX4_waitingFile 5 (some (.object "RoamingHouse$CallFile")), Cond.methodLink RX4 117 yX4_lookAtAllFrom, Cond.instanceMethod yX4_lookAtAllFrom, Cond.selects RX4 yX4_lookAtAllFrom yX4_lookAtAllFrom, Cond.code yX4_lookAtAllFrom cX4_lookAtAllFrom 5 none, Cond.methodLink RX4 208 yX4_lookAt]
def wsL_law0_r12 : List Cond := [Cond.instanceMethod yX4_lookAt, Cond.selects RX4 yX4_lookAt yX4_lookAt, Cond.code yX4_lookAt cX4_lookAt 2 none, Cond.fieldLink RX4 211 "RoamingHouse$CallFile" "begunIn" "I", Cond.methodLink RX4 214 yX4_wrongCallsOf, Cond.instanceMethod yX4_wrongCallsOf, Cond.selects RX4 yX4_wrongCallsOf yX4_wrongCallsOf, Cond.code yX4_wrongCallsOf cX4_wrongCallsOf 5 (some .int), Cond.methodLink RX4 225 yX0_isRight, Cond.instanceMethod yX0_isRight, Cond.selects RX0 yX0_isRight yX0_isRight, Cond.code yX0_isRight cX0_isRight 1 (some .boolean), Cond.fieldLink RX0 40 "RoamingHouse$Pair" "host" "LRoamingHouse$Operator;", Cond.methodLink RX0 46 yX2_chargeFor, Cond.methodLink RX4 218 yX4_acceptRightCallsOf, Cond.instanceMethod yX4_acceptRightCallsOf, Cond.selects RX4 yX4_acceptRightCallsOf yX4_acceptRightCallsOf, Cond.code yX4_acceptRightCallsOf cX4_acceptRightCallsOf 4 none, Cond.methodLink RX4 229 yX0_acceptIn, Cond.instanceMethod yX0_acceptIn, Cond.selects RX0 yX0_acceptIn yX0_acceptIn, Cond.code yX0_acceptIn cX0_acceptIn 3 none, Cond.fieldLink RX0 55 "RoamingHouse$Pair" "acceptedSeconds" "[I", Cond.methodLink RL 43 yX4_nextMonth]
def wsL_law0_r13 : List Cond := [Cond.instanceMethod yX4_nextMonth, Cond.selects RX4 yX4_nextMonth yX4_nextMonth, Cond.code yX4_nextMonth cX4_nextMonth 1 (some .int), Cond.methodLink RX4 169 yX4_giveBackUnanswered, Cond.instanceMethod yX4_giveBackUnanswered, Cond.selects RX4 yX4_giveBackUnanswered yX4_giveBackUnanswered, Cond.code yX4_giveBackUnanswered cX4_giveBackUnanswered 3 none, Cond.fieldLink RX4 143 "RoamingHouse$Call" "disputedIn" "I", Cond.methodLink RL 132 yL_sends, Cond.static yL_sends, Cond.code yL_sends cL_sends 14 (some .int), Cond.methodLink RL 13 yL_looks, Cond.static yL_looks, Cond.code yL_looks cL_looks 12 none, Cond.methodLink RL 136 yL_isDisputed, Cond.static yL_isDisputed, Cond.codeWith yL_isDisputed cL_isDisputed 3 (some .boolean) [(0, 6, 7, 51)], Cond.methodLink RL 53 yX4_dispute, Cond.instanceMethod yX4_dispute, Cond.selects RX4 yX4_dispute yX4_dispute, Cond.code yX4_dispute cX4_dispute 3 none, Cond.methodLink RL 140 yL_isAnswered, Cond.static yL_isAnswered, Cond.codeWith yL_isAnswered cL_isAnswered 4 (some .boolean) [(0, 7, 8, 51)]]
def wsL_law0_r14 : List Cond := [Cond.methodLink RL 57 yX4_answer, Cond.instanceMethod yX4_answer, Cond.selects RX4 yX4_answer yX4_answer, Cond.code yX4_answer cX4_answer 4 none, Cond.methodLink RL 145 yX4_agree, Cond.instanceMethod yX4_agree, Cond.selects RX4 yX4_agree yX4_agree, Cond.code yX4_agree cX4_agree 7 none, Cond.constant RX4 148 (1000000), Cond.fieldLink RX4 149 "RoamingHouse$Pair" "volume" "I", Cond.fieldLink RX4 152 "RoamingHouse$Pair" "discountRate" "I", Cond.fieldLink RX4 155 "RoamingHouse$Pair" "goesBack" "Z", Cond.methodLink RL 150 yX4_promise, Cond.instanceMethod yX4_promise, Cond.selects RX4 yX4_promise yX4_promise, Cond.code yX4_promise cX4_promise 6 (some .int), Cond.constant RX4 159 (100000000)]
def wsL_law0 : List Cond := (wsL_law0_r1 ++ (wsL_law0_r2 ++ (wsL_law0_r3 ++ (wsL_law0_r4 ++ (wsL_law0_r5 ++ (wsL_law0_r6 ++ (wsL_law0_r7 ++ (wsL_law0_r8 ++ (wsL_law0_r9 ++ (wsL_law0_r10 ++ (wsL_law0_r11 ++ (wsL_law0_r12 ++ (wsL_law0_r13 ++ wsL_law0_r14))))))))))))) ++ wsX40 ++ wsX20 ++ wsX30 ++ wsX10 ++ wsX00 ++ ([] : List Cond)
def wsL_law : List Cond := wsL_law0 ++ (vx_atS RX4 201 "java/lang/IndexOutOfBoundsException" ["java/lang/RuntimeException", "java/lang/Exception"]).filter goodWord ++ (vx_atS RX4 192 "java/lang/IllegalArgumentException" ["java/lang/RuntimeException", "java/lang/Exception"]).filter goodWord ++ (vx_atS RX4 77 "java/lang/IllegalStateException" ["java/lang/RuntimeException", "java/lang/Exception"]).filter goodWord
theorem rh_sub {big : List Cond} (ws : List Cond) (ps : List Nat) (hp : ws = ps.filterMap (fun i => big[i]?)) : ∀ w ∈ ws, w ∈ big := by
  intro w hw
  rw [hp] at hw
  obtain ⟨i, -, hi⟩ := List.mem_filterMap.mp hw
  exact List.mem_of_getElem? hi
theorem rh_app {big a b : List Cond} (ha : ∀ w ∈ a, w ∈ big) (hb : ∀ w ∈ b, w ∈ big) : ∀ w ∈ a ++ b, w ∈ big := fun w h => (List.mem_append.mp h).elim (ha w) (hb w)
