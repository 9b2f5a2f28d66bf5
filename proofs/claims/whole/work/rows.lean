section
-- ===== PART A: goes FIRST, ahead of the names: the tables' words, and 'selects' of the private methods out of them =====
/-- a private method of a class that the tables say can be made, by its rows of tables_1 -/
def lw_okq (q : MethodName × Nat) : Prop := (q.1.cls ≠ "java/lang/invoke/MethodHandle" ∧ q.1.cls ≠ "java/lang/invoke/VarHandle") ∧ Cond.instantiable q.1.cls q.2 ∈ tables_1 ∧ Cond.privateMethod q.1 ∈ tables_1 ∧ Cond.instanceMethod q.1 ∈ tables_1
theorem lw_p0 : lw_okq (⟨"RoamingHouse", "operatorAt", "(I)LRoamingHouse$Operator;"⟩, 7) := ⟨⟨by decide +kernel, by decide +kernel⟩, List.mem_of_getElem? (i := 15) (by decide +kernel), List.mem_of_getElem? (i := 129) (by decide +kernel), List.mem_of_getElem? (i := 130) (by decide +kernel)⟩
theorem lw_p1 : lw_okq (⟨"java/lang/Throwable", "fillInStackTrace", "(I)Ljava/lang/Throwable;"⟩, 6) := ⟨⟨by decide +kernel, by decide +kernel⟩, List.mem_of_getElem? (i := 174) (by decide +kernel), List.mem_of_getElem? (i := 172) (by decide +kernel), List.mem_of_getElem? (i := 173) (by decide +kernel)⟩
theorem lw_p2 : lw_okq (⟨"RoamingHouse", "pairAt", "(II)LRoamingHouse$Pair;"⟩, 7) := ⟨⟨by decide +kernel, by decide +kernel⟩, List.mem_of_getElem? (i := 15) (by decide +kernel), List.mem_of_getElem? (i := 243) (by decide +kernel), List.mem_of_getElem? (i := 244) (by decide +kernel)⟩
theorem lw_p3 : lw_okq (⟨"RoamingHouse", "fileAt", "(I)LRoamingHouse$CallFile;"⟩, 7) := ⟨⟨by decide +kernel, by decide +kernel⟩, List.mem_of_getElem? (i := 15) (by decide +kernel), List.mem_of_getElem? (i := 298) (by decide +kernel), List.mem_of_getElem? (i := 299) (by decide +kernel)⟩
theorem lw_p4 : lw_okq (⟨"RoamingHouse", "waitingFile", "(LRoamingHouse$Pair;I)LRoamingHouse$CallFile;"⟩, 7) := ⟨⟨by decide +kernel, by decide +kernel⟩, List.mem_of_getElem? (i := 15) (by decide +kernel), List.mem_of_getElem? (i := 345) (by decide +kernel), List.mem_of_getElem? (i := 346) (by decide +kernel)⟩
theorem lw_p5 : lw_okq (⟨"RoamingHouse", "lookAtAllFrom", "(LRoamingHouse$CallFile;)V"⟩, 7) := ⟨⟨by decide +kernel, by decide +kernel⟩, List.mem_of_getElem? (i := 15) (by decide +kernel), List.mem_of_getElem? (i := 349) (by decide +kernel), List.mem_of_getElem? (i := 350) (by decide +kernel)⟩
theorem lw_p6 : lw_okq (⟨"RoamingHouse", "lookAt", "(LRoamingHouse$CallFile;)V"⟩, 7) := ⟨⟨by decide +kernel, by decide +kernel⟩, List.mem_of_getElem? (i := 15) (by decide +kernel), List.mem_of_getElem? (i := 353) (by decide +kernel), List.mem_of_getElem? (i := 354) (by decide +kernel)⟩
theorem lw_p7 : lw_okq (⟨"RoamingHouse", "wrongCallsOf", "(LRoamingHouse$CallFile;)I"⟩, 7) := ⟨⟨by decide +kernel, by decide +kernel⟩, List.mem_of_getElem? (i := 15) (by decide +kernel), List.mem_of_getElem? (i := 357) (by decide +kernel), List.mem_of_getElem? (i := 358) (by decide +kernel)⟩
theorem lw_p8 : lw_okq (⟨"RoamingHouse", "acceptRightCallsOf", "(LRoamingHouse$CallFile;)V"⟩, 7) := ⟨⟨by decide +kernel, by decide +kernel⟩, List.mem_of_getElem? (i := 15) (by decide +kernel), List.mem_of_getElem? (i := 366) (by decide +kernel), List.mem_of_getElem? (i := 367) (by decide +kernel)⟩
theorem lw_p9 : lw_okq (⟨"RoamingHouse", "callAt", "(I)LRoamingHouse$Call;"⟩, 7) := ⟨⟨by decide +kernel, by decide +kernel⟩, List.mem_of_getElem? (i := 15) (by decide +kernel), List.mem_of_getElem? (i := 408) (by decide +kernel), List.mem_of_getElem? (i := 409) (by decide +kernel)⟩
theorem lw_p10 : lw_okq (⟨"RoamingHouse", "giveBackUnanswered", "()V"⟩, 7) := ⟨⟨by decide +kernel, by decide +kernel⟩, List.mem_of_getElem? (i := 15) (by decide +kernel), List.mem_of_getElem? (i := 485) (by decide +kernel), List.mem_of_getElem? (i := 486) (by decide +kernel)⟩
theorem lw_p11 : lw_okq (⟨"RoamingHouse", "amountOfMonths", "(LRoamingHouse$Pair;II)J"⟩, 7) := ⟨⟨by decide +kernel, by decide +kernel⟩, List.mem_of_getElem? (i := 15) (by decide +kernel), List.mem_of_getElem? (i := 496) (by decide +kernel), List.mem_of_getElem? (i := 497) (by decide +kernel)⟩
theorem lw_p12 : lw_okq (⟨"RoamingHouse", "unitsOfMonth", "(LRoamingHouse$Pair;I)J"⟩, 7) := ⟨⟨by decide +kernel, by decide +kernel⟩, List.mem_of_getElem? (i := 15) (by decide +kernel), List.mem_of_getElem? (i := 519) (by decide +kernel), List.mem_of_getElem? (i := 520) (by decide +kernel)⟩
theorem lw_p13 : lw_okq (⟨"RoamingHouseModel", "chargeFor", "(II)I"⟩, 26) := ⟨⟨by decide +kernel, by decide +kernel⟩, List.mem_of_getElem? (i := 524) (by decide +kernel), List.mem_of_getElem? (i := 629) (by decide +kernel), List.mem_of_getElem? (i := 630) (by decide +kernel)⟩
theorem lw_p14 : lw_okq (⟨"RoamingHouseModel", "isPair", "(IIZ)Z"⟩, 26) := ⟨⟨by decide +kernel, by decide +kernel⟩, List.mem_of_getElem? (i := 524) (by decide +kernel), List.mem_of_getElem? (i := 637) (by decide +kernel), List.mem_of_getElem? (i := 638) (by decide +kernel)⟩
theorem lw_p15 : lw_okq (⟨"RoamingHouseModel", "isFile", "(I)Z"⟩, 26) := ⟨⟨by decide +kernel, by decide +kernel⟩, List.mem_of_getElem? (i := 524) (by decide +kernel), List.mem_of_getElem? (i := 645) (by decide +kernel), List.mem_of_getElem? (i := 646) (by decide +kernel)⟩
def lw_privs_1 : List (MethodName × Nat) := [(⟨"RoamingHouse", "operatorAt", "(I)LRoamingHouse$Operator;"⟩, 7), (⟨"java/lang/Throwable", "fillInStackTrace", "(I)Ljava/lang/Throwable;"⟩, 6), (⟨"RoamingHouse", "pairAt", "(II)LRoamingHouse$Pair;"⟩, 7), (⟨"RoamingHouse", "fileAt", "(I)LRoamingHouse$CallFile;"⟩, 7), (⟨"RoamingHouse", "waitingFile", "(LRoamingHouse$Pair;I)LRoamingHouse$CallFile;"⟩, 7), (⟨"RoamingHouse", "lookAtAllFrom", "(LRoamingHouse$CallFile;)V"⟩, 7), (⟨"RoamingHouse", "lookAt", "(LRoamingHouse$CallFile;)V"⟩, 7), (⟨"RoamingHouse", "wrongCallsOf", "(LRoamingHouse$CallFile;)I"⟩, 7), (⟨"RoamingHouse", "acceptRightCallsOf", "(LRoamingHouse$CallFile;)V"⟩, 7), (⟨"RoamingHouse", "callAt", "(I)LRoamingHouse$Call;"⟩, 7), (⟨"RoamingHouse", "giveBackUnanswered", "()V"⟩, 7), (⟨"RoamingHouse", "amountOfMonths", "(LRoamingHouse$Pair;II)J"⟩, 7), (⟨"RoamingHouse", "unitsOfMonth", "(LRoamingHouse$Pair;I)J"⟩, 7), (⟨"RoamingHouseModel", "chargeFor", "(II)I"⟩, 26), (⟨"RoamingHouseModel", "isPair", "(IIZ)Z"⟩, 26), (⟨"RoamingHouseModel", "isFile", "(I)Z"⟩, 26)]
theorem lw_r1 : ∀ q ∈ lw_privs_1, lw_okq q := List.forall_mem_cons.mpr ⟨lw_p0, List.forall_mem_cons.mpr ⟨lw_p1, List.forall_mem_cons.mpr ⟨lw_p2, List.forall_mem_cons.mpr ⟨lw_p3, List.forall_mem_cons.mpr ⟨lw_p4, List.forall_mem_cons.mpr ⟨lw_p5, List.forall_mem_cons.mpr ⟨lw_p6, List.forall_mem_cons.mpr ⟨lw_p7, List.forall_mem_cons.mpr ⟨lw_p8, List.forall_mem_cons.mpr ⟨lw_p9, List.forall_mem_cons.mpr ⟨lw_p10, List.forall_mem_cons.mpr ⟨lw_p11, List.forall_mem_cons.mpr ⟨lw_p12, List.forall_mem_cons.mpr ⟨lw_p13, List.forall_mem_cons.mpr ⟨lw_p14, List.forall_mem_cons.mpr ⟨lw_p15, fun _ h => absurd h List.not_mem_nil⟩⟩⟩⟩⟩⟩⟩⟩⟩⟩⟩⟩⟩⟩⟩⟩
theorem lw_p16 : lw_okq (⟨"RoamingHouseModel", "callsOf", "(IZ)I"⟩, 26) := ⟨⟨by decide +kernel, by decide +kernel⟩, List.mem_of_getElem? (i := 524) (by decide +kernel), List.mem_of_getElem? (i := 654) (by decide +kernel), List.mem_of_getElem? (i := 655) (by decide +kernel)⟩
theorem lw_p17 : lw_okq (⟨"RoamingHouseModel", "isRight", "(I)Z"⟩, 26) := ⟨⟨by decide +kernel, by decide +kernel⟩, List.mem_of_getElem? (i := 524) (by decide +kernel), List.mem_of_getElem? (i := 658) (by decide +kernel), List.mem_of_getElem? (i := 659) (by decide +kernel)⟩
theorem lw_p18 : lw_okq (⟨"RoamingHouseModel", "waiting", "(II)I"⟩, 26) := ⟨⟨by decide +kernel, by decide +kernel⟩, List.mem_of_getElem? (i := 524) (by decide +kernel), List.mem_of_getElem? (i := 662) (by decide +kernel), List.mem_of_getElem? (i := 663) (by decide +kernel)⟩
theorem lw_p19 : lw_okq (⟨"RoamingHouseModel", "lookAt", "(I)V"⟩, 26) := ⟨⟨by decide +kernel, by decide +kernel⟩, List.mem_of_getElem? (i := 524) (by decide +kernel), List.mem_of_getElem? (i := 666) (by decide +kernel), List.mem_of_getElem? (i := 667) (by decide +kernel)⟩
theorem lw_p20 : lw_okq (⟨"RoamingHouseModel", "isCall", "(I)Z"⟩, 26) := ⟨⟨by decide +kernel, by decide +kernel⟩, List.mem_of_getElem? (i := 524) (by decide +kernel), List.mem_of_getElem? (i := 690) (by decide +kernel), List.mem_of_getElem? (i := 691) (by decide +kernel)⟩
theorem lw_p21 : lw_okq (⟨"RoamingHouseModel", "owedOf", "(I)I"⟩, 26) := ⟨⟨by decide +kernel, by decide +kernel⟩, List.mem_of_getElem? (i := 524) (by decide +kernel), List.mem_of_getElem? (i := 702) (by decide +kernel), List.mem_of_getElem? (i := 703) (by decide +kernel)⟩
theorem lw_p22 : lw_okq (⟨"RoamingHouseModel", "placeOf", "(I)I"⟩, 26) := ⟨⟨by decide +kernel, by decide +kernel⟩, List.mem_of_getElem? (i := 524) (by decide +kernel), List.mem_of_getElem? (i := 706) (by decide +kernel), List.mem_of_getElem? (i := 707) (by decide +kernel)⟩
theorem lw_p23 : lw_okq (⟨"RoamingHouseModel", "secondsAhead", "(III)I"⟩, 26) := ⟨⟨by decide +kernel, by decide +kernel⟩, List.mem_of_getElem? (i := 524) (by decide +kernel), List.mem_of_getElem? (i := 710) (by decide +kernel), List.mem_of_getElem? (i := 711) (by decide +kernel)⟩
theorem lw_p24 : lw_okq (⟨"RoamingHouseModel", "owedIn", "(III)J"⟩, 26) := ⟨⟨by decide +kernel, by decide +kernel⟩, List.mem_of_getElem? (i := 524) (by decide +kernel), List.mem_of_getElem? (i := 750) (by decide +kernel), List.mem_of_getElem? (i := 751) (by decide +kernel)⟩
theorem lw_p25 : lw_okq (⟨"RoamingHouseModel", "unitsOf", "(III)J"⟩, 26) := ⟨⟨by decide +kernel, by decide +kernel⟩, List.mem_of_getElem? (i := 524) (by decide +kernel), List.mem_of_getElem? (i := 762) (by decide +kernel), List.mem_of_getElem? (i := 763) (by decide +kernel)⟩
def lw_privs_2 : List (MethodName × Nat) := [(⟨"RoamingHouseModel", "callsOf", "(IZ)I"⟩, 26), (⟨"RoamingHouseModel", "isRight", "(I)Z"⟩, 26), (⟨"RoamingHouseModel", "waiting", "(II)I"⟩, 26), (⟨"RoamingHouseModel", "lookAt", "(I)V"⟩, 26), (⟨"RoamingHouseModel", "isCall", "(I)Z"⟩, 26), (⟨"RoamingHouseModel", "owedOf", "(I)I"⟩, 26), (⟨"RoamingHouseModel", "placeOf", "(I)I"⟩, 26), (⟨"RoamingHouseModel", "secondsAhead", "(III)I"⟩, 26), (⟨"RoamingHouseModel", "owedIn", "(III)J"⟩, 26), (⟨"RoamingHouseModel", "unitsOf", "(III)J"⟩, 26)]
theorem lw_r2 : ∀ q ∈ lw_privs_2, lw_okq q := List.forall_mem_cons.mpr ⟨lw_p16, List.forall_mem_cons.mpr ⟨lw_p17, List.forall_mem_cons.mpr ⟨lw_p18, List.forall_mem_cons.mpr ⟨lw_p19, List.forall_mem_cons.mpr ⟨lw_p20, List.forall_mem_cons.mpr ⟨lw_p21, List.forall_mem_cons.mpr ⟨lw_p22, List.forall_mem_cons.mpr ⟨lw_p23, List.forall_mem_cons.mpr ⟨lw_p24, List.forall_mem_cons.mpr ⟨lw_p25, fun _ h => absurd h List.not_mem_nil⟩⟩⟩⟩⟩⟩⟩⟩⟩⟩
def lw_privs : List (MethodName × Nat) := lw_privs_1 ++ (lw_privs_2)
def lw_tbl : List Cond := k2_sels lw_privs ++ tables_1
theorem lw_privs_ok : ∀ q ∈ lw_privs, lw_okq q := by
  show ∀ q ∈ lw_privs_1 ++ (lw_privs_2), lw_okq q
  exact List.forall_mem_append.mpr ⟨lw_r1, lw_r2⟩
end
section
/-! ===== BEGIN words of one list among another's, by their places ===== -/
theorem goodIn_r {big : List Cond} (ws : List Cond) (ps : List Nat) (hp : ws = ps.filterMap (fun i => big[i]?)) (h : ws.all goodWord = true) : GoodIn big ws := by
  intro w hw
  have h1 := List.all_eq_true.mp h w hw
  rw [hp] at hw
  obtain ⟨i, -, hi⟩ := List.mem_filterMap.mp hw
  have hm : w ∈ big := by first | exact List.mem_of_getElem? hi | exact List.getElem?_mem hi
  exact ⟨hm, good_of_word h1⟩
theorem goodIn_app {big a b : List Cond} (ha : GoodIn big a) (hb : GoodIn big b) : GoodIn big (a ++ b) := fun w h => (List.mem_append.mp h).elim (ha w) (hb w)
theorem goodIn_ca {big a b : List Cond} {c : Cond} (ha : GoodIn big (c :: a)) (hb : GoodIn big b) : GoodIn big (c :: (a ++ b)) := fun w h => (List.mem_cons.mp h).elim (fun e => ha w (List.mem_cons.mpr (Or.inl e))) (fun h => (List.mem_append.mp h).elim (fun h => ha w (List.mem_cons.mpr (Or.inr h))) (hb w))
theorem goodIn_sub {big ws : List Cond} (hm : ∀ w ∈ ws, w ∈ big) (h : ws.all goodWord = true) : GoodIn big ws := fun w hw => ⟨hm w hw, good_of_word (List.all_eq_true.mp h w hw)⟩
/-! ===== END ===== -/

/-! ===== BEGIN exceptions that leave a method, and their catching by the caller (launches without stack traces) ===== -/
section VXA
/-! The laws vx_back, vx_callV, vx_callS, vx_callSW, vx_throw0, vx_throwS follow proofs of the library, with one case more: JvmDerived/Free/Laws.lean (Back.of_free), Shelf42/LK1.lean (callV, callS), Shelf/KitTraced.lean (throwNew0V, throwNewS). -/
/-- where a method has thrown q: the class by its name, the cell, what was written, the world -/
def vx_T (XC : String → State → State → Prop) (st : State) (q : Addr) (t : State) (mc ms : Nat) (free : Addr → Prop) : Prop :=
  ∃ (E : String) (ce : Cell) (L : List Loc), XC E st t ∧ t.heap[q]? = some ce ∧ ce.vm = .none ∧ st.vm.findClass E = some ce.cls ∧ st.WarmedH t.vm ∧ st.sameButNew ({ t with vm := st.vm } : State) L mc ms ∧ ∀ z ∈ L, free z.base
def vx_Q (Qc : Array Value → State → Outcome → State → Prop) (XC : String → State → State → Prop) (mc ms : Nat) (free : Addr → Prop) : Array Value → State → Outcome → State → Prop := fun a st o t =>
  (Qc a st o t ∧ ∃ L, FrameEnd st o t L mc ms ∧ ∀ q ∈ L, free q.base) ∨ ∃ q, o = .threw q ∧ vx_T XC st q t mc ms free
/-- a callee that returns or throws -/
def vx_Met (l : Launch) (y : MethodName) (ws : List Cond) (rm : Room) (Pc : Array Value → State → Prop) (Qc : Array Value → State → Outcome → State → Prop) (XC : String → State → State → Prop) (mc ms : Nat) (free : Addr → Prop) : Prop :=
  MetFree l y (headSpec ws rm) Pc (fun _ _ _ _ _ => True) (vx_Q Qc XC mc ms free)
def vx_Post (XC : String → State → State → Prop) (mc ms : Nat) (free : Addr → Prop) : Pt → Array Value → Addr → Pt → Prop := fun A a q B =>
  ∃ (g : JFrame) (mk : MethodId) (t : State) (L : List Loc) (E : String) (ce : Cell), B.U.heap = t.heap ∧ B.U.vm = t.vm ∧ XC E (A.U.calling g mk a) t ∧ t.heap[q]? = some ce ∧ ce.vm = .none ∧ A.U.vm.findClass E = some ce.cls ∧ B.locs = A.locs ++ L ∧ (∀ z ∈ L, free z.base) ∧ B.cells = A.cells + mc ∧ B.slots = A.slots + ms
def vx_Back (l : Launch) (R : Room) (p : Program) (e : Env) (below : List Frame) (s : State) (sargs : Array Value) (y : MethodName) (len W9 : Nat)
    (Pre : Pt → Array Value → Prop) (Post : Pt → Array Value → Option Value → Pt → Prop) (PostX : Pt → Array Value → Addr → Pt → Prop) : Prop :=
  ∀ (m : MethodId) (meth : Method) (c : Code) (A : Pt) (g : JFrame) (ig : Instr) (mk : MethodId) (a : Array Value),
    Stand p l e R s m sargs below meth c A.U A.locs A.cells A.slots → g.method = m → g.locals.size = c.maxLocals → decode c.code g.pc = .ok (ig, len) →
    2 * g.monitorRoom + (g.stack.map fun v => v.category).sum ≤ W9 → A.U.methodNamed? y = some mk → Pre A a →
    (∃ (v : Option Value) (B : Pt), Stand p l e R s m sargs below meth c B.U B.locs B.cells B.slots ∧ Post A a v B ∧
      Steps p.tables e below (doInvoke e (A.U.setTop g) [] mk a).1 (B.U.setTop { g with pc := g.pc + len, stack := v.toList ++ g.stack })) ∨
    (∃ (q : Addr) (B : Pt), Stand p l e R s m sargs below meth c B.U B.locs B.cells B.slots ∧ PostX A a q B ∧
      Steps p.tables e below (doInvoke e (A.U.setTop g) [] mk a).1 ((B.U.setTop g).pushFrame (.throwing q)))
section Payer
variable {l : Launch} {R : Room} {p : Program} {e : Env} {below : List Frame} {s : State} {sargs : Array Value} {y : MethodName} {len W9 : Nat}
theorem vx_back {ws : List Cond} {rm : Room} {Pc : Array Value → State → Prop} {Qc : Array Value → State → Outcome → State → Prop} {XC : String → State → State → Prop} {mc ms : Nat} {free : Addr → Prop} {bytes : ByteArray} {maxL : Nat} {ret : Option FieldType}
    (hM : vx_Met l y ws rm Pc Qc XC mc ms free) (hblind : FrameBlind Pc) (hrc : rm.cells = mc) (hrs : rm.slots = ms)
    (hframes : rm.frames + 1 ≤ R.frames) (hlocals : W9 + (maxL + 11) + rm.locals ≤ R.locals)
    (hws : ∀ w ∈ ws, ∀ a' U, s.WarmedH U.vm → w.before a' U = true) (hcode : Cond.code y bytes maxL ret ∈ ws) (hinit : ∀ a' U, s.WarmedH U.vm → (Cond.initialized y.cls).before a' U = true) :
    vx_Back l R p e below s sargs y len W9 (PreOf R mc ms Pc) (PostOf Qc mc ms free) (vx_Post XC mc ms free) := by
  intro m meth c A g ig mk a X hg hsize hdg hW hn hp
  have h1 : (headSpec ws rm).pre.before a A.U = true := atoms_intro fun w hw => hws w hw _ _ X.warmed
  have h2 : (Cond.code y bytes maxL ret).before a A.U = true := hws _ hcode _ _ X.warmed
  have h3 : (Cond.initialized y.cls).before a A.U = true := hinit _ _ X.warmed
  have h4 : A.cells + (headSpec ws rm).room.cells ≤ R.cells := by rw [show (headSpec ws rm).room.cells = mc from hrc]; exact hp.1
  have h5 : A.slots + (headSpec ws rm).room.slots ≤ R.slots := by rw [show (headSpec ws rm).room.slots = ms from hrs]; exact hp.2.1
  have hPc : Pc a (A.U.calling g mk a) := hblind _ _ _ _ hp.2.2
  obtain ⟨U, Ls, c0, s0⟩ := A
  dsimp only [Pt.U, Pt.locs, Pt.cells, Pt.slots] at h1 h2 h3 h4 h5 X hn hPc ⊢
  obtain ⟨methY, cY, hmY, hcY, -, hlY, -, -, -, -⟩ := Cond.code_spec hn h2
  obtain ⟨kY, hkY, -⟩ := className_of_methodNamed hn
  have hinitY : kY.init = .initialized := Cond.initialized_spec (findClass_of_methodNamed hn) hkY h3
  have h : At U g.method c below := by rw [hg]; exact X.here
  have hlocals9 : W9 + (maxL + 11) + (headSpec ws rm).room.locals ≤ R.locals := hlocals
  have happ : (headSpec ws rm).appliesLoose y e.platform (U.calling g mk a) = true :=
    Spec.appliesLoose_calling (g := g) h hdg hn hkY hinitY
      (X.room_calling (g := g) (R' := (headSpec ws rm).room) hsize hmY hcY hframes (by rw [hlY]; omega) h4 h5) h1
  obtain ⟨mid, hmid⟩ := h.above
  have hfr : (U.setTop g).frames = (.java g :: mid) ++ below := by rw [State.frames_setTop' g h.top, hmid]; rfl
  obtain ⟨o, s₂, hsteps, -, hend, hq⟩ := Steps.callFree hM p X.admits X.cas X.clock (acts := []) hfr happ hPc trivial
  have hq' : vx_Q Qc XC mc ms free a (U.calling g mk a) o s₂ := hq
  rw [State.frames_setTop' g h.top] at hend
  obtain ⟨g₀, hg0⟩ := Option.isSome_iff_exists.mp h.top
  obtain ⟨r, hr⟩ := State.topJava?_eq_some.mp hg0
  have hr' : (({ U with heap := s₂.heap, slotsUsed := s₂.slotsUsed } : State).setVm s₂.vm).frames = .java g₀ :: r := hr
  rcases hq' with ⟨hqc, L, hfe, hL⟩ | ⟨q, rfl, E, ce, L, hx, hce, hcv, hcl, hW₂, hsm, hL⟩
  · obtain ⟨⟨v, rfl⟩, hW₂, e2, q2, q3, q4, q5, q6⟩ := id hfe
    have e3 : s₂ = ({ (U.calling g mk a).setFrames s₂.frames with heap := s₂.heap, slotsUsed := s₂.slotsUsed } : State).setVm s₂.vm := by
      have : s₂ = ({ s₂ with vm := (U.calling g mk a).vm } : State).setVm s₂.vm := rfl
      rw [e2] at this
      exact this
    obtain ⟨c₂, i₂, len₂, hc₂, hd₂, hf₂⟩ := hend
    have hW' : U.WarmedH s₂.vm := hW₂
    have hcc : c₂ = c := by
      have h1 : s₂.code? g.method = U.code? g.method := by
        rw [State.code?_eq, State.code?_eq, hW'.alike.method?]
      exact Option.some.inj (hc₂.symm.trans (h1.trans h.code))
    subst hcc
    have hlen : len₂ = len := by rw [hdg] at hd₂; cases hd₂; rfl
    subst hlen
    have hs₂ : s₂ = (({ U with heap := s₂.heap, slotsUsed := s₂.slotsUsed } : State).setVm s₂.vm).setTop { g with pc := g.pc + len₂, stack := v.toList ++ g.stack } := by
      refine e3.trans ?_
      rw [hf₂, State.calling_eq h.top, State.setFrames_setFrames, State.setTop_of_frames _ hr', hr]
      rfl
    have hsame : U.sameButNew ({ U with heap := s₂.heap, slotsUsed := s₂.slotsUsed } : State) L mc ms := by
      refine ⟨?_, q2, q3, q4, q5, q6⟩
      obtain ⟨t, ht, -⟩ := State.frames_cons hr
      show ({ U with heap := s₂.heap, slotsUsed := s₂.slotsUsed } : State) = { U.setFrames U.frames with heap := s₂.heap, slotsUsed := s₂.slotsUsed }
      rw [State.setFrames_self ht]
    subst hg
    refine Or.inl ⟨v, ⟨(({ U with heap := s₂.heap, slotsUsed := s₂.slotsUsed } : State).setVm s₂.vm), Ls ++ L, c0 + mc, s0 + ms⟩,
      ⟨X.admits, X.cas, X.clock, X.frames, X.room, X.hears, X.method, X.code, (X.here.setHeapUsed s₂.heap s₂.slotsUsed).setVm hW'.alike, X.tail, State.WarmedH.trans X.warmed hW', X.limits, X.bytes, X.same.trans (hsame.setVm s.vm)⟩,
      ⟨g, mk, s₂, L, rfl, rfl, hqc, rfl, hL, rfl, rfl⟩, ?_⟩
    show Steps p.tables e below _ ((({ U with heap := s₂.heap, slotsUsed := s₂.slotsUsed } : State).setVm s₂.vm).setTop { g with pc := g.pc + len₂, stack := v.toList ++ g.stack })
    rw [← hs₂]
    exact hsteps
  · obtain ⟨e2, q2, q3, q4, q5, q6⟩ := id hsm
    have e3 : s₂ = ({ (U.calling g mk a).setFrames s₂.frames with heap := s₂.heap, slotsUsed := s₂.slotsUsed } : State).setVm s₂.vm := by
      have : s₂ = ({ s₂ with vm := (U.calling g mk a).vm } : State).setVm s₂.vm := rfl
      rw [e2] at this
      exact this
    have hf₂ : s₂.frames = .throwing q :: .java g :: U.frames.tail := hend
    have hW' : U.WarmedH s₂.vm := hW₂
    have hs₂ : s₂ = ((({ U with heap := s₂.heap, slotsUsed := s₂.slotsUsed } : State).setVm s₂.vm).setTop g).pushFrame (.throwing q) := by
      refine e3.trans ?_
      rw [hf₂, State.calling_eq h.top, State.setFrames_setFrames, State.pushFrame, State.frames_setTop _ hr', State.setTop_of_frames _ hr', State.setFrames_setFrames, hr]
      rfl
    have hsame : U.sameButNew ({ U with heap := s₂.heap, slotsUsed := s₂.slotsUsed } : State) L mc ms := by
      refine ⟨?_, q2, q3, q4, q5, q6⟩
      obtain ⟨t, ht, -⟩ := State.frames_cons hr
      show ({ U with heap := s₂.heap, slotsUsed := s₂.slotsUsed } : State) = { U.setFrames U.frames with heap := s₂.heap, slotsUsed := s₂.slotsUsed }
      rw [State.setFrames_self ht]
    subst hg
    refine Or.inr ⟨q, ⟨(({ U with heap := s₂.heap, slotsUsed := s₂.slotsUsed } : State).setVm s₂.vm), Ls ++ L, c0 + mc, s0 + ms⟩,
      ⟨X.admits, X.cas, X.clock, X.frames, X.room, X.hears, X.method, X.code, (X.here.setHeapUsed s₂.heap s₂.slotsUsed).setVm hW'.alike, X.tail, State.WarmedH.trans X.warmed hW', X.limits, X.bytes, X.same.trans (hsame.setVm s.vm)⟩,
      ⟨g, mk, s₂, L, E, ce, rfl, rfl, hx, hce, hcv, hcl, rfl, hL, rfl, rfl⟩, ?_⟩
    show Steps p.tables e below _ (((({ U with heap := s₂.heap, slotsUsed := s₂.slotsUsed } : State).setVm s₂.vm).setTop g).pushFrame (.throwing q))
    rw [← hs₂]
    exact hsteps
end Payer
section Calls
variable {p : Program} {l : Launch} {e : Env} {R : Room} {s : State} {m : MethodId} {args : Array Value} {below : List Frame} {meth : Method} {c : Code} {T : State} {locs : List Loc} {cells slots : Nat}
theorem vx_callV (X : Stand p l e R s m args below meth c T locs cells slots) (hexec : p.tables.exec = Jvm.exec) {own C : String} {index : Nat} {y : MethodName} {bytes : ByteArray} {maxL : Nat} {ret : Option FieldType}
    (hown : s.vm.findClass own = some m.cls) (hlink : (Cond.methodLink own index y).before args s = true) (hinst : (Cond.instanceMethod y).before args s = true) (hsel : (Cond.selects C y y).before args s = true)
    (hcode : (Cond.code y bytes maxL ret).before args s = true) (hy : y.cls ≠ "java/lang/invoke/MethodHandle" ∧ y.cls ≠ "java/lang/invoke/VarHandle")
    {W9 : Nat} {Pre : Pt → Array Value → Prop} {Post : Pt → Array Value → Option Value → Pt → Prop} {PostX : Pt → Array Value → Addr → Pt → Prop} (hK : vx_Back l R p e below s args y 3 W9 Pre Post PostX)
    {b : Addr} {cellB : Cell} (hcell : T.heap[b]? = some cellB) (hobj : cellB.vm.isStatics = false) (hcls : s.vm.findClass C = some cellB.cls)
    {g : JFrame} (hg : g.method = m) (hsize : g.locals.size = c.maxLocals) {argsL rest : List Value} (hlen : ∀ sig, parseMethodDescriptor y.desc = some sig → argsL.length = sig.parameters.length)
    (hstack : g.stack = argsL.reverse ++ .ref b :: rest) (hW : 2 * g.monitorRoom + (rest.map fun v => v.category).sum ≤ W9) (hdg : decode c.code g.pc = .ok (.invokevirtual index, 3))
    (hpre : ∀ vm₁, s.WarmedH vm₁ → Pre ⟨T.setVm vm₁, locs, cells, slots⟩ (Value.ref b :: argsL).toArray) :
    (∃ (v : Option Value) (vm₁ : Vm) (B : Pt), s.WarmedH vm₁ ∧ Stand p l e R s m args below meth c B.U B.locs B.cells B.slots ∧ Post ⟨T.setVm vm₁, locs, cells, slots⟩ (Value.ref b :: argsL).toArray v B ∧
      ∀ target, Steps p.tables e below (B.U.setTop { g with pc := g.pc + 3, stack := v.toList ++ rest }) target → Steps p.tables e below (T.setTop g) target) ∨
    (∃ (q : Addr) (vm₁ : Vm) (B : Pt), s.WarmedH vm₁ ∧ Stand p l e R s m args below meth c B.U B.locs B.cells B.slots ∧ PostX ⟨T.setVm vm₁, locs, cells, slots⟩ (Value.ref b :: argsL).toArray q B ∧
      Steps p.tables e below (T.setTop g) ((B.U.setTop { g with stack := rest }).pushFrame (.throwing q))) := by
  obtain ⟨mk, methM, hnamed, hmethM, hstM, habM⟩ := Cond.instanceMethod_spec hinst
  obtain ⟨methM', cM, hmethM', -, -, -, -, -, -, hsigM⟩ := Cond.code_spec hnamed hcode
  cases hmethM.symm.trans hmethM'
  obtain ⟨c2, r2, m2, q1, q2, q3, q4, kP, hkP, hkPi⟩ := Cond.selects_spec hsel
  cases hcls.symm.trans q1
  cases (State.methodFound?_of_named hnamed hy).symm.trans q2
  cases hnamed.symm.trans q3
  have hselP : selectMethod e.platform s.vm cellB.cls mk = .method mk := by rw [Launch.admits_selectMethod X.admits]; exact q4
  obtain ⟨vm₁, X₁, hstep₁⟩ := X.invokevirtual hexec hown hlink hnamed hmethM hstM hkP hkPi hy (a := b) (cell := cellB) hcell
    (fun z h => by rw [h] at hobj; cases hobj) hselP hmethM habM hkP hkPi (g := g) hg (argsL := argsL) (rest := rest) (hlen _ hsigM) hstack hdg
  rcases hK m meth c ⟨T.setVm vm₁, locs, cells, slots⟩ { g with stack := rest } (.invokevirtual index) mk (Value.ref b :: argsL).toArray X₁ hg hsize hdg hW (X₁.named hnamed) (hpre vm₁ X₁.warmed) with ⟨v, B, X', hpost, hsteps⟩ | ⟨q, B, X', hpost, hsteps⟩
  · exact Or.inl ⟨v, vm₁, B, X₁.warmed, X', hpost, fun target h => hstep₁ _ fun acts => by rw [doInvoke_state]; exact hsteps.trans h⟩
  · exact Or.inr ⟨q, vm₁, B, X₁.warmed, X', hpost, hstep₁ _ fun acts => by rw [doInvoke_state]; exact hsteps⟩
theorem vx_callS (X : Stand p l e R s m args below meth c T locs cells slots) (hexec : p.tables.exec = Jvm.exec) {own : String} {index : Nat} {y : MethodName} {bytes : ByteArray} {maxL : Nat} {ret : Option FieldType}
    (hown : s.vm.findClass own = some m.cls) (hlink : (Cond.methodLink own index y).before args s = true) (hstat : (Cond.static y).before args s = true) (hinit : (Cond.initialized y.cls).before args s = true)
    (hcode : (Cond.code y bytes maxL ret).before args s = true) (hy : y.cls ≠ "java/lang/invoke/MethodHandle" ∧ y.cls ≠ "java/lang/invoke/VarHandle")
    {W9 : Nat} {Pre : Pt → Array Value → Prop} {Post : Pt → Array Value → Option Value → Pt → Prop} {PostX : Pt → Array Value → Addr → Pt → Prop} (hK : vx_Back l R p e below s args y 3 W9 Pre Post PostX)
    {g : JFrame} (hg : g.method = m) (hsize : g.locals.size = c.maxLocals) {argsL rest : List Value} (hlen : ∀ sig, parseMethodDescriptor y.desc = some sig → argsL.length = sig.parameters.length)
    (hstack : g.stack = argsL.reverse ++ rest) (hW : 2 * g.monitorRoom + (rest.map fun v => v.category).sum ≤ W9) (hdg : decode c.code g.pc = .ok (.invokestatic index, 3))
    (hpre : ∀ vm₁, s.WarmedH vm₁ → Pre ⟨T.setVm vm₁, locs, cells, slots⟩ argsL.toArray) :
    (∃ (v : Option Value) (vm₁ : Vm) (B : Pt), s.WarmedH vm₁ ∧ Stand p l e R s m args below meth c B.U B.locs B.cells B.slots ∧ Post ⟨T.setVm vm₁, locs, cells, slots⟩ argsL.toArray v B ∧
      ∀ target, Steps p.tables e below (B.U.setTop { g with pc := g.pc + 3, stack := v.toList ++ rest }) target → Steps p.tables e below (T.setTop g) target) ∨
    (∃ (q : Addr) (vm₁ : Vm) (B : Pt), s.WarmedH vm₁ ∧ Stand p l e R s m args below meth c B.U B.locs B.cells B.slots ∧ PostX ⟨T.setVm vm₁, locs, cells, slots⟩ argsL.toArray q B ∧
      Steps p.tables e below (T.setTop g) ((B.U.setTop { g with stack := rest }).pushFrame (.throwing q))) := by
  obtain ⟨mk, hnamed⟩ := Cond.code_named hcode
  obtain ⟨methM, cM, hmethM, -, -, -, -, -, -, hsigM⟩ := Cond.code_spec hnamed hcode
  have hstatic : methM.isStatic = true := Cond.static_spec hnamed hmethM hstat
  obtain ⟨kP, hkP, -⟩ := className_of_methodNamed hnamed
  have hinitP : kP.init = .initialized := Cond.initialized_spec (findClass_of_methodNamed hnamed) hkP hinit
  obtain ⟨vm₁, X₁, hstep₁⟩ := X.invokestatic hexec hown hlink hnamed hmethM hstatic hkP hinitP hy (g := g) hg (argsL := argsL) (rest := rest) (hlen _ hsigM) hstack hdg
  rcases hK m meth c ⟨T.setVm vm₁, locs, cells, slots⟩ { g with stack := rest } (.invokestatic index) mk argsL.toArray X₁ hg hsize hdg hW (X₁.named hnamed) (hpre vm₁ X₁.warmed) with ⟨v, B, X', hpost, hsteps⟩ | ⟨q, B, X', hpost, hsteps⟩
  · exact Or.inl ⟨v, vm₁, B, X₁.warmed, X', hpost, fun target h => hstep₁ _ fun acts => by rw [doInvoke_state]; exact hsteps.trans h⟩
  · exact Or.inr ⟨q, vm₁, B, X₁.warmed, X', hpost, hstep₁ _ fun acts => by rw [doInvoke_state]; exact hsteps⟩
end Calls
theorem vx_cls {s : State} {T : State} {vm₁ : Vm} {E : String} {k : ClassId} (hW : s.WarmedH vm₁) (h : (T.setVm vm₁).vm.findClass E = some k) : s.vm.findClass E = some k := by
  have h1 : vm₁.findClass E = some k := h
  rw [hW.alike.findClass] at h1
  exact h1
/-- the method's frame g, with q thrown over it -/
def vx_W (p : Program) (l : Launch) (e : Env) (R : Room) (s : State) (m : MethodId) (args : Array Value) (below : List Frame) (meth : Method) (c : Code) (H : Heap) (locs : List Loc) (cells slots : Nat) (Q : State → Prop) (g : JFrame) (q : Addr) : Prop :=
  ∀ T : State, T.heap = H → Stand p l e R s m args below meth c T locs cells slots → ∃ t, Steps p.tables e below ((T.setTop g).pushFrame (.throwing q)) t ∧ Q t
def vx_Run (p : Program) (l : Launch) (e : Env) (R : Room) (s : State) (m : MethodId) (args : Array Value) (below : List Frame) (meth : Method) (c : Code) (H : Heap) (locs : List Loc) (cells slots mc ms : Nat) (g : JFrame) (rest : List Value) (Qa : State → Outcome → State → Prop) (XC : String → State → State → Prop) (free : Addr → Prop) : Prop :=
  ∀ T : State, T.heap = H → Stand p l e R s m args below meth c T locs cells slots →
    (∃ (v : Option Value) (st₀ t T' : State) (L : List Loc), st₀.heap = H ∧ Stand p l e R s m args below meth c T' (locs ++ L) (cells + mc) (slots + ms) ∧ (∀ q ∈ L, free q.base) ∧ T'.heap = t.heap ∧ T'.vm = t.vm ∧ Qa st₀ (.returned v) t ∧
      Goes p e below T g T' { g with pc := g.pc + 3, stack := v.toList ++ rest }) ∨
    (∃ (q : Addr) (st₀ t T' : State) (L : List Loc) (E : String) (ce : Cell), st₀.heap = H ∧ Stand p l e R s m args below meth c T' (locs ++ L) (cells + mc) (slots + ms) ∧ (∀ z ∈ L, free z.base) ∧ T'.heap = t.heap ∧ T'.vm = t.vm ∧ XC E st₀ t ∧ t.heap[q]? = some ce ∧ ce.vm = .none ∧ s.vm.findClass E = some ce.cls ∧
      Steps p.tables e below (T.setTop g) ((T'.setTop { g with stack := rest }).pushFrame (.throwing q)))
def vx_X {S : Type} (px : S → Prop) (B : String → S → State → Prop) (A : Nat → Prop) : String → State → State → Prop := fun E st t => ∃ u : S, px u ∧ B E u t ∧ va_F A st t
section Runs
variable {p : Program} {l : Launch} {e : Env} {R : Room} {s : State} {m : MethodId} {args : Array Value} {below : List Frame} {meth : Method} {c : Code} {H : Heap} {locs : List Loc} {cells slots : Nat}
variable {y : MethodName} {bytes cc : ByteArray} {maxL nL mc ms n index : Nat} {ret : Option FieldType} {ws : List Cond} {rm : Room} {Pc : Array Value → State → Prop} {Qc : Array Value → State → Outcome → State → Prop} {XC : String → State → State → Prop} {free : Addr → Prop} {Ts : List Cond} {own C : String} {b : Addr} {As rest : List Value} {g : JFrame}
theorem vx_callBack (cb : CallB R s args own index y bytes maxL ret ws rm mc ms n) (hM : vx_Met l y ws rm Pc Qc XC mc ms free) (hbl : FrameBlind Pc) : vx_Back l R p e below s args y 3 8 (PreOf R mc ms Pc) (PostOf Qc mc ms free) (vx_Post XC mc ms free) := by
  obtain ⟨hrc, hrs, hfr, hlo, hws, hcw, -, hini, -⟩ := cb
  exact vx_back (bytes := bytes) (maxL := maxL) (ret := ret) hM hbl hrc hrs hfr hlo hws hcw (fun a' U hW => word_at hW (Or.inl (by first | rfl | simp [Cond.onTables, Cond.keeps, Cond.steady])) hini)
theorem vx_runV (S : CallFix p m c cc nL s args Ts own) (hM : vx_Met l y ws rm Pc Qc XC mc ms free) (cw : CallW R s args own C index y bytes maxL ret ws rm mc ms n) (hp : PreV s H C b Pc As)
    (hg : g.method = m) (hn : As.length = n) (hsize : g.locals.size = nL) (hstack : g.stack = As.reverse ++ .ref b :: rest) (hW : 2 * g.monitorRoom + (rest.map fun v => v.category).sum ≤ 8) (hdg : decode cc g.pc = .ok (.invokevirtual index, 3)) (hf : cells + mc ≤ R.cells ∧ slots + ms ≤ R.slots) :
    vx_Run p l e R s m args below meth c H locs cells slots mc ms g rest (Qc (Value.ref b :: As).toArray) XC free := by
  have hK : vx_Back l R p e below s args y 3 8 (PreOf R mc ms Pc) (PostOf Qc mc ms free) (vx_Post XC mc ms free) := vx_callBack cw.1 hM hp.1
  obtain ⟨⟨-, -, -, -, -, -, hcode, -, hy, hlen, hl⟩, hin, hse⟩ := cw
  obtain ⟨hx, hb, hml, ho, -⟩ := S
  obtain ⟨-, ⟨cellB, hcB, hoB, hclB⟩, hPc⟩ := hp
  intro T hT X
  rcases vx_callV X hx (C := C) (bytes := bytes) (maxL := maxL) (ret := ret) ho hl hin hse hcode hy hK (by rw [hT]; exact hcB) hoB hclB hg (hsize.trans hml.symm) (argsL := As) (rest := rest) (fun sig h => hn.trans (hlen sig h)) hstack hW (by rw [hb]; exact hdg)
    (fun vm₁ hW₁ => ⟨hf.1, hf.2, hPc (T.setVm vm₁) hT hW₁⟩) with ⟨v, vm₁, ⟨U', l2, c2, s2⟩, hW₁, X', ⟨g', mk, t, L, e1, e2, hq, h1, hL, h2, h3⟩, st⟩ | ⟨q, vm₁, ⟨U', l2, c2, s2⟩, hW₁, X', ⟨g', mk, t, L, E, ce, e1, e2, hq, hce, hcv, hcl, h1, hL, h2, h3⟩, st⟩
  · dsimp only [Pt.U, Pt.locs, Pt.cells, Pt.slots] at X' e1 e2 h1 h2 h3 st
    subst h1; subst h2; subst h3
    exact Or.inl ⟨v, (T.setVm vm₁).calling g' mk (Value.ref b :: As).toArray, t, U', L, hT, X', hL, e1, e2, hq, st⟩
  · dsimp only [Pt.U, Pt.locs, Pt.cells, Pt.slots] at X' e1 e2 h1 h2 h3 st hcl
    subst h1; subst h2; subst h3
    exact Or.inr ⟨q, (T.setVm vm₁).calling g' mk (Value.ref b :: As).toArray, t, U', L, E, ce, hT, X', hL, e1, e2, hq, hce, hcv, vx_cls hW₁ hcl, st⟩
theorem vx_runS (S : CallFix p m c cc nL s args Ts own) (hM : vx_Met l y ws rm Pc Qc XC mc ms free) (cw : CallB R s args own index y bytes maxL ret ws rm mc ms n ∧ (Cond.static y).before args s = true) (hp : PreS s H Pc As)
    (hg : g.method = m) (hn : As.length = n) (hsize : g.locals.size = nL) (hstack : g.stack = As.reverse ++ rest) (hW : 2 * g.monitorRoom + (rest.map fun v => v.category).sum ≤ 8) (hdg : decode cc g.pc = .ok (.invokestatic index, 3)) (hf : cells + mc ≤ R.cells ∧ slots + ms ≤ R.slots) :
    vx_Run p l e R s m args below meth c H locs cells slots mc ms g rest (Qc As.toArray) XC free := by
  have hK : vx_Back l R p e below s args y 3 8 (PreOf R mc ms Pc) (PostOf Qc mc ms free) (vx_Post XC mc ms free) := vx_callBack cw.1 hM hp.1
  obtain ⟨⟨-, -, -, -, -, -, hcode, hini, hy, hlen, hl⟩, hstt⟩ := cw
  obtain ⟨hx, hb, hml, ho, -⟩ := S
  intro T hT X
  rcases vx_callS X hx (bytes := bytes) (maxL := maxL) (ret := ret) ho hl hstt hini hcode hy hK hg (hsize.trans hml.symm) (argsL := As) (rest := rest) (fun sig h => hn.trans (hlen sig h)) hstack hW (by rw [hb]; exact hdg)
    (fun vm₁ hW₁ => ⟨hf.1, hf.2, hp.2 (T.setVm vm₁) hT hW₁⟩) with ⟨v, vm₁, ⟨U', l2, c2, s2⟩, hW₁, X', ⟨g', mk, t, L, e1, e2, hq, h1, hL, h2, h3⟩, st⟩ | ⟨q, vm₁, ⟨U', l2, c2, s2⟩, hW₁, X', ⟨g', mk, t, L, E, ce, e1, e2, hq, hce, hcv, hcl, h1, hL, h2, h3⟩, st⟩
  · dsimp only [Pt.U, Pt.locs, Pt.cells, Pt.slots] at X' e1 e2 h1 h2 h3 st
    subst h1; subst h2; subst h3
    exact Or.inl ⟨v, (T.setVm vm₁).calling g' mk As.toArray, t, U', L, hT, X', hL, e1, e2, hq, st⟩
  · dsimp only [Pt.U, Pt.locs, Pt.cells, Pt.slots] at X' e1 e2 h1 h2 h3 st hcl
    subst h1; subst h2; subst h3
    exact Or.inr ⟨q, (T.setVm vm₁).calling g' mk As.toArray, t, U', L, E, ce, hT, X', hL, e1, e2, hq, hce, hcv, vx_cls hW₁ hcl, st⟩
end Runs
section Rows
variable {p : Program} {l : Launch} {e : Env} {R : Room} {s : State} {m : MethodId} {args : Array Value} {below : List Frame} {meth : Method} {c : Code} {H : Heap} {locs : List Loc} {cells slots : Nat} {Q : State → Prop}
variable {mc ms : Nat} {free : Addr → Prop} {A0 A1 : Nat → Prop} {H0 : Heap} {a : Array Value} {pc : Nat} {ls : Array Slot} {st0 rest : List Value}
theorem vx_keep {st₀ t T' : State} {L : List Loc} (h0 : st₀.heap = H) (e1 : T'.heap = t.heap) (hS : va_S A0 H0 H locs) (hA : ∀ q, q < H.size → A1 q → A0 q) (hf : ∀ q, free q → A0 q) (hL : ∀ q ∈ L, free q.base) (hF : va_F A1 st₀ t) :
    H.size ≤ T'.heap.size ∧ (∀ q : Nat, q < H.size → ¬ A1 q → T'.heap[q]? = H[q]?) ∧ va_S A0 H0 T'.heap (locs ++ L) := by
  obtain ⟨hz, hk⟩ := hF
  rw [h0] at hz hk
  exact ⟨by rw [e1]; exact hz, fun q h1 h2 => by rw [e1]; exact hk q h1 h2,
    ⟨Nat.le_trans hS.1 (by rw [e1]; exact hz), fun q h1 h2 => by rw [e1, hk q (Nat.lt_of_lt_of_le h1 hS.1) (fun z => h2 (hA q (Nat.lt_of_lt_of_le h1 hS.1) z))]; exact hS.2.1 q h1 h2, fun q hq => by
      rcases List.mem_append.mp hq with h | h
      · exact hS.2.2 q h
      · exact hf _ (hL q h)⟩⟩
theorem vx_calli {S SX : Type} {post : Int32 → S → Prop} {px : SX → Prop} {B : S → State → Prop} {BX : String → SX → State → Prop} {AX : Nat → Prop} (hr : vx_Run p l e R s m args below meth c H locs cells slots mc ms (F0 m pc ls st0) rest (va_Qi post B A1 a) (vx_X px BX AX) free) (hS : va_S A0 H0 H locs) (hA : ∀ q, q < H.size → A1 q → A0 q) (hf : ∀ q, free q → A0 q) (hAX : ∀ q, q < H.size → AX q → A0 q)
    (kx : ∀ (E : String) (ce : Cell) (q9 : Addr) (u : SX) (t : State) (H1 : Heap) (locs1 : List Loc), t.heap = H1 → s.vm.Alike t.vm → px u → BX E u t → H.size ≤ H1.size → (∀ q : Nat, q < H.size → ¬ AX q → H1[q]? = H[q]?) → va_S A0 H0 H1 locs1 → H1[q9]? = some ce → ce.vm = .none → s.vm.findClass E = some ce.cls → vx_W p l e R s m args below meth c H1 locs1 (cells + mc) (slots + ms) Q (F0 m pc ls rest) q9)
    (kk : ∀ (r : Int32) (u : S) (t : State) (H1 : Heap) (locs1 : List Loc), t.heap = H1 → s.vm.Alike t.vm → post r u → B u t → H.size ≤ H1.size → (∀ q : Nat, q < H.size → ¬ A1 q → H1[q]? = H[q]?) → va_S A0 H0 H1 locs1 → W p l e R s m args below meth c H1 locs1 (cells + mc) (slots + ms) Q (F0 m (pc + 3) ls (.int r :: rest))) : W p l e R s m args below meth c H locs cells slots Q (F0 m pc ls st0) := by
  intro T hT X
  rcases hr T hT X with ⟨v, st₀, t, T', L, h0, X', hL, e1, e2, ⟨⟨r, u, hv, hp, hb⟩, hF⟩, st⟩ | ⟨q, st₀, t, T', L, E, ce, h0, X', hL, e1, e2, ⟨u, hp, hb, hF⟩, hce, hcv, hcl, st⟩
  · cases hv
    obtain ⟨k1, k2, k3⟩ := vx_keep h0 e1 hS hA hf hL hF
    obtain ⟨t2, a1, b1⟩ := kk r u t T'.heap (locs ++ L) e1.symm (by rw [← e2]; exact X'.warmed.alike) hp hb k1 k2 k3 T' rfl X'
    exact ⟨t2, st t2 a1, b1⟩
  · obtain ⟨k1, k2, k3⟩ := vx_keep h0 e1 hS hAX hf hL hF
    obtain ⟨t2, a1, b1⟩ := kx E ce q u t T'.heap (locs ++ L) e1.symm (by rw [← e2]; exact X'.warmed.alike) hp hb k1 k2 k3 (by rw [e1]; exact hce) hcv hcl T' rfl X'
    exact ⟨t2, st.trans a1, b1⟩
theorem vx_calll {S SX : Type} {post : Int64 → S → Prop} {px : SX → Prop} {B : S → State → Prop} {BX : String → SX → State → Prop} {AX : Nat → Prop} (hr : vx_Run p l e R s m args below meth c H locs cells slots mc ms (F0 m pc ls st0) rest (va_Ql post B A1 a) (vx_X px BX AX) free) (hS : va_S A0 H0 H locs) (hA : ∀ q, q < H.size → A1 q → A0 q) (hf : ∀ q, free q → A0 q) (hAX : ∀ q, q < H.size → AX q → A0 q)
    (kx : ∀ (E : String) (ce : Cell) (q9 : Addr) (u : SX) (t : State) (H1 : Heap) (locs1 : List Loc), t.heap = H1 → s.vm.Alike t.vm → px u → BX E u t → H.size ≤ H1.size → (∀ q : Nat, q < H.size → ¬ AX q → H1[q]? = H[q]?) → va_S A0 H0 H1 locs1 → H1[q9]? = some ce → ce.vm = .none → s.vm.findClass E = some ce.cls → vx_W p l e R s m args below meth c H1 locs1 (cells + mc) (slots + ms) Q (F0 m pc ls rest) q9)
    (kk : ∀ (r : Int64) (u : S) (t : State) (H1 : Heap) (locs1 : List Loc), t.heap = H1 → s.vm.Alike t.vm → post r u → B u t → H.size ≤ H1.size → (∀ q : Nat, q < H.size → ¬ A1 q → H1[q]? = H[q]?) → va_S A0 H0 H1 locs1 → W p l e R s m args below meth c H1 locs1 (cells + mc) (slots + ms) Q (F0 m (pc + 3) ls (.long r :: rest))) : W p l e R s m args below meth c H locs cells slots Q (F0 m pc ls st0) := by
  intro T hT X
  rcases hr T hT X with ⟨v, st₀, t, T', L, h0, X', hL, e1, e2, ⟨⟨r, u, hv, hp, hb⟩, hF⟩, st⟩ | ⟨q, st₀, t, T', L, E, ce, h0, X', hL, e1, e2, ⟨u, hp, hb, hF⟩, hce, hcv, hcl, st⟩
  · cases hv
    obtain ⟨k1, k2, k3⟩ := vx_keep h0 e1 hS hA hf hL hF
    obtain ⟨t2, a1, b1⟩ := kk r u t T'.heap (locs ++ L) e1.symm (by rw [← e2]; exact X'.warmed.alike) hp hb k1 k2 k3 T' rfl X'
    exact ⟨t2, st t2 a1, b1⟩
  · obtain ⟨k1, k2, k3⟩ := vx_keep h0 e1 hS hAX hf hL hF
    obtain ⟨t2, a1, b1⟩ := kx E ce q u t T'.heap (locs ++ L) e1.symm (by rw [← e2]; exact X'.warmed.alike) hp hb k1 k2 k3 (by rw [e1]; exact hce) hcv hcl T' rfl X'
    exact ⟨t2, st.trans a1, b1⟩
theorem vx_callf {S SX : Type} {post : UInt32 → S → Prop} {px : SX → Prop} {B : S → State → Prop} {BX : String → SX → State → Prop} {AX : Nat → Prop} (hr : vx_Run p l e R s m args below meth c H locs cells slots mc ms (F0 m pc ls st0) rest (va_Qf post B A1 a) (vx_X px BX AX) free) (hS : va_S A0 H0 H locs) (hA : ∀ q, q < H.size → A1 q → A0 q) (hf : ∀ q, free q → A0 q) (hAX : ∀ q, q < H.size → AX q → A0 q)
    (kx : ∀ (E : String) (ce : Cell) (q9 : Addr) (u : SX) (t : State) (H1 : Heap) (locs1 : List Loc), t.heap = H1 → s.vm.Alike t.vm → px u → BX E u t → H.size ≤ H1.size → (∀ q : Nat, q < H.size → ¬ AX q → H1[q]? = H[q]?) → va_S A0 H0 H1 locs1 → H1[q9]? = some ce → ce.vm = .none → s.vm.findClass E = some ce.cls → vx_W p l e R s m args below meth c H1 locs1 (cells + mc) (slots + ms) Q (F0 m pc ls rest) q9)
    (kk : ∀ (r : UInt32) (u : S) (t : State) (H1 : Heap) (locs1 : List Loc), t.heap = H1 → s.vm.Alike t.vm → post r u → B u t → H.size ≤ H1.size → (∀ q : Nat, q < H.size → ¬ A1 q → H1[q]? = H[q]?) → va_S A0 H0 H1 locs1 → W p l e R s m args below meth c H1 locs1 (cells + mc) (slots + ms) Q (F0 m (pc + 3) ls (.float r :: rest))) : W p l e R s m args below meth c H locs cells slots Q (F0 m pc ls st0) := by
  intro T hT X
  rcases hr T hT X with ⟨v, st₀, t, T', L, h0, X', hL, e1, e2, ⟨⟨r, u, hv, hp, hb⟩, hF⟩, st⟩ | ⟨q, st₀, t, T', L, E, ce, h0, X', hL, e1, e2, ⟨u, hp, hb, hF⟩, hce, hcv, hcl, st⟩
  · cases hv
    obtain ⟨k1, k2, k3⟩ := vx_keep h0 e1 hS hA hf hL hF
    obtain ⟨t2, a1, b1⟩ := kk r u t T'.heap (locs ++ L) e1.symm (by rw [← e2]; exact X'.warmed.alike) hp hb k1 k2 k3 T' rfl X'
    exact ⟨t2, st t2 a1, b1⟩
  · obtain ⟨k1, k2, k3⟩ := vx_keep h0 e1 hS hAX hf hL hF
    obtain ⟨t2, a1, b1⟩ := kx E ce q u t T'.heap (locs ++ L) e1.symm (by rw [← e2]; exact X'.warmed.alike) hp hb k1 k2 k3 (by rw [e1]; exact hce) hcv hcl T' rfl X'
    exact ⟨t2, st.trans a1, b1⟩
theorem vx_calld {S SX : Type} {post : UInt64 → S → Prop} {px : SX → Prop} {B : S → State → Prop} {BX : String → SX → State → Prop} {AX : Nat → Prop} (hr : vx_Run p l e R s m args below meth c H locs cells slots mc ms (F0 m pc ls st0) rest (va_Qd post B A1 a) (vx_X px BX AX) free) (hS : va_S A0 H0 H locs) (hA : ∀ q, q < H.size → A1 q → A0 q) (hf : ∀ q, free q → A0 q) (hAX : ∀ q, q < H.size → AX q → A0 q)
    (kx : ∀ (E : String) (ce : Cell) (q9 : Addr) (u : SX) (t : State) (H1 : Heap) (locs1 : List Loc), t.heap = H1 → s.vm.Alike t.vm → px u → BX E u t → H.size ≤ H1.size → (∀ q : Nat, q < H.size → ¬ AX q → H1[q]? = H[q]?) → va_S A0 H0 H1 locs1 → H1[q9]? = some ce → ce.vm = .none → s.vm.findClass E = some ce.cls → vx_W p l e R s m args below meth c H1 locs1 (cells + mc) (slots + ms) Q (F0 m pc ls rest) q9)
    (kk : ∀ (r : UInt64) (u : S) (t : State) (H1 : Heap) (locs1 : List Loc), t.heap = H1 → s.vm.Alike t.vm → post r u → B u t → H.size ≤ H1.size → (∀ q : Nat, q < H.size → ¬ A1 q → H1[q]? = H[q]?) → va_S A0 H0 H1 locs1 → W p l e R s m args below meth c H1 locs1 (cells + mc) (slots + ms) Q (F0 m (pc + 3) ls (.double r :: rest))) : W p l e R s m args below meth c H locs cells slots Q (F0 m pc ls st0) := by
  intro T hT X
  rcases hr T hT X with ⟨v, st₀, t, T', L, h0, X', hL, e1, e2, ⟨⟨r, u, hv, hp, hb⟩, hF⟩, st⟩ | ⟨q, st₀, t, T', L, E, ce, h0, X', hL, e1, e2, ⟨u, hp, hb, hF⟩, hce, hcv, hcl, st⟩
  · cases hv
    obtain ⟨k1, k2, k3⟩ := vx_keep h0 e1 hS hA hf hL hF
    obtain ⟨t2, a1, b1⟩ := kk r u t T'.heap (locs ++ L) e1.symm (by rw [← e2]; exact X'.warmed.alike) hp hb k1 k2 k3 T' rfl X'
    exact ⟨t2, st t2 a1, b1⟩
  · obtain ⟨k1, k2, k3⟩ := vx_keep h0 e1 hS hAX hf hL hF
    obtain ⟨t2, a1, b1⟩ := kx E ce q u t T'.heap (locs ++ L) e1.symm (by rw [← e2]; exact X'.warmed.alike) hp hb k1 k2 k3 (by rw [e1]; exact hce) hcv hcl T' rfl X'
    exact ⟨t2, st.trans a1, b1⟩
theorem vx_callv {S SX : Type} {post : S → Prop} {px : SX → Prop} {B : S → State → Prop} {BX : String → SX → State → Prop} {AX : Nat → Prop} (hr : vx_Run p l e R s m args below meth c H locs cells slots mc ms (F0 m pc ls st0) rest (va_Qv post B A1 a) (vx_X px BX AX) free) (hS : va_S A0 H0 H locs) (hA : ∀ q, q < H.size → A1 q → A0 q) (hf : ∀ q, free q → A0 q) (hAX : ∀ q, q < H.size → AX q → A0 q)
    (kx : ∀ (E : String) (ce : Cell) (q9 : Addr) (u : SX) (t : State) (H1 : Heap) (locs1 : List Loc), t.heap = H1 → s.vm.Alike t.vm → px u → BX E u t → H.size ≤ H1.size → (∀ q : Nat, q < H.size → ¬ AX q → H1[q]? = H[q]?) → va_S A0 H0 H1 locs1 → H1[q9]? = some ce → ce.vm = .none → s.vm.findClass E = some ce.cls → vx_W p l e R s m args below meth c H1 locs1 (cells + mc) (slots + ms) Q (F0 m pc ls rest) q9)
    (kk : ∀ (u : S) (t : State) (H1 : Heap) (locs1 : List Loc), t.heap = H1 → s.vm.Alike t.vm → post u → B u t → H.size ≤ H1.size → (∀ q : Nat, q < H.size → ¬ A1 q → H1[q]? = H[q]?) → va_S A0 H0 H1 locs1 → W p l e R s m args below meth c H1 locs1 (cells + mc) (slots + ms) Q (F0 m (pc + 3) ls (rest))) : W p l e R s m args below meth c H locs cells slots Q (F0 m pc ls st0) := by
  intro T hT X
  rcases hr T hT X with ⟨v, st₀, t, T', L, h0, X', hL, e1, e2, ⟨⟨u, hv, hp, hb⟩, hF⟩, st⟩ | ⟨q, st₀, t, T', L, E, ce, h0, X', hL, e1, e2, ⟨u, hp, hb, hF⟩, hce, hcv, hcl, st⟩
  · cases hv
    obtain ⟨k1, k2, k3⟩ := vx_keep h0 e1 hS hA hf hL hF
    obtain ⟨t2, a1, b1⟩ := kk u t T'.heap (locs ++ L) e1.symm (by rw [← e2]; exact X'.warmed.alike) hp hb k1 k2 k3 T' rfl X'
    exact ⟨t2, st t2 a1, b1⟩
  · obtain ⟨k1, k2, k3⟩ := vx_keep h0 e1 hS hAX hf hL hF
    obtain ⟨t2, a1, b1⟩ := kx E ce q u t T'.heap (locs ++ L) e1.symm (by rw [← e2]; exact X'.warmed.alike) hp hb k1 k2 k3 (by rw [e1]; exact hce) hcv hcl T' rfl X'
    exact ⟨t2, st.trans a1, b1⟩
/-- caught by the row x of this method's table; the rows ahead don't take it -/
theorem vx_catch {own name : String} {E : String} {ce : Cell} {q : Addr} (hown : s.vm.findClass own = some m.cls) (pre : List ExceptionTableEntry) (x : ExceptionTableEntry) (suf : List ExceptionTableEntry) (hsplit : c.exceptionTable.toList = pre ++ x :: suf)
    (hpass : ∀ z ∈ pre, covers z pc = false ∨ (z.catchType ≠ 0 ∧ ∃ nm : String, (Cond.classLink own z.catchType nm).before args s = true ∧ va_Nc E nm s)) (hx : covers x pc = true) (h0 : x.catchType ≠ 0)
    (hlink : (Cond.classLink own x.catchType name).before args s = true) (hcast : (Cond.castable E name).before args s = true) (hcell : H[q]? = some ce) (hv : ce.vm = .none) (hcl : s.vm.findClass E = some ce.cls)
    (kk : W p l e R s m args below meth c H locs cells slots Q (F0 m x.handlerPc ls [.ref q])) : vx_W p l e R s m args below meth c H locs cells slots Q (F0 m pc ls rest) q := by
  intro T hT X
  have hpl : e.platform.magicAccessors = ({} : Platform).magicAccessors := by rw [X.admits.platform]
  obtain ⟨c3, c4, hc3, hc4, hasg⟩ := Cond.castable_spec hcast
  cases Option.some.inj (hc3.symm.trans hcl)
  obtain ⟨c5, hc5, hcl5⟩ := Cond.classLink_spec hown hlink e.platform hpl
  cases Option.some.inj (hc4.symm.trans hc5)
  obtain ⟨vm', X', st⟩ := X.thenCaughtThrough q (g := F0 m pc ls rest) rfl (Steps.refl _) (by rw [hT]; exact hcell) (by rw [hv]; rfl) (by obtain ⟨k9, h9, -⟩ := Vm.findClass_spec hcl; exact ⟨k9, h9⟩) pre x suf hsplit
    (fun z hz => by
      rcases hpass z hz with h | ⟨hz0, nm, hl1, hn1⟩
      · exact Or.inl h
      · obtain ⟨c6, hc6, hcl6⟩ := Cond.classLink_spec hown hl1 e.platform hpl
        obtain ⟨a8, b8, h1, h2, h3⟩ := hn1
        cases Option.some.inj (h1.symm.trans hcl)
        cases Option.some.inj (h2.symm.trans hc6)
        exact Or.inr ⟨hz0, _, hcl6, h3⟩) hx (Or.inr ⟨h0, c4, hcl5, hasg⟩)
  obtain ⟨t, a1, b1⟩ := kk (T.setVm vm') hT X'
  exact ⟨t, st.trans a1, b1⟩
end Rows
section Ends
variable {p : Program} {l : Launch} {e : Env} {R : Room} {s : State} {m : MethodId} {args : Array Value} {below : List Frame} {meth : Method} {c : Code} {H : Heap} {locs : List Loc} {cells slots : Nat} {Q : State → Prop}
variable {mc ms : Nat} {free : Addr → Prop} {A0 A1 : Nat → Prop} {H0 : Heap} {a : Array Value} {ls : Array Slot} {st0 rest : List Value}
variable {Qc : Array Value → State → Outcome → State → Prop} {XC : String → State → State → Prop}
/-- what a body that may throw owes at its end -/
def vx_MQ (below : List Frame) (Qc : Array Value → State → Outcome → State → Prop) (XC : String → State → State → Prop) (a : Array Value) (s : State) (mc ms : Nat) (free : Addr → Prop) : State → Prop := fun t =>
  ∃ o, t.status = .running ∧ Ended t below o ∧ vx_Q Qc XC mc ms free a s o t
theorem vx_ret {g : JFrame} {mc ms : Nat} (k : W p l e R s m args below meth c H locs cells slots (MQ below Qc args s mc ms free) g) : W p l e R s m args below meth c H locs cells slots (vx_MQ below Qc XC args s mc ms free) g := by
  intro T hT X
  obtain ⟨t, a1, o, b1, b2, b3, b4⟩ := k T hT X
  exact ⟨t, a1, o, b1, b2, Or.inl ⟨b3, b4⟩⟩
/-- not caught here: it goes on to the caller -/
theorem vx_widen {g : JFrame} {q : Addr} {k n : Nat} (h1 : cells ≤ k) (h2 : slots ≤ n) (kk : vx_W p l e R s m args below meth c H locs k n Q g q) : vx_W p l e R s m args below meth c H locs cells slots Q g q := fun T hT X => kk T hT (stand_widen X h1 h2)
theorem vx_out {pc : Nat} {E : String} {ce : Cell} {q : Addr} {mc ms : Nat} (hout : ∀ x ∈ c.exceptionTable.toList, covers x pc = false) (hlocks : meth.locks = false) (hcell : H[q]? = some ce) (hv : ce.vm = .none) (hcl : s.vm.findClass E = some ce.cls)
    (hx : ∀ t : State, t.heap = H → s.vm.Alike t.vm → XC E s t) (hf : ∀ z ∈ locs, free z.base) (hc : cells ≤ mc) (hs : slots ≤ ms) :
    vx_W p l e R s m args below meth c H locs cells slots (vx_MQ below Qc XC args s mc ms free) (F0 m pc ls rest) q := by
  intro T hT X
  obtain ⟨st1, hrun, hend, hW, hsm⟩ := X.leaveThrown q (g := F0 m pc ls rest) rfl rfl rfl hout hlocks
  have hcell9 : (T.setFrames (.throwing q :: below)).heap[q]? = some ce := by
    show T.heap[q]? = some ce
    rw [hT]; exact hcell
  exact ⟨_, st1, .threw q, hrun, hend, Or.inr ⟨q, rfl, E, ce, locs, hx _ hT hW.alike, hcell9, hv, hcl, hW, hsm.mono hc hs, hf⟩⟩
theorem vx_frame {U : State} {k n : Nat} (h : s.sameButNew ({ U with vm := s.vm } : State) locs k n) : s.heap.size ≤ U.heap.size ∧ ∀ q : Nat, q < s.heap.size → (∀ z ∈ locs, z.base ≠ q) → U.heap[q]? = s.heap[q]? := by
  obtain ⟨-, h2, -, -, -, h6⟩ := h
  refine ⟨h2, fun q hq hz => ?_⟩
  obtain ⟨c9, e1, e2, e3, e4⟩ := h6 q _ (Array.getElem?_eq_getElem hq)
  have hs : c9.slots = (s.heap[q]).slots := Array.ext_getElem? fun i => e4 i fun hm => hz _ hm rfl
  have h9 : c9 = s.heap[q] := by
    rw [hs] at e2
    exact e2
  have e5 : U.heap[q]? = some c9 := e1
  rw [e5, h9, Array.getElem?_eq_getElem hq]
/-- the words of a throw but the four that speak of the heap -/
def vx_no (w : Cond) : Bool := decide (w ≠ .isRef (.static Bundle.tN "UNASSIGNED_STACK" Bundle.steD)) && decide (w ≠ .isRef (.static Bundle.tN "SUPPRESSED_SENTINEL" Bundle.listD)) && decide (w ≠ .laysStatic Bundle.tN "UNASSIGNED_STACK" Bundle.steD) && decide (w ≠ .laysStatic Bundle.tN "SUPPRESSED_SENTINEL" Bundle.listD)
def vx_at0 (own : String) (ic : Nat) (X : String) (names : List String) : List Cond := (Bundle.ownAtoms0 own ic X names).filter vx_no
def vx_atS (own : String) (ic : Nat) (X : String) (names : List String) : List Cond := (Bundle.ownAtoms own ic X names).filter vx_no
/-- a word that the tables alone decide, or a good one -/
def vx_ot (w : Cond) : Bool := w.onTables || goodWord w
theorem vx_ot_at {args a' : Array Value} {s U : State} {w : Cond} (hW : s.WarmedH U.vm) (hvm : s.vm = U.vm) (hg : vx_ot w = true) (h : w.before args s = true) : w.before a' U = true := by
  simp only [vx_ot, Bool.or_eq_true] at hg
  rcases hg with hg | hg
  · exact va_tabs hg hvm h
  · exact word_at hW (good_of_word hg) h
/-- a list's words: the good ones out of the method's own list, the others by premises of their own -/
theorem vx_hat {args : Array Value} {s : State} {L B : List Cond} (h1 : ∀ w ∈ L.filter goodWord, w.before args s = true) (h2 : ∀ w ∈ L.filter (fun w => !goodWord w), w ∈ B) (h3 : ∀ w ∈ B, w.before args s = true) : ∀ w ∈ L, w.before args s = true := by
  intro w hw
  by_cases g : goodWord w = true
  · exact h1 w (List.mem_filter.mpr ⟨hw, g⟩)
  · refine h3 w (h2 w (List.mem_filter.mpr ⟨hw, ?_⟩))
    show (!goodWord w) = true
    cases hgw : goodWord w
    · rfl
    · exact absurd hgw g
theorem vx_c {args : Array Value} {s : State} {w : Cond} {B : List Cond} (h : w.before args s = true) (t : ∀ w ∈ B, w.before args s = true) : ∀ w' ∈ w :: B, w'.before args s = true := fun w' h' => (List.mem_cons.mp h').elim (fun e => by rw [e]; exact h) (t w')
theorem vx_n {args : Array Value} {s : State} : ∀ w ∈ ([] : List Cond), w.before args s = true := fun _ h => nomatch h
theorem vx_own {args : Array Value} {s : State} {L : List Cond} (h1 : ∀ w ∈ L.filter vx_no, w.before args s = true)
    (hU : (Cond.isRef (.static Bundle.tN "UNASSIGNED_STACK" Bundle.steD)).before args s = true) (hN : (Cond.isRef (.static Bundle.tN "SUPPRESSED_SENTINEL" Bundle.listD)).before args s = true)
    (lU : (Cond.laysStatic Bundle.tN "UNASSIGNED_STACK" Bundle.steD).before args s = true) (lN : (Cond.laysStatic Bundle.tN "SUPPRESSED_SENTINEL" Bundle.listD).before args s = true) : ∀ w ∈ L, w.before args s = true := by
  intro w hw
  by_cases e1 : w = .isRef (.static Bundle.tN "UNASSIGNED_STACK" Bundle.steD)
  · rw [e1]; exact hU
  · by_cases e2 : w = .isRef (.static Bundle.tN "SUPPRESSED_SENTINEL" Bundle.listD)
    · rw [e2]; exact hN
    · by_cases e3 : w = .laysStatic Bundle.tN "UNASSIGNED_STACK" Bundle.steD
      · rw [e3]; exact lU
      · by_cases e4 : w = .laysStatic Bundle.tN "SUPPRESSED_SENTINEL" Bundle.listD
        · rw [e4]; exact lN
        · exact h1 w (List.mem_filter.mpr ⟨hw, by unfold vx_no; rw [decide_eq_true e1, decide_eq_true e2, decide_eq_true e3, decide_eq_true e4]; rfl⟩)
/-- where a static field lies, its class's statics cell in H -/
def vx_L (C n d : String) (A : Nat → Prop) (U : State) (H : Heap) : Prop := ∃ (c : ClassId) (k : Class) (i : Nat) (f : Field) (a : Nat) (cell : Cell), U.vm.findClass C = some c ∧ U.fieldFound? C n d = some (c, k, i, f) ∧ f.isStatic = true ∧ k.statics = some a ∧ H[a]? = some cell ∧ cell.vm.isStatics = true ∧ cell.cls = c ∧ f.slot < cell.slots.size ∧ k.staticTypes[f.slot]? = some f.type ∧ ¬ A a
theorem vx_L.moved {C n d : String} {A : Nat → Prop} {u U : State} {H : Heap} (hvm : u.vm.Alike U.vm) (h : vx_L C n d A u H) : vx_L C n d A U H := by
  obtain ⟨c, k, i, f, a, cell, h1, h2, h3, h4, h5, h6, h7, h8, h9, h10⟩ := h
  obtain ⟨k', hi', he⟩ := State.fieldFound?_setVm hvm h2
  exact ⟨c, k', i, f, a, cell, by rw [hvm.findClass]; exact h1, hi', h3, by rw [he]; exact h4, h5, h6, h7, h8, by rw [he]; exact h9, h10⟩
theorem vx_L.kept {C n d : String} {A : Nat → Prop} {U : State} {H H1 : Heap} (h : vx_L C n d A U H) (hq : ∀ a : Nat, a < H.size → ¬ A a → H1[a]? = H[a]?) : vx_L C n d A U H1 := by
  obtain ⟨c, k, i, f, a, cell, h1, h2, h3, h4, h5, h6, h7, h8, h9, h10⟩ := h
  exact ⟨c, k, i, f, a, cell, h1, h2, h3, h4, by rw [hq a (Array.getElem?_eq_some_iff.mp h5).1 h10]; exact h5, h6, h7, h8, h9, h10⟩
theorem vx_L.narrow {C n d : String} {A B : Nat → Prop} {U : State} {H : Heap} (h : vx_L C n d A U H) (hAB : ∀ q, B q → A q) : vx_L C n d B U H := by
  obtain ⟨c, k, i, f, a, cell, h1, h2, h3, h4, h5, h6, h7, h8, h9, h10⟩ := h
  exact ⟨c, k, i, f, a, cell, h1, h2, h3, h4, h5, h6, h7, h8, h9, fun z => h10 (hAB _ z)⟩
theorem vx_L.word {C n d : String} {A : Nat → Prop} {s : State} {args : Array Value} (h : vx_L C n d A s s.heap) : (Cond.laysStatic C n d).before args s = true := by
  obtain ⟨c, k, i, f, a, cell, h1, h2, h3, h4, h5, h6, h7, h8, h9, -⟩ := h
  show (Cond.laysStatic C n d).holds args s none s [] = true
  exact Cond.laysStatic_of h1 h2 h3 h4 h5 h6 h7 h8 h9
/-- .. and what it holds: null or some reference -/
def vx_Zq (C n d : String) (A : Nat → Prop) (U : State) (H : Heap) : Prop := va_Zq C n d A U H ∧ vx_L C n d A U H
theorem vx_Zq.moved {C n d : String} {A : Nat → Prop} {u U : State} {H : Heap} (hvm : u.vm.Alike U.vm) (h : vx_Zq C n d A u H) : vx_Zq C n d A U H := ⟨va_Zq.moved hvm h.1, vx_L.moved hvm h.2⟩
theorem vx_Zq.kept {C n d : String} {A : Nat → Prop} {U : State} {H H1 : Heap} (h : vx_Zq C n d A U H) (hq : ∀ a : Nat, a < H.size → ¬ A a → H1[a]? = H[a]?) : vx_Zq C n d A U H1 := ⟨va_Zq.kept h.1 hq, vx_L.kept h.2 hq⟩
theorem vx_Zq.narrow {C n d : String} {A B : Nat → Prop} {U : State} {H : Heap} (h : vx_Zq C n d A U H) (hAB : ∀ q, B q → A q) : vx_Zq C n d B U H := ⟨va_Zq.narrow h.1 hAB, vx_L.narrow h.2 hAB⟩
theorem vx_Zqof {args : Array Value} {s : State} {C n d : String} {A : Nat → Prop} (hl : (Cond.laysStatic C n d).before args s = true) (hini : (Cond.initialized C).before args s = true) (h : (Cond.isRef (.static C n d)).before args s = true) (hA : ∀ a : Nat, a < s.heap.size → ¬ A a) : vx_Zq C n d A s s.heap := by
  refine ⟨va_Zqof hl hini h hA, ?_⟩
  obtain ⟨c, k, i, f, a, cell, h1, h2, h3, h4, h5, h6, h7, h8, h9⟩ := Cond.laysStatic_spec hl
  exact ⟨c, k, i, f, a, cell, h1, h2, h3, h4, h5, h6, h7, h8, h9, hA a (Array.getElem?_eq_some_iff.mp h5).1⟩
theorem vx_isRef {C n d : String} {v : Value} {A : Nat → Prop} {s : State} {args : Array Value} (h : va_Z C n d v A s s.heap) (hv : v.isRef = true) : (Cond.isRef (.static C n d)).before args s = true := by
  obtain ⟨cf, kf, fi, f, a, cell, h1, h2, h3, h4, h5, h6, h7, -⟩ := h
  have he : (Term.static C n d).eval args s none [] s = some v := by
    simp [Term.eval, State.fieldNamed?, h1, h2, h4, h5, h6, h7]
  simp only [Cond.before, Cond.holds, Cond.value, he]
  cases v <;> simp_all [Value.isRef]
theorem vx_isRefq {C n d : String} {A : Nat → Prop} {s : State} {args : Array Value} (h : va_Zq C n d A s s.heap) : (Cond.isRef (.static C n d)).before args s = true := by
  rcases h with h | ⟨t, h⟩
  · exact vx_isRef h rfl
  · exact vx_isRef h rfl
/-- the same frame, seen from here: as if the method were called anew in this heap -/
theorem vx_rebase {T : State} (X : Stand p l e R s m args below meth c T locs cells slots) {R' : Room} (hf : R'.frames ≤ R.frames) (hl : R'.locals ≤ R.locals) (hc : cells + R'.cells ≤ R.cells) (hs : slots + R'.slots ≤ R.slots) :
    Stand p l e R' ((T.setVm s.vm).setFrames (.invoking m args :: below)) m args below meth c T [] 0 0 := by
  have htop : (T.setVm s.vm).topJava?.isSome := X.here.top
  have hF : ((T.setVm s.vm).setFrames (.invoking m args :: below)).frames = .invoking m args :: below := State.frames_setFrames _ (State.cur_lt_of_top htop)
  obtain ⟨g₀, hg0⟩ := Option.isSome_iff_exists.mp htop
  obtain ⟨r, hr⟩ := State.topJava?_eq_some.mp hg0
  have hl9 : e.platform.stackLimits (T.setVm s.vm).me = e.platform.stackLimits s.me := X.limits
  have hb9 : (T.setVm s.vm).me.stackBytes = s.me.stackBytes := X.bytes
  refine ⟨X.admits, X.cas, X.clock, hF, ?_, X.hears, X.method, X.code, X.here, X.tail, X.warmed, ?_, ?_, ?_⟩
  · have h := X.room
    have hU : ((T.setVm s.vm).setFrames (.invoking m args :: below)).localsInUse = s.localsInUse := by
      rw [State.localsInUse_invoking hF (meth := meth) (c := c) X.method X.code, State.localsInUse_invoking X.frames X.method X.code]
    simp only [State.hasRoom, Bool.and_eq_true, decide_eq_true_eq] at h ⊢
    obtain ⟨⟨⟨⟨h1, h2, h3, h4, h5, h6⟩, h7⟩, h8⟩, h9⟩ := h
    rw [X.frames, List.length_cons] at h2 h3
    have q1 := X.heapSize
    have q2 := X.used
    simp only [hF, hU, List.length_cons, State.stackLimits_setFrames, State.stackBytes_setFrames, hl9, hb9]
    refine ⟨⟨⟨⟨by omega, by omega, by omega, by omega, by omega, h6⟩, ?_⟩, ?_⟩, X.book⟩
    · show T.heap.size + R'.cells ≤ e.platform.maxCells
      omega
    · show T.slotsUsed + R'.slots ≤ e.platform.maxSlots
      omega
  · rw [State.stackLimits_setFrames]; rfl
  · rw [State.stackBytes_setFrames]; rfl
  · refine ⟨?_, Nat.le_refl _, Nat.le_refl _, ?_, ?_, fun a c9 h9 => ⟨c9, h9, rfl, rfl, fun _ _ => rfl⟩⟩
    · obtain ⟨t, ht, -⟩ := State.frames_cons hr
      show T.setVm s.vm = { ((T.setVm s.vm).setFrames (.invoking m args :: below)).setFrames (T.setVm s.vm).frames with heap := T.heap, slotsUsed := T.slotsUsed }
      rw [State.setFrames_setFrames, State.setFrames_self ht]
      rfl
    · show T.slotsUsed = T.slotsUsed + ((T.heap.toList.drop T.heap.size).map (·.slots.size)).sum
      rw [List.drop_eq_nil_of_le (Nat.le_of_eq Array.length_toList)]
      rfl
    · show ((T.heap.toList.drop T.heap.size).map (·.slots.size)).sum ≤ 0
      rw [List.drop_eq_nil_of_le (Nat.le_of_eq Array.length_toList)]
      exact Nat.le_refl _
/-- 'throw new E()': new; dup; invokespecial; athrow -/
theorem vx_throw0 {cc : ByteArray} {pc : Nat} (hexec : p.tables.exec = Jvm.exec) (hb : c.code = cc) (hl : l.stackTraces = false) {own cls : String} {names : List String} {ik ic mc ms : Nat} {A : Nat → Prop}
    (hown : s.vm.findClass own = some m.cls) (hcls : Bundle.fit cls = true) (hnames : ∀ n ∈ names, Bundle.fit n = true)
    (hk : (Cond.classLink own ik cls).before args s = true) (hini : (Cond.initialized cls).before args s = true) (hat : ∀ w ∈ vx_at0 own ic cls names, w.before args s = true)
    (hgood : ∀ w ∈ Cond.classLink own ik cls :: Cond.initialized cls :: vx_at0 own ic cls names, vx_ot w = true)
    (hU : vx_Zq Bundle.tN "UNASSIGNED_STACK" Bundle.steD A s s.heap) (hN : vx_Zq Bundle.tN "SUPPRESSED_SENTINEL" Bundle.listD A s s.heap) (hS : va_S A s.heap H locs) (hsize : ls.size = c.maxLocals)
    (d0 : decode cc pc = .ok (.new ik, 3)) (d3 : decode cc (pc + 3) = .ok (.dup, 1)) (d4 : decode cc (pc + 4) = .ok (.invokespecial ic, 3)) (d7 : decode cc (pc + 7) = .ok (.athrow, 1))
    (hout : ∀ x ∈ c.exceptionTable.toList, covers x (pc + 7) = false)
    (hRframes : names.length + 3 < R.frames) (hRlocals : (rest.map fun v => v.category).sum + (13 * (names.length + 1) + 42) ≤ R.locals) (hRcells : cells + 1 ≤ R.cells) (hRslots : slots + 6 ≤ R.slots) (hlocks : meth.locks = false)
    (hx : ∀ t : State, s.vm.Alike t.vm → H.size ≤ t.heap.size → (∀ q : Nat, q < H.size → t.heap[q]? = H[q]?) → XC cls s t)
    (hf : ∀ z ∈ locs, free z.base) (hc : cells + 1 ≤ mc) (hs : slots + 6 ≤ ms) :
    W p l e R s m args below meth c H locs cells slots (vx_MQ below Qc XC args s mc ms free) (F0 m pc ls rest) := by
  intro T hT X
  have htr : e.platform.stackTraces = false := (show e.platform.stackTraces = l.stackTraces by rw [X.admits.platform]).trans hl
  have Y := vx_rebase X (R' := { frames := R.frames, locals := R.locals, cells := 1, slots := 6 }) (Nat.le_refl _) (Nat.le_refl _) hRcells hRslots
  obtain ⟨s', hA⟩ : ∃ z, z = (T.setVm s.vm).setFrames (.invoking m args :: below) := ⟨_, rfl⟩
  rw [← hA] at Y
  have hvm : s'.vm = s.vm := by rw [hA]; rfl
  have hhp : s'.heap = H := by rw [hA]; exact hT
  have hW0 : s.WarmedH s'.vm := by rw [hvm]; exact State.WarmedH.refl s
  have hat' : ∀ w ∈ vx_at0 own ic cls names, w.before args s' = true := fun w hw => vx_ot_at hW0 hvm.symm (hgood w (List.mem_cons_of_mem _ (List.mem_cons_of_mem _ hw))) (hat w hw)
  have hk' : (Cond.classLink own ik cls).before args s' = true := vx_ot_at hW0 hvm.symm (hgood _ List.mem_cons_self) hk
  have hini' : (Cond.initialized cls).before args s' = true := vx_ot_at hW0 hvm.symm (hgood _ (List.mem_cons_of_mem _ List.mem_cons_self)) hini
  have hU' : vx_Zq Bundle.tN "UNASSIGNED_STACK" Bundle.steD A s' s'.heap := by rw [hhp]; exact vx_Zq.moved hW0.alike (hU.kept hS.2.1)
  have hN' : vx_Zq Bundle.tN "SUPPRESSED_SENTINEL" Bundle.listD A s' s'.heap := by rw [hhp]; exact vx_Zq.moved hW0.alike (hN.kept hS.2.1)
  have h : ∀ w ∈ Bundle.ownAtoms0 own ic cls names, w.before args s' = true := vx_own hat' (vx_isRefq hU'.1) (vx_isRefq hN'.1) hU'.2.word hN'.2.word
  have hown' : s'.vm.findClass own = some m.cls := by rw [hvm]; exact hown
  have hins : (Cond.instantiable cls 6).before args s' = true := h _ (by simp [Bundle.ownAtoms0])
  obtain ⟨vm₁, cX, kX, hfX, hkX, -, -, X₁, st1⟩ := Y.newCold hexec (own := own) (C := cls) (index := ik) (n := 6) hown' hk' hins hini'
    (g := F0 m pc ls rest) rfl (by rw [hb]; exact d0) (Nat.le_refl _) (Nat.le_refl _)
  generalize hT1 : (T.setVm vm₁).pushCell { cls := cX, slots := kX.instanceTypes.map defaultValue, vm := .none } = T1 at X₁ st1
  have hcat : (Value.ref T.heap.size).category = 1 := rfl
  have hcellA : T1.heap[T.heap.size]? = some (freshCell cX kX) := by rw [← hT1]; exact State.heap_pushCell_size _ _
  have d3' : decode c.code (pc + 3) = .ok (.dup, 1) := by rw [hb]; exact d3
  obtain ⟨U, hsteps, hrun, hend, hW, hsame, ce, hce, hO⟩ := X₁.ctorThrow0 hexec htr (own := own) (cls := cls) (names := names) (ic := ic) hown' hcls hnames h (fun x hx => nomatch hx) hfX hkX hcellA (by rw [hhp, hT]; exact Nat.le_refl _)
    (g := { method := m, pc := pc + 4, locals := ls, stack := .ref T.heap.size :: .ref T.heap.size :: rest, locked := none }) rfl hsize rfl rfl (rest := rest) rfl
    (by rw [hb]; exact d4) (by rw [hb]; exact d7) hout hRframes (by simp only [List.map_cons, List.sum_cons, hcat]; omega) hlocks
  obtain ⟨f1, f2⟩ := vx_frame hsame
  rw [hhp] at f1 f2
  have hWs : s.WarmedH U.vm := State.WarmedH.trans hW0 hW
  have hcl : s.vm.findClass cls = some ce.cls := by
    have h9 := hO.cls
    rw [hvm] at h9
    exact h9
  have hall : s.sameButNew ({ U with vm := s.vm } : State) locs mc ms := by
    subst hA
    obtain ⟨e1, e2⟩ := hsame
    rw [State.setFrames_setFrames] at e1
    have h2 : (T.setVm s.vm).sameButNew ({ U with vm := s.vm } : State) [] (0 + 1) (0 + 6) := ⟨e1, e2⟩
    have h3 := X.same.trans h2
    rw [List.append_nil] at h3
    exact h3.mono hc hs
  refine ⟨U, ?_, .threw T.heap.size, hrun, hend, Or.inr ⟨T.heap.size, rfl, cls, ce, locs, hx U hWs.alike f1 (fun q hq => f2 q hq (fun z hz => nomatch hz)), hce, hO.vm, hcl, hWs, hall, hf⟩⟩
  refine st1 _ ?_
  show Steps p.tables e below (T1.setTop { method := m, pc := pc + 3, locals := ls, stack := .ref T.heap.size :: rest, locked := none }) _
  jvm_step X₁.here [X₁.here.top, hexec, d3', Value.category]
  exact hsteps
/-- 'throw new E("text")': new; dup; ldc; invokespecial; athrow -/
theorem vx_throwS {cc : ByteArray} {pc : Nat} (hexec : p.tables.exec = Jvm.exec) (hb : c.code = cc) (hl : l.stackTraces = false) {own cls text : String} {names : List String} {ik is ic mc ms sa : Nat} {A : Nat → Prop}
    (hown : s.vm.findClass own = some m.cls) (hcls : Bundle.fit cls = true) (hnames : ∀ n ∈ names, Bundle.fit n = true)
    (hk : (Cond.classLink own ik cls).before args s = true) (hini : (Cond.initialized cls).before args s = true) (hstr : vk_R own is text sa s) (hat : ∀ w ∈ vx_atS own ic cls names, w.before args s = true)
    (hgood : ∀ w ∈ Cond.classLink own ik cls :: Cond.initialized cls :: vx_atS own ic cls names, vx_ot w = true)
    (hU : vx_Zq Bundle.tN "UNASSIGNED_STACK" Bundle.steD A s s.heap) (hN : vx_Zq Bundle.tN "SUPPRESSED_SENTINEL" Bundle.listD A s s.heap) (hS : va_S A s.heap H locs) (hsize : ls.size = c.maxLocals)
    (d0 : decode cc pc = .ok (.new ik, 3)) (d3 : decode cc (pc + 3) = .ok (.dup, 1)) (d4 : decode cc (pc + 4) = .ok (.ldc is, 2)) (d6 : decode cc (pc + 6) = .ok (.invokespecial ic, 3)) (d9 : decode cc (pc + 9) = .ok (.athrow, 1))
    (hout : ∀ x ∈ c.exceptionTable.toList, covers x (pc + 9) = false)
    (hRframes : names.length + 3 < R.frames) (hRlocals : (rest.map fun v => v.category).sum + (13 * (names.length + 1) + 43) ≤ R.locals) (hRcells : cells + 1 ≤ R.cells) (hRslots : slots + 6 ≤ R.slots) (hlocks : meth.locks = false)
    (hx : ∀ t : State, s.vm.Alike t.vm → H.size ≤ t.heap.size → (∀ q : Nat, q < H.size → t.heap[q]? = H[q]?) → XC cls s t)
    (hf : ∀ z ∈ locs, free z.base) (hc : cells + 1 ≤ mc) (hs : slots + 6 ≤ ms) :
    W p l e R s m args below meth c H locs cells slots (vx_MQ below Qc XC args s mc ms free) (F0 m pc ls rest) := by
  intro T hT X
  have htr : e.platform.stackTraces = false := (show e.platform.stackTraces = l.stackTraces by rw [X.admits.platform]).trans hl
  have Y := vx_rebase X (R' := { frames := R.frames, locals := R.locals, cells := 1, slots := 6 }) (Nat.le_refl _) (Nat.le_refl _) hRcells hRslots
  obtain ⟨s', hA⟩ : ∃ z, z = (T.setVm s.vm).setFrames (.invoking m args :: below) := ⟨_, rfl⟩
  rw [← hA] at Y
  have hvm : s'.vm = s.vm := by rw [hA]; rfl
  have hhp : s'.heap = H := by rw [hA]; exact hT
  have hW0 : s.WarmedH s'.vm := by rw [hvm]; exact State.WarmedH.refl s
  have hat' : ∀ w ∈ vx_atS own ic cls names, w.before args s' = true := fun w hw => vx_ot_at hW0 hvm.symm (hgood w (List.mem_cons_of_mem _ (List.mem_cons_of_mem _ hw))) (hat w hw)
  have hk' : (Cond.classLink own ik cls).before args s' = true := vx_ot_at hW0 hvm.symm (hgood _ List.mem_cons_self) hk
  have hini' : (Cond.initialized cls).before args s' = true := vx_ot_at hW0 hvm.symm (hgood _ (List.mem_cons_of_mem _ List.mem_cons_self)) hini
  have hU' : vx_Zq Bundle.tN "UNASSIGNED_STACK" Bundle.steD A s' s'.heap := by rw [hhp]; exact vx_Zq.moved hW0.alike (hU.kept hS.2.1)
  have hN' : vx_Zq Bundle.tN "SUPPRESSED_SENTINEL" Bundle.listD A s' s'.heap := by rw [hhp]; exact vx_Zq.moved hW0.alike (hN.kept hS.2.1)
  have h : ∀ w ∈ Bundle.ownAtoms own ic cls names, w.before args s' = true := vx_own hat' (vx_isRefq hU'.1) (vx_isRefq hN'.1) hU'.2.word hN'.2.word
  have hown' : s'.vm.findClass own = some m.cls := by rw [hvm]; exact hown
  have hins : (Cond.instantiable cls 6).before args s' = true := h _ (by simp [Bundle.ownAtoms])
  obtain ⟨vm₁, cX, kX, hfX, hkX, -, -, X₁, st1⟩ := Y.newCold hexec (own := own) (C := cls) (index := ik) (n := 6) hown' hk' hins hini'
    (g := F0 m pc ls rest) rfl (by rw [hb]; exact d0) (Nat.le_refl _) (Nat.le_refl _)
  generalize hT1 : (T.setVm vm₁).pushCell { cls := cX, slots := kX.instanceTypes.map defaultValue, vm := .none } = T1 at X₁ st1
  have hcat : (Value.ref T.heap.size).category = 1 := rfl
  have hcellA : T1.heap[T.heap.size]? = some (freshCell cX kX) := by rw [← hT1]; exact State.heap_pushCell_size _ _
  have d3' : decode c.code (pc + 3) = .ok (.dup, 1) := by rw [hb]; exact d3
  have d4' : decode c.code (pc + 4) = .ok (.ldc is, 2) := by rw [hb]; exact d4
  have hstr' : vk_R own is text sa s' := vk_R.warm hW0 hstr
  obtain ⟨U, hsteps, hrun, hend, hW, hsame, ce, hce, hO⟩ := X₁.ctorThrowS hexec htr (own := own) (cls := cls) (names := names) (ic := ic) hown' hcls hnames h (fun x hx => nomatch hx) hfX hkX hcellA (by rw [hhp, hT]; exact Nat.le_refl _) (msg := .ref sa) rfl
    (g := { method := m, pc := pc + 6, locals := ls, stack := .ref sa :: .ref T.heap.size :: .ref T.heap.size :: rest, locked := none }) rfl hsize rfl rfl (rest := rest) rfl
    (by rw [hb]; exact d6) (by rw [hb]; exact d9) hout hRframes (by simp only [List.map_cons, List.sum_cons, hcat]; omega) hlocks
  obtain ⟨f1, f2⟩ := vx_frame hsame
  rw [hhp] at f1 f2
  have hWs : s.WarmedH U.vm := State.WarmedH.trans hW0 hW
  have hcl : s.vm.findClass cls = some ce.cls := by
    have h9 := hO.cls
    rw [hvm] at h9
    exact h9
  have hall : s.sameButNew ({ U with vm := s.vm } : State) locs mc ms := by
    subst hA
    obtain ⟨e1, e2⟩ := hsame
    rw [State.setFrames_setFrames] at e1
    have h2 : (T.setVm s.vm).sameButNew ({ U with vm := s.vm } : State) [] (0 + 1) (0 + 6) := ⟨e1, e2⟩
    have h3 := X.same.trans h2
    rw [List.append_nil] at h3
    exact h3.mono hc hs
  refine ⟨U, ?_, .threw T.heap.size, hrun, hend, Or.inr ⟨T.heap.size, rfl, cls, ce, locs, hx U hWs.alike f1 (fun q hq => f2 q hq (fun z hz => nomatch hz)), hce, hO.vm, hcl, hWs, hall, hf⟩⟩
  refine st1 _ ?_
  show Steps p.tables e below (T1.setTop { method := m, pc := pc + 3, locals := ls, stack := .ref T.heap.size :: rest, locked := none }) _
  jvm_step X₁.here [X₁.here.top, hexec, d3', Value.category]
  exact X₁.ldcString hexec (own := own) (text := text) (index := is) (a := sa) hown' hstr'.1 hstr'.2
    (g := { method := m, pc := pc + 4, locals := ls, stack := .ref T.heap.size :: .ref T.heap.size :: rest, locked := none }) rfl d4' _ hsteps
/-- 'throw new E("text")', the text by a wide index -/
theorem vx_throwSW {cc : ByteArray} {pc : Nat} (hexec : p.tables.exec = Jvm.exec) (hb : c.code = cc) (hl : l.stackTraces = false) {own cls text : String} {names : List String} {ik is ic mc ms sa : Nat} {A : Nat → Prop}
    (hown : s.vm.findClass own = some m.cls) (hcls : Bundle.fit cls = true) (hnames : ∀ n ∈ names, Bundle.fit n = true)
    (hk : (Cond.classLink own ik cls).before args s = true) (hini : (Cond.initialized cls).before args s = true) (hstr : vk_R own is text sa s) (hat : ∀ w ∈ vx_atS own ic cls names, w.before args s = true)
    (hgood : ∀ w ∈ Cond.classLink own ik cls :: Cond.initialized cls :: vx_atS own ic cls names, vx_ot w = true)
    (hU : vx_Zq Bundle.tN "UNASSIGNED_STACK" Bundle.steD A s s.heap) (hN : vx_Zq Bundle.tN "SUPPRESSED_SENTINEL" Bundle.listD A s s.heap) (hS : va_S A s.heap H locs) (hsize : ls.size = c.maxLocals)
    (d0 : decode cc pc = .ok (.new ik, 3)) (d3 : decode cc (pc + 3) = .ok (.dup, 1)) (d4 : decode cc (pc + 4) = .ok (.ldc_w is, 3)) (d7 : decode cc (pc + 7) = .ok (.invokespecial ic, 3)) (d10 : decode cc (pc + 10) = .ok (.athrow, 1))
    (hout : ∀ x ∈ c.exceptionTable.toList, covers x (pc + 10) = false)
    (hRframes : names.length + 3 < R.frames) (hRlocals : (rest.map fun v => v.category).sum + (13 * (names.length + 1) + 43) ≤ R.locals) (hRcells : cells + 1 ≤ R.cells) (hRslots : slots + 6 ≤ R.slots) (hlocks : meth.locks = false)
    (hx : ∀ t : State, s.vm.Alike t.vm → H.size ≤ t.heap.size → (∀ q : Nat, q < H.size → t.heap[q]? = H[q]?) → XC cls s t)
    (hf : ∀ z ∈ locs, free z.base) (hc : cells + 1 ≤ mc) (hs : slots + 6 ≤ ms) :
    W p l e R s m args below meth c H locs cells slots (vx_MQ below Qc XC args s mc ms free) (F0 m pc ls rest) := by
  intro T hT X
  have htr : e.platform.stackTraces = false := (show e.platform.stackTraces = l.stackTraces by rw [X.admits.platform]).trans hl
  have Y := vx_rebase X (R' := { frames := R.frames, locals := R.locals, cells := 1, slots := 6 }) (Nat.le_refl _) (Nat.le_refl _) hRcells hRslots
  obtain ⟨s', hA⟩ : ∃ z, z = (T.setVm s.vm).setFrames (.invoking m args :: below) := ⟨_, rfl⟩
  rw [← hA] at Y
  have hvm : s'.vm = s.vm := by rw [hA]; rfl
  have hhp : s'.heap = H := by rw [hA]; exact hT
  have hW0 : s.WarmedH s'.vm := by rw [hvm]; exact State.WarmedH.refl s
  have hat' : ∀ w ∈ vx_atS own ic cls names, w.before args s' = true := fun w hw => vx_ot_at hW0 hvm.symm (hgood w (List.mem_cons_of_mem _ (List.mem_cons_of_mem _ hw))) (hat w hw)
  have hk' : (Cond.classLink own ik cls).before args s' = true := vx_ot_at hW0 hvm.symm (hgood _ List.mem_cons_self) hk
  have hini' : (Cond.initialized cls).before args s' = true := vx_ot_at hW0 hvm.symm (hgood _ (List.mem_cons_of_mem _ List.mem_cons_self)) hini
  have hU' : vx_Zq Bundle.tN "UNASSIGNED_STACK" Bundle.steD A s' s'.heap := by rw [hhp]; exact vx_Zq.moved hW0.alike (hU.kept hS.2.1)
  have hN' : vx_Zq Bundle.tN "SUPPRESSED_SENTINEL" Bundle.listD A s' s'.heap := by rw [hhp]; exact vx_Zq.moved hW0.alike (hN.kept hS.2.1)
  have h : ∀ w ∈ Bundle.ownAtoms own ic cls names, w.before args s' = true := vx_own hat' (vx_isRefq hU'.1) (vx_isRefq hN'.1) hU'.2.word hN'.2.word
  have hown' : s'.vm.findClass own = some m.cls := by rw [hvm]; exact hown
  have hins : (Cond.instantiable cls 6).before args s' = true := h _ (by simp [Bundle.ownAtoms])
  obtain ⟨vm₁, cX, kX, hfX, hkX, -, -, X₁, st1⟩ := Y.newCold hexec (own := own) (C := cls) (index := ik) (n := 6) hown' hk' hins hini'
    (g := F0 m pc ls rest) rfl (by rw [hb]; exact d0) (Nat.le_refl _) (Nat.le_refl _)
  generalize hT1 : (T.setVm vm₁).pushCell { cls := cX, slots := kX.instanceTypes.map defaultValue, vm := .none } = T1 at X₁ st1
  have hcat : (Value.ref T.heap.size).category = 1 := rfl
  have hcellA : T1.heap[T.heap.size]? = some (freshCell cX kX) := by rw [← hT1]; exact State.heap_pushCell_size _ _
  have d3' : decode c.code (pc + 3) = .ok (.dup, 1) := by rw [hb]; exact d3
  have d4' : decode c.code (pc + 4) = .ok (.ldc_w is, 3) := by rw [hb]; exact d4
  have hstr' : vk_R own is text sa s' := vk_R.warm hW0 hstr
  obtain ⟨U, hsteps, hrun, hend, hW, hsame, ce, hce, hO⟩ := X₁.ctorThrowS hexec htr (own := own) (cls := cls) (names := names) (ic := ic) hown' hcls hnames h (fun x hx => nomatch hx) hfX hkX hcellA (by rw [hhp, hT]; exact Nat.le_refl _) (msg := .ref sa) rfl
    (g := { method := m, pc := pc + 7, locals := ls, stack := .ref sa :: .ref T.heap.size :: .ref T.heap.size :: rest, locked := none }) rfl hsize rfl rfl (rest := rest) rfl
    (by rw [hb]; exact d7) (by rw [hb]; exact d10) hout hRframes (by simp only [List.map_cons, List.sum_cons, hcat]; omega) hlocks
  obtain ⟨f1, f2⟩ := vx_frame hsame
  rw [hhp] at f1 f2
  have hWs : s.WarmedH U.vm := State.WarmedH.trans hW0 hW
  have hcl : s.vm.findClass cls = some ce.cls := by
    have h9 := hO.cls
    rw [hvm] at h9
    exact h9
  have hall : s.sameButNew ({ U with vm := s.vm } : State) locs mc ms := by
    subst hA
    obtain ⟨e1, e2⟩ := hsame
    rw [State.setFrames_setFrames] at e1
    have h2 : (T.setVm s.vm).sameButNew ({ U with vm := s.vm } : State) [] (0 + 1) (0 + 6) := ⟨e1, e2⟩
    have h3 := X.same.trans h2
    rw [List.append_nil] at h3
    exact h3.mono hc hs
  refine ⟨U, ?_, .threw T.heap.size, hrun, hend, Or.inr ⟨T.heap.size, rfl, cls, ce, locs, hx U hWs.alike f1 (fun q hq => f2 q hq (fun z hz => nomatch hz)), hce, hO.vm, hcl, hWs, hall, hf⟩⟩
  refine st1 _ ?_
  show Steps p.tables e below (T1.setTop { method := m, pc := pc + 3, locals := ls, stack := .ref T.heap.size :: rest, locked := none }) _
  jvm_step X₁.here [X₁.here.top, hexec, d3', Value.category]
  exact X₁.ldcStringW hexec (own := own) (text := text) (index := is) (a := sa) hown' hstr'.1 hstr'.2
    (g := { method := m, pc := pc + 4, locals := ls, stack := .ref T.heap.size :: .ref T.heap.size :: rest, locked := none }) rfl d4' _ hsteps
end Ends
section Bodies
variable {l : Launch}
theorem vx_ofW {y : MethodName} {ws ws' : List Cond} {rm : Room} {Pc : Array Value → State → Prop} {Qc : Array Value → State → Outcome → State → Prop} {XC : String → State → State → Prop} {mc ms : Nat} {free : Addr → Prop} {cc : ByteArray} {maxL : Nat} {ret : Option FieldType}
    (hy : plainName y.cls = true) (hw : ws = Cond.code y cc maxL ret :: ws')
    (body : ∀ p e s m args below meth c s₁, BodyLoose p l y (headSpec ws rm) cc maxL ret e s m args below meth c s₁ → c.maxLocals = maxL → (∀ x ∈ c.exceptionTable.toList, False) → Pc args s →
      W p l e (headSpec ws rm).room s m args below meth c s.heap [] 0 0 (vx_MQ below Qc XC args s mc ms free) (entryFrame m args maxL)) : vx_Met l y ws rm Pc Qc XC mc ms free := by
  refine MetFree.of_bodyS (code := cc) (maxLocals := maxL) (ret := ret) hy ?_ ?_
  · intro args s m h hn
    obtain ⟨meth, c, h1, h2, h3, h4, h5, h6, -, -⟩ := Cond.code_spec hn (atoms_spec (ws := ws) h _ (by rw [hw]; exact List.mem_cons_self))
    exact ⟨meth, c, h1, h2, h3, h4, h5, h6⟩
  · intro p e s m args below meth c s₁ B hml hP _
    have hh0 : s₁.heap = s.heap := by rw [B.state]; rfl
    have ht : ∀ x ∈ c.exceptionTable.toList, False := by
      obtain ⟨meth9, c9, h1, h2, -, -, -, -, h7, -⟩ := Cond.code_spec B.named (atoms_spec (ws := ws) B.pre _ (by rw [hw]; exact List.mem_cons_self))
      cases Option.some.inj (h1.symm.trans B.method)
      cases Option.some.inj (h2.symm.trans (Stand.of_body B).code)
      intro x hx
      rw [Array.isEmpty_iff.mp h7] at hx
      cases hx
    obtain ⟨t, a1, o, b1, b2, b3⟩ := body p e s m args below meth c s₁ B hml ht hP s₁ hh0 (Stand.of_body B)
    exact ⟨t, o, a1, b1, b2, b3⟩
/-- the table of a body with handlers -/
theorem vx_table {p : Program} {x y : MethodName} {S : Spec} {cc bytes : ByteArray} {maxL maxL' : Nat} {ret ret' : Option FieldType} {e : Env} {s s₁ : State} {m : MethodId} {args : Array Value} {below : List Frame} {meth : Method} {c : Code} {hh : List (Nat × Nat × Nat × Nat)}
    (B : BodyLoose p l y S cc maxL ret e s m args below meth c s₁) (h : (Cond.codeWith y bytes maxL' ret' hh).before args s = true) : c.exceptionTable.toList = tableOf hh := by
  obtain ⟨m9, meth9, c9, hn9, h1, h2, -, -, h6, -⟩ := Cond.codeWith_spec h
  cases Option.some.inj (hn9.symm.trans B.named)
  cases Option.some.inj (h1.symm.trans B.method)
  cases Option.some.inj (h2.symm.trans (Stand.of_body B).code)
  rw [← h6, table_eq]
end Bodies
end VXA
/-! ===== END ===== -/
/-! ===== BEGIN a static call of a method with an exception table ===== -/
section VXS
variable {p : Program} {l : Launch} {e : Env} {R : Room} {s : State} {m : MethodId} {args : Array Value} {below : List Frame} {meth : Method} {c : Code} {T : State} {H : Heap} {locs : List Loc} {cells slots : Nat}
abbrev vx_CSW (R : Room) (s : State) (args : Array Value) (own : String) (index : Nat) (y : MethodName) (bytes : ByteArray) (maxL : Nat) (ret : Option FieldType) (hh : List (Nat × Nat × Nat × Nat)) (ws : List Cond) (rm : Room) (mc ms n : Nat) : Prop :=
  (rm.cells = mc ∧ rm.slots = ms ∧ rm.frames + 1 ≤ R.frames ∧ 8 + (maxL + 11) + rm.locals ≤ R.locals ∧ (∀ w ∈ ws, ∀ (a' : Array Value) (U : State), s.WarmedH U.vm → w.before a' U = true) ∧ Cond.codeWith y bytes maxL ret hh ∈ ws) ∧
  (Cond.codeWith y bytes maxL ret hh).before args s = true ∧ (Cond.initialized y.cls).before args s = true ∧ (y.cls ≠ "java/lang/invoke/MethodHandle" ∧ y.cls ≠ "java/lang/invoke/VarHandle") ∧
  (∀ sig, parseMethodDescriptor y.desc = some sig → n = sig.parameters.length) ∧ (Cond.methodLink own index y).before args s = true ∧ (Cond.static y).before args s = true
theorem vx_cwSW {own : String} {index maxL mc ms : Nat} {y : MethodName} {bytes : ByteArray} {ret : Option FieldType} {hh : List (Nat × Nat × Nat × Nat)} {Ts ws ws' : List Cond} {rm : Room} (n : Nat) (ht : ∀ w ∈ Ts, w.before args s = true) (hT : GoodIn Ts (va_wsS own index y ws)) (hw : ws = Cond.codeWith y bytes maxL ret hh :: ws') (hrc : rm.cells = mc) (hrs : rm.slots = ms)
    (hd : y.cls ≠ "java/lang/invoke/MethodHandle" ∧ y.cls ≠ "java/lang/invoke/VarHandle" ∧ (parseMethodDescriptor y.desc).map (fun d => d.parameters.length) = some n) (hR : rm.frames + 1 ≤ R.frames ∧ 8 + (maxL + 11) + rm.locals ≤ R.locals) :
    vx_CSW R s args own index y bytes maxL ret hh ws rm mc ms n := by
  have ok : ∀ w ∈ va_wsS own index y ws, w.before args s = true := fun w h => ht w (hT w h).1
  have hG : GoodIn Ts ws := fun w h => hT w (by unfold va_wsS; exact List.mem_append_right _ h)
  have hc : Cond.codeWith y bytes maxL ret hh ∈ ws := by rw [hw]; exact List.mem_cons_self
  refine ⟨⟨hrc, hrs, hR.1, hR.2, pay_in ht hG, hc⟩, ht _ (hG _ hc).1, ok _ (by simp [va_wsS]), ⟨hd.1, hd.2.1⟩, fun sig h => ?_, ok _ (by simp [va_wsS]), ok _ (by simp [va_wsS])⟩
  have h2 := hd.2.2
  rw [h] at h2
  exact (Option.some.inj h2).symm
theorem vx_callSW (X : Stand p l e R s m args below meth c T locs cells slots) (hexec : p.tables.exec = Jvm.exec) {own : String} {index : Nat} {y : MethodName} {bytes : ByteArray} {maxL : Nat} {ret : Option FieldType} {hh : List (Nat × Nat × Nat × Nat)}
    (hown : s.vm.findClass own = some m.cls) (hlink : (Cond.methodLink own index y).before args s = true) (hstat : (Cond.static y).before args s = true) (hinit : (Cond.initialized y.cls).before args s = true)
    (hcode : (Cond.codeWith y bytes maxL ret hh).before args s = true) (hy : y.cls ≠ "java/lang/invoke/MethodHandle" ∧ y.cls ≠ "java/lang/invoke/VarHandle")
    {W9 : Nat} {Pre : Pt → Array Value → Prop} {Post : Pt → Array Value → Option Value → Pt → Prop} (hK : Back l R p e below s args y 3 W9 Pre Post)
    {g : JFrame} (hg : g.method = m) (hsize : g.locals.size = c.maxLocals) {argsL rest : List Value} (hlen : ∀ sig, parseMethodDescriptor y.desc = some sig → argsL.length = sig.parameters.length)
    (hstack : g.stack = argsL.reverse ++ rest) (hW : 2 * g.monitorRoom + (rest.map fun v => v.category).sum ≤ W9) (hdg : decode c.code g.pc = .ok (.invokestatic index, 3))
    (hpre : ∀ vm₁, s.WarmedH vm₁ → Pre ⟨T.setVm vm₁, locs, cells, slots⟩ argsL.toArray) :
    ∃ (v : Option Value) (vm₁ : Vm) (B : Pt), s.WarmedH vm₁ ∧ Stand p l e R s m args below meth c B.U B.locs B.cells B.slots ∧ Post ⟨T.setVm vm₁, locs, cells, slots⟩ argsL.toArray v B ∧
      ∀ target, Steps p.tables e below (B.U.setTop { g with pc := g.pc + 3, stack := v.toList ++ rest }) target → Steps p.tables e below (T.setTop g) target := by
  obtain ⟨mk, methM, cM, hnamed, hmethM, -, -, -, -, -, -, hsigM⟩ := Cond.codeWith_spec hcode
  have hstatic : methM.isStatic = true := Cond.static_spec hnamed hmethM hstat
  obtain ⟨kP, hkP, -⟩ := className_of_methodNamed hnamed
  have hinitP : kP.init = .initialized := Cond.initialized_spec (findClass_of_methodNamed hnamed) hkP hinit
  obtain ⟨vm₁, X₁, hstep₁⟩ := X.invokestatic hexec hown hlink hnamed hmethM hstatic hkP hinitP hy (g := g) hg (argsL := argsL) (rest := rest) (hlen _ hsigM) hstack hdg
  obtain ⟨v, B, X', hpost, hsteps⟩ := hK m meth c ⟨T.setVm vm₁, locs, cells, slots⟩ { g with stack := rest } (.invokestatic index) mk argsL.toArray X₁ hg hsize hdg hW (X₁.named hnamed) (hpre vm₁ X₁.warmed)
  exact ⟨v, vm₁, B, X₁.warmed, X', hpost, fun target h => hstep₁ _ fun acts => by rw [doInvoke_state]; exact hsteps.trans h⟩
theorem vx_runSW {y : MethodName} {bytes cc : ByteArray} {maxL nL mc ms n index : Nat} {ret : Option FieldType} {hh : List (Nat × Nat × Nat × Nat)} {ws : List Cond} {rm : Room} {Pc : Array Value → State → Prop} {Qc : Array Value → State → Outcome → State → Prop} {free : Addr → Prop} {Ts : List Cond} {own : String} {As rest : List Value} {g : JFrame}
    (S : CallFix p m c cc nL s args Ts own) (hM : Met l y ws rm Pc Qc mc ms free) (cw : vx_CSW R s args own index y bytes maxL ret hh ws rm mc ms n) (hp : PreS s H Pc As)
    (hg : g.method = m) (hn : As.length = n) (hsize : g.locals.size = nL) (hstack : g.stack = As.reverse ++ rest) (hW : 2 * g.monitorRoom + (rest.map fun v => v.category).sum ≤ 8) (hdg : decode cc g.pc = .ok (.invokestatic index, 3)) (hf : cells + mc ≤ R.cells ∧ slots + ms ≤ R.slots) :
    va_Run p l e R s m args below meth c H locs cells slots mc ms g rest (Qc As.toArray) (free) := by
  obtain ⟨⟨hrc, hrs, hfr, hlo, hws, hcw⟩, hcode, hini, hy, hlen, hl, hstt⟩ := cw
  have hK : Back l R p e below s args y 3 8 (PreOf R mc ms Pc) (PostOf Qc mc ms free) := va_backW (hh := hh) (bytes := bytes) (maxL := maxL) (ret := ret) hM hp.1 hrc hrs hfr hlo hws hcw (fun a' U hW => word_at hW (Or.inl (by first | rfl | simp [Cond.onTables, Cond.keeps, Cond.steady])) hini)
  obtain ⟨hx, hb, hml, ho, -⟩ := S
  intro T hT X
  obtain ⟨v, vm₁, ⟨U', l2, c2, s2⟩, hW₁, X', ⟨g', mk, t, L, e1, e2, hq, h1, hL, h2, h3⟩, st⟩ := vx_callSW X hx (hh := hh) (bytes := bytes) (maxL := maxL) (ret := ret) ho hl hstt hini hcode hy hK hg (hsize.trans hml.symm) (argsL := As) (rest := rest) (fun sig h => hn.trans (hlen sig h)) hstack hW (by rw [hb]; exact hdg)
    (fun vm₁ hW₁ => ⟨hf.1, hf.2, hp.2 (T.setVm vm₁) hT hW₁⟩)
  dsimp only [Pt.U, Pt.locs, Pt.cells, Pt.slots] at X' e1 e2 h1 h2 h3 st
  subst h1; subst h2; subst h3
  exact ⟨v, (T.setVm vm₁).calling g' mk As.toArray, t, U', L, hT, X', hL, e1, e2, hq, st⟩
/-- not caught here, past rows that name other classes: it goes on to the caller -/
theorem vx_outP {p : Program} {l : Launch} {e : Env} {R : Room} {s : State} {m : MethodId} {args : Array Value} {below : List Frame} {meth : Method} {c : Code} {H : Heap} {locs : List Loc} {cells slots : Nat} {free : Addr → Prop} {ls : Array Slot} {rest : List Value} {Qc : Array Value → State → Outcome → State → Prop} {XC : String → State → State → Prop}
    {pc : Nat} {own E : String} {ce : Cell} {q : Addr} {mc ms : Nat} (hown : s.vm.findClass own = some m.cls) (hlocks : meth.locks = false)
    (hpass : ∀ z ∈ c.exceptionTable.toList, covers z pc = false ∨ (z.catchType ≠ 0 ∧ ∃ nm : String, (Cond.classLink own z.catchType nm).before args s = true ∧ va_Nc E nm s)) (hcell : H[q]? = some ce) (hv : ce.vm = .none) (hcl : s.vm.findClass E = some ce.cls)
    (hx : ∀ t : State, t.heap = H → s.vm.Alike t.vm → XC E s t) (hf : ∀ z ∈ locs, free z.base) (hc : cells ≤ mc) (hs : slots ≤ ms) :
    vx_W p l e R s m args below meth c H locs cells slots (vx_MQ below Qc XC args s mc ms free) (F0 m pc ls rest) q := by
  intro T hT X
  have hpl : e.platform.magicAccessors = ({} : Platform).magicAccessors := by rw [X.admits.platform]
  obtain ⟨vm', hW', X', st⟩ := X.outThrough hlocks q (g := F0 m pc ls rest) rfl rfl rfl (cell := ce) (by rw [hT]; exact hcell) (by rw [hv]; rfl)
    (by obtain ⟨k9, h9, -⟩ := Vm.findClass_spec hcl; exact ⟨k9, h9⟩) (fun z hz => by
      rcases hpass z hz with h | ⟨hz0, nm, hl1, hn1⟩
      · exact Or.inl h
      · obtain ⟨c6, hc6, hcl6⟩ := Cond.classLink_spec hown hl1 e.platform hpl
        obtain ⟨a8, b8, h1, h2, h3⟩ := hn1
        cases Option.some.inj (h1.symm.trans hcl)
        cases Option.some.inj (h2.symm.trans hc6)
        exact Or.inr ⟨hz0, _, hcl6, h3⟩)
  obtain ⟨g₀, hfr⟩ := X'.frames_eq
  have hcell9 : ((T.setVm vm').setFrames (.throwing q :: below)).heap[q]? = some ce := by
    show T.heap[q]? = some ce
    rw [hT]; exact hcell
  have hend : Ended ((T.setVm vm').setFrames (.throwing q :: below)) below (.threw q) := State.frames_setFrames _ (State.cur_lt_of_frames hfr)
  refine ⟨(T.setVm vm').setFrames (.throwing q :: below), ?_, .threw q, X'.here.running, hend, Or.inr ⟨q, rfl, E, ce, locs, hx _ hT (X'.ends _).1.alike, hcell9, hv, hcl, (X'.ends _).1, (X'.ends _).2.mono hc hs, hf⟩⟩
  rw [X.pushThrowing_eq]
  exact st
/-- a thing of a world lies in the heap -/
theorem vx_lt {D : va_G} {cl : List vw_C} {ws : va_W} {H1 : Heap} (h : va_P D cl ws H1) {k : Nat} {q : Nat × va_E} (hk : ws[k]? = some q) : q.1 < H1.size := (h k q hk).lt
end VXS
/-! ===== END ===== -/
/-! ===== BEGIN methods with a table of their own: called by a name, returning or throwing ===== -/
section VXH
/-! vx_backW, vx_callVX, vx_callSX, vx_callVW, vx_runVW, vx_runVX, vx_runSX, vx_ofWH follow the same proofs as their sisters above (Free/Laws.lean, Shelf42/LK1.lean); vx_outP calls Shelf42/NT130.lean (outThrough). -/
section
variable {l : Launch} {R : Room} {p : Program} {e : Env} {below : List Frame} {s : State} {sargs : Array Value} {y : MethodName} {len W9 : Nat}
theorem vx_backW {ws : List Cond} {rm : Room} {Pc : Array Value → State → Prop} {Qc : Array Value → State → Outcome → State → Prop} {XC : String → State → State → Prop} {mc ms : Nat} {free : Addr → Prop} {bytes : ByteArray} {maxL : Nat} {ret : Option FieldType} {hh : List (Nat × Nat × Nat × Nat)}
    (hM : vx_Met l y ws rm Pc Qc XC mc ms free) (hblind : FrameBlind Pc) (hrc : rm.cells = mc) (hrs : rm.slots = ms)
    (hframes : rm.frames + 1 ≤ R.frames) (hlocals : W9 + (maxL + 11) + rm.locals ≤ R.locals)
    (hws : ∀ w ∈ ws, ∀ a' U, s.WarmedH U.vm → w.before a' U = true) (hcode : Cond.codeWith y bytes maxL ret hh ∈ ws) (hinit : ∀ a' U, s.WarmedH U.vm → (Cond.initialized y.cls).before a' U = true) :
    vx_Back l R p e below s sargs y len W9 (PreOf R mc ms Pc) (PostOf Qc mc ms free) (vx_Post XC mc ms free) := by
  intro m meth c A g ig mk a X hg hsize hdg hW hn hp
  have h1 : (headSpec ws rm).pre.before a A.U = true := atoms_intro fun w hw => hws w hw _ _ X.warmed
  have h2 : (Cond.codeWith y bytes maxL ret hh).before a A.U = true := hws _ hcode _ _ X.warmed
  have h3 : (Cond.initialized y.cls).before a A.U = true := hinit _ _ X.warmed
  have h4 : A.cells + (headSpec ws rm).room.cells ≤ R.cells := by rw [show (headSpec ws rm).room.cells = mc from hrc]; exact hp.1
  have h5 : A.slots + (headSpec ws rm).room.slots ≤ R.slots := by rw [show (headSpec ws rm).room.slots = ms from hrs]; exact hp.2.1
  have hPc : Pc a (A.U.calling g mk a) := hblind _ _ _ _ hp.2.2
  obtain ⟨U, Ls, c0, s0⟩ := A
  dsimp only [Pt.U, Pt.locs, Pt.cells, Pt.slots] at h1 h2 h3 h4 h5 X hn hPc ⊢
  obtain ⟨m9, methY, cY, hn9, hmY, hcY, -, hlY, -⟩ := Cond.codeWith_spec h2
  cases Option.some.inj (hn9.symm.trans hn)
  obtain ⟨kY, hkY, -⟩ := className_of_methodNamed hn
  have hinitY : kY.init = .initialized := Cond.initialized_spec (findClass_of_methodNamed hn) hkY h3
  have h : At U g.method c below := by rw [hg]; exact X.here
  have hlocals9 : W9 + (maxL + 11) + (headSpec ws rm).room.locals ≤ R.locals := hlocals
  have happ : (headSpec ws rm).appliesLoose y e.platform (U.calling g mk a) = true :=
    Spec.appliesLoose_calling (g := g) h hdg hn hkY hinitY
      (X.room_calling (g := g) (R' := (headSpec ws rm).room) hsize hmY hcY hframes (by rw [hlY]; omega) h4 h5) h1
  obtain ⟨mid, hmid⟩ := h.above
  have hfr : (U.setTop g).frames = (.java g :: mid) ++ below := by rw [State.frames_setTop' g h.top, hmid]; rfl
  obtain ⟨o, s₂, hsteps, -, hend, hq⟩ := Steps.callFree hM p X.admits X.cas X.clock (acts := []) hfr happ hPc trivial
  have hq' : vx_Q Qc XC mc ms free a (U.calling g mk a) o s₂ := hq
  rw [State.frames_setTop' g h.top] at hend
  obtain ⟨g₀, hg0⟩ := Option.isSome_iff_exists.mp h.top
  obtain ⟨r, hr⟩ := State.topJava?_eq_some.mp hg0
  have hr' : (({ U with heap := s₂.heap, slotsUsed := s₂.slotsUsed } : State).setVm s₂.vm).frames = .java g₀ :: r := hr
  rcases hq' with ⟨hqc, L, hfe, hL⟩ | ⟨q, rfl, E, ce, L, hx, hce, hcv, hcl, hW₂, hsm, hL⟩
  · obtain ⟨⟨v, rfl⟩, hW₂, e2, q2, q3, q4, q5, q6⟩ := id hfe
    have e3 : s₂ = ({ (U.calling g mk a).setFrames s₂.frames with heap := s₂.heap, slotsUsed := s₂.slotsUsed } : State).setVm s₂.vm := by
      have : s₂ = ({ s₂ with vm := (U.calling g mk a).vm } : State).setVm s₂.vm := rfl
      rw [e2] at this
      exact this
    obtain ⟨c₂, i₂, len₂, hc₂, hd₂, hf₂⟩ := hend
    have hW' : U.WarmedH s₂.vm := hW₂
    have hcc : c₂ = c := by
      have h1 : s₂.code? g.method = U.code? g.method := by
        rw [State.code?_eq, State.code?_eq, hW'.alike.method?]
      exact Option.some.inj (hc₂.symm.trans (h1.trans h.code))
    subst hcc
    have hlen : len₂ = len := by rw [hdg] at hd₂; cases hd₂; rfl
    subst hlen
    have hs₂ : s₂ = (({ U with heap := s₂.heap, slotsUsed := s₂.slotsUsed } : State).setVm s₂.vm).setTop { g with pc := g.pc + len₂, stack := v.toList ++ g.stack } := by
      refine e3.trans ?_
      rw [hf₂, State.calling_eq h.top, State.setFrames_setFrames, State.setTop_of_frames _ hr', hr]
      rfl
    have hsame : U.sameButNew ({ U with heap := s₂.heap, slotsUsed := s₂.slotsUsed } : State) L mc ms := by
      refine ⟨?_, q2, q3, q4, q5, q6⟩
      obtain ⟨t, ht, -⟩ := State.frames_cons hr
      show ({ U with heap := s₂.heap, slotsUsed := s₂.slotsUsed } : State) = { U.setFrames U.frames with heap := s₂.heap, slotsUsed := s₂.slotsUsed }
      rw [State.setFrames_self ht]
    subst hg
    refine Or.inl ⟨v, ⟨(({ U with heap := s₂.heap, slotsUsed := s₂.slotsUsed } : State).setVm s₂.vm), Ls ++ L, c0 + mc, s0 + ms⟩,
      ⟨X.admits, X.cas, X.clock, X.frames, X.room, X.hears, X.method, X.code, (X.here.setHeapUsed s₂.heap s₂.slotsUsed).setVm hW'.alike, X.tail, State.WarmedH.trans X.warmed hW', X.limits, X.bytes, X.same.trans (hsame.setVm s.vm)⟩,
      ⟨g, mk, s₂, L, rfl, rfl, hqc, rfl, hL, rfl, rfl⟩, ?_⟩
    show Steps p.tables e below _ ((({ U with heap := s₂.heap, slotsUsed := s₂.slotsUsed } : State).setVm s₂.vm).setTop { g with pc := g.pc + len₂, stack := v.toList ++ g.stack })
    rw [← hs₂]
    exact hsteps
  · obtain ⟨e2, q2, q3, q4, q5, q6⟩ := id hsm
    have e3 : s₂ = ({ (U.calling g mk a).setFrames s₂.frames with heap := s₂.heap, slotsUsed := s₂.slotsUsed } : State).setVm s₂.vm := by
      have : s₂ = ({ s₂ with vm := (U.calling g mk a).vm } : State).setVm s₂.vm := rfl
      rw [e2] at this
      exact this
    have hf₂ : s₂.frames = .throwing q :: .java g :: U.frames.tail := hend
    have hW' : U.WarmedH s₂.vm := hW₂
    have hs₂ : s₂ = ((({ U with heap := s₂.heap, slotsUsed := s₂.slotsUsed } : State).setVm s₂.vm).setTop g).pushFrame (.throwing q) := by
      refine e3.trans ?_
      rw [hf₂, State.calling_eq h.top, State.setFrames_setFrames, State.pushFrame, State.frames_setTop _ hr', State.setTop_of_frames _ hr', State.setFrames_setFrames, hr]
      rfl
    have hsame : U.sameButNew ({ U with heap := s₂.heap, slotsUsed := s₂.slotsUsed } : State) L mc ms := by
      refine ⟨?_, q2, q3, q4, q5, q6⟩
      obtain ⟨t, ht, -⟩ := State.frames_cons hr
      show ({ U with heap := s₂.heap, slotsUsed := s₂.slotsUsed } : State) = { U.setFrames U.frames with heap := s₂.heap, slotsUsed := s₂.slotsUsed }
      rw [State.setFrames_self ht]
    subst hg
    refine Or.inr ⟨q, ⟨(({ U with heap := s₂.heap, slotsUsed := s₂.slotsUsed } : State).setVm s₂.vm), Ls ++ L, c0 + mc, s0 + ms⟩,
      ⟨X.admits, X.cas, X.clock, X.frames, X.room, X.hears, X.method, X.code, (X.here.setHeapUsed s₂.heap s₂.slotsUsed).setVm hW'.alike, X.tail, State.WarmedH.trans X.warmed hW', X.limits, X.bytes, X.same.trans (hsame.setVm s.vm)⟩,
      ⟨g, mk, s₂, L, E, ce, rfl, rfl, hx, hce, hcv, hcl, rfl, hL, rfl, rfl⟩, ?_⟩
    show Steps p.tables e below _ (((({ U with heap := s₂.heap, slotsUsed := s₂.slotsUsed } : State).setVm s₂.vm).setTop g).pushFrame (.throwing q))
    rw [← hs₂]
    exact hsteps
end
variable {p : Program} {l : Launch} {e : Env} {R : Room} {s : State} {m : MethodId} {args : Array Value} {below : List Frame} {meth : Method} {c : Code} {T : State} {H : Heap} {locs : List Loc} {cells slots : Nat}
theorem vx_callVX (X : Stand p l e R s m args below meth c T locs cells slots) (hexec : p.tables.exec = Jvm.exec) {own C : String} {index : Nat} {y : MethodName} {bytes : ByteArray} {maxL : Nat} {ret : Option FieldType} {hh : List (Nat × Nat × Nat × Nat)}
    (hown : s.vm.findClass own = some m.cls) (hlink : (Cond.methodLink own index y).before args s = true) (hinst : (Cond.instanceMethod y).before args s = true) (hsel : (Cond.selects C y y).before args s = true)
    (hcode : (Cond.codeWith y bytes maxL ret hh).before args s = true) (hy : y.cls ≠ "java/lang/invoke/MethodHandle" ∧ y.cls ≠ "java/lang/invoke/VarHandle")
    {W9 : Nat} {Pre : Pt → Array Value → Prop} {Post : Pt → Array Value → Option Value → Pt → Prop} {PostX : Pt → Array Value → Addr → Pt → Prop} (hK : vx_Back l R p e below s args y 3 W9 Pre Post PostX)
    {b : Addr} {cellB : Cell} (hcell : T.heap[b]? = some cellB) (hobj : cellB.vm.isStatics = false) (hcls : s.vm.findClass C = some cellB.cls)
    {g : JFrame} (hg : g.method = m) (hsize : g.locals.size = c.maxLocals) {argsL rest : List Value} (hlen : ∀ sig, parseMethodDescriptor y.desc = some sig → argsL.length = sig.parameters.length)
    (hstack : g.stack = argsL.reverse ++ .ref b :: rest) (hW : 2 * g.monitorRoom + (rest.map fun v => v.category).sum ≤ W9) (hdg : decode c.code g.pc = .ok (.invokevirtual index, 3))
    (hpre : ∀ vm₁, s.WarmedH vm₁ → Pre ⟨T.setVm vm₁, locs, cells, slots⟩ (Value.ref b :: argsL).toArray) :
    (∃ (v : Option Value) (vm₁ : Vm) (B : Pt), s.WarmedH vm₁ ∧ Stand p l e R s m args below meth c B.U B.locs B.cells B.slots ∧ Post ⟨T.setVm vm₁, locs, cells, slots⟩ (Value.ref b :: argsL).toArray v B ∧
      ∀ target, Steps p.tables e below (B.U.setTop { g with pc := g.pc + 3, stack := v.toList ++ rest }) target → Steps p.tables e below (T.setTop g) target) ∨
    (∃ (q : Addr) (vm₁ : Vm) (B : Pt), s.WarmedH vm₁ ∧ Stand p l e R s m args below meth c B.U B.locs B.cells B.slots ∧ PostX ⟨T.setVm vm₁, locs, cells, slots⟩ (Value.ref b :: argsL).toArray q B ∧
      Steps p.tables e below (T.setTop g) ((B.U.setTop { g with stack := rest }).pushFrame (.throwing q))) := by
  obtain ⟨mk, methM, hnamed, hmethM, hstM, habM⟩ := Cond.instanceMethod_spec hinst
  obtain ⟨m8, methM', cM, hn8, hmethM', -, -, -, -, -, -, hsigM⟩ := Cond.codeWith_spec hcode
  cases Option.some.inj (hn8.symm.trans hnamed)
  cases hmethM.symm.trans hmethM'
  obtain ⟨c2, r2, m2, q1, q2, q3, q4, kP, hkP, hkPi⟩ := Cond.selects_spec hsel
  cases hcls.symm.trans q1
  cases (State.methodFound?_of_named hnamed hy).symm.trans q2
  cases hnamed.symm.trans q3
  have hselP : selectMethod e.platform s.vm cellB.cls mk = .method mk := by rw [Launch.admits_selectMethod X.admits]; exact q4
  obtain ⟨vm₁, X₁, hstep₁⟩ := X.invokevirtual hexec hown hlink hnamed hmethM hstM hkP hkPi hy (a := b) (cell := cellB) hcell
    (fun z h => by rw [h] at hobj; cases hobj) hselP hmethM habM hkP hkPi (g := g) hg (argsL := argsL) (rest := rest) (hlen _ hsigM) hstack hdg
  rcases hK m meth c ⟨T.setVm vm₁, locs, cells, slots⟩ { g with stack := rest } (.invokevirtual index) mk (Value.ref b :: argsL).toArray X₁ hg hsize hdg hW (X₁.named hnamed) (hpre vm₁ X₁.warmed) with ⟨v, B, X', hpost, hsteps⟩ | ⟨q, B, X', hpost, hsteps⟩
  · exact Or.inl ⟨v, vm₁, B, X₁.warmed, X', hpost, fun target h => hstep₁ _ fun acts => by rw [doInvoke_state]; exact hsteps.trans h⟩
  · exact Or.inr ⟨q, vm₁, B, X₁.warmed, X', hpost, hstep₁ _ fun acts => by rw [doInvoke_state]; exact hsteps⟩
theorem vx_callSX (X : Stand p l e R s m args below meth c T locs cells slots) (hexec : p.tables.exec = Jvm.exec) {own : String} {index : Nat} {y : MethodName} {bytes : ByteArray} {maxL : Nat} {ret : Option FieldType} {hh : List (Nat × Nat × Nat × Nat)}
    (hown : s.vm.findClass own = some m.cls) (hlink : (Cond.methodLink own index y).before args s = true) (hstat : (Cond.static y).before args s = true) (hinit : (Cond.initialized y.cls).before args s = true)
    (hcode : (Cond.codeWith y bytes maxL ret hh).before args s = true) (hy : y.cls ≠ "java/lang/invoke/MethodHandle" ∧ y.cls ≠ "java/lang/invoke/VarHandle")
    {W9 : Nat} {Pre : Pt → Array Value → Prop} {Post : Pt → Array Value → Option Value → Pt → Prop} {PostX : Pt → Array Value → Addr → Pt → Prop} (hK : vx_Back l R p e below s args y 3 W9 Pre Post PostX)
    {g : JFrame} (hg : g.method = m) (hsize : g.locals.size = c.maxLocals) {argsL rest : List Value} (hlen : ∀ sig, parseMethodDescriptor y.desc = some sig → argsL.length = sig.parameters.length)
    (hstack : g.stack = argsL.reverse ++ rest) (hW : 2 * g.monitorRoom + (rest.map fun v => v.category).sum ≤ W9) (hdg : decode c.code g.pc = .ok (.invokestatic index, 3))
    (hpre : ∀ vm₁, s.WarmedH vm₁ → Pre ⟨T.setVm vm₁, locs, cells, slots⟩ argsL.toArray) :
    (∃ (v : Option Value) (vm₁ : Vm) (B : Pt), s.WarmedH vm₁ ∧ Stand p l e R s m args below meth c B.U B.locs B.cells B.slots ∧ Post ⟨T.setVm vm₁, locs, cells, slots⟩ argsL.toArray v B ∧
      ∀ target, Steps p.tables e below (B.U.setTop { g with pc := g.pc + 3, stack := v.toList ++ rest }) target → Steps p.tables e below (T.setTop g) target) ∨
    (∃ (q : Addr) (vm₁ : Vm) (B : Pt), s.WarmedH vm₁ ∧ Stand p l e R s m args below meth c B.U B.locs B.cells B.slots ∧ PostX ⟨T.setVm vm₁, locs, cells, slots⟩ argsL.toArray q B ∧
      Steps p.tables e below (T.setTop g) ((B.U.setTop { g with stack := rest }).pushFrame (.throwing q))) := by
  obtain ⟨mk, methM, cM, hnamed, hmethM, -, -, -, -, -, -, hsigM⟩ := Cond.codeWith_spec hcode
  have hstatic : methM.isStatic = true := Cond.static_spec hnamed hmethM hstat
  obtain ⟨kP, hkP, -⟩ := className_of_methodNamed hnamed
  have hinitP : kP.init = .initialized := Cond.initialized_spec (findClass_of_methodNamed hnamed) hkP hinit
  obtain ⟨vm₁, X₁, hstep₁⟩ := X.invokestatic hexec hown hlink hnamed hmethM hstatic hkP hinitP hy (g := g) hg (argsL := argsL) (rest := rest) (hlen _ hsigM) hstack hdg
  rcases hK m meth c ⟨T.setVm vm₁, locs, cells, slots⟩ { g with stack := rest } (.invokestatic index) mk argsL.toArray X₁ hg hsize hdg hW (X₁.named hnamed) (hpre vm₁ X₁.warmed) with ⟨v, B, X', hpost, hsteps⟩ | ⟨q, B, X', hpost, hsteps⟩
  · exact Or.inl ⟨v, vm₁, B, X₁.warmed, X', hpost, fun target h => hstep₁ _ fun acts => by rw [doInvoke_state]; exact hsteps.trans h⟩
  · exact Or.inr ⟨q, vm₁, B, X₁.warmed, X', hpost, hstep₁ _ fun acts => by rw [doInvoke_state]; exact hsteps⟩
theorem vx_callVW (X : Stand p l e R s m args below meth c T locs cells slots) (hexec : p.tables.exec = Jvm.exec) {own C : String} {index : Nat} {y : MethodName} {bytes : ByteArray} {maxL : Nat} {ret : Option FieldType} {hh : List (Nat × Nat × Nat × Nat)}
    (hown : s.vm.findClass own = some m.cls) (hlink : (Cond.methodLink own index y).before args s = true) (hinst : (Cond.instanceMethod y).before args s = true) (hsel : (Cond.selects C y y).before args s = true)
    (hcode : (Cond.codeWith y bytes maxL ret hh).before args s = true) (hy : y.cls ≠ "java/lang/invoke/MethodHandle" ∧ y.cls ≠ "java/lang/invoke/VarHandle")
    {W9 : Nat} {Pre : Pt → Array Value → Prop} {Post : Pt → Array Value → Option Value → Pt → Prop} (hK : Back l R p e below s args y 3 W9 Pre Post)
    {b : Addr} {cellB : Cell} (hcell : T.heap[b]? = some cellB) (hobj : cellB.vm.isStatics = false) (hcls : s.vm.findClass C = some cellB.cls)
    {g : JFrame} (hg : g.method = m) (hsize : g.locals.size = c.maxLocals) {argsL rest : List Value} (hlen : ∀ sig, parseMethodDescriptor y.desc = some sig → argsL.length = sig.parameters.length)
    (hstack : g.stack = argsL.reverse ++ .ref b :: rest) (hW : 2 * g.monitorRoom + (rest.map fun v => v.category).sum ≤ W9) (hdg : decode c.code g.pc = .ok (.invokevirtual index, 3))
    (hpre : ∀ vm₁, s.WarmedH vm₁ → Pre ⟨T.setVm vm₁, locs, cells, slots⟩ (Value.ref b :: argsL).toArray) :
    ∃ (v : Option Value) (vm₁ : Vm) (B : Pt), s.WarmedH vm₁ ∧ Stand p l e R s m args below meth c B.U B.locs B.cells B.slots ∧ Post ⟨T.setVm vm₁, locs, cells, slots⟩ (Value.ref b :: argsL).toArray v B ∧
      ∀ target, Steps p.tables e below (B.U.setTop { g with pc := g.pc + 3, stack := v.toList ++ rest }) target → Steps p.tables e below (T.setTop g) target := by
  obtain ⟨mk, methM, hnamed, hmethM, hstM, habM⟩ := Cond.instanceMethod_spec hinst
  obtain ⟨m8, methM', cM, hn8, hmethM', -, -, -, -, -, -, hsigM⟩ := Cond.codeWith_spec hcode
  cases Option.some.inj (hn8.symm.trans hnamed)
  cases hmethM.symm.trans hmethM'
  obtain ⟨c2, r2, m2, q1, q2, q3, q4, kP, hkP, hkPi⟩ := Cond.selects_spec hsel
  cases hcls.symm.trans q1
  cases (State.methodFound?_of_named hnamed hy).symm.trans q2
  cases hnamed.symm.trans q3
  have hselP : selectMethod e.platform s.vm cellB.cls mk = .method mk := by rw [Launch.admits_selectMethod X.admits]; exact q4
  obtain ⟨vm₁, X₁, hstep₁⟩ := X.invokevirtual hexec hown hlink hnamed hmethM hstM hkP hkPi hy (a := b) (cell := cellB) hcell
    (fun z h => by rw [h] at hobj; cases hobj) hselP hmethM habM hkP hkPi (g := g) hg (argsL := argsL) (rest := rest) (hlen _ hsigM) hstack hdg
  obtain ⟨v, B, X', hpost, hsteps⟩ := hK m meth c ⟨T.setVm vm₁, locs, cells, slots⟩ { g with stack := rest } (.invokevirtual index) mk (Value.ref b :: argsL).toArray X₁ hg hsize hdg hW (X₁.named hnamed) (hpre vm₁ X₁.warmed)
  exact ⟨v, vm₁, B, X₁.warmed, X', hpost, fun target h => hstep₁ _ fun acts => by rw [doInvoke_state]; exact hsteps.trans h⟩
abbrev vx_CVW (R : Room) (s : State) (args : Array Value) (own C : String) (index : Nat) (y : MethodName) (bytes : ByteArray) (maxL : Nat) (ret : Option FieldType) (hh : List (Nat × Nat × Nat × Nat)) (ws : List Cond) (rm : Room) (mc ms n : Nat) : Prop :=
  (rm.cells = mc ∧ rm.slots = ms ∧ rm.frames + 1 ≤ R.frames ∧ 8 + (maxL + 11) + rm.locals ≤ R.locals ∧ (∀ w ∈ ws, ∀ (a' : Array Value) (U : State), s.WarmedH U.vm → w.before a' U = true) ∧ Cond.codeWith y bytes maxL ret hh ∈ ws) ∧
  (Cond.codeWith y bytes maxL ret hh).before args s = true ∧ (Cond.initialized y.cls).before args s = true ∧ (y.cls ≠ "java/lang/invoke/MethodHandle" ∧ y.cls ≠ "java/lang/invoke/VarHandle") ∧
  (∀ sig, parseMethodDescriptor y.desc = some sig → n = sig.parameters.length) ∧ (Cond.methodLink own index y).before args s = true ∧ (Cond.instanceMethod y).before args s = true ∧ (Cond.selects C y y).before args s = true
theorem vx_cwVW {own C : String} {index maxL mc ms : Nat} {y : MethodName} {bytes : ByteArray} {ret : Option FieldType} {hh : List (Nat × Nat × Nat × Nat)} {Ts ws ws' : List Cond} {rm : Room} (n : Nat) (ht : ∀ w ∈ Ts, w.before args s = true) (hT : GoodIn Ts (wsV own index C y ws)) (hw : ws = Cond.codeWith y bytes maxL ret hh :: ws') (hrc : rm.cells = mc) (hrs : rm.slots = ms)
    (hd : y.cls = C ∧ y.cls ≠ "java/lang/invoke/MethodHandle" ∧ y.cls ≠ "java/lang/invoke/VarHandle" ∧ (parseMethodDescriptor y.desc).map (fun d => d.parameters.length) = some n) (hR : rm.frames + 1 ≤ R.frames ∧ 8 + (maxL + 11) + rm.locals ≤ R.locals) :
    vx_CVW R s args own C index y bytes maxL ret hh ws rm mc ms n := by
  obtain ⟨hC, hd⟩ := hd
  subst hC
  have ok : ∀ w ∈ wsV own index y.cls y ws, w.before args s = true := fun w h => ht w (hT w h).1
  have hG : GoodIn Ts ws := fun w h => hT w (by unfold wsV; exact List.mem_append_right _ h)
  have hc : Cond.codeWith y bytes maxL ret hh ∈ ws := by rw [hw]; exact List.mem_cons_self
  refine ⟨⟨hrc, hrs, hR.1, hR.2, pay_in ht hG, hc⟩, ht _ (hG _ hc).1, ok _ (by simp [wsV]), ⟨hd.1, hd.2.1⟩, fun sig h => ?_, ok _ (by simp [wsV]), ok _ (by simp [wsV]), ok _ (by simp [wsV])⟩
  have h2 := hd.2.2
  rw [h] at h2
  exact (Option.some.inj h2).symm
theorem vx_runVW {y : MethodName} {bytes cc : ByteArray} {maxL nL mc ms n index : Nat} {ret : Option FieldType} {hh : List (Nat × Nat × Nat × Nat)} {ws : List Cond} {rm : Room} {Pc : Array Value → State → Prop} {Qc : Array Value → State → Outcome → State → Prop} {free : Addr → Prop} {Ts : List Cond} {own C : String} {b : Addr} {As rest : List Value} {g : JFrame}
    (S : CallFix p m c cc nL s args Ts own) (hM : Met l y ws rm Pc Qc mc ms free) (cw : vx_CVW R s args own C index y bytes maxL ret hh ws rm mc ms n) (hp : PreV s H C b Pc As)
    (hg : g.method = m) (hn : As.length = n) (hsize : g.locals.size = nL) (hstack : g.stack = As.reverse ++ .ref b :: rest) (hW : 2 * g.monitorRoom + (rest.map fun v => v.category).sum ≤ 8) (hdg : decode cc g.pc = .ok (.invokevirtual index, 3)) (hf : cells + mc ≤ R.cells ∧ slots + ms ≤ R.slots) :
    va_Run p l e R s m args below meth c H locs cells slots mc ms g rest (Qc (Value.ref b :: As).toArray) free := by
  obtain ⟨⟨hrc, hrs, hfr, hlo, hws, hcw⟩, hcode, hini, hy, hlen, hl, hin, hse⟩ := cw
  have hK : Back l R p e below s args y 3 8 (PreOf R mc ms Pc) (PostOf Qc mc ms free) := va_backW (hh := hh) (bytes := bytes) (maxL := maxL) (ret := ret) hM hp.1 hrc hrs hfr hlo hws hcw (fun a' U hW => word_at hW (Or.inl (by first | rfl | simp [Cond.onTables, Cond.keeps, Cond.steady])) hini)
  obtain ⟨hx, hb, hml, ho, -⟩ := S
  obtain ⟨-, ⟨cellB, hcB, hoB, hclB⟩, hPc⟩ := hp
  intro T hT X
  obtain ⟨v, vm₁, ⟨U', l2, c2, s2⟩, hW₁, X', ⟨g', mk, t, L, e1, e2, hq, h1, hL, h2, h3⟩, st⟩ := vx_callVW X hx (C := C) (hh := hh) (bytes := bytes) (maxL := maxL) (ret := ret) ho hl hin hse hcode hy hK (by rw [hT]; exact hcB) hoB hclB hg (hsize.trans hml.symm) (argsL := As) (rest := rest) (fun sig h => hn.trans (hlen sig h)) hstack hW (by rw [hb]; exact hdg)
    (fun vm₁ hW₁ => ⟨hf.1, hf.2, hPc (T.setVm vm₁) hT hW₁⟩)
  dsimp only [Pt.U, Pt.locs, Pt.cells, Pt.slots] at X' e1 e2 h1 h2 h3 st
  subst h1; subst h2; subst h3
  exact ⟨v, (T.setVm vm₁).calling g' mk (Value.ref b :: As).toArray, t, U', L, hT, X', hL, e1, e2, hq, st⟩
section
variable {y : MethodName} {bytes cc : ByteArray} {maxL nL mc ms n index : Nat} {ret : Option FieldType} {ws : List Cond} {rm : Room} {Pc : Array Value → State → Prop} {Qc : Array Value → State → Outcome → State → Prop} {XC : String → State → State → Prop} {free : Addr → Prop} {Ts : List Cond} {own C : String} {b : Addr} {As rest : List Value} {g : JFrame}
theorem vx_runVX {hh : List (Nat × Nat × Nat × Nat)} (S : CallFix p m c cc nL s args Ts own) (hM : vx_Met l y ws rm Pc Qc XC mc ms free) (cw : vx_CVW R s args own C index y bytes maxL ret hh ws rm mc ms n) (hp : PreV s H C b Pc As)
    (hg : g.method = m) (hn : As.length = n) (hsize : g.locals.size = nL) (hstack : g.stack = As.reverse ++ .ref b :: rest) (hW : 2 * g.monitorRoom + (rest.map fun v => v.category).sum ≤ 8) (hdg : decode cc g.pc = .ok (.invokevirtual index, 3)) (hf : cells + mc ≤ R.cells ∧ slots + ms ≤ R.slots) :
    vx_Run p l e R s m args below meth c H locs cells slots mc ms g rest (Qc (Value.ref b :: As).toArray) XC free := by
  obtain ⟨⟨hrc, hrs, hfr, hlo, hws, hcw⟩, hcode, hini, hy, hlen, hl, hin, hse⟩ := cw
  have hK : vx_Back l R p e below s args y 3 8 (PreOf R mc ms Pc) (PostOf Qc mc ms free) (vx_Post XC mc ms free) := vx_backW (hh := hh) (bytes := bytes) (maxL := maxL) (ret := ret) hM hp.1 hrc hrs hfr hlo hws hcw (fun a' U hW => word_at hW (Or.inl (by first | rfl | simp [Cond.onTables, Cond.keeps, Cond.steady])) hini)
  obtain ⟨hx, hb, hml, ho, -⟩ := S
  obtain ⟨-, ⟨cellB, hcB, hoB, hclB⟩, hPc⟩ := hp
  intro T hT X
  rcases vx_callVX X hx (C := C) (hh := hh) (bytes := bytes) (maxL := maxL) (ret := ret) ho hl hin hse hcode hy hK (by rw [hT]; exact hcB) hoB hclB hg (hsize.trans hml.symm) (argsL := As) (rest := rest) (fun sig h => hn.trans (hlen sig h)) hstack hW (by rw [hb]; exact hdg)
    (fun vm₁ hW₁ => ⟨hf.1, hf.2, hPc (T.setVm vm₁) hT hW₁⟩) with ⟨v, vm₁, ⟨U', l2, c2, s2⟩, hW₁, X', ⟨g', mk, t, L, e1, e2, hq, h1, hL, h2, h3⟩, st⟩ | ⟨q, vm₁, ⟨U', l2, c2, s2⟩, hW₁, X', ⟨g', mk, t, L, E, ce, e1, e2, hq, hce, hcv, hcl, h1, hL, h2, h3⟩, st⟩
  · dsimp only [Pt.U, Pt.locs, Pt.cells, Pt.slots] at X' e1 e2 h1 h2 h3 st
    subst h1; subst h2; subst h3
    exact Or.inl ⟨v, (T.setVm vm₁).calling g' mk (Value.ref b :: As).toArray, t, U', L, hT, X', hL, e1, e2, hq, st⟩
  · dsimp only [Pt.U, Pt.locs, Pt.cells, Pt.slots] at X' e1 e2 h1 h2 h3 st hcl
    subst h1; subst h2; subst h3
    exact Or.inr ⟨q, (T.setVm vm₁).calling g' mk (Value.ref b :: As).toArray, t, U', L, E, ce, hT, X', hL, e1, e2, hq, hce, hcv, vx_cls hW₁ hcl, st⟩
theorem vx_runSX {hh : List (Nat × Nat × Nat × Nat)} (S : CallFix p m c cc nL s args Ts own) (hM : vx_Met l y ws rm Pc Qc XC mc ms free) (cw : vx_CSW R s args own index y bytes maxL ret hh ws rm mc ms n) (hp : PreS s H Pc As)
    (hg : g.method = m) (hn : As.length = n) (hsize : g.locals.size = nL) (hstack : g.stack = As.reverse ++ rest) (hW : 2 * g.monitorRoom + (rest.map fun v => v.category).sum ≤ 8) (hdg : decode cc g.pc = .ok (.invokestatic index, 3)) (hf : cells + mc ≤ R.cells ∧ slots + ms ≤ R.slots) :
    vx_Run p l e R s m args below meth c H locs cells slots mc ms g rest (Qc As.toArray) XC free := by
  obtain ⟨⟨hrc, hrs, hfr, hlo, hws, hcw⟩, hcode, hini, hy, hlen, hl, hstt⟩ := cw
  have hK : vx_Back l R p e below s args y 3 8 (PreOf R mc ms Pc) (PostOf Qc mc ms free) (vx_Post XC mc ms free) := vx_backW (hh := hh) (bytes := bytes) (maxL := maxL) (ret := ret) hM hp.1 hrc hrs hfr hlo hws hcw (fun a' U hW => word_at hW (Or.inl (by first | rfl | simp [Cond.onTables, Cond.keeps, Cond.steady])) hini)
  obtain ⟨hx, hb, hml, ho, -⟩ := S
  intro T hT X
  rcases vx_callSX X hx (hh := hh) (bytes := bytes) (maxL := maxL) (ret := ret) ho hl hstt hini hcode hy hK hg (hsize.trans hml.symm) (argsL := As) (rest := rest) (fun sig h => hn.trans (hlen sig h)) hstack hW (by rw [hb]; exact hdg)
    (fun vm₁ hW₁ => ⟨hf.1, hf.2, hp.2 (T.setVm vm₁) hT hW₁⟩) with ⟨v, vm₁, ⟨U', l2, c2, s2⟩, hW₁, X', ⟨g', mk, t, L, e1, e2, hq, h1, hL, h2, h3⟩, st⟩ | ⟨q, vm₁, ⟨U', l2, c2, s2⟩, hW₁, X', ⟨g', mk, t, L, E, ce, e1, e2, hq, hce, hcv, hcl, h1, hL, h2, h3⟩, st⟩
  · dsimp only [Pt.U, Pt.locs, Pt.cells, Pt.slots] at X' e1 e2 h1 h2 h3 st
    subst h1; subst h2; subst h3
    exact Or.inl ⟨v, (T.setVm vm₁).calling g' mk As.toArray, t, U', L, hT, X', hL, e1, e2, hq, st⟩
  · dsimp only [Pt.U, Pt.locs, Pt.cells, Pt.slots] at X' e1 e2 h1 h2 h3 st hcl
    subst h1; subst h2; subst h3
    exact Or.inr ⟨q, (T.setVm vm₁).calling g' mk As.toArray, t, U', L, E, ce, hT, X', hL, e1, e2, hq, hce, hcv, vx_cls hW₁ hcl, st⟩
end
end VXH
theorem vx_ofWH {l : Launch} {y : MethodName} {ws ws' : List Cond} {rm : Room} {Pc : Array Value → State → Prop} {Qc : Array Value → State → Outcome → State → Prop} {XC : String → State → State → Prop} {mc ms : Nat} {free : Addr → Prop} {cc : ByteArray} {maxL : Nat} {ret : Option FieldType} {hh : List (Nat × Nat × Nat × Nat)}
    (hy : plainName y.cls = true) (hw : ws = Cond.codeWith y cc maxL ret hh :: ws')
    (body : ∀ p e s m args below meth c s₁, BodyLoose p l y (headSpec ws rm) cc maxL ret e s m args below meth c s₁ → c.maxLocals = maxL → Pc args s →
      W p l e (headSpec ws rm).room s m args below meth c s.heap [] 0 0 (vx_MQ below Qc XC args s mc ms free) (entryFrame m args maxL)) : vx_Met l y ws rm Pc Qc XC mc ms free := by
  refine MetFree.of_bodyS (code := cc) (maxLocals := maxL) (ret := ret) hy ?_ ?_
  · intro args s m h hn
    obtain ⟨m9, meth, c, hn9, h1, h2, h3, h4, -, h5, h6, -⟩ := Cond.codeWith_spec (atoms_spec (ws := ws) h _ (by rw [hw]; exact List.mem_cons_self))
    cases hn.symm.trans hn9
    exact ⟨meth, c, h1, h2, h3, h4, h5, h6⟩
  · intro p e s m args below meth c s₁ B hml hP _
    have hh0 : s₁.heap = s.heap := by rw [B.state]; rfl
    obtain ⟨t, a1, o, b1, b2, b3⟩ := body p e s m args below meth c s₁ B hml hP s₁ hh0 (Stand.of_body B)
    exact ⟨t, o, a1, b1, b2, b3⟩
/-! ===== END ===== -/

/-! ===== BEGIN printed: names, fields, word lists, decode rows ===== -/
def RX0 : String := "RoamingHouse$Call"
def TX0 : u_T := fun k => match k with
  | 0 => ("RoamingHouse$Call", "file", "LRoamingHouse$CallFile;", true)
  | 1 => ("RoamingHouse$Call", "seconds", "I", true)
  | 2 => ("RoamingHouse$Call", "told", "I", true)
  | 3 => ("RoamingHouse$Call", "state", "I", false)
  | 4 => ("RoamingHouse$Call", "acceptedIn", "I", false)
  | 5 => ("RoamingHouse$Call", "disputedIn", "I", false)
  | _ => ("RoamingHouse$Call", "secondsAhead", "I", false)
def tyX0 : Nat → FieldType := fun k => match k with
  | 0 => .object "RoamingHouse$CallFile"
  | 1 => .int
  | 2 => .int
  | 3 => .int
  | 4 => .int
  | 5 => .int
  | _ => .int
abbrev wsX00 : List Cond := u_ws RX0 TX0 7
theorem nmX0 : ∀ a, a < 7 → ∀ b, b < 7 → a ≠ b → (TX0 a).2.1 ≠ (TX0 b).2.1 := by decide +kernel
theorem tyX0_ok : ∀ k, k < 7 → parseFieldDescriptor (TX0 k).2.2.1 = some (tyX0 k) := by decide +kernel
abbrev cX0_init : ByteArray := prog_2_method_1_code
def yX0_init : MethodName := ⟨RX0, "<init>", "(LRoamingHouse$CallFile;II)V"⟩
abbrev cX0_isRight : ByteArray := prog_2_method_2_code
def yX0_isRight : MethodName := ⟨RX0, "isRight", "()Z"⟩
abbrev cX0_acceptIn : ByteArray := prog_2_method_3_code
def yX0_acceptIn : MethodName := ⟨RX0, "acceptIn", "(I)V"⟩
abbrev cX0_amount : ByteArray := prog_2_method_4_code
def yX0_amount : MethodName := ⟨RX0, "amount", "()I"⟩
def RX1 : String := "RoamingHouse$CallFile"
def TX1 : u_T := fun k => match k with
  | 0 => ("RoamingHouse$CallFile", "pair", "LRoamingHouse$Pair;", true)
  | 1 => ("RoamingHouse$CallFile", "begunIn", "I", true)
  | 2 => ("RoamingHouse$CallFile", "state", "I", false)
  | 3 => ("RoamingHouse$CallFile", "size", "I", false)
  | _ => ("RoamingHouse$CallFile", "number", "I", false)
def tyX1 : Nat → FieldType := fun k => match k with
  | 0 => .object "RoamingHouse$Pair"
  | 1 => .int
  | 2 => .int
  | 3 => .int
  | _ => .int
abbrev wsX10 : List Cond := u_ws RX1 TX1 5
theorem nmX1 : ∀ a, a < 5 → ∀ b, b < 5 → a ≠ b → (TX1 a).2.1 ≠ (TX1 b).2.1 := by decide +kernel
theorem tyX1_ok : ∀ k, k < 5 → parseFieldDescriptor (TX1 k).2.2.1 = some (tyX1 k) := by decide +kernel
abbrev cX1_init : ByteArray := prog_3_method_1_code
def yX1_init : MethodName := ⟨RX1, "<init>", "(LRoamingHouse$Pair;I)V"⟩
def RX2 : String := "RoamingHouse$Operator"
def TX2 : u_T := fun k => match k with
  | 0 => ("RoamingHouse$Operator", "step", "I", false)
  | 1 => ("RoamingHouse$Operator", "price", "I", false)
  | 2 => ("RoamingHouse$Operator", "beginning", "I", false)
  | _ => ("RoamingHouse$Operator", "unitRate", "I", false)
def tyX2 : Nat → FieldType := fun k => match k with
  | 0 => .int
  | 1 => .int
  | 2 => .int
  | _ => .int
abbrev wsX20 : List Cond := u_ws RX2 TX2 4
theorem nmX2 : ∀ a, a < 4 → ∀ b, b < 4 → a ≠ b → (TX2 a).2.1 ≠ (TX2 b).2.1 := by decide +kernel
theorem tyX2_ok : ∀ k, k < 4 → parseFieldDescriptor (TX2 k).2.2.1 = some (tyX2 k) := by decide +kernel
abbrev cX2_init : ByteArray := prog_4_method_1_code
def yX2_init : MethodName := ⟨RX2, "<init>", "()V"⟩
abbrev cX2_chargeFor : ByteArray := prog_4_method_2_code
def yX2_chargeFor : MethodName := ⟨RX2, "chargeFor", "(I)I"⟩
def RX3 : String := "RoamingHouse$Pair"
def TX3 : u_T := fun k => match k with
  | 0 => ("RoamingHouse$Pair", "host", "LRoamingHouse$Operator;", true)
  | 1 => ("RoamingHouse$Pair", "expectedNumber", "I", false)
  | 2 => ("RoamingHouse$Pair", "promised", "I", false)
  | 3 => ("RoamingHouse$Pair", "volume", "I", false)
  | 4 => ("RoamingHouse$Pair", "discountRate", "I", false)
  | 5 => ("RoamingHouse$Pair", "goesBack", "Z", false)
  | _ => ("RoamingHouse$Pair", "acceptedSeconds", "[I", true)
def tyX3 : Nat → FieldType := fun k => match k with
  | 0 => .object "RoamingHouse$Operator"
  | 1 => .int
  | 2 => .int
  | 3 => .int
  | 4 => .int
  | 5 => .boolean
  | _ => .array .int
abbrev wsX30 : List Cond := u_ws RX3 TX3 7
theorem nmX3 : ∀ a, a < 7 → ∀ b, b < 7 → a ≠ b → (TX3 a).2.1 ≠ (TX3 b).2.1 := by decide +kernel
theorem tyX3_ok : ∀ k, k < 7 → parseFieldDescriptor (TX3 k).2.2.1 = some (tyX3 k) := by decide +kernel
abbrev cX3_init : ByteArray := prog_5_method_1_code
def yX3_init : MethodName := ⟨RX3, "<init>", "(LRoamingHouse$Operator;)V"⟩
abbrev cX3_discounts : ByteArray := prog_5_method_2_code
def yX3_discounts : MethodName := ⟨RX3, "discounts", "(II)Z"⟩
def RX4 : String := "RoamingHouse"
def TX4 : u_T := fun k => match k with
  | 0 => ("RoamingHouse", "operators", "[LRoamingHouse$Operator;", true)
  | 1 => ("RoamingHouse", "pairs", "[LRoamingHouse$Pair;", true)
  | 2 => ("RoamingHouse", "fileRows", "[LRoamingHouse$CallFile;", true)
  | 3 => ("RoamingHouse", "fileCount", "I", false)
  | 4 => ("RoamingHouse", "callRows", "[LRoamingHouse$Call;", true)
  | 5 => ("RoamingHouse", "callCount", "I", false)
  | _ => ("RoamingHouse", "now", "I", false)
def tyX4 : Nat → FieldType := fun k => match k with
  | 0 => .array (.object "RoamingHouse$Operator")
  | 1 => .array (.object "RoamingHouse$Pair")
  | 2 => .array (.object "RoamingHouse$CallFile")
  | 3 => .int
  | 4 => .array (.object "RoamingHouse$Call")
  | 5 => .int
  | _ => .int
abbrev wsX40 : List Cond := u_ws RX4 TX4 7
theorem nmX4 : ∀ a, a < 7 → ∀ b, b < 7 → a ≠ b → (TX4 a).2.1 ≠ (TX4 b).2.1 := by decide +kernel
theorem tyX4_ok : ∀ k, k < 7 → parseFieldDescriptor (TX4 k).2.2.1 = some (tyX4 k) := by decide +kernel
abbrev cX4_init : ByteArray := prog_1_method_1_code
def yX4_init : MethodName := ⟨RX4, "<init>", "()V"⟩
abbrev cX4_setTariff : ByteArray := prog_1_method_2_code
def yX4_setTariff : MethodName := ⟨RX4, "setTariff", "(IIII)I"⟩
abbrev cX4_charge : ByteArray := prog_1_method_3_code
def yX4_charge : MethodName := ⟨RX4, "charge", "(II)I"⟩
abbrev cX4_begin : ByteArray := prog_1_method_4_code
def yX4_begin : MethodName := ⟨RX4, "begin", "(II)I"⟩
abbrev cX4_enter : ByteArray := prog_1_method_5_code
def yX4_enter : MethodName := ⟨RX4, "enter", "(III)I"⟩
abbrev cX4_send : ByteArray := prog_1_method_6_code
def yX4_send : MethodName := ⟨RX4, "send", "(II)I"⟩
abbrev cX4_stateOf : ByteArray := prog_1_method_7_code
def yX4_stateOf : MethodName := ⟨RX4, "stateOf", "(I)I"⟩
abbrev cX4_expected : ByteArray := prog_1_method_8_code
def yX4_expected : MethodName := ⟨RX4, "expected", "(II)I"⟩
abbrev cX4_lacking : ByteArray := prog_1_method_9_code
def yX4_lacking : MethodName := ⟨RX4, "lacking", "(II)I"⟩
abbrev cX4_calls : ByteArray := prog_1_method_10_code
def yX4_calls : MethodName := ⟨RX4, "calls", "()I"⟩
abbrev cX4_call : ByteArray := prog_1_method_11_code
def yX4_call : MethodName := ⟨RX4, "call", "(I)I"⟩
abbrev cX4_monthOf : ByteArray := prog_1_method_12_code
def yX4_monthOf : MethodName := ⟨RX4, "monthOf", "(I)I"⟩
abbrev cX4_owedFor : ByteArray := prog_1_method_13_code
def yX4_owedFor : MethodName := ⟨RX4, "owedFor", "(I)I"⟩
abbrev cX4_dispute : ByteArray := prog_1_method_14_code
def yX4_dispute : MethodName := ⟨RX4, "dispute", "(I)V"⟩
abbrev cX4_answer : ByteArray := prog_1_method_15_code
def yX4_answer : MethodName := ⟨RX4, "answer", "(IZ)V"⟩
abbrev cX4_agree : ByteArray := prog_1_method_16_code
def yX4_agree : MethodName := ⟨RX4, "agree", "(IIIIZ)V"⟩
abbrev cX4_promise : ByteArray := prog_1_method_17_code
def yX4_promise : MethodName := ⟨RX4, "promise", "(III)I"⟩
abbrev cX4_setRate : ByteArray := prog_1_method_18_code
def yX4_setRate : MethodName := ⟨RX4, "setRate", "(II)I"⟩
abbrev cX4_nextMonth : ByteArray := prog_1_method_19_code
def yX4_nextMonth : MethodName := ⟨RX4, "nextMonth", "()I"⟩
abbrev cX4_month : ByteArray := prog_1_method_20_code
def yX4_month : MethodName := ⟨RX4, "month", "()I"⟩
abbrev cX4_owed : ByteArray := prog_1_method_21_code
def yX4_owed : MethodName := ⟨RX4, "owed", "(III)J"⟩
abbrev cX4_shortfall : ByteArray := prog_1_method_22_code
def yX4_shortfall : MethodName := ⟨RX4, "shortfall", "(III)J"⟩
abbrev cX4_net : ByteArray := prog_1_method_23_code
def yX4_net : MethodName := ⟨RX4, "net", "(II)J"⟩
abbrev cX4_isOperator : ByteArray := prog_1_method_24_code
def yX4_isOperator : MethodName := ⟨RX4, "isOperator", "(I)Z"⟩
abbrev cX4_yearOf : ByteArray := prog_1_method_25_code
def yX4_yearOf : MethodName := ⟨RX4, "yearOf", "(I)I"⟩
abbrev cX4_refuseOutside : ByteArray := prog_1_method_26_code
def yX4_refuseOutside : MethodName := ⟨RX4, "refuseOutside", "(III)V"⟩
abbrev cX4_operatorAt : ByteArray := prog_1_method_27_code
def yX4_operatorAt : MethodName := ⟨RX4, "operatorAt", "(I)LRoamingHouse$Operator;"⟩
abbrev cX4_pairAt : ByteArray := prog_1_method_28_code
def yX4_pairAt : MethodName := ⟨RX4, "pairAt", "(II)LRoamingHouse$Pair;"⟩
abbrev cX4_fileAt : ByteArray := prog_1_method_29_code
def yX4_fileAt : MethodName := ⟨RX4, "fileAt", "(I)LRoamingHouse$CallFile;"⟩
abbrev cX4_callAt : ByteArray := prog_1_method_30_code
def yX4_callAt : MethodName := ⟨RX4, "callAt", "(I)LRoamingHouse$Call;"⟩
abbrev cX4_waitingFile : ByteArray := prog_1_method_31_code
def yX4_waitingFile : MethodName := ⟨RX4, "waitingFile", "(LRoamingHouse$Pair;I)LRoamingHouse$CallFile;"⟩
abbrev cX4_lookAtAllFrom : ByteArray := prog_1_method_32_code
def yX4_lookAtAllFrom : MethodName := ⟨RX4, "lookAtAllFrom", "(LRoamingHouse$CallFile;)V"⟩
abbrev cX4_lookAt : ByteArray := prog_1_method_33_code
def yX4_lookAt : MethodName := ⟨RX4, "lookAt", "(LRoamingHouse$CallFile;)V"⟩
abbrev cX4_wrongCallsOf : ByteArray := prog_1_method_34_code
def yX4_wrongCallsOf : MethodName := ⟨RX4, "wrongCallsOf", "(LRoamingHouse$CallFile;)I"⟩
abbrev cX4_acceptRightCallsOf : ByteArray := prog_1_method_35_code
def yX4_acceptRightCallsOf : MethodName := ⟨RX4, "acceptRightCallsOf", "(LRoamingHouse$CallFile;)V"⟩
abbrev cX4_giveBackUnanswered : ByteArray := prog_1_method_36_code
def yX4_giveBackUnanswered : MethodName := ⟨RX4, "giveBackUnanswered", "()V"⟩
abbrev cX4_amountOfMonths : ByteArray := prog_1_method_37_code
def yX4_amountOfMonths : MethodName := ⟨RX4, "amountOfMonths", "(LRoamingHouse$Pair;II)J"⟩
abbrev cX4_unitsOfMonth : ByteArray := prog_1_method_38_code
def yX4_unitsOfMonth : MethodName := ⟨RX4, "unitsOfMonth", "(LRoamingHouse$Pair;I)J"⟩
def RX5 : String := "RoamingHouseModel"
def TX5 : u_T := fun k => match k with
  | 0 => ("RoamingHouseModel", "steps", "[I", true)
  | 1 => ("RoamingHouseModel", "prices", "[I", true)
  | 2 => ("RoamingHouseModel", "beginnings", "[I", true)
  | 3 => ("RoamingHouseModel", "rates", "[I", true)
  | 4 => ("RoamingHouseModel", "fileMany", "I", false)
  | 5 => ("RoamingHouseModel", "pairOf", "[I", true)
  | 6 => ("RoamingHouseModel", "fileMonths", "[I", true)
  | 7 => ("RoamingHouseModel", "fileStates", "[I", true)
  | 8 => ("RoamingHouseModel", "sentAs", "[I", true)
  | 9 => ("RoamingHouseModel", "callMany", "I", false)
  | 10 => ("RoamingHouseModel", "fileOf", "[I", true)
  | 11 => ("RoamingHouseModel", "secondsOf", "[I", true)
  | 12 => ("RoamingHouseModel", "charges", "[I", true)
  | 13 => ("RoamingHouseModel", "callStates", "[I", true)
  | 14 => ("RoamingHouseModel", "months", "[I", true)
  | 15 => ("RoamingHouseModel", "disputedIn", "[I", true)
  | 16 => ("RoamingHouseModel", "acceptedMany", "I", false)
  | 17 => ("RoamingHouseModel", "accepted", "[I", true)
  | 18 => ("RoamingHouseModel", "expects", "[I", true)
  | 19 => ("RoamingHouseModel", "hasAgreement", "[Z", true)
  | 20 => ("RoamingHouseModel", "volumes", "[I", true)
  | 21 => ("RoamingHouseModel", "discounts", "[I", true)
  | 22 => ("RoamingHouseModel", "goesBack", "[Z", true)
  | 23 => ("RoamingHouseModel", "promises", "[I", true)
  | 24 => ("RoamingHouseModel", "now", "I", false)
  | _ => ("RoamingHouseModel", "thrown", "I", false)
def tyX5 : Nat → FieldType := fun k => match k with
  | 0 => .array .int
  | 1 => .array .int
  | 2 => .array .int
  | 3 => .array .int
  | 4 => .int
  | 5 => .array .int
  | 6 => .array .int
  | 7 => .array .int
  | 8 => .array .int
  | 9 => .int
  | 10 => .array .int
  | 11 => .array .int
  | 12 => .array .int
  | 13 => .array .int
  | 14 => .array .int
  | 15 => .array .int
  | 16 => .int
  | 17 => .array .int
  | 18 => .array .int
  | 19 => .array .boolean
  | 20 => .array .int
  | 21 => .array .int
  | 22 => .array .boolean
  | 23 => .array .int
  | 24 => .int
  | _ => .int
abbrev wsX50 : List Cond := u_ws RX5 TX5 26
theorem nmX5 : ∀ a, a < 26 → ∀ b, b < 26 → a ≠ b → (TX5 a).2.1 ≠ (TX5 b).2.1 := by decide +kernel
theorem tyX5_ok : ∀ k, k < 26 → parseFieldDescriptor (TX5 k).2.2.1 = some (tyX5 k) := by decide +kernel
abbrev cX5_init : ByteArray := prog_7_method_1_code
def yX5_init : MethodName := ⟨RX5, "<init>", "()V"⟩
abbrev cX5_thrown : ByteArray := prog_7_method_2_code
def yX5_thrown : MethodName := ⟨RX5, "thrown", "()I"⟩
abbrev cX5_in : ByteArray := prog_7_method_3_code
def yX5_in : MethodName := ⟨RX5, "in", "(III)Z"⟩
abbrev cX5_isOperator : ByteArray := prog_7_method_4_code
def yX5_isOperator : MethodName := ⟨RX5, "isOperator", "(I)Z"⟩
abbrev cX5_isPair : ByteArray := prog_7_method_5_code
def yX5_isPair : MethodName := ⟨RX5, "isPair", "(IIZ)Z"⟩
abbrev cX5_isFile : ByteArray := prog_7_method_6_code
def yX5_isFile : MethodName := ⟨RX5, "isFile", "(I)Z"⟩
abbrev cX5_isCall : ByteArray := prog_7_method_7_code
def yX5_isCall : MethodName := ⟨RX5, "isCall", "(I)Z"⟩
abbrev cX5_setTariff : ByteArray := prog_7_method_8_code
def yX5_setTariff : MethodName := ⟨RX5, "setTariff", "(IIII)I"⟩
abbrev cX5_chargeFor : ByteArray := prog_7_method_9_code
def yX5_chargeFor : MethodName := ⟨RX5, "chargeFor", "(II)I"⟩
abbrev cX5_charge : ByteArray := prog_7_method_10_code
def yX5_charge : MethodName := ⟨RX5, "charge", "(II)I"⟩
abbrev cX5_begin : ByteArray := prog_7_method_11_code
def yX5_begin : MethodName := ⟨RX5, "begin", "(II)I"⟩
abbrev cX5_enter : ByteArray := prog_7_method_12_code
def yX5_enter : MethodName := ⟨RX5, "enter", "(III)I"⟩
abbrev cX5_isRight : ByteArray := prog_7_method_13_code
def yX5_isRight : MethodName := ⟨RX5, "isRight", "(I)Z"⟩
abbrev cX5_callsOf : ByteArray := prog_7_method_14_code
def yX5_callsOf : MethodName := ⟨RX5, "callsOf", "(IZ)I"⟩
abbrev cX5_lookAt : ByteArray := prog_7_method_15_code
def yX5_lookAt : MethodName := ⟨RX5, "lookAt", "(I)V"⟩
abbrev cX5_waiting : ByteArray := prog_7_method_16_code
def yX5_waiting : MethodName := ⟨RX5, "waiting", "(II)I"⟩
abbrev cX5_send : ByteArray := prog_7_method_17_code
def yX5_send : MethodName := ⟨RX5, "send", "(II)I"⟩
abbrev cX5_stateOf : ByteArray := prog_7_method_18_code
def yX5_stateOf : MethodName := ⟨RX5, "stateOf", "(I)I"⟩
abbrev cX5_expected : ByteArray := prog_7_method_19_code
def yX5_expected : MethodName := ⟨RX5, "expected", "(II)I"⟩
abbrev cX5_lacking : ByteArray := prog_7_method_20_code
def yX5_lacking : MethodName := ⟨RX5, "lacking", "(II)I"⟩
abbrev cX5_calls : ByteArray := prog_7_method_21_code
def yX5_calls : MethodName := ⟨RX5, "calls", "()I"⟩
abbrev cX5_call : ByteArray := prog_7_method_22_code
def yX5_call : MethodName := ⟨RX5, "call", "(I)I"⟩
abbrev cX5_monthOf : ByteArray := prog_7_method_23_code
def yX5_monthOf : MethodName := ⟨RX5, "monthOf", "(I)I"⟩
abbrev cX5_secondsAhead : ByteArray := prog_7_method_24_code
def yX5_secondsAhead : MethodName := ⟨RX5, "secondsAhead", "(III)I"⟩
abbrev cX5_placeOf : ByteArray := prog_7_method_25_code
def yX5_placeOf : MethodName := ⟨RX5, "placeOf", "(I)I"⟩
abbrev cX5_owedOf : ByteArray := prog_7_method_26_code
def yX5_owedOf : MethodName := ⟨RX5, "owedOf", "(I)I"⟩
abbrev cX5_owedFor : ByteArray := prog_7_method_27_code
def yX5_owedFor : MethodName := ⟨RX5, "owedFor", "(I)I"⟩
abbrev cX5_dispute : ByteArray := prog_7_method_28_code
def yX5_dispute : MethodName := ⟨RX5, "dispute", "(I)V"⟩
abbrev cX5_answer : ByteArray := prog_7_method_29_code
def yX5_answer : MethodName := ⟨RX5, "answer", "(IZ)V"⟩
abbrev cX5_agree : ByteArray := prog_7_method_30_code
def yX5_agree : MethodName := ⟨RX5, "agree", "(IIIIZ)V"⟩
abbrev cX5_promise : ByteArray := prog_7_method_31_code
def yX5_promise : MethodName := ⟨RX5, "promise", "(III)I"⟩
abbrev cX5_setRate : ByteArray := prog_7_method_32_code
def yX5_setRate : MethodName := ⟨RX5, "setRate", "(II)I"⟩
abbrev cX5_nextMonth : ByteArray := prog_7_method_33_code
def yX5_nextMonth : MethodName := ⟨RX5, "nextMonth", "()I"⟩
abbrev cX5_month : ByteArray := prog_7_method_34_code
def yX5_month : MethodName := ⟨RX5, "month", "()I"⟩
abbrev cX5_owedIn : ByteArray := prog_7_method_35_code
def yX5_owedIn : MethodName := ⟨RX5, "owedIn", "(III)J"⟩
abbrev cX5_owed : ByteArray := prog_7_method_36_code
def yX5_owed : MethodName := ⟨RX5, "owed", "(III)J"⟩
abbrev cX5_shortfall : ByteArray := prog_7_method_37_code
def yX5_shortfall : MethodName := ⟨RX5, "shortfall", "(III)J"⟩
abbrev cX5_unitsOf : ByteArray := prog_7_method_38_code
def yX5_unitsOf : MethodName := ⟨RX5, "unitsOf", "(III)J"⟩
abbrev cX5_net : ByteArray := prog_7_method_39_code
def yX5_net : MethodName := ⟨RX5, "net", "(II)J"⟩
def RJ9 : String := "java/lang/Math"
def TJ9 : u_T := fun k => match k with
  | _ => ("", "", "", false)
def tyJ9 : Nat → FieldType := fun k => match k with
  | _ => .int
abbrev wsJ90 : List Cond := u_ws RJ9 TJ9 0
theorem nmJ9 : ∀ a, a < 0 → ∀ b, b < 0 → a ≠ b → (TJ9 a).2.1 ≠ (TJ9 b).2.1 := by decide +kernel
theorem tyJ9_ok : ∀ k, k < 0 → parseFieldDescriptor (TJ9 k).2.2.1 = some (tyJ9 k) := by decide +kernel
abbrev cJ9_max_7cf53 : ByteArray := prog_12_method_65_code
def yJ9_max_7cf53 : MethodName := ⟨RJ9, "max", "(II)I"⟩
abbrev cJ9_max_f86c9 : ByteArray := prog_12_method_66_code
def yJ9_max_f86c9 : MethodName := ⟨RJ9, "max", "(JJ)J"⟩
def RJ0 : String := "java/lang/String"
def TJ0 : u_T := fun k => match k with
  | _ => ("", "", "", false)
def tyJ0 : Nat → FieldType := fun k => match k with
  | _ => .int
abbrev wsJ00 : List Cond := u_ws RJ0 TJ0 0
theorem nmJ0 : ∀ a, a < 0 → ∀ b, b < 0 → a ≠ b → (TJ0 a).2.1 ≠ (TJ0 b).2.1 := by decide +kernel
theorem tyJ0_ok : ∀ k, k < 0 → parseFieldDescriptor (TJ0 k).2.2.1 = some (tyJ0 k) := by decide +kernel
def RL : String := "RoamingHouseLaw"
abbrev cL_setTariff : ByteArray := method_3_code
def yL_setTariff : MethodName := ⟨RL, "setTariff", "(LRoamingHouse;IIII[J)I"⟩
abbrev cL_charge : ByteArray := method_4_code
def yL_charge : MethodName := ⟨RL, "charge", "(LRoamingHouse;II[J)I"⟩
abbrev cL_begin : ByteArray := method_5_code
def yL_begin : MethodName := ⟨RL, "begin", "(LRoamingHouse;II[J)I"⟩
abbrev cL_enter : ByteArray := method_6_code
def yL_enter : MethodName := ⟨RL, "enter", "(LRoamingHouse;III[J)I"⟩
abbrev cL_send : ByteArray := method_7_code
def yL_send : MethodName := ⟨RL, "send", "(LRoamingHouse;II[J)I"⟩
abbrev cL_stateOf : ByteArray := method_8_code
def yL_stateOf : MethodName := ⟨RL, "stateOf", "(LRoamingHouse;I[J)I"⟩
abbrev cL_expected : ByteArray := method_9_code
def yL_expected : MethodName := ⟨RL, "expected", "(LRoamingHouse;II[J)I"⟩
abbrev cL_lacking : ByteArray := method_10_code
def yL_lacking : MethodName := ⟨RL, "lacking", "(LRoamingHouse;II[J)I"⟩
abbrev cL_call : ByteArray := method_11_code
def yL_call : MethodName := ⟨RL, "call", "(LRoamingHouse;I[J)I"⟩
abbrev cL_monthOf : ByteArray := method_12_code
def yL_monthOf : MethodName := ⟨RL, "monthOf", "(LRoamingHouse;I[J)I"⟩
abbrev cL_owedFor : ByteArray := method_13_code
def yL_owedFor : MethodName := ⟨RL, "owedFor", "(LRoamingHouse;I[J)I"⟩
abbrev cL_dispute : ByteArray := method_14_code
def yL_dispute : MethodName := ⟨RL, "dispute", "(LRoamingHouse;I)I"⟩
abbrev cL_answer : ByteArray := method_15_code
def yL_answer : MethodName := ⟨RL, "answer", "(LRoamingHouse;IZ)I"⟩
abbrev cL_agree : ByteArray := method_16_code
def yL_agree : MethodName := ⟨RL, "agree", "(LRoamingHouse;IIIIZ)I"⟩
abbrev cL_promise : ByteArray := method_17_code
def yL_promise : MethodName := ⟨RL, "promise", "(LRoamingHouse;III[J)I"⟩
abbrev cL_setRate : ByteArray := method_18_code
def yL_setRate : MethodName := ⟨RL, "setRate", "(LRoamingHouse;II[J)I"⟩
abbrev cL_nextMonth : ByteArray := method_19_code
def yL_nextMonth : MethodName := ⟨RL, "nextMonth", "(LRoamingHouse;[J)I"⟩
abbrev cL_owed : ByteArray := method_20_code
def yL_owed : MethodName := ⟨RL, "owed", "(LRoamingHouse;III[J)I"⟩
abbrev cL_shortfall : ByteArray := method_21_code
def yL_shortfall : MethodName := ⟨RL, "shortfall", "(LRoamingHouse;III[J)I"⟩
abbrev cL_net : ByteArray := method_22_code
def yL_net : MethodName := ⟨RL, "net", "(LRoamingHouse;II[J)I"⟩
abbrev cL_law : ByteArray := code
def yL_law : MethodName := ⟨RL, "law", "([I)Z"⟩
def wsX0_init : List Cond := .code yX0_init cX0_init 4 none :: ([.methodLink RX0 3 objectInit, .instanceMethod objectInit, .code objectInit ⟨#[0xb1]⟩ 1 none, .fieldLink RX0 9 "RoamingHouse$Call" "state" "I", .fieldLink RX0 15 "RoamingHouse$Call" "acceptedIn" "I", .fieldLink RX0 18 "RoamingHouse$Call" "disputedIn" "I", .fieldLink RX0 21 "RoamingHouse$Call" "secondsAhead" "I", .fieldLink RX0 24 "RoamingHouse$Call" "file" "LRoamingHouse$CallFile;", .fieldLink RX0 28 "RoamingHouse$Call" "seconds" "I", .fieldLink RX0 31 "RoamingHouse$Call" "told" "I"] ++ wsX00)
def wsX2_chargeFor : List Cond := .code yX2_chargeFor cX2_chargeFor 3 (some .int) :: ([.fieldLink RX2 9 "RoamingHouse$Operator" "step" "I", .fieldLink RX2 18 "RoamingHouse$Operator" "beginning" "I", .fieldLink RX2 15 "RoamingHouse$Operator" "price" "I"] ++ wsX20)
def wsX0_isRight : List Cond := .code yX0_isRight cX0_isRight 1 (some .boolean) :: ([.fieldLink RX0 31 "RoamingHouse$Call" "told" "I", .fieldLink RX0 24 "RoamingHouse$Call" "file" "LRoamingHouse$CallFile;", .fieldLink RX0 34 "RoamingHouse$CallFile" "pair" "LRoamingHouse$Pair;", .fieldLink RX0 40 "RoamingHouse$Pair" "host" "LRoamingHouse$Operator;", .fieldLink RX0 28 "RoamingHouse$Call" "seconds" "I", .methodLink RX0 46 yX2_chargeFor, .instanceMethod yX2_chargeFor, .selects RX2 yX2_chargeFor yX2_chargeFor, .initialized RX2, .code yX2_chargeFor cX2_chargeFor 3 (some .int), .fieldLink RX2 9 "RoamingHouse$Operator" "step" "I", .fieldLink RX2 18 "RoamingHouse$Operator" "beginning" "I", .fieldLink RX2 15 "RoamingHouse$Operator" "price" "I"] ++ wsX00 ++ wsX10 ++ wsX30 ++ wsX20)
def wsX4_yearOf : List Cond := .code yX4_yearOf cX4_yearOf 1 (some .int) :: ([])
def wsX0_acceptIn : List Cond := .code yX0_acceptIn cX0_acceptIn 3 none :: ([.fieldLink RX0 9 "RoamingHouse$Call" "state" "I", .fieldLink RX0 15 "RoamingHouse$Call" "acceptedIn" "I", .fieldLink RX0 24 "RoamingHouse$Call" "file" "LRoamingHouse$CallFile;", .fieldLink RX0 34 "RoamingHouse$CallFile" "pair" "LRoamingHouse$Pair;", .fieldLink RX0 55 "RoamingHouse$Pair" "acceptedSeconds" "[I", .fieldLink RX0 21 "RoamingHouse$Call" "secondsAhead" "I", .fieldLink RX0 28 "RoamingHouse$Call" "seconds" "I", .static yX4_yearOf, .initialized RX4, .code yX4_yearOf cX4_yearOf 1 (some .int)] ++ wsX00 ++ wsX10 ++ wsX30)
def wsX3_discounts : List Cond := .code yX3_discounts cX3_discounts 3 (some .boolean) :: ([.fieldLink RX3 24 "RoamingHouse$Pair" "goesBack" "Z", .fieldLink RX3 28 "RoamingHouse$Pair" "acceptedSeconds" "[I", .fieldLink RX3 18 "RoamingHouse$Pair" "volume" "I"] ++ wsX30)
def wsX0_amount : List Cond := .code yX0_amount cX0_amount 1 (some .int) :: ([.fieldLink RX0 9 "RoamingHouse$Call" "state" "I", .fieldLink RX0 24 "RoamingHouse$Call" "file" "LRoamingHouse$CallFile;", .fieldLink RX0 34 "RoamingHouse$CallFile" "pair" "LRoamingHouse$Pair;", .fieldLink RX0 15 "RoamingHouse$Call" "acceptedIn" "I", .fieldLink RX0 21 "RoamingHouse$Call" "secondsAhead" "I", .fieldLink RX0 31 "RoamingHouse$Call" "told" "I", .fieldLink RX0 63 "RoamingHouse$Pair" "discountRate" "I", .constantLong RX0 66 (10000), .static yX4_yearOf, .initialized RX4, .code yX4_yearOf cX4_yearOf 1 (some .int), .methodLink RX0 59 yX3_discounts, .instanceMethod yX3_discounts, .selects RX3 yX3_discounts yX3_discounts, .initialized RX3, .code yX3_discounts cX3_discounts 3 (some .boolean), .fieldLink RX3 24 "RoamingHouse$Pair" "goesBack" "Z", .fieldLink RX3 28 "RoamingHouse$Pair" "acceptedSeconds" "[I", .fieldLink RX3 18 "RoamingHouse$Pair" "volume" "I"] ++ wsX00 ++ wsX10 ++ wsX30)
def wsX1_init : List Cond := .code yX1_init cX1_init 3 none :: ([.methodLink RX1 3 objectInit, .instanceMethod objectInit, .code objectInit ⟨#[0xb1]⟩ 1 none, .fieldLink RX1 9 "RoamingHouse$CallFile" "state" "I", .fieldLink RX1 15 "RoamingHouse$CallFile" "size" "I", .fieldLink RX1 18 "RoamingHouse$CallFile" "number" "I", .fieldLink RX1 21 "RoamingHouse$CallFile" "pair" "LRoamingHouse$Pair;", .fieldLink RX1 25 "RoamingHouse$CallFile" "begunIn" "I"] ++ wsX10)
def wsX2_init : List Cond := .code yX2_init cX2_init 1 none :: ([.methodLink RX2 3 objectInit, .instanceMethod objectInit, .code objectInit ⟨#[0xb1]⟩ 1 none, .fieldLink RX2 9 "RoamingHouse$Operator" "step" "I", .fieldLink RX2 15 "RoamingHouse$Operator" "price" "I", .fieldLink RX2 18 "RoamingHouse$Operator" "beginning" "I", .fieldLink RX2 21 "RoamingHouse$Operator" "unitRate" "I"] ++ wsX20)
def wsX3_init : List Cond := .code yX3_init cX3_init 2 none :: ([.methodLink RX3 3 objectInit, .instanceMethod objectInit, .code objectInit ⟨#[0xb1]⟩ 1 none, .fieldLink RX3 9 "RoamingHouse$Pair" "expectedNumber" "I", .fieldLink RX3 15 "RoamingHouse$Pair" "promised" "I", .fieldLink RX3 18 "RoamingHouse$Pair" "volume" "I", .fieldLink RX3 21 "RoamingHouse$Pair" "discountRate" "I", .fieldLink RX3 24 "RoamingHouse$Pair" "goesBack" "Z", .arrayClass .int, .fieldLink RX3 28 "RoamingHouse$Pair" "acceptedSeconds" "[I", .fieldLink RX3 32 "RoamingHouse$Pair" "host" "LRoamingHouse$Operator;"] ++ wsX30)
def wsX4_init_r1 : List Cond := [Cond.methodLink RX4 1 objectInit, Cond.instanceMethod objectInit, Cond.code objectInit ⟨#[0xb1]⟩ 1 none, Cond.classLink RX4 9 RX2, Cond.fieldLink RX4 11 "RoamingHouse" "operators" "[LRoamingHouse$Operator;", Cond.classLink RX4 15 RX3, Cond.fieldLink RX4 17 "RoamingHouse" "pairs" "[LRoamingHouse$Pair;", Cond.classLink RX4 21 RX1, Cond.fieldLink RX4 23 "RoamingHouse" "fileRows" "[LRoamingHouse$CallFile;", Cond.fieldLink RX4 27 "RoamingHouse" "fileCount" "I", Cond.classLink RX4 31 RX0, Cond.fieldLink RX4 33 "RoamingHouse" "callRows" "[LRoamingHouse$Call;", Cond.fieldLink RX4 37 "RoamingHouse" "callCount" "I", Cond.fieldLink RX4 40 "RoamingHouse" "now" "I", Cond.instantiable RX2 4, Cond.initialized RX2, Cond.instantiable RX3 7, Cond.initialized RX3, Cond.instanceMethod yX2_init, Cond.code yX2_init cX2_init 1 none, Cond.methodLink RX2 3 objectInit, Cond.fieldLink RX2 9 "RoamingHouse$Operator" "step" "I", Cond.fieldLink RX2 15 "RoamingHouse$Operator" "price" "I", Cond.fieldLink RX2 18 "RoamingHouse$Operator" "beginning" "I"]
def wsX4_init_r2 : List Cond := [Cond.fieldLink RX2 21 "RoamingHouse$Operator" "unitRate" "I", Cond.methodLink RX4 44 yX3_init, Cond.instanceMethod yX3_init, Cond.code yX3_init cX3_init 2 none, Cond.methodLink RX3 3 objectInit, Cond.fieldLink RX3 9 "RoamingHouse$Pair" "expectedNumber" "I", Cond.fieldLink RX3 15 "RoamingHouse$Pair" "promised" "I", Cond.fieldLink RX3 18 "RoamingHouse$Pair" "volume" "I", Cond.fieldLink RX3 21 "RoamingHouse$Pair" "discountRate" "I", Cond.fieldLink RX3 24 "RoamingHouse$Pair" "goesBack" "Z", Cond.arrayClass .int, Cond.fieldLink RX3 28 "RoamingHouse$Pair" "acceptedSeconds" "[I", Cond.fieldLink RX3 32 "RoamingHouse$Pair" "host" "LRoamingHouse$Operator;"]
def wsX4_init : List Cond := .code yX4_init cX4_init 3 none :: ((wsX4_init_r1 ++ wsX4_init_r2) ++ wsX40 ++ wsX20 ++ wsX30)
def wsX4_isOperator : List Cond := .code yX4_isOperator cX4_isOperator 1 (some .boolean) :: ([])
def wsX4_operatorAt : List Cond := .code yX4_operatorAt cX4_operatorAt 2 (some (.object "RoamingHouse$Operator")) :: ([.classLink RX4 197 "java/lang/IndexOutOfBoundsException", .initialized "java/lang/IndexOutOfBoundsException", .fieldLink RX4 11 "RoamingHouse" "operators" "[LRoamingHouse$Operator;", .methodLink RX4 193 yX4_isOperator, .static yX4_isOperator, .initialized RX4, .code yX4_isOperator cX4_isOperator 1 (some .boolean)] ++ wsX40 ++ (vx_atS RX4 201 "java/lang/IndexOutOfBoundsException" ["java/lang/RuntimeException", "java/lang/Exception"]).filter goodWord)
def wsX4_refuseOutside : List Cond := .code yX4_refuseOutside cX4_refuseOutside 3 none :: ([.classLink RX4 188 "java/lang/IllegalArgumentException", .initialized "java/lang/IllegalArgumentException"] ++ (vx_atS RX4 192 "java/lang/IllegalArgumentException" ["java/lang/RuntimeException", "java/lang/Exception"]).filter goodWord)
def wsX4_setTariff : List Cond := .code yX4_setTariff cX4_setTariff 7 (some .int) :: ([.fieldLink RX4 55 "RoamingHouse$Operator" "price" "I", .fieldLink RX4 58 "RoamingHouse$Operator" "step" "I", .fieldLink RX4 61 "RoamingHouse$Operator" "beginning" "I", .methodLink RX4 47 yX4_operatorAt, .instanceMethod yX4_operatorAt, .selects RX4 yX4_operatorAt yX4_operatorAt, .initialized RX4, .code yX4_operatorAt cX4_operatorAt 2 (some (.object "RoamingHouse$Operator")), .classLink RX4 197 "java/lang/IndexOutOfBoundsException", .initialized "java/lang/IndexOutOfBoundsException", .fieldLink RX4 11 "RoamingHouse" "operators" "[LRoamingHouse$Operator;", .methodLink RX4 193 yX4_isOperator, .static yX4_isOperator, .code yX4_isOperator cX4_isOperator 1 (some .boolean), .methodLink RX4 51 yX4_refuseOutside, .static yX4_refuseOutside, .code yX4_refuseOutside cX4_refuseOutside 3 none, .classLink RX4 188 "java/lang/IllegalArgumentException", .initialized "java/lang/IllegalArgumentException"] ++ wsX20 ++ wsX40 ++ (vx_atS RX4 201 "java/lang/IndexOutOfBoundsException" ["java/lang/RuntimeException", "java/lang/Exception"]).filter goodWord ++ (vx_atS RX4 192 "java/lang/IllegalArgumentException" ["java/lang/RuntimeException", "java/lang/Exception"]).filter goodWord)
def wsX4_charge_r1 : List Cond := [Cond.constant RX4 64 (36000), Cond.methodLink RX4 47 yX4_operatorAt, Cond.instanceMethod yX4_operatorAt, Cond.selects RX4 yX4_operatorAt yX4_operatorAt, Cond.initialized RX4, Cond.code yX4_operatorAt cX4_operatorAt 2 (some (.object "RoamingHouse$Operator")), Cond.classLink RX4 197 "java/lang/IndexOutOfBoundsException", Cond.initialized "java/lang/IndexOutOfBoundsException", Cond.fieldLink RX4 11 "RoamingHouse" "operators" "[LRoamingHouse$Operator;", Cond.methodLink RX4 193 yX4_isOperator, Cond.static yX4_isOperator, Cond.code yX4_isOperator cX4_isOperator 1 (some .boolean), Cond.methodLink RX4 51 yX4_refuseOutside, Cond.static yX4_refuseOutside, Cond.code yX4_refuseOutside cX4_refuseOutside 3 none, Cond.classLink RX4 188 "java/lang/IllegalArgumentException", Cond.initialized "java/lang/IllegalArgumentException", Cond.methodLink RX4 65 yX2_chargeFor, Cond.instanceMethod yX2_chargeFor, Cond.selects RX2 yX2_chargeFor yX2_chargeFor, Cond.initialized RX2, Cond.code yX2_chargeFor cX2_chargeFor 3 (some .int), Cond.fieldLink RX2 9 "RoamingHouse$Operator" "step" "I", Cond.fieldLink RX2 18 "RoamingHouse$Operator" "beginning" "I"]
def wsX4_charge_r2 : List Cond := [Cond.fieldLink RX2 15 "RoamingHouse$Operator" "price" "I"]
def wsX4_charge : List Cond := .code yX4_charge cX4_charge 4 (some .int) :: ((wsX4_charge_r1 ++ wsX4_charge_r2) ++ wsX40 ++ wsX20 ++ (vx_atS RX4 201 "java/lang/IndexOutOfBoundsException" ["java/lang/RuntimeException", "java/lang/Exception"]).filter goodWord ++ (vx_atS RX4 192 "java/lang/IllegalArgumentException" ["java/lang/RuntimeException", "java/lang/Exception"]).filter goodWord)
def wsX4_pairAt : List Cond := .code yX4_pairAt cX4_pairAt 3 (some (.object "RoamingHouse$Pair")) :: ([.classLink RX4 197 "java/lang/IndexOutOfBoundsException", .initialized "java/lang/IndexOutOfBoundsException", .classLink RX4 188 "java/lang/IllegalArgumentException", .initialized "java/lang/IllegalArgumentException", .fieldLink RX4 17 "RoamingHouse" "pairs" "[LRoamingHouse$Pair;", .methodLink RX4 193 yX4_isOperator, .static yX4_isOperator, .initialized RX4, .code yX4_isOperator cX4_isOperator 1 (some .boolean)] ++ wsX40 ++ (vx_atS RX4 201 "java/lang/IndexOutOfBoundsException" ["java/lang/RuntimeException", "java/lang/Exception"]).filter goodWord ++ (vx_atS RX4 192 "java/lang/IllegalArgumentException" ["java/lang/RuntimeException", "java/lang/Exception"]).filter goodWord)
def wsX4_begin_r1 : List Cond := [Cond.classLink RX4 73 "java/lang/IllegalStateException", Cond.initialized "java/lang/IllegalStateException", Cond.fieldLink RX4 27 "RoamingHouse" "fileCount" "I", Cond.fieldLink RX4 23 "RoamingHouse" "fileRows" "[LRoamingHouse$CallFile;", Cond.classLink RX4 21 RX1, Cond.instantiable RX1 5, Cond.initialized RX1, Cond.fieldLink RX4 40 "RoamingHouse" "now" "I", Cond.methodLink RX4 69 yX4_pairAt, Cond.instanceMethod yX4_pairAt, Cond.selects RX4 yX4_pairAt yX4_pairAt, Cond.initialized RX4, Cond.code yX4_pairAt cX4_pairAt 3 (some (.object "RoamingHouse$Pair")), Cond.classLink RX4 197 "java/lang/IndexOutOfBoundsException", Cond.initialized "java/lang/IndexOutOfBoundsException", Cond.classLink RX4 188 "java/lang/IllegalArgumentException", Cond.initialized "java/lang/IllegalArgumentException", Cond.fieldLink RX4 17 "RoamingHouse" "pairs" "[LRoamingHouse$Pair;", Cond.methodLink RX4 193 yX4_isOperator, Cond.static yX4_isOperator, Cond.code yX4_isOperator cX4_isOperator 1 (some .boolean), Cond.methodLink RX4 80 yX1_init, Cond.instanceMethod yX1_init, Cond.code yX1_init cX1_init 3 none]
def wsX4_begin_r2 : List Cond := [Cond.methodLink RX1 3 objectInit, Cond.instanceMethod objectInit, Cond.code objectInit ⟨#[0xb1]⟩ 1 none, Cond.fieldLink RX1 9 "RoamingHouse$CallFile" "state" "I", Cond.fieldLink RX1 15 "RoamingHouse$CallFile" "size" "I", Cond.fieldLink RX1 18 "RoamingHouse$CallFile" "number" "I", Cond.fieldLink RX1 21 "RoamingHouse$CallFile" "pair" "LRoamingHouse$Pair;", Cond.fieldLink RX1 25 "RoamingHouse$CallFile" "begunIn" "I"]
def wsX4_begin : List Cond := .code yX4_begin cX4_begin 5 (some .int) :: ((wsX4_begin_r1 ++ wsX4_begin_r2) ++ wsX40 ++ wsX10 ++ (vx_atS RX4 77 "java/lang/IllegalStateException" ["java/lang/RuntimeException", "java/lang/Exception"]).filter goodWord ++ (vx_atS RX4 201 "java/lang/IndexOutOfBoundsException" ["java/lang/RuntimeException", "java/lang/Exception"]).filter goodWord ++ (vx_atS RX4 192 "java/lang/IllegalArgumentException" ["java/lang/RuntimeException", "java/lang/Exception"]).filter goodWord)
def wsX4_fileAt : List Cond := .code yX4_fileAt cX4_fileAt 2 (some (.object "RoamingHouse$CallFile")) :: ([.classLink RX4 197 "java/lang/IndexOutOfBoundsException", .initialized "java/lang/IndexOutOfBoundsException", .fieldLink RX4 27 "RoamingHouse" "fileCount" "I", .fieldLink RX4 23 "RoamingHouse" "fileRows" "[LRoamingHouse$CallFile;"] ++ wsX40 ++ (vx_atS RX4 201 "java/lang/IndexOutOfBoundsException" ["java/lang/RuntimeException", "java/lang/Exception"]).filter goodWord)
def wsX4_enter_r1 : List Cond := [Cond.classLink RX4 73 "java/lang/IllegalStateException", Cond.initialized "java/lang/IllegalStateException", Cond.constant RX4 64 (36000), Cond.constant RX4 87 (50000000), Cond.fieldLink RX4 88 "RoamingHouse$CallFile" "state" "I", Cond.fieldLink RX4 37 "RoamingHouse" "callCount" "I", Cond.fieldLink RX4 33 "RoamingHouse" "callRows" "[LRoamingHouse$Call;", Cond.classLink RX4 31 RX0, Cond.instantiable RX0 7, Cond.initialized RX0, Cond.fieldLink RX4 98 "RoamingHouse$CallFile" "size" "I", Cond.methodLink RX4 83 yX4_fileAt, Cond.instanceMethod yX4_fileAt, Cond.selects RX4 yX4_fileAt yX4_fileAt, Cond.initialized RX4, Cond.code yX4_fileAt cX4_fileAt 2 (some (.object "RoamingHouse$CallFile")), Cond.classLink RX4 197 "java/lang/IndexOutOfBoundsException", Cond.initialized "java/lang/IndexOutOfBoundsException", Cond.fieldLink RX4 27 "RoamingHouse" "fileCount" "I", Cond.fieldLink RX4 23 "RoamingHouse" "fileRows" "[LRoamingHouse$CallFile;", Cond.methodLink RX4 51 yX4_refuseOutside, Cond.static yX4_refuseOutside, Cond.code yX4_refuseOutside cX4_refuseOutside 3 none, Cond.classLink RX4 188 "java/lang/IllegalArgumentException"]
def wsX4_enter_r2 : List Cond := [Cond.initialized "java/lang/IllegalArgumentException", Cond.methodLink RX4 95 yX0_init, Cond.instanceMethod yX0_init, Cond.code yX0_init cX0_init 4 none, Cond.methodLink RX0 3 objectInit, Cond.instanceMethod objectInit, Cond.code objectInit ⟨#[0xb1]⟩ 1 none, Cond.fieldLink RX0 9 "RoamingHouse$Call" "state" "I", Cond.fieldLink RX0 15 "RoamingHouse$Call" "acceptedIn" "I", Cond.fieldLink RX0 18 "RoamingHouse$Call" "disputedIn" "I", Cond.fieldLink RX0 21 "RoamingHouse$Call" "secondsAhead" "I", Cond.fieldLink RX0 24 "RoamingHouse$Call" "file" "LRoamingHouse$CallFile;", Cond.fieldLink RX0 28 "RoamingHouse$Call" "seconds" "I", Cond.fieldLink RX0 31 "RoamingHouse$Call" "told" "I"]
def wsX4_enter : List Cond := .code yX4_enter cX4_enter 6 (some .int) :: ((wsX4_enter_r1 ++ wsX4_enter_r2) ++ wsX10 ++ wsX40 ++ wsX00 ++ (vx_atS RX4 77 "java/lang/IllegalStateException" ["java/lang/RuntimeException", "java/lang/Exception"]).filter goodWord ++ (vx_atS RX4 201 "java/lang/IndexOutOfBoundsException" ["java/lang/RuntimeException", "java/lang/Exception"]).filter goodWord ++ (vx_atS RX4 192 "java/lang/IllegalArgumentException" ["java/lang/RuntimeException", "java/lang/Exception"]).filter goodWord)
def wsX4_waitingFile : List Cond := .code yX4_waitingFile cX4_waitingFile 5 (some (.object "RoamingHouse$CallFile")) :: ([.fieldLink RX4 27 "RoamingHouse" "fileCount" "I", .fieldLink RX4 23 "RoamingHouse" "fileRows" "[LRoamingHouse$CallFile;", .fieldLink RX4 103 "RoamingHouse$CallFile" "pair" "LRoamingHouse$Pair;", .fieldLink RX4 88 "RoamingHouse$CallFile" "state" "I", .fieldLink RX4 114 "RoamingHouse$CallFile" "number" "I"] ++ wsX40 ++ wsX10)
def wsX4_wrongCallsOf : List Cond := .code yX4_wrongCallsOf cX4_wrongCallsOf 5 (some .int) :: ([.fieldLink RX4 37 "RoamingHouse" "callCount" "I", .fieldLink RX4 33 "RoamingHouse" "callRows" "[LRoamingHouse$Call;", .fieldLink RX4 221 "RoamingHouse$Call" "file" "LRoamingHouse$CallFile;", .methodLink RX4 225 yX0_isRight, .instanceMethod yX0_isRight, .selects RX0 yX0_isRight yX0_isRight, .initialized RX0, .code yX0_isRight cX0_isRight 1 (some .boolean), .fieldLink RX0 31 "RoamingHouse$Call" "told" "I", .fieldLink RX0 24 "RoamingHouse$Call" "file" "LRoamingHouse$CallFile;", .fieldLink RX0 34 "RoamingHouse$CallFile" "pair" "LRoamingHouse$Pair;", .fieldLink RX0 40 "RoamingHouse$Pair" "host" "LRoamingHouse$Operator;", .fieldLink RX0 28 "RoamingHouse$Call" "seconds" "I", .methodLink RX0 46 yX2_chargeFor, .instanceMethod yX2_chargeFor, .selects RX2 yX2_chargeFor yX2_chargeFor, .initialized RX2, .code yX2_chargeFor cX2_chargeFor 3 (some .int), .fieldLink RX2 9 "RoamingHouse$Operator" "step" "I", .fieldLink RX2 18 "RoamingHouse$Operator" "beginning" "I", .fieldLink RX2 15 "RoamingHouse$Operator" "price" "I"] ++ wsX40 ++ wsX00 ++ wsX10 ++ wsX30 ++ wsX20)
def wsX4_acceptRightCallsOf_r1 : List Cond := [Cond.fieldLink RX4 37 "RoamingHouse" "callCount" "I", Cond.fieldLink RX4 33 "RoamingHouse" "callRows" "[LRoamingHouse$Call;", Cond.fieldLink RX4 221 "RoamingHouse$Call" "file" "LRoamingHouse$CallFile;", Cond.fieldLink RX4 40 "RoamingHouse" "now" "I", Cond.methodLink RX4 225 yX0_isRight, Cond.instanceMethod yX0_isRight, Cond.selects RX0 yX0_isRight yX0_isRight, Cond.initialized RX0, Cond.code yX0_isRight cX0_isRight 1 (some .boolean), Cond.fieldLink RX0 31 "RoamingHouse$Call" "told" "I", Cond.fieldLink RX0 24 "RoamingHouse$Call" "file" "LRoamingHouse$CallFile;", Cond.fieldLink RX0 34 "RoamingHouse$CallFile" "pair" "LRoamingHouse$Pair;", Cond.fieldLink RX0 40 "RoamingHouse$Pair" "host" "LRoamingHouse$Operator;", Cond.fieldLink RX0 28 "RoamingHouse$Call" "seconds" "I", Cond.methodLink RX0 46 yX2_chargeFor, Cond.instanceMethod yX2_chargeFor, Cond.selects RX2 yX2_chargeFor yX2_chargeFor, Cond.initialized RX2, Cond.code yX2_chargeFor cX2_chargeFor 3 (some .int), Cond.fieldLink RX2 9 "RoamingHouse$Operator" "step" "I", Cond.fieldLink RX2 18 "RoamingHouse$Operator" "beginning" "I", Cond.fieldLink RX2 15 "RoamingHouse$Operator" "price" "I", Cond.methodLink RX4 229 yX0_acceptIn, Cond.instanceMethod yX0_acceptIn]
def wsX4_acceptRightCallsOf_r2 : List Cond := [Cond.selects RX0 yX0_acceptIn yX0_acceptIn, Cond.code yX0_acceptIn cX0_acceptIn 3 none, Cond.fieldLink RX0 9 "RoamingHouse$Call" "state" "I", Cond.fieldLink RX0 15 "RoamingHouse$Call" "acceptedIn" "I", Cond.fieldLink RX0 55 "RoamingHouse$Pair" "acceptedSeconds" "[I", Cond.fieldLink RX0 21 "RoamingHouse$Call" "secondsAhead" "I", Cond.static yX4_yearOf, Cond.initialized RX4, Cond.code yX4_yearOf cX4_yearOf 1 (some .int)]
def wsX4_acceptRightCallsOf : List Cond := .code yX4_acceptRightCallsOf cX4_acceptRightCallsOf 4 none :: ((wsX4_acceptRightCallsOf_r1 ++ wsX4_acceptRightCallsOf_r2) ++ wsX40 ++ wsX00 ++ wsX10 ++ wsX30 ++ wsX20)
def wsX4_lookAt_r1 : List Cond := [Cond.fieldLink RX4 40 "RoamingHouse" "now" "I", Cond.fieldLink RX4 211 "RoamingHouse$CallFile" "begunIn" "I", Cond.fieldLink RX4 88 "RoamingHouse$CallFile" "state" "I", Cond.fieldLink RX4 98 "RoamingHouse$CallFile" "size" "I", Cond.methodLink RX4 214 yX4_wrongCallsOf, Cond.instanceMethod yX4_wrongCallsOf, Cond.selects RX4 yX4_wrongCallsOf yX4_wrongCallsOf, Cond.initialized RX4, Cond.code yX4_wrongCallsOf cX4_wrongCallsOf 5 (some .int), Cond.fieldLink RX4 37 "RoamingHouse" "callCount" "I", Cond.fieldLink RX4 33 "RoamingHouse" "callRows" "[LRoamingHouse$Call;", Cond.fieldLink RX4 221 "RoamingHouse$Call" "file" "LRoamingHouse$CallFile;", Cond.methodLink RX4 225 yX0_isRight, Cond.instanceMethod yX0_isRight, Cond.selects RX0 yX0_isRight yX0_isRight, Cond.initialized RX0, Cond.code yX0_isRight cX0_isRight 1 (some .boolean), Cond.fieldLink RX0 31 "RoamingHouse$Call" "told" "I", Cond.fieldLink RX0 24 "RoamingHouse$Call" "file" "LRoamingHouse$CallFile;", Cond.fieldLink RX0 34 "RoamingHouse$CallFile" "pair" "LRoamingHouse$Pair;", Cond.fieldLink RX0 40 "RoamingHouse$Pair" "host" "LRoamingHouse$Operator;", Cond.fieldLink RX0 28 "RoamingHouse$Call" "seconds" "I", Cond.methodLink RX0 46 yX2_chargeFor, Cond.instanceMethod yX2_chargeFor]
def wsX4_lookAt_r2 : List Cond := [Cond.selects RX2 yX2_chargeFor yX2_chargeFor, Cond.initialized RX2, Cond.code yX2_chargeFor cX2_chargeFor 3 (some .int), Cond.fieldLink RX2 9 "RoamingHouse$Operator" "step" "I", Cond.fieldLink RX2 18 "RoamingHouse$Operator" "beginning" "I", Cond.fieldLink RX2 15 "RoamingHouse$Operator" "price" "I", Cond.methodLink RX4 218 yX4_acceptRightCallsOf, Cond.instanceMethod yX4_acceptRightCallsOf, Cond.selects RX4 yX4_acceptRightCallsOf yX4_acceptRightCallsOf, Cond.code yX4_acceptRightCallsOf cX4_acceptRightCallsOf 4 none, Cond.methodLink RX4 229 yX0_acceptIn, Cond.instanceMethod yX0_acceptIn, Cond.selects RX0 yX0_acceptIn yX0_acceptIn, Cond.code yX0_acceptIn cX0_acceptIn 3 none, Cond.fieldLink RX0 9 "RoamingHouse$Call" "state" "I", Cond.fieldLink RX0 15 "RoamingHouse$Call" "acceptedIn" "I", Cond.fieldLink RX0 55 "RoamingHouse$Pair" "acceptedSeconds" "[I", Cond.fieldLink RX0 21 "RoamingHouse$Call" "secondsAhead" "I", Cond.static yX4_yearOf, Cond.code yX4_yearOf cX4_yearOf 1 (some .int)]
def wsX4_lookAt : List Cond := .code yX4_lookAt cX4_lookAt 2 none :: ((wsX4_lookAt_r1 ++ wsX4_lookAt_r2) ++ wsX40 ++ wsX10 ++ wsX00 ++ wsX30 ++ wsX20)
def wsX4_lookAtAllFrom_r1 : List Cond := [Cond.fieldLink RX4 103 "RoamingHouse$CallFile" "pair" "LRoamingHouse$Pair;", Cond.fieldLink RX4 107 "RoamingHouse$Pair" "expectedNumber" "I", Cond.methodLink RX4 208 yX4_lookAt, Cond.instanceMethod yX4_lookAt, Cond.selects RX4 yX4_lookAt yX4_lookAt, Cond.initialized RX4, Cond.code yX4_lookAt cX4_lookAt 2 none, Cond.fieldLink RX4 40 "RoamingHouse" "now" "I", Cond.fieldLink RX4 211 "RoamingHouse$CallFile" "begunIn" "I", Cond.fieldLink RX4 88 "RoamingHouse$CallFile" "state" "I", Cond.fieldLink RX4 98 "RoamingHouse$CallFile" "size" "I", Cond.methodLink RX4 214 yX4_wrongCallsOf, Cond.instanceMethod yX4_wrongCallsOf, Cond.selects RX4 yX4_wrongCallsOf yX4_wrongCallsOf, Cond.code yX4_wrongCallsOf cX4_wrongCallsOf 5 (some .int), Cond.fieldLink RX4 37 "RoamingHouse" "callCount" "I", Cond.fieldLink RX4 33 "RoamingHouse" "callRows" "[LRoamingHouse$Call;", Cond.fieldLink RX4 221 "RoamingHouse$Call" "file" "LRoamingHouse$CallFile;", Cond.methodLink RX4 225 yX0_isRight, Cond.instanceMethod yX0_isRight, Cond.selects RX0 yX0_isRight yX0_isRight, Cond.initialized RX0, Cond.code yX0_isRight cX0_isRight 1 (some .boolean), Cond.fieldLink RX0 31 "RoamingHouse$Call" "told" "I"]
def wsX4_lookAtAllFrom_r2 : List Cond := [Cond.fieldLink RX0 24 "RoamingHouse$Call" "file" "LRoamingHouse$CallFile;", Cond.fieldLink RX0 34 "RoamingHouse$CallFile" "pair" "LRoamingHouse$Pair;", Cond.fieldLink RX0 40 "RoamingHouse$Pair" "host" "LRoamingHouse$Operator;", Cond.fieldLink RX0 28 "RoamingHouse$Call" "seconds" "I", Cond.methodLink RX0 46 yX2_chargeFor, Cond.instanceMethod yX2_chargeFor, Cond.selects RX2 yX2_chargeFor yX2_chargeFor, Cond.initialized RX2, Cond.code yX2_chargeFor cX2_chargeFor 3 (some .int), Cond.fieldLink RX2 9 "RoamingHouse$Operator" "step" "I", Cond.fieldLink RX2 18 "RoamingHouse$Operator" "beginning" "I", Cond.fieldLink RX2 15 "RoamingHouse$Operator" "price" "I", Cond.methodLink RX4 218 yX4_acceptRightCallsOf, Cond.instanceMethod yX4_acceptRightCallsOf, Cond.selects RX4 yX4_acceptRightCallsOf yX4_acceptRightCallsOf, Cond.code yX4_acceptRightCallsOf cX4_acceptRightCallsOf 4 none, Cond.methodLink RX4 229 yX0_acceptIn, Cond.instanceMethod yX0_acceptIn, Cond.selects RX0 yX0_acceptIn yX0_acceptIn, Cond.code yX0_acceptIn cX0_acceptIn 3 none, Cond.fieldLink RX0 9 "RoamingHouse$Call" "state" "I", Cond.fieldLink RX0 15 "RoamingHouse$Call" "acceptedIn" "I", Cond.fieldLink RX0 55 "RoamingHouse$Pair" "acceptedSeconds" "[I", Cond.fieldLink RX0 21 "RoamingHouse$Call" "secondsAhead" "I"]
def wsX4_lookAtAllFrom_r3 : List Cond := [Cond.static yX4_yearOf, Cond.code yX4_yearOf cX4_yearOf 1 (some .int), Cond.methodLink RX4 110 yX4_waitingFile, Cond.instanceMethod yX4_waitingFile, Cond.selects RX4 yX4_waitingFile yX4_waitingFile, Cond.code yX4_waitingFile cX4_waitingFile 5 (some (.object "RoamingHouse$CallFile")), Cond.fieldLink RX4 27 "RoamingHouse" "fileCount" "I", Cond.fieldLink RX4 23 "RoamingHouse" "fileRows" "[LRoamingHouse$CallFile;", Cond.fieldLink RX4 114 "RoamingHouse$CallFile" "number" "I"]
def wsX4_lookAtAllFrom : List Cond := .code yX4_lookAtAllFrom cX4_lookAtAllFrom 5 none :: ((wsX4_lookAtAllFrom_r1 ++ (wsX4_lookAtAllFrom_r2 ++ wsX4_lookAtAllFrom_r3)) ++ wsX10 ++ wsX30 ++ wsX40 ++ wsX00 ++ wsX20)
def wsX4_send_r1 : List Cond := [Cond.classLink RX4 73 "java/lang/IllegalStateException", Cond.initialized "java/lang/IllegalStateException", Cond.fieldLink RX4 88 "RoamingHouse$CallFile" "state" "I", Cond.fieldLink RX4 98 "RoamingHouse$CallFile" "size" "I", Cond.fieldLink RX4 103 "RoamingHouse$CallFile" "pair" "LRoamingHouse$Pair;", Cond.fieldLink RX4 107 "RoamingHouse$Pair" "expectedNumber" "I", Cond.fieldLink RX4 114 "RoamingHouse$CallFile" "number" "I", Cond.methodLink RX4 83 yX4_fileAt, Cond.instanceMethod yX4_fileAt, Cond.selects RX4 yX4_fileAt yX4_fileAt, Cond.initialized RX4, Cond.code yX4_fileAt cX4_fileAt 2 (some (.object "RoamingHouse$CallFile")), Cond.classLink RX4 197 "java/lang/IndexOutOfBoundsException", Cond.initialized "java/lang/IndexOutOfBoundsException", Cond.fieldLink RX4 27 "RoamingHouse" "fileCount" "I", Cond.fieldLink RX4 23 "RoamingHouse" "fileRows" "[LRoamingHouse$CallFile;", Cond.methodLink RX4 51 yX4_refuseOutside, Cond.static yX4_refuseOutside, Cond.code yX4_refuseOutside cX4_refuseOutside 3 none, Cond.classLink RX4 188 "java/lang/IllegalArgumentException", Cond.initialized "java/lang/IllegalArgumentException", Cond.methodLink RX4 110 yX4_waitingFile, Cond.instanceMethod yX4_waitingFile, Cond.selects RX4 yX4_waitingFile yX4_waitingFile]
def wsX4_send_r2 : List Cond := [Cond.code yX4_waitingFile cX4_waitingFile 5 (some (.object "RoamingHouse$CallFile")), Cond.methodLink RX4 117 yX4_lookAtAllFrom, Cond.instanceMethod yX4_lookAtAllFrom, Cond.selects RX4 yX4_lookAtAllFrom yX4_lookAtAllFrom, Cond.code yX4_lookAtAllFrom cX4_lookAtAllFrom 5 none, Cond.methodLink RX4 208 yX4_lookAt, Cond.instanceMethod yX4_lookAt, Cond.selects RX4 yX4_lookAt yX4_lookAt, Cond.code yX4_lookAt cX4_lookAt 2 none, Cond.fieldLink RX4 40 "RoamingHouse" "now" "I", Cond.fieldLink RX4 211 "RoamingHouse$CallFile" "begunIn" "I", Cond.methodLink RX4 214 yX4_wrongCallsOf, Cond.instanceMethod yX4_wrongCallsOf, Cond.selects RX4 yX4_wrongCallsOf yX4_wrongCallsOf, Cond.code yX4_wrongCallsOf cX4_wrongCallsOf 5 (some .int), Cond.fieldLink RX4 37 "RoamingHouse" "callCount" "I", Cond.fieldLink RX4 33 "RoamingHouse" "callRows" "[LRoamingHouse$Call;", Cond.fieldLink RX4 221 "RoamingHouse$Call" "file" "LRoamingHouse$CallFile;", Cond.methodLink RX4 225 yX0_isRight, Cond.instanceMethod yX0_isRight, Cond.selects RX0 yX0_isRight yX0_isRight, Cond.initialized RX0, Cond.code yX0_isRight cX0_isRight 1 (some .boolean), Cond.fieldLink RX0 31 "RoamingHouse$Call" "told" "I"]
def wsX4_send_r3 : List Cond := [Cond.fieldLink RX0 24 "RoamingHouse$Call" "file" "LRoamingHouse$CallFile;", Cond.fieldLink RX0 34 "RoamingHouse$CallFile" "pair" "LRoamingHouse$Pair;", Cond.fieldLink RX0 40 "RoamingHouse$Pair" "host" "LRoamingHouse$Operator;", Cond.fieldLink RX0 28 "RoamingHouse$Call" "seconds" "I", Cond.methodLink RX0 46 yX2_chargeFor, Cond.instanceMethod yX2_chargeFor, Cond.selects RX2 yX2_chargeFor yX2_chargeFor, Cond.initialized RX2, Cond.code yX2_chargeFor cX2_chargeFor 3 (some .int), Cond.fieldLink RX2 9 "RoamingHouse$Operator" "step" "I", Cond.fieldLink RX2 18 "RoamingHouse$Operator" "beginning" "I", Cond.fieldLink RX2 15 "RoamingHouse$Operator" "price" "I", Cond.methodLink RX4 218 yX4_acceptRightCallsOf, Cond.instanceMethod yX4_acceptRightCallsOf, Cond.selects RX4 yX4_acceptRightCallsOf yX4_acceptRightCallsOf, Cond.code yX4_acceptRightCallsOf cX4_acceptRightCallsOf 4 none, Cond.methodLink RX4 229 yX0_acceptIn, Cond.instanceMethod yX0_acceptIn, Cond.selects RX0 yX0_acceptIn yX0_acceptIn, Cond.code yX0_acceptIn cX0_acceptIn 3 none, Cond.fieldLink RX0 9 "RoamingHouse$Call" "state" "I", Cond.fieldLink RX0 15 "RoamingHouse$Call" "acceptedIn" "I", Cond.fieldLink RX0 55 "RoamingHouse$Pair" "acceptedSeconds" "[I", Cond.fieldLink RX0 21 "RoamingHouse$Call" "secondsAhead" "I"]
def wsX4_send_r4 : List Cond := [Cond.static yX4_yearOf, Cond.code yX4_yearOf cX4_yearOf 1 (some .int)]
def wsX4_send : List Cond := .code yX4_send cX4_send 5 (some .int) :: ((wsX4_send_r1 ++ (wsX4_send_r2 ++ (wsX4_send_r3 ++ wsX4_send_r4))) ++ wsX10 ++ wsX30 ++ wsX40 ++ wsX00 ++ wsX20 ++ (vx_atS RX4 77 "java/lang/IllegalStateException" ["java/lang/RuntimeException", "java/lang/Exception"]).filter goodWord ++ (vx_atS RX4 201 "java/lang/IndexOutOfBoundsException" ["java/lang/RuntimeException", "java/lang/Exception"]).filter goodWord ++ (vx_atS RX4 192 "java/lang/IllegalArgumentException" ["java/lang/RuntimeException", "java/lang/Exception"]).filter goodWord)
def wsX4_stateOf : List Cond := .code yX4_stateOf cX4_stateOf 2 (some .int) :: ([.fieldLink RX4 88 "RoamingHouse$CallFile" "state" "I", .methodLink RX4 83 yX4_fileAt, .instanceMethod yX4_fileAt, .selects RX4 yX4_fileAt yX4_fileAt, .initialized RX4, .code yX4_fileAt cX4_fileAt 2 (some (.object "RoamingHouse$CallFile")), .classLink RX4 197 "java/lang/IndexOutOfBoundsException", .initialized "java/lang/IndexOutOfBoundsException", .fieldLink RX4 27 "RoamingHouse" "fileCount" "I", .fieldLink RX4 23 "RoamingHouse" "fileRows" "[LRoamingHouse$CallFile;"] ++ wsX10 ++ wsX40 ++ (vx_atS RX4 201 "java/lang/IndexOutOfBoundsException" ["java/lang/RuntimeException", "java/lang/Exception"]).filter goodWord)
def wsX4_expected : List Cond := .code yX4_expected cX4_expected 3 (some .int) :: ([.fieldLink RX4 107 "RoamingHouse$Pair" "expectedNumber" "I", .methodLink RX4 69 yX4_pairAt, .instanceMethod yX4_pairAt, .selects RX4 yX4_pairAt yX4_pairAt, .initialized RX4, .code yX4_pairAt cX4_pairAt 3 (some (.object "RoamingHouse$Pair")), .classLink RX4 197 "java/lang/IndexOutOfBoundsException", .initialized "java/lang/IndexOutOfBoundsException", .classLink RX4 188 "java/lang/IllegalArgumentException", .initialized "java/lang/IllegalArgumentException", .fieldLink RX4 17 "RoamingHouse" "pairs" "[LRoamingHouse$Pair;", .methodLink RX4 193 yX4_isOperator, .static yX4_isOperator, .code yX4_isOperator cX4_isOperator 1 (some .boolean)] ++ wsX30 ++ wsX40 ++ (vx_atS RX4 201 "java/lang/IndexOutOfBoundsException" ["java/lang/RuntimeException", "java/lang/Exception"]).filter goodWord ++ (vx_atS RX4 192 "java/lang/IllegalArgumentException" ["java/lang/RuntimeException", "java/lang/Exception"]).filter goodWord)
def wsX4_lacking : List Cond := .code yX4_lacking cX4_lacking 8 (some .int) :: ([.fieldLink RX4 27 "RoamingHouse" "fileCount" "I", .fieldLink RX4 23 "RoamingHouse" "fileRows" "[LRoamingHouse$CallFile;", .fieldLink RX4 103 "RoamingHouse$CallFile" "pair" "LRoamingHouse$Pair;", .fieldLink RX4 88 "RoamingHouse$CallFile" "state" "I", .fieldLink RX4 114 "RoamingHouse$CallFile" "number" "I", .methodLink RX4 121 Lib.Math.max.name, .static Lib.Math.max.name, .initialized "java/lang/Math", .code Lib.Math.max.name Lib.Math.max.code 2 (some .int), .fieldLink RX4 107 "RoamingHouse$Pair" "expectedNumber" "I", .methodLink RX4 69 yX4_pairAt, .instanceMethod yX4_pairAt, .selects RX4 yX4_pairAt yX4_pairAt, .initialized RX4, .code yX4_pairAt cX4_pairAt 3 (some (.object "RoamingHouse$Pair")), .classLink RX4 197 "java/lang/IndexOutOfBoundsException", .initialized "java/lang/IndexOutOfBoundsException", .classLink RX4 188 "java/lang/IllegalArgumentException", .initialized "java/lang/IllegalArgumentException", .fieldLink RX4 17 "RoamingHouse" "pairs" "[LRoamingHouse$Pair;", .methodLink RX4 193 yX4_isOperator, .static yX4_isOperator, .code yX4_isOperator cX4_isOperator 1 (some .boolean)] ++ wsX40 ++ wsX10 ++ wsX30 ++ (vx_atS RX4 201 "java/lang/IndexOutOfBoundsException" ["java/lang/RuntimeException", "java/lang/Exception"]).filter goodWord ++ (vx_atS RX4 192 "java/lang/IllegalArgumentException" ["java/lang/RuntimeException", "java/lang/Exception"]).filter goodWord)
def wsX4_calls : List Cond := .code yX4_calls cX4_calls 1 (some .int) :: ([.fieldLink RX4 37 "RoamingHouse" "callCount" "I"] ++ wsX40)
def wsX4_callAt : List Cond := .code yX4_callAt cX4_callAt 2 (some (.object "RoamingHouse$Call")) :: ([.classLink RX4 197 "java/lang/IndexOutOfBoundsException", .initialized "java/lang/IndexOutOfBoundsException", .fieldLink RX4 37 "RoamingHouse" "callCount" "I", .fieldLink RX4 33 "RoamingHouse" "callRows" "[LRoamingHouse$Call;"] ++ wsX40 ++ (vx_atS RX4 201 "java/lang/IndexOutOfBoundsException" ["java/lang/RuntimeException", "java/lang/Exception"]).filter goodWord)
def wsX4_call : List Cond := .code yX4_call cX4_call 2 (some .int) :: ([.fieldLink RX4 131 "RoamingHouse$Call" "state" "I", .methodLink RX4 127 yX4_callAt, .instanceMethod yX4_callAt, .selects RX4 yX4_callAt yX4_callAt, .initialized RX4, .code yX4_callAt cX4_callAt 2 (some (.object "RoamingHouse$Call")), .classLink RX4 197 "java/lang/IndexOutOfBoundsException", .initialized "java/lang/IndexOutOfBoundsException", .fieldLink RX4 37 "RoamingHouse" "callCount" "I", .fieldLink RX4 33 "RoamingHouse" "callRows" "[LRoamingHouse$Call;"] ++ wsX00 ++ wsX40 ++ (vx_atS RX4 201 "java/lang/IndexOutOfBoundsException" ["java/lang/RuntimeException", "java/lang/Exception"]).filter goodWord)
def wsX4_monthOf : List Cond := .code yX4_monthOf cX4_monthOf 2 (some .int) :: ([.fieldLink RX4 132 "RoamingHouse$Call" "acceptedIn" "I", .methodLink RX4 127 yX4_callAt, .instanceMethod yX4_callAt, .selects RX4 yX4_callAt yX4_callAt, .initialized RX4, .code yX4_callAt cX4_callAt 2 (some (.object "RoamingHouse$Call")), .classLink RX4 197 "java/lang/IndexOutOfBoundsException", .initialized "java/lang/IndexOutOfBoundsException", .fieldLink RX4 37 "RoamingHouse" "callCount" "I", .fieldLink RX4 33 "RoamingHouse" "callRows" "[LRoamingHouse$Call;"] ++ wsX00 ++ wsX40 ++ (vx_atS RX4 201 "java/lang/IndexOutOfBoundsException" ["java/lang/RuntimeException", "java/lang/Exception"]).filter goodWord)
def wsX4_owedFor_r1 : List Cond := [Cond.methodLink RX4 127 yX4_callAt, Cond.instanceMethod yX4_callAt, Cond.selects RX4 yX4_callAt yX4_callAt, Cond.initialized RX4, Cond.code yX4_callAt cX4_callAt 2 (some (.object "RoamingHouse$Call")), Cond.classLink RX4 197 "java/lang/IndexOutOfBoundsException", Cond.initialized "java/lang/IndexOutOfBoundsException", Cond.fieldLink RX4 37 "RoamingHouse" "callCount" "I", Cond.fieldLink RX4 33 "RoamingHouse" "callRows" "[LRoamingHouse$Call;", Cond.methodLink RX4 135 yX0_amount, Cond.instanceMethod yX0_amount, Cond.selects RX0 yX0_amount yX0_amount, Cond.initialized RX0, Cond.code yX0_amount cX0_amount 1 (some .int), Cond.fieldLink RX0 9 "RoamingHouse$Call" "state" "I", Cond.fieldLink RX0 24 "RoamingHouse$Call" "file" "LRoamingHouse$CallFile;", Cond.fieldLink RX0 34 "RoamingHouse$CallFile" "pair" "LRoamingHouse$Pair;", Cond.fieldLink RX0 15 "RoamingHouse$Call" "acceptedIn" "I", Cond.fieldLink RX0 21 "RoamingHouse$Call" "secondsAhead" "I", Cond.fieldLink RX0 31 "RoamingHouse$Call" "told" "I", Cond.fieldLink RX0 63 "RoamingHouse$Pair" "discountRate" "I", Cond.constantLong RX0 66 (10000), Cond.static yX4_yearOf, Cond.code yX4_yearOf cX4_yearOf 1 (some .int)]
def wsX4_owedFor_r2 : List Cond := [Cond.methodLink RX0 59 yX3_discounts, Cond.instanceMethod yX3_discounts, Cond.selects RX3 yX3_discounts yX3_discounts, Cond.initialized RX3, Cond.code yX3_discounts cX3_discounts 3 (some .boolean), Cond.fieldLink RX3 24 "RoamingHouse$Pair" "goesBack" "Z", Cond.fieldLink RX3 28 "RoamingHouse$Pair" "acceptedSeconds" "[I", Cond.fieldLink RX3 18 "RoamingHouse$Pair" "volume" "I"]
def wsX4_owedFor : List Cond := .code yX4_owedFor cX4_owedFor 2 (some .int) :: ((wsX4_owedFor_r1 ++ wsX4_owedFor_r2) ++ wsX40 ++ wsX00 ++ wsX10 ++ wsX30 ++ (vx_atS RX4 201 "java/lang/IndexOutOfBoundsException" ["java/lang/RuntimeException", "java/lang/Exception"]).filter goodWord)
def wsX4_dispute : List Cond := .code yX4_dispute cX4_dispute 3 none :: ([.classLink RX4 73 "java/lang/IllegalStateException", .initialized "java/lang/IllegalStateException", .fieldLink RX4 131 "RoamingHouse$Call" "state" "I", .fieldLink RX4 40 "RoamingHouse" "now" "I", .fieldLink RX4 132 "RoamingHouse$Call" "acceptedIn" "I", .fieldLink RX4 143 "RoamingHouse$Call" "disputedIn" "I", .methodLink RX4 127 yX4_callAt, .instanceMethod yX4_callAt, .selects RX4 yX4_callAt yX4_callAt, .initialized RX4, .code yX4_callAt cX4_callAt 2 (some (.object "RoamingHouse$Call")), .classLink RX4 197 "java/lang/IndexOutOfBoundsException", .initialized "java/lang/IndexOutOfBoundsException", .fieldLink RX4 37 "RoamingHouse" "callCount" "I", .fieldLink RX4 33 "RoamingHouse" "callRows" "[LRoamingHouse$Call;"] ++ wsX00 ++ wsX40 ++ (vx_atS RX4 77 "java/lang/IllegalStateException" ["java/lang/RuntimeException", "java/lang/Exception"]).filter goodWord ++ (vx_atS RX4 201 "java/lang/IndexOutOfBoundsException" ["java/lang/RuntimeException", "java/lang/Exception"]).filter goodWord)
def wsX4_answer : List Cond := .code yX4_answer cX4_answer 4 none :: ([.classLink RX4 73 "java/lang/IllegalStateException", .initialized "java/lang/IllegalStateException", .fieldLink RX4 131 "RoamingHouse$Call" "state" "I", .methodLink RX4 127 yX4_callAt, .instanceMethod yX4_callAt, .selects RX4 yX4_callAt yX4_callAt, .initialized RX4, .code yX4_callAt cX4_callAt 2 (some (.object "RoamingHouse$Call")), .classLink RX4 197 "java/lang/IndexOutOfBoundsException", .initialized "java/lang/IndexOutOfBoundsException", .fieldLink RX4 37 "RoamingHouse" "callCount" "I", .fieldLink RX4 33 "RoamingHouse" "callRows" "[LRoamingHouse$Call;"] ++ wsX00 ++ wsX40 ++ (vx_atS RX4 77 "java/lang/IllegalStateException" ["java/lang/RuntimeException", "java/lang/Exception"]).filter goodWord ++ (vx_atS RX4 201 "java/lang/IndexOutOfBoundsException" ["java/lang/RuntimeException", "java/lang/Exception"]).filter goodWord)
def wsX4_agree : List Cond := .code yX4_agree cX4_agree 7 none :: ([.constant RX4 148 (1000000), .fieldLink RX4 149 "RoamingHouse$Pair" "volume" "I", .fieldLink RX4 152 "RoamingHouse$Pair" "discountRate" "I", .fieldLink RX4 155 "RoamingHouse$Pair" "goesBack" "Z", .methodLink RX4 69 yX4_pairAt, .instanceMethod yX4_pairAt, .selects RX4 yX4_pairAt yX4_pairAt, .initialized RX4, .code yX4_pairAt cX4_pairAt 3 (some (.object "RoamingHouse$Pair")), .classLink RX4 197 "java/lang/IndexOutOfBoundsException", .initialized "java/lang/IndexOutOfBoundsException", .classLink RX4 188 "java/lang/IllegalArgumentException", .initialized "java/lang/IllegalArgumentException", .fieldLink RX4 17 "RoamingHouse" "pairs" "[LRoamingHouse$Pair;", .methodLink RX4 193 yX4_isOperator, .static yX4_isOperator, .code yX4_isOperator cX4_isOperator 1 (some .boolean), .methodLink RX4 51 yX4_refuseOutside, .static yX4_refuseOutside, .code yX4_refuseOutside cX4_refuseOutside 3 none] ++ wsX30 ++ wsX40 ++ (vx_atS RX4 201 "java/lang/IndexOutOfBoundsException" ["java/lang/RuntimeException", "java/lang/Exception"]).filter goodWord ++ (vx_atS RX4 192 "java/lang/IllegalArgumentException" ["java/lang/RuntimeException", "java/lang/Exception"]).filter goodWord)
def wsX4_promise : List Cond := .code yX4_promise cX4_promise 6 (some .int) :: ([.constant RX4 159 (100000000), .fieldLink RX4 160 "RoamingHouse$Pair" "promised" "I", .methodLink RX4 69 yX4_pairAt, .instanceMethod yX4_pairAt, .selects RX4 yX4_pairAt yX4_pairAt, .initialized RX4, .code yX4_pairAt cX4_pairAt 3 (some (.object "RoamingHouse$Pair")), .classLink RX4 197 "java/lang/IndexOutOfBoundsException", .initialized "java/lang/IndexOutOfBoundsException", .classLink RX4 188 "java/lang/IllegalArgumentException", .initialized "java/lang/IllegalArgumentException", .fieldLink RX4 17 "RoamingHouse" "pairs" "[LRoamingHouse$Pair;", .methodLink RX4 193 yX4_isOperator, .static yX4_isOperator, .code yX4_isOperator cX4_isOperator 1 (some .boolean), .methodLink RX4 51 yX4_refuseOutside, .static yX4_refuseOutside, .code yX4_refuseOutside cX4_refuseOutside 3 none] ++ wsX30 ++ wsX40 ++ (vx_atS RX4 201 "java/lang/IndexOutOfBoundsException" ["java/lang/RuntimeException", "java/lang/Exception"]).filter goodWord ++ (vx_atS RX4 192 "java/lang/IllegalArgumentException" ["java/lang/RuntimeException", "java/lang/Exception"]).filter goodWord)
def wsX4_setRate : List Cond := .code yX4_setRate cX4_setRate 5 (some .int) :: ([.constant RX4 163 (100000), .fieldLink RX4 164 "RoamingHouse$Operator" "unitRate" "I", .methodLink RX4 47 yX4_operatorAt, .instanceMethod yX4_operatorAt, .selects RX4 yX4_operatorAt yX4_operatorAt, .initialized RX4, .code yX4_operatorAt cX4_operatorAt 2 (some (.object "RoamingHouse$Operator")), .classLink RX4 197 "java/lang/IndexOutOfBoundsException", .initialized "java/lang/IndexOutOfBoundsException", .fieldLink RX4 11 "RoamingHouse" "operators" "[LRoamingHouse$Operator;", .methodLink RX4 193 yX4_isOperator, .static yX4_isOperator, .code yX4_isOperator cX4_isOperator 1 (some .boolean), .methodLink RX4 51 yX4_refuseOutside, .static yX4_refuseOutside, .code yX4_refuseOutside cX4_refuseOutside 3 none, .classLink RX4 188 "java/lang/IllegalArgumentException", .initialized "java/lang/IllegalArgumentException"] ++ wsX20 ++ wsX40 ++ (vx_atS RX4 201 "java/lang/IndexOutOfBoundsException" ["java/lang/RuntimeException", "java/lang/Exception"]).filter goodWord ++ (vx_atS RX4 192 "java/lang/IllegalArgumentException" ["java/lang/RuntimeException", "java/lang/Exception"]).filter goodWord)
def wsX4_giveBackUnanswered : List Cond := .code yX4_giveBackUnanswered cX4_giveBackUnanswered 3 none :: ([.fieldLink RX4 37 "RoamingHouse" "callCount" "I", .fieldLink RX4 33 "RoamingHouse" "callRows" "[LRoamingHouse$Call;", .fieldLink RX4 131 "RoamingHouse$Call" "state" "I", .fieldLink RX4 40 "RoamingHouse" "now" "I", .fieldLink RX4 143 "RoamingHouse$Call" "disputedIn" "I"] ++ wsX40 ++ wsX00)
def wsX4_nextMonth : List Cond := .code yX4_nextMonth cX4_nextMonth 1 (some .int) :: ([.classLink RX4 73 "java/lang/IllegalStateException", .initialized "java/lang/IllegalStateException", .fieldLink RX4 40 "RoamingHouse" "now" "I", .methodLink RX4 169 yX4_giveBackUnanswered, .instanceMethod yX4_giveBackUnanswered, .selects RX4 yX4_giveBackUnanswered yX4_giveBackUnanswered, .initialized RX4, .code yX4_giveBackUnanswered cX4_giveBackUnanswered 3 none, .fieldLink RX4 37 "RoamingHouse" "callCount" "I", .fieldLink RX4 33 "RoamingHouse" "callRows" "[LRoamingHouse$Call;", .fieldLink RX4 131 "RoamingHouse$Call" "state" "I", .fieldLink RX4 143 "RoamingHouse$Call" "disputedIn" "I"] ++ wsX40 ++ wsX00 ++ (vx_atS RX4 77 "java/lang/IllegalStateException" ["java/lang/RuntimeException", "java/lang/Exception"]).filter goodWord)
def wsX4_month : List Cond := .code yX4_month cX4_month 1 (some .int) :: ([.fieldLink RX4 40 "RoamingHouse" "now" "I"] ++ wsX40)
def wsX4_amountOfMonths_r1 : List Cond := [Cond.fieldLink RX4 37 "RoamingHouse" "callCount" "I", Cond.fieldLink RX4 33 "RoamingHouse" "callRows" "[LRoamingHouse$Call;", Cond.fieldLink RX4 221 "RoamingHouse$Call" "file" "LRoamingHouse$CallFile;", Cond.fieldLink RX4 103 "RoamingHouse$CallFile" "pair" "LRoamingHouse$Pair;", Cond.fieldLink RX4 132 "RoamingHouse$Call" "acceptedIn" "I", Cond.methodLink RX4 135 yX0_amount, Cond.instanceMethod yX0_amount, Cond.selects RX0 yX0_amount yX0_amount, Cond.initialized RX0, Cond.code yX0_amount cX0_amount 1 (some .int), Cond.fieldLink RX0 9 "RoamingHouse$Call" "state" "I", Cond.fieldLink RX0 24 "RoamingHouse$Call" "file" "LRoamingHouse$CallFile;", Cond.fieldLink RX0 34 "RoamingHouse$CallFile" "pair" "LRoamingHouse$Pair;", Cond.fieldLink RX0 15 "RoamingHouse$Call" "acceptedIn" "I", Cond.fieldLink RX0 21 "RoamingHouse$Call" "secondsAhead" "I", Cond.fieldLink RX0 31 "RoamingHouse$Call" "told" "I", Cond.fieldLink RX0 63 "RoamingHouse$Pair" "discountRate" "I", Cond.constantLong RX0 66 (10000), Cond.static yX4_yearOf, Cond.initialized RX4, Cond.code yX4_yearOf cX4_yearOf 1 (some .int), Cond.methodLink RX0 59 yX3_discounts, Cond.instanceMethod yX3_discounts, Cond.selects RX3 yX3_discounts yX3_discounts]
def wsX4_amountOfMonths_r2 : List Cond := [Cond.initialized RX3, Cond.code yX3_discounts cX3_discounts 3 (some .boolean), Cond.fieldLink RX3 24 "RoamingHouse$Pair" "goesBack" "Z", Cond.fieldLink RX3 28 "RoamingHouse$Pair" "acceptedSeconds" "[I", Cond.fieldLink RX3 18 "RoamingHouse$Pair" "volume" "I"]
def wsX4_amountOfMonths : List Cond := .code yX4_amountOfMonths cX4_amountOfMonths 8 (some .long) :: ((wsX4_amountOfMonths_r1 ++ wsX4_amountOfMonths_r2) ++ wsX40 ++ wsX00 ++ wsX10 ++ wsX30)
def wsX4_owed_r1 : List Cond := [Cond.fieldLink RX4 40 "RoamingHouse" "now" "I", Cond.methodLink RX4 69 yX4_pairAt, Cond.instanceMethod yX4_pairAt, Cond.selects RX4 yX4_pairAt yX4_pairAt, Cond.initialized RX4, Cond.code yX4_pairAt cX4_pairAt 3 (some (.object "RoamingHouse$Pair")), Cond.classLink RX4 197 "java/lang/IndexOutOfBoundsException", Cond.initialized "java/lang/IndexOutOfBoundsException", Cond.classLink RX4 188 "java/lang/IllegalArgumentException", Cond.initialized "java/lang/IllegalArgumentException", Cond.fieldLink RX4 17 "RoamingHouse" "pairs" "[LRoamingHouse$Pair;", Cond.methodLink RX4 193 yX4_isOperator, Cond.static yX4_isOperator, Cond.code yX4_isOperator cX4_isOperator 1 (some .boolean), Cond.methodLink RX4 51 yX4_refuseOutside, Cond.static yX4_refuseOutside, Cond.code yX4_refuseOutside cX4_refuseOutside 3 none, Cond.methodLink RX4 172 yX4_amountOfMonths, Cond.instanceMethod yX4_amountOfMonths, Cond.selects RX4 yX4_amountOfMonths yX4_amountOfMonths, Cond.code yX4_amountOfMonths cX4_amountOfMonths 8 (some .long), Cond.fieldLink RX4 37 "RoamingHouse" "callCount" "I", Cond.fieldLink RX4 33 "RoamingHouse" "callRows" "[LRoamingHouse$Call;", Cond.fieldLink RX4 221 "RoamingHouse$Call" "file" "LRoamingHouse$CallFile;"]
def wsX4_owed_r2 : List Cond := [Cond.fieldLink RX4 103 "RoamingHouse$CallFile" "pair" "LRoamingHouse$Pair;", Cond.fieldLink RX4 132 "RoamingHouse$Call" "acceptedIn" "I", Cond.methodLink RX4 135 yX0_amount, Cond.instanceMethod yX0_amount, Cond.selects RX0 yX0_amount yX0_amount, Cond.initialized RX0, Cond.code yX0_amount cX0_amount 1 (some .int), Cond.fieldLink RX0 9 "RoamingHouse$Call" "state" "I", Cond.fieldLink RX0 24 "RoamingHouse$Call" "file" "LRoamingHouse$CallFile;", Cond.fieldLink RX0 34 "RoamingHouse$CallFile" "pair" "LRoamingHouse$Pair;", Cond.fieldLink RX0 15 "RoamingHouse$Call" "acceptedIn" "I", Cond.fieldLink RX0 21 "RoamingHouse$Call" "secondsAhead" "I", Cond.fieldLink RX0 31 "RoamingHouse$Call" "told" "I", Cond.fieldLink RX0 63 "RoamingHouse$Pair" "discountRate" "I", Cond.constantLong RX0 66 (10000), Cond.static yX4_yearOf, Cond.code yX4_yearOf cX4_yearOf 1 (some .int), Cond.methodLink RX0 59 yX3_discounts, Cond.instanceMethod yX3_discounts, Cond.selects RX3 yX3_discounts yX3_discounts, Cond.initialized RX3, Cond.code yX3_discounts cX3_discounts 3 (some .boolean), Cond.fieldLink RX3 24 "RoamingHouse$Pair" "goesBack" "Z", Cond.fieldLink RX3 28 "RoamingHouse$Pair" "acceptedSeconds" "[I"]
def wsX4_owed_r3 : List Cond := [Cond.fieldLink RX3 18 "RoamingHouse$Pair" "volume" "I"]
def wsX4_owed : List Cond := .code yX4_owed cX4_owed 5 (some .long) :: ((wsX4_owed_r1 ++ (wsX4_owed_r2 ++ wsX4_owed_r3)) ++ wsX40 ++ wsX00 ++ wsX10 ++ wsX30 ++ (vx_atS RX4 201 "java/lang/IndexOutOfBoundsException" ["java/lang/RuntimeException", "java/lang/Exception"]).filter goodWord ++ (vx_atS RX4 192 "java/lang/IllegalArgumentException" ["java/lang/RuntimeException", "java/lang/Exception"]).filter goodWord)
def wsX4_shortfall_r1 : List Cond := [Cond.classLink RX4 73 "java/lang/IllegalStateException", Cond.initialized "java/lang/IllegalStateException", Cond.fieldLink RX4 40 "RoamingHouse" "now" "I", Cond.fieldLink RX4 160 "RoamingHouse$Pair" "promised" "I", Cond.methodLink RX4 181 Lib.MathLoose.max_long.x, Cond.static Lib.MathLoose.max_long.x, Cond.initialized "java/lang/Math", Cond.code Lib.MathLoose.max_long.x Lib.MathLoose.max_long.code 4 (some .long), Cond.methodLink RX4 69 yX4_pairAt, Cond.instanceMethod yX4_pairAt, Cond.selects RX4 yX4_pairAt yX4_pairAt, Cond.initialized RX4, Cond.code yX4_pairAt cX4_pairAt 3 (some (.object "RoamingHouse$Pair")), Cond.classLink RX4 197 "java/lang/IndexOutOfBoundsException", Cond.initialized "java/lang/IndexOutOfBoundsException", Cond.classLink RX4 188 "java/lang/IllegalArgumentException", Cond.initialized "java/lang/IllegalArgumentException", Cond.fieldLink RX4 17 "RoamingHouse" "pairs" "[LRoamingHouse$Pair;", Cond.methodLink RX4 193 yX4_isOperator, Cond.static yX4_isOperator, Cond.code yX4_isOperator cX4_isOperator 1 (some .boolean), Cond.methodLink RX4 51 yX4_refuseOutside, Cond.static yX4_refuseOutside, Cond.code yX4_refuseOutside cX4_refuseOutside 3 none]
def wsX4_shortfall_r2 : List Cond := [Cond.methodLink RX4 176 yX4_yearOf, Cond.static yX4_yearOf, Cond.code yX4_yearOf cX4_yearOf 1 (some .int), Cond.methodLink RX4 172 yX4_amountOfMonths, Cond.instanceMethod yX4_amountOfMonths, Cond.selects RX4 yX4_amountOfMonths yX4_amountOfMonths, Cond.code yX4_amountOfMonths cX4_amountOfMonths 8 (some .long), Cond.fieldLink RX4 37 "RoamingHouse" "callCount" "I", Cond.fieldLink RX4 33 "RoamingHouse" "callRows" "[LRoamingHouse$Call;", Cond.fieldLink RX4 221 "RoamingHouse$Call" "file" "LRoamingHouse$CallFile;", Cond.fieldLink RX4 103 "RoamingHouse$CallFile" "pair" "LRoamingHouse$Pair;", Cond.fieldLink RX4 132 "RoamingHouse$Call" "acceptedIn" "I", Cond.methodLink RX4 135 yX0_amount, Cond.instanceMethod yX0_amount, Cond.selects RX0 yX0_amount yX0_amount, Cond.initialized RX0, Cond.code yX0_amount cX0_amount 1 (some .int), Cond.fieldLink RX0 9 "RoamingHouse$Call" "state" "I", Cond.fieldLink RX0 24 "RoamingHouse$Call" "file" "LRoamingHouse$CallFile;", Cond.fieldLink RX0 34 "RoamingHouse$CallFile" "pair" "LRoamingHouse$Pair;", Cond.fieldLink RX0 15 "RoamingHouse$Call" "acceptedIn" "I", Cond.fieldLink RX0 21 "RoamingHouse$Call" "secondsAhead" "I", Cond.fieldLink RX0 31 "RoamingHouse$Call" "told" "I", Cond.fieldLink RX0 63 "RoamingHouse$Pair" "discountRate" "I"]
def wsX4_shortfall_r3 : List Cond := [Cond.constantLong RX0 66 (10000), Cond.methodLink RX0 59 yX3_discounts, Cond.instanceMethod yX3_discounts, Cond.selects RX3 yX3_discounts yX3_discounts, Cond.initialized RX3, Cond.code yX3_discounts cX3_discounts 3 (some .boolean), Cond.fieldLink RX3 24 "RoamingHouse$Pair" "goesBack" "Z", Cond.fieldLink RX3 28 "RoamingHouse$Pair" "acceptedSeconds" "[I", Cond.fieldLink RX3 18 "RoamingHouse$Pair" "volume" "I"]
def wsX4_shortfall : List Cond := .code yX4_shortfall cX4_shortfall 6 (some .long) :: ((wsX4_shortfall_r1 ++ (wsX4_shortfall_r2 ++ wsX4_shortfall_r3)) ++ wsX40 ++ wsX30 ++ wsX00 ++ wsX10 ++ (vx_atS RX4 77 "java/lang/IllegalStateException" ["java/lang/RuntimeException", "java/lang/Exception"]).filter goodWord ++ (vx_atS RX4 201 "java/lang/IndexOutOfBoundsException" ["java/lang/RuntimeException", "java/lang/Exception"]).filter goodWord ++ (vx_atS RX4 192 "java/lang/IllegalArgumentException" ["java/lang/RuntimeException", "java/lang/Exception"]).filter goodWord)
def wsX4_unitsOfMonth_r1 : List Cond := [Cond.fieldLink RX4 233 "RoamingHouse$Pair" "host" "LRoamingHouse$Operator;", Cond.fieldLink RX4 164 "RoamingHouse$Operator" "unitRate" "I", Cond.constantLong RX4 237 (1000), Cond.methodLink RX4 172 yX4_amountOfMonths, Cond.instanceMethod yX4_amountOfMonths, Cond.selects RX4 yX4_amountOfMonths yX4_amountOfMonths, Cond.initialized RX4, Cond.code yX4_amountOfMonths cX4_amountOfMonths 8 (some .long), Cond.fieldLink RX4 37 "RoamingHouse" "callCount" "I", Cond.fieldLink RX4 33 "RoamingHouse" "callRows" "[LRoamingHouse$Call;", Cond.fieldLink RX4 221 "RoamingHouse$Call" "file" "LRoamingHouse$CallFile;", Cond.fieldLink RX4 103 "RoamingHouse$CallFile" "pair" "LRoamingHouse$Pair;", Cond.fieldLink RX4 132 "RoamingHouse$Call" "acceptedIn" "I", Cond.methodLink RX4 135 yX0_amount, Cond.instanceMethod yX0_amount, Cond.selects RX0 yX0_amount yX0_amount, Cond.initialized RX0, Cond.code yX0_amount cX0_amount 1 (some .int), Cond.fieldLink RX0 9 "RoamingHouse$Call" "state" "I", Cond.fieldLink RX0 24 "RoamingHouse$Call" "file" "LRoamingHouse$CallFile;", Cond.fieldLink RX0 34 "RoamingHouse$CallFile" "pair" "LRoamingHouse$Pair;", Cond.fieldLink RX0 15 "RoamingHouse$Call" "acceptedIn" "I", Cond.fieldLink RX0 21 "RoamingHouse$Call" "secondsAhead" "I", Cond.fieldLink RX0 31 "RoamingHouse$Call" "told" "I"]
def wsX4_unitsOfMonth_r2 : List Cond := [Cond.fieldLink RX0 63 "RoamingHouse$Pair" "discountRate" "I", Cond.constantLong RX0 66 (10000), Cond.static yX4_yearOf, Cond.code yX4_yearOf cX4_yearOf 1 (some .int), Cond.methodLink RX0 59 yX3_discounts, Cond.instanceMethod yX3_discounts, Cond.selects RX3 yX3_discounts yX3_discounts, Cond.initialized RX3, Cond.code yX3_discounts cX3_discounts 3 (some .boolean), Cond.fieldLink RX3 24 "RoamingHouse$Pair" "goesBack" "Z", Cond.fieldLink RX3 28 "RoamingHouse$Pair" "acceptedSeconds" "[I", Cond.fieldLink RX3 18 "RoamingHouse$Pair" "volume" "I"]
def wsX4_unitsOfMonth : List Cond := .code yX4_unitsOfMonth cX4_unitsOfMonth 3 (some .long) :: ((wsX4_unitsOfMonth_r1 ++ wsX4_unitsOfMonth_r2) ++ wsX30 ++ wsX20 ++ wsX40 ++ wsX00 ++ wsX10)
def wsX4_net_r1 : List Cond := [Cond.fieldLink RX4 40 "RoamingHouse" "now" "I", Cond.fieldLink RX4 17 "RoamingHouse" "pairs" "[LRoamingHouse$Pair;", Cond.methodLink RX4 47 yX4_operatorAt, Cond.instanceMethod yX4_operatorAt, Cond.selects RX4 yX4_operatorAt yX4_operatorAt, Cond.initialized RX4, Cond.code yX4_operatorAt cX4_operatorAt 2 (some (.object "RoamingHouse$Operator")), Cond.classLink RX4 197 "java/lang/IndexOutOfBoundsException", Cond.initialized "java/lang/IndexOutOfBoundsException", Cond.fieldLink RX4 11 "RoamingHouse" "operators" "[LRoamingHouse$Operator;", Cond.methodLink RX4 193 yX4_isOperator, Cond.static yX4_isOperator, Cond.code yX4_isOperator cX4_isOperator 1 (some .boolean), Cond.methodLink RX4 51 yX4_refuseOutside, Cond.static yX4_refuseOutside, Cond.code yX4_refuseOutside cX4_refuseOutside 3 none, Cond.classLink RX4 188 "java/lang/IllegalArgumentException", Cond.initialized "java/lang/IllegalArgumentException", Cond.methodLink RX4 184 yX4_unitsOfMonth, Cond.instanceMethod yX4_unitsOfMonth, Cond.selects RX4 yX4_unitsOfMonth yX4_unitsOfMonth, Cond.code yX4_unitsOfMonth cX4_unitsOfMonth 3 (some .long), Cond.fieldLink RX4 233 "RoamingHouse$Pair" "host" "LRoamingHouse$Operator;", Cond.fieldLink RX4 164 "RoamingHouse$Operator" "unitRate" "I"]
def wsX4_net_r2 : List Cond := [Cond.constantLong RX4 237 (1000), Cond.methodLink RX4 172 yX4_amountOfMonths, Cond.instanceMethod yX4_amountOfMonths, Cond.selects RX4 yX4_amountOfMonths yX4_amountOfMonths, Cond.code yX4_amountOfMonths cX4_amountOfMonths 8 (some .long), Cond.fieldLink RX4 37 "RoamingHouse" "callCount" "I", Cond.fieldLink RX4 33 "RoamingHouse" "callRows" "[LRoamingHouse$Call;", Cond.fieldLink RX4 221 "RoamingHouse$Call" "file" "LRoamingHouse$CallFile;", Cond.fieldLink RX4 103 "RoamingHouse$CallFile" "pair" "LRoamingHouse$Pair;", Cond.fieldLink RX4 132 "RoamingHouse$Call" "acceptedIn" "I", Cond.methodLink RX4 135 yX0_amount, Cond.instanceMethod yX0_amount, Cond.selects RX0 yX0_amount yX0_amount, Cond.initialized RX0, Cond.code yX0_amount cX0_amount 1 (some .int), Cond.fieldLink RX0 9 "RoamingHouse$Call" "state" "I", Cond.fieldLink RX0 24 "RoamingHouse$Call" "file" "LRoamingHouse$CallFile;", Cond.fieldLink RX0 34 "RoamingHouse$CallFile" "pair" "LRoamingHouse$Pair;", Cond.fieldLink RX0 15 "RoamingHouse$Call" "acceptedIn" "I", Cond.fieldLink RX0 21 "RoamingHouse$Call" "secondsAhead" "I", Cond.fieldLink RX0 31 "RoamingHouse$Call" "told" "I", Cond.fieldLink RX0 63 "RoamingHouse$Pair" "discountRate" "I", Cond.constantLong RX0 66 (10000), Cond.static yX4_yearOf]
def wsX4_net_r3 : List Cond := [Cond.code yX4_yearOf cX4_yearOf 1 (some .int), Cond.methodLink RX0 59 yX3_discounts, Cond.instanceMethod yX3_discounts, Cond.selects RX3 yX3_discounts yX3_discounts, Cond.initialized RX3, Cond.code yX3_discounts cX3_discounts 3 (some .boolean), Cond.fieldLink RX3 24 "RoamingHouse$Pair" "goesBack" "Z", Cond.fieldLink RX3 28 "RoamingHouse$Pair" "acceptedSeconds" "[I", Cond.fieldLink RX3 18 "RoamingHouse$Pair" "volume" "I"]
def wsX4_net : List Cond := .code yX4_net cX4_net 6 (some .long) :: ((wsX4_net_r1 ++ (wsX4_net_r2 ++ wsX4_net_r3)) ++ wsX40 ++ wsX30 ++ wsX20 ++ wsX00 ++ wsX10 ++ (vx_atS RX4 201 "java/lang/IndexOutOfBoundsException" ["java/lang/RuntimeException", "java/lang/Exception"]).filter goodWord ++ (vx_atS RX4 192 "java/lang/IllegalArgumentException" ["java/lang/RuntimeException", "java/lang/Exception"]).filter goodWord)
def wsX5_init_r1 : List Cond := [Cond.methodLink RX5 1 objectInit, Cond.instanceMethod objectInit, Cond.code objectInit ⟨#[0xb1]⟩ 1 none, Cond.arrayClass .int, Cond.fieldLink RX5 7 "RoamingHouseModel" "steps" "[I", Cond.fieldLink RX5 13 "RoamingHouseModel" "prices" "[I", Cond.fieldLink RX5 16 "RoamingHouseModel" "beginnings" "[I", Cond.fieldLink RX5 19 "RoamingHouseModel" "rates" "[I", Cond.fieldLink RX5 22 "RoamingHouseModel" "pairOf" "[I", Cond.fieldLink RX5 25 "RoamingHouseModel" "fileMonths" "[I", Cond.fieldLink RX5 28 "RoamingHouseModel" "fileStates" "[I", Cond.fieldLink RX5 31 "RoamingHouseModel" "sentAs" "[I", Cond.fieldLink RX5 34 "RoamingHouseModel" "fileOf" "[I", Cond.fieldLink RX5 37 "RoamingHouseModel" "secondsOf" "[I", Cond.fieldLink RX5 40 "RoamingHouseModel" "charges" "[I", Cond.fieldLink RX5 43 "RoamingHouseModel" "callStates" "[I", Cond.fieldLink RX5 46 "RoamingHouseModel" "months" "[I", Cond.fieldLink RX5 49 "RoamingHouseModel" "disputedIn" "[I", Cond.fieldLink RX5 52 "RoamingHouseModel" "accepted" "[I", Cond.fieldLink RX5 55 "RoamingHouseModel" "expects" "[I", Cond.arrayClass .boolean, Cond.fieldLink RX5 58 "RoamingHouseModel" "hasAgreement" "[Z", Cond.fieldLink RX5 62 "RoamingHouseModel" "volumes" "[I", Cond.fieldLink RX5 65 "RoamingHouseModel" "discounts" "[I"]
def wsX5_init_r2 : List Cond := [Cond.fieldLink RX5 68 "RoamingHouseModel" "goesBack" "[Z", Cond.fieldLink RX5 71 "RoamingHouseModel" "promises" "[I"]
def wsX5_init : List Cond := .code yX5_init cX5_init 2 none :: ((wsX5_init_r1 ++ wsX5_init_r2) ++ wsX50)
def wsX5_thrown : List Cond := .code yX5_thrown cX5_thrown 1 (some .int) :: ([.fieldLink RX5 74 "RoamingHouseModel" "thrown" "I"] ++ wsX50)
def wsX5_in : List Cond := .code yX5_in cX5_in 3 (some .boolean) :: ([])
def wsX5_isOperator : List Cond := .code yX5_isOperator cX5_isOperator 1 (some .boolean) :: ([.methodLink RX5 78 yX5_in, .static yX5_in, .initialized RX5, .code yX5_in cX5_in 3 (some .boolean)])
def wsX5_isPair : List Cond := .code yX5_isPair cX5_isPair 4 (some .boolean) :: ([.fieldLink RX5 74 "RoamingHouseModel" "thrown" "I", .methodLink RX5 82 yX5_isOperator, .static yX5_isOperator, .initialized RX5, .code yX5_isOperator cX5_isOperator 1 (some .boolean), .methodLink RX5 78 yX5_in, .static yX5_in, .code yX5_in cX5_in 3 (some .boolean)] ++ wsX50)
def wsX5_isFile : List Cond := .code yX5_isFile cX5_isFile 2 (some .boolean) :: ([.fieldLink RX5 86 "RoamingHouseModel" "fileMany" "I", .methodLink RX5 78 yX5_in, .static yX5_in, .initialized RX5, .code yX5_in cX5_in 3 (some .boolean)] ++ wsX50)
def wsX5_isCall : List Cond := .code yX5_isCall cX5_isCall 2 (some .boolean) :: ([.fieldLink RX5 89 "RoamingHouseModel" "callMany" "I", .methodLink RX5 78 yX5_in, .static yX5_in, .initialized RX5, .code yX5_in cX5_in 3 (some .boolean)] ++ wsX50)
def wsX5_setTariff : List Cond := .code yX5_setTariff cX5_setTariff 6 (some .int) :: ([.fieldLink RX5 74 "RoamingHouseModel" "thrown" "I", .fieldLink RX5 13 "RoamingHouseModel" "prices" "[I", .fieldLink RX5 7 "RoamingHouseModel" "steps" "[I", .fieldLink RX5 16 "RoamingHouseModel" "beginnings" "[I", .methodLink RX5 82 yX5_isOperator, .static yX5_isOperator, .initialized RX5, .code yX5_isOperator cX5_isOperator 1 (some .boolean), .methodLink RX5 78 yX5_in, .static yX5_in, .code yX5_in cX5_in 3 (some .boolean)] ++ wsX50)
def wsX5_chargeFor : List Cond := .code yX5_chargeFor cX5_chargeFor 3 (some .int) :: ([.fieldLink RX5 16 "RoamingHouseModel" "beginnings" "[I", .fieldLink RX5 13 "RoamingHouseModel" "prices" "[I", .fieldLink RX5 7 "RoamingHouseModel" "steps" "[I"] ++ wsX50)
def wsX5_charge : List Cond := .code yX5_charge cX5_charge 3 (some .int) :: ([.constant RX5 92 (36000), .fieldLink RX5 74 "RoamingHouseModel" "thrown" "I", .methodLink RX5 82 yX5_isOperator, .static yX5_isOperator, .initialized RX5, .code yX5_isOperator cX5_isOperator 1 (some .boolean), .methodLink RX5 78 yX5_in, .static yX5_in, .code yX5_in cX5_in 3 (some .boolean), .methodLink RX5 93 yX5_chargeFor, .instanceMethod yX5_chargeFor, .selects RX5 yX5_chargeFor yX5_chargeFor, .code yX5_chargeFor cX5_chargeFor 3 (some .int), .fieldLink RX5 16 "RoamingHouseModel" "beginnings" "[I", .fieldLink RX5 13 "RoamingHouseModel" "prices" "[I", .fieldLink RX5 7 "RoamingHouseModel" "steps" "[I"] ++ wsX50)
def wsX5_begin : List Cond := .code yX5_begin cX5_begin 3 (some .int) :: ([.fieldLink RX5 86 "RoamingHouseModel" "fileMany" "I", .fieldLink RX5 74 "RoamingHouseModel" "thrown" "I", .fieldLink RX5 22 "RoamingHouseModel" "pairOf" "[I", .fieldLink RX5 25 "RoamingHouseModel" "fileMonths" "[I", .fieldLink RX5 101 "RoamingHouseModel" "now" "I", .fieldLink RX5 28 "RoamingHouseModel" "fileStates" "[I", .methodLink RX5 97 yX5_isPair, .instanceMethod yX5_isPair, .selects RX5 yX5_isPair yX5_isPair, .initialized RX5, .code yX5_isPair cX5_isPair 4 (some .boolean), .methodLink RX5 82 yX5_isOperator, .static yX5_isOperator, .code yX5_isOperator cX5_isOperator 1 (some .boolean), .methodLink RX5 78 yX5_in, .static yX5_in, .code yX5_in cX5_in 3 (some .boolean)] ++ wsX50)
def wsX5_enter : List Cond := .code yX5_enter cX5_enter 4 (some .int) :: ([.constant RX5 92 (36000), .constant RX5 107 (50000000), .fieldLink RX5 28 "RoamingHouseModel" "fileStates" "[I", .fieldLink RX5 89 "RoamingHouseModel" "callMany" "I", .fieldLink RX5 74 "RoamingHouseModel" "thrown" "I", .fieldLink RX5 34 "RoamingHouseModel" "fileOf" "[I", .fieldLink RX5 37 "RoamingHouseModel" "secondsOf" "[I", .fieldLink RX5 40 "RoamingHouseModel" "charges" "[I", .fieldLink RX5 43 "RoamingHouseModel" "callStates" "[I", .methodLink RX5 104 yX5_isFile, .instanceMethod yX5_isFile, .selects RX5 yX5_isFile yX5_isFile, .initialized RX5, .code yX5_isFile cX5_isFile 2 (some .boolean), .fieldLink RX5 86 "RoamingHouseModel" "fileMany" "I", .methodLink RX5 78 yX5_in, .static yX5_in, .code yX5_in cX5_in 3 (some .boolean)] ++ wsX50)
def wsX5_isRight : List Cond := .code yX5_isRight cX5_isRight 2 (some .boolean) :: ([.fieldLink RX5 22 "RoamingHouseModel" "pairOf" "[I", .fieldLink RX5 34 "RoamingHouseModel" "fileOf" "[I", .fieldLink RX5 37 "RoamingHouseModel" "secondsOf" "[I", .fieldLink RX5 40 "RoamingHouseModel" "charges" "[I", .methodLink RX5 93 yX5_chargeFor, .instanceMethod yX5_chargeFor, .selects RX5 yX5_chargeFor yX5_chargeFor, .initialized RX5, .code yX5_chargeFor cX5_chargeFor 3 (some .int), .fieldLink RX5 16 "RoamingHouseModel" "beginnings" "[I", .fieldLink RX5 13 "RoamingHouseModel" "prices" "[I", .fieldLink RX5 7 "RoamingHouseModel" "steps" "[I"] ++ wsX50)
def wsX5_callsOf : List Cond := .code yX5_callsOf cX5_callsOf 5 (some .int) :: ([.fieldLink RX5 89 "RoamingHouseModel" "callMany" "I", .fieldLink RX5 34 "RoamingHouseModel" "fileOf" "[I", .methodLink RX5 108 yX5_isRight, .instanceMethod yX5_isRight, .selects RX5 yX5_isRight yX5_isRight, .initialized RX5, .code yX5_isRight cX5_isRight 2 (some .boolean), .fieldLink RX5 22 "RoamingHouseModel" "pairOf" "[I", .fieldLink RX5 37 "RoamingHouseModel" "secondsOf" "[I", .fieldLink RX5 40 "RoamingHouseModel" "charges" "[I", .methodLink RX5 93 yX5_chargeFor, .instanceMethod yX5_chargeFor, .selects RX5 yX5_chargeFor yX5_chargeFor, .code yX5_chargeFor cX5_chargeFor 3 (some .int), .fieldLink RX5 16 "RoamingHouseModel" "beginnings" "[I", .fieldLink RX5 13 "RoamingHouseModel" "prices" "[I", .fieldLink RX5 7 "RoamingHouseModel" "steps" "[I"] ++ wsX50)
def wsX5_lookAt_r1 : List Cond := [Cond.fieldLink RX5 101 "RoamingHouseModel" "now" "I", Cond.fieldLink RX5 25 "RoamingHouseModel" "fileMonths" "[I", Cond.fieldLink RX5 28 "RoamingHouseModel" "fileStates" "[I", Cond.fieldLink RX5 89 "RoamingHouseModel" "callMany" "I", Cond.fieldLink RX5 34 "RoamingHouseModel" "fileOf" "[I", Cond.fieldLink RX5 43 "RoamingHouseModel" "callStates" "[I", Cond.fieldLink RX5 46 "RoamingHouseModel" "months" "[I", Cond.fieldLink RX5 52 "RoamingHouseModel" "accepted" "[I", Cond.fieldLink RX5 115 "RoamingHouseModel" "acceptedMany" "I", Cond.methodLink RX5 111 yX5_callsOf, Cond.instanceMethod yX5_callsOf, Cond.selects RX5 yX5_callsOf yX5_callsOf, Cond.initialized RX5, Cond.code yX5_callsOf cX5_callsOf 5 (some .int), Cond.methodLink RX5 108 yX5_isRight, Cond.instanceMethod yX5_isRight, Cond.selects RX5 yX5_isRight yX5_isRight, Cond.code yX5_isRight cX5_isRight 2 (some .boolean), Cond.fieldLink RX5 22 "RoamingHouseModel" "pairOf" "[I", Cond.fieldLink RX5 37 "RoamingHouseModel" "secondsOf" "[I", Cond.fieldLink RX5 40 "RoamingHouseModel" "charges" "[I", Cond.methodLink RX5 93 yX5_chargeFor, Cond.instanceMethod yX5_chargeFor, Cond.selects RX5 yX5_chargeFor yX5_chargeFor]
def wsX5_lookAt_r2 : List Cond := [Cond.code yX5_chargeFor cX5_chargeFor 3 (some .int), Cond.fieldLink RX5 16 "RoamingHouseModel" "beginnings" "[I", Cond.fieldLink RX5 13 "RoamingHouseModel" "prices" "[I", Cond.fieldLink RX5 7 "RoamingHouseModel" "steps" "[I"]
def wsX5_lookAt : List Cond := .code yX5_lookAt cX5_lookAt 3 none :: ((wsX5_lookAt_r1 ++ wsX5_lookAt_r2) ++ wsX50)
def wsX5_waiting : List Cond := .code yX5_waiting cX5_waiting 5 (some .int) :: ([.fieldLink RX5 86 "RoamingHouseModel" "fileMany" "I", .fieldLink RX5 28 "RoamingHouseModel" "fileStates" "[I", .fieldLink RX5 22 "RoamingHouseModel" "pairOf" "[I", .fieldLink RX5 31 "RoamingHouseModel" "sentAs" "[I"] ++ wsX50)
def wsX5_send_r1 : List Cond := [Cond.fieldLink RX5 28 "RoamingHouseModel" "fileStates" "[I", Cond.fieldLink RX5 74 "RoamingHouseModel" "thrown" "I", Cond.fieldLink RX5 22 "RoamingHouseModel" "pairOf" "[I", Cond.fieldLink RX5 55 "RoamingHouseModel" "expects" "[I", Cond.fieldLink RX5 31 "RoamingHouseModel" "sentAs" "[I", Cond.methodLink RX5 104 yX5_isFile, Cond.instanceMethod yX5_isFile, Cond.selects RX5 yX5_isFile yX5_isFile, Cond.initialized RX5, Cond.code yX5_isFile cX5_isFile 2 (some .boolean), Cond.fieldLink RX5 86 "RoamingHouseModel" "fileMany" "I", Cond.methodLink RX5 78 yX5_in, Cond.static yX5_in, Cond.code yX5_in cX5_in 3 (some .boolean), Cond.methodLink RX5 111 yX5_callsOf, Cond.instanceMethod yX5_callsOf, Cond.selects RX5 yX5_callsOf yX5_callsOf, Cond.code yX5_callsOf cX5_callsOf 5 (some .int), Cond.fieldLink RX5 89 "RoamingHouseModel" "callMany" "I", Cond.fieldLink RX5 34 "RoamingHouseModel" "fileOf" "[I", Cond.methodLink RX5 108 yX5_isRight, Cond.instanceMethod yX5_isRight, Cond.selects RX5 yX5_isRight yX5_isRight, Cond.code yX5_isRight cX5_isRight 2 (some .boolean)]
def wsX5_send_r2 : List Cond := [Cond.fieldLink RX5 37 "RoamingHouseModel" "secondsOf" "[I", Cond.fieldLink RX5 40 "RoamingHouseModel" "charges" "[I", Cond.methodLink RX5 93 yX5_chargeFor, Cond.instanceMethod yX5_chargeFor, Cond.selects RX5 yX5_chargeFor yX5_chargeFor, Cond.code yX5_chargeFor cX5_chargeFor 3 (some .int), Cond.fieldLink RX5 16 "RoamingHouseModel" "beginnings" "[I", Cond.fieldLink RX5 13 "RoamingHouseModel" "prices" "[I", Cond.fieldLink RX5 7 "RoamingHouseModel" "steps" "[I", Cond.methodLink RX5 118 yX5_waiting, Cond.instanceMethod yX5_waiting, Cond.selects RX5 yX5_waiting yX5_waiting, Cond.code yX5_waiting cX5_waiting 5 (some .int), Cond.methodLink RX5 121 yX5_lookAt, Cond.instanceMethod yX5_lookAt, Cond.selects RX5 yX5_lookAt yX5_lookAt, Cond.code yX5_lookAt cX5_lookAt 3 none, Cond.fieldLink RX5 101 "RoamingHouseModel" "now" "I", Cond.fieldLink RX5 25 "RoamingHouseModel" "fileMonths" "[I", Cond.fieldLink RX5 43 "RoamingHouseModel" "callStates" "[I", Cond.fieldLink RX5 46 "RoamingHouseModel" "months" "[I", Cond.fieldLink RX5 52 "RoamingHouseModel" "accepted" "[I", Cond.fieldLink RX5 115 "RoamingHouseModel" "acceptedMany" "I"]
def wsX5_send : List Cond := .code yX5_send cX5_send 5 (some .int) :: ((wsX5_send_r1 ++ wsX5_send_r2) ++ wsX50)
def wsX5_stateOf : List Cond := .code yX5_stateOf cX5_stateOf 2 (some .int) :: ([.fieldLink RX5 74 "RoamingHouseModel" "thrown" "I", .fieldLink RX5 28 "RoamingHouseModel" "fileStates" "[I", .methodLink RX5 104 yX5_isFile, .instanceMethod yX5_isFile, .selects RX5 yX5_isFile yX5_isFile, .initialized RX5, .code yX5_isFile cX5_isFile 2 (some .boolean), .fieldLink RX5 86 "RoamingHouseModel" "fileMany" "I", .methodLink RX5 78 yX5_in, .static yX5_in, .code yX5_in cX5_in 3 (some .boolean)] ++ wsX50)
def wsX5_expected : List Cond := .code yX5_expected cX5_expected 3 (some .int) :: ([.fieldLink RX5 55 "RoamingHouseModel" "expects" "[I", .methodLink RX5 97 yX5_isPair, .instanceMethod yX5_isPair, .selects RX5 yX5_isPair yX5_isPair, .initialized RX5, .code yX5_isPair cX5_isPair 4 (some .boolean), .fieldLink RX5 74 "RoamingHouseModel" "thrown" "I", .methodLink RX5 82 yX5_isOperator, .static yX5_isOperator, .code yX5_isOperator cX5_isOperator 1 (some .boolean), .methodLink RX5 78 yX5_in, .static yX5_in, .code yX5_in cX5_in 3 (some .boolean)] ++ wsX50)
def wsX5_lacking : List Cond := .code yX5_lacking cX5_lacking 7 (some .int) :: ([.fieldLink RX5 86 "RoamingHouseModel" "fileMany" "I", .fieldLink RX5 28 "RoamingHouseModel" "fileStates" "[I", .fieldLink RX5 22 "RoamingHouseModel" "pairOf" "[I", .fieldLink RX5 31 "RoamingHouseModel" "sentAs" "[I", .fieldLink RX5 55 "RoamingHouseModel" "expects" "[I", .methodLink RX5 97 yX5_isPair, .instanceMethod yX5_isPair, .selects RX5 yX5_isPair yX5_isPair, .initialized RX5, .code yX5_isPair cX5_isPair 4 (some .boolean), .fieldLink RX5 74 "RoamingHouseModel" "thrown" "I", .methodLink RX5 82 yX5_isOperator, .static yX5_isOperator, .code yX5_isOperator cX5_isOperator 1 (some .boolean), .methodLink RX5 78 yX5_in, .static yX5_in, .code yX5_in cX5_in 3 (some .boolean)] ++ wsX50)
def wsX5_calls : List Cond := .code yX5_calls cX5_calls 1 (some .int) :: ([.fieldLink RX5 74 "RoamingHouseModel" "thrown" "I", .fieldLink RX5 89 "RoamingHouseModel" "callMany" "I"] ++ wsX50)
def wsX5_call : List Cond := .code yX5_call cX5_call 2 (some .int) :: ([.fieldLink RX5 74 "RoamingHouseModel" "thrown" "I", .fieldLink RX5 43 "RoamingHouseModel" "callStates" "[I", .methodLink RX5 125 yX5_isCall, .instanceMethod yX5_isCall, .selects RX5 yX5_isCall yX5_isCall, .initialized RX5, .code yX5_isCall cX5_isCall 2 (some .boolean), .fieldLink RX5 89 "RoamingHouseModel" "callMany" "I", .methodLink RX5 78 yX5_in, .static yX5_in, .code yX5_in cX5_in 3 (some .boolean)] ++ wsX50)
def wsX5_monthOf : List Cond := .code yX5_monthOf cX5_monthOf 2 (some .int) :: ([.fieldLink RX5 74 "RoamingHouseModel" "thrown" "I", .fieldLink RX5 43 "RoamingHouseModel" "callStates" "[I", .fieldLink RX5 46 "RoamingHouseModel" "months" "[I", .methodLink RX5 125 yX5_isCall, .instanceMethod yX5_isCall, .selects RX5 yX5_isCall yX5_isCall, .initialized RX5, .code yX5_isCall cX5_isCall 2 (some .boolean), .fieldLink RX5 89 "RoamingHouseModel" "callMany" "I", .methodLink RX5 78 yX5_in, .static yX5_in, .code yX5_in cX5_in 3 (some .boolean)] ++ wsX50)
def wsX5_secondsAhead : List Cond := .code yX5_secondsAhead cX5_secondsAhead 7 (some .int) :: ([.fieldLink RX5 52 "RoamingHouseModel" "accepted" "[I", .fieldLink RX5 22 "RoamingHouseModel" "pairOf" "[I", .fieldLink RX5 34 "RoamingHouseModel" "fileOf" "[I", .fieldLink RX5 46 "RoamingHouseModel" "months" "[I", .fieldLink RX5 37 "RoamingHouseModel" "secondsOf" "[I"] ++ wsX50)
def wsX5_placeOf : List Cond := .code yX5_placeOf cX5_placeOf 3 (some .int) :: ([.fieldLink RX5 52 "RoamingHouseModel" "accepted" "[I"] ++ wsX50)
def wsX5_owedOf : List Cond := .code yX5_owedOf cX5_owedOf 5 (some .int) :: ([.fieldLink RX5 43 "RoamingHouseModel" "callStates" "[I", .fieldLink RX5 22 "RoamingHouseModel" "pairOf" "[I", .fieldLink RX5 34 "RoamingHouseModel" "fileOf" "[I", .fieldLink RX5 46 "RoamingHouseModel" "months" "[I", .fieldLink RX5 68 "RoamingHouseModel" "goesBack" "[Z", .fieldLink RX5 115 "RoamingHouseModel" "acceptedMany" "I", .fieldLink RX5 58 "RoamingHouseModel" "hasAgreement" "[Z", .fieldLink RX5 62 "RoamingHouseModel" "volumes" "[I", .fieldLink RX5 40 "RoamingHouseModel" "charges" "[I", .fieldLink RX5 65 "RoamingHouseModel" "discounts" "[I", .constantLong RX5 136 (10000), .methodLink RX5 128 yX5_placeOf, .instanceMethod yX5_placeOf, .selects RX5 yX5_placeOf yX5_placeOf, .initialized RX5, .code yX5_placeOf cX5_placeOf 3 (some .int), .fieldLink RX5 52 "RoamingHouseModel" "accepted" "[I", .methodLink RX5 132 yX5_secondsAhead, .instanceMethod yX5_secondsAhead, .selects RX5 yX5_secondsAhead yX5_secondsAhead, .code yX5_secondsAhead cX5_secondsAhead 7 (some .int), .fieldLink RX5 37 "RoamingHouseModel" "secondsOf" "[I"] ++ wsX50)
def wsX5_owedFor_r1 : List Cond := [Cond.fieldLink RX5 74 "RoamingHouseModel" "thrown" "I", Cond.methodLink RX5 125 yX5_isCall, Cond.instanceMethod yX5_isCall, Cond.selects RX5 yX5_isCall yX5_isCall, Cond.initialized RX5, Cond.code yX5_isCall cX5_isCall 2 (some .boolean), Cond.fieldLink RX5 89 "RoamingHouseModel" "callMany" "I", Cond.methodLink RX5 78 yX5_in, Cond.static yX5_in, Cond.code yX5_in cX5_in 3 (some .boolean), Cond.methodLink RX5 138 yX5_owedOf, Cond.instanceMethod yX5_owedOf, Cond.selects RX5 yX5_owedOf yX5_owedOf, Cond.code yX5_owedOf cX5_owedOf 5 (some .int), Cond.fieldLink RX5 43 "RoamingHouseModel" "callStates" "[I", Cond.fieldLink RX5 22 "RoamingHouseModel" "pairOf" "[I", Cond.fieldLink RX5 34 "RoamingHouseModel" "fileOf" "[I", Cond.fieldLink RX5 46 "RoamingHouseModel" "months" "[I", Cond.fieldLink RX5 68 "RoamingHouseModel" "goesBack" "[Z", Cond.fieldLink RX5 115 "RoamingHouseModel" "acceptedMany" "I", Cond.fieldLink RX5 58 "RoamingHouseModel" "hasAgreement" "[Z", Cond.fieldLink RX5 62 "RoamingHouseModel" "volumes" "[I", Cond.fieldLink RX5 40 "RoamingHouseModel" "charges" "[I", Cond.fieldLink RX5 65 "RoamingHouseModel" "discounts" "[I"]
def wsX5_owedFor_r2 : List Cond := [Cond.constantLong RX5 136 (10000), Cond.methodLink RX5 128 yX5_placeOf, Cond.instanceMethod yX5_placeOf, Cond.selects RX5 yX5_placeOf yX5_placeOf, Cond.code yX5_placeOf cX5_placeOf 3 (some .int), Cond.fieldLink RX5 52 "RoamingHouseModel" "accepted" "[I", Cond.methodLink RX5 132 yX5_secondsAhead, Cond.instanceMethod yX5_secondsAhead, Cond.selects RX5 yX5_secondsAhead yX5_secondsAhead, Cond.code yX5_secondsAhead cX5_secondsAhead 7 (some .int), Cond.fieldLink RX5 37 "RoamingHouseModel" "secondsOf" "[I"]
def wsX5_owedFor : List Cond := .code yX5_owedFor cX5_owedFor 2 (some .int) :: ((wsX5_owedFor_r1 ++ wsX5_owedFor_r2) ++ wsX50)
def wsX5_dispute : List Cond := .code yX5_dispute cX5_dispute 2 none :: ([.fieldLink RX5 43 "RoamingHouseModel" "callStates" "[I", .fieldLink RX5 101 "RoamingHouseModel" "now" "I", .fieldLink RX5 46 "RoamingHouseModel" "months" "[I", .fieldLink RX5 74 "RoamingHouseModel" "thrown" "I", .fieldLink RX5 49 "RoamingHouseModel" "disputedIn" "[I", .methodLink RX5 125 yX5_isCall, .instanceMethod yX5_isCall, .selects RX5 yX5_isCall yX5_isCall, .initialized RX5, .code yX5_isCall cX5_isCall 2 (some .boolean), .fieldLink RX5 89 "RoamingHouseModel" "callMany" "I", .methodLink RX5 78 yX5_in, .static yX5_in, .code yX5_in cX5_in 3 (some .boolean)] ++ wsX50)
def wsX5_answer : List Cond := .code yX5_answer cX5_answer 3 none :: ([.fieldLink RX5 43 "RoamingHouseModel" "callStates" "[I", .fieldLink RX5 74 "RoamingHouseModel" "thrown" "I", .methodLink RX5 125 yX5_isCall, .instanceMethod yX5_isCall, .selects RX5 yX5_isCall yX5_isCall, .initialized RX5, .code yX5_isCall cX5_isCall 2 (some .boolean), .fieldLink RX5 89 "RoamingHouseModel" "callMany" "I", .methodLink RX5 78 yX5_in, .static yX5_in, .code yX5_in cX5_in 3 (some .boolean)] ++ wsX50)
def wsX5_agree : List Cond := .code yX5_agree cX5_agree 7 none :: ([.constant RX5 141 (1000000), .fieldLink RX5 58 "RoamingHouseModel" "hasAgreement" "[Z", .fieldLink RX5 62 "RoamingHouseModel" "volumes" "[I", .fieldLink RX5 65 "RoamingHouseModel" "discounts" "[I", .fieldLink RX5 68 "RoamingHouseModel" "goesBack" "[Z", .methodLink RX5 78 yX5_in, .static yX5_in, .initialized RX5, .code yX5_in cX5_in 3 (some .boolean), .methodLink RX5 97 yX5_isPair, .instanceMethod yX5_isPair, .selects RX5 yX5_isPair yX5_isPair, .code yX5_isPair cX5_isPair 4 (some .boolean), .fieldLink RX5 74 "RoamingHouseModel" "thrown" "I", .methodLink RX5 82 yX5_isOperator, .static yX5_isOperator, .code yX5_isOperator cX5_isOperator 1 (some .boolean)] ++ wsX50)
def wsX5_promise : List Cond := .code yX5_promise cX5_promise 5 (some .int) :: ([.constant RX5 142 (100000000), .fieldLink RX5 71 "RoamingHouseModel" "promises" "[I", .methodLink RX5 78 yX5_in, .static yX5_in, .initialized RX5, .code yX5_in cX5_in 3 (some .boolean), .methodLink RX5 97 yX5_isPair, .instanceMethod yX5_isPair, .selects RX5 yX5_isPair yX5_isPair, .code yX5_isPair cX5_isPair 4 (some .boolean), .fieldLink RX5 74 "RoamingHouseModel" "thrown" "I", .methodLink RX5 82 yX5_isOperator, .static yX5_isOperator, .code yX5_isOperator cX5_isOperator 1 (some .boolean)] ++ wsX50)
def wsX5_setRate : List Cond := .code yX5_setRate cX5_setRate 4 (some .int) :: ([.constant RX5 143 (100000), .fieldLink RX5 74 "RoamingHouseModel" "thrown" "I", .fieldLink RX5 19 "RoamingHouseModel" "rates" "[I", .methodLink RX5 82 yX5_isOperator, .static yX5_isOperator, .initialized RX5, .code yX5_isOperator cX5_isOperator 1 (some .boolean), .methodLink RX5 78 yX5_in, .static yX5_in, .code yX5_in cX5_in 3 (some .boolean)] ++ wsX50)
def wsX5_nextMonth : List Cond := .code yX5_nextMonth cX5_nextMonth 3 (some .int) :: ([.fieldLink RX5 101 "RoamingHouseModel" "now" "I", .fieldLink RX5 74 "RoamingHouseModel" "thrown" "I", .fieldLink RX5 89 "RoamingHouseModel" "callMany" "I", .fieldLink RX5 43 "RoamingHouseModel" "callStates" "[I", .fieldLink RX5 49 "RoamingHouseModel" "disputedIn" "[I"] ++ wsX50)
def wsX5_month : List Cond := .code yX5_month cX5_month 1 (some .int) :: ([.fieldLink RX5 74 "RoamingHouseModel" "thrown" "I", .fieldLink RX5 101 "RoamingHouseModel" "now" "I"] ++ wsX50)
def wsX5_owedIn_r1 : List Cond := [Cond.fieldLink RX5 89 "RoamingHouseModel" "callMany" "I", Cond.fieldLink RX5 43 "RoamingHouseModel" "callStates" "[I", Cond.fieldLink RX5 22 "RoamingHouseModel" "pairOf" "[I", Cond.fieldLink RX5 34 "RoamingHouseModel" "fileOf" "[I", Cond.fieldLink RX5 46 "RoamingHouseModel" "months" "[I", Cond.methodLink RX5 78 yX5_in, Cond.static yX5_in, Cond.initialized RX5, Cond.code yX5_in cX5_in 3 (some .boolean), Cond.methodLink RX5 138 yX5_owedOf, Cond.instanceMethod yX5_owedOf, Cond.selects RX5 yX5_owedOf yX5_owedOf, Cond.code yX5_owedOf cX5_owedOf 5 (some .int), Cond.fieldLink RX5 68 "RoamingHouseModel" "goesBack" "[Z", Cond.fieldLink RX5 115 "RoamingHouseModel" "acceptedMany" "I", Cond.fieldLink RX5 58 "RoamingHouseModel" "hasAgreement" "[Z", Cond.fieldLink RX5 62 "RoamingHouseModel" "volumes" "[I", Cond.fieldLink RX5 40 "RoamingHouseModel" "charges" "[I", Cond.fieldLink RX5 65 "RoamingHouseModel" "discounts" "[I", Cond.constantLong RX5 136 (10000), Cond.methodLink RX5 128 yX5_placeOf, Cond.instanceMethod yX5_placeOf, Cond.selects RX5 yX5_placeOf yX5_placeOf, Cond.code yX5_placeOf cX5_placeOf 3 (some .int)]
def wsX5_owedIn_r2 : List Cond := [Cond.fieldLink RX5 52 "RoamingHouseModel" "accepted" "[I", Cond.methodLink RX5 132 yX5_secondsAhead, Cond.instanceMethod yX5_secondsAhead, Cond.selects RX5 yX5_secondsAhead yX5_secondsAhead, Cond.code yX5_secondsAhead cX5_secondsAhead 7 (some .int), Cond.fieldLink RX5 37 "RoamingHouseModel" "secondsOf" "[I"]
def wsX5_owedIn : List Cond := .code yX5_owedIn cX5_owedIn 8 (some .long) :: ((wsX5_owedIn_r1 ++ wsX5_owedIn_r2) ++ wsX50)
def wsX5_owed_r1 : List Cond := [Cond.fieldLink RX5 101 "RoamingHouseModel" "now" "I", Cond.methodLink RX5 78 yX5_in, Cond.static yX5_in, Cond.initialized RX5, Cond.code yX5_in cX5_in 3 (some .boolean), Cond.methodLink RX5 97 yX5_isPair, Cond.instanceMethod yX5_isPair, Cond.selects RX5 yX5_isPair yX5_isPair, Cond.code yX5_isPair cX5_isPair 4 (some .boolean), Cond.fieldLink RX5 74 "RoamingHouseModel" "thrown" "I", Cond.methodLink RX5 82 yX5_isOperator, Cond.static yX5_isOperator, Cond.code yX5_isOperator cX5_isOperator 1 (some .boolean), Cond.methodLink RX5 144 yX5_owedIn, Cond.instanceMethod yX5_owedIn, Cond.selects RX5 yX5_owedIn yX5_owedIn, Cond.code yX5_owedIn cX5_owedIn 8 (some .long), Cond.fieldLink RX5 89 "RoamingHouseModel" "callMany" "I", Cond.fieldLink RX5 43 "RoamingHouseModel" "callStates" "[I", Cond.fieldLink RX5 22 "RoamingHouseModel" "pairOf" "[I", Cond.fieldLink RX5 34 "RoamingHouseModel" "fileOf" "[I", Cond.fieldLink RX5 46 "RoamingHouseModel" "months" "[I", Cond.methodLink RX5 138 yX5_owedOf, Cond.instanceMethod yX5_owedOf]
def wsX5_owed_r2 : List Cond := [Cond.selects RX5 yX5_owedOf yX5_owedOf, Cond.code yX5_owedOf cX5_owedOf 5 (some .int), Cond.fieldLink RX5 68 "RoamingHouseModel" "goesBack" "[Z", Cond.fieldLink RX5 115 "RoamingHouseModel" "acceptedMany" "I", Cond.fieldLink RX5 58 "RoamingHouseModel" "hasAgreement" "[Z", Cond.fieldLink RX5 62 "RoamingHouseModel" "volumes" "[I", Cond.fieldLink RX5 40 "RoamingHouseModel" "charges" "[I", Cond.fieldLink RX5 65 "RoamingHouseModel" "discounts" "[I", Cond.constantLong RX5 136 (10000), Cond.methodLink RX5 128 yX5_placeOf, Cond.instanceMethod yX5_placeOf, Cond.selects RX5 yX5_placeOf yX5_placeOf, Cond.code yX5_placeOf cX5_placeOf 3 (some .int), Cond.fieldLink RX5 52 "RoamingHouseModel" "accepted" "[I", Cond.methodLink RX5 132 yX5_secondsAhead, Cond.instanceMethod yX5_secondsAhead, Cond.selects RX5 yX5_secondsAhead yX5_secondsAhead, Cond.code yX5_secondsAhead cX5_secondsAhead 7 (some .int), Cond.fieldLink RX5 37 "RoamingHouseModel" "secondsOf" "[I"]
def wsX5_owed : List Cond := .code yX5_owed cX5_owed 4 (some .long) :: ((wsX5_owed_r1 ++ wsX5_owed_r2) ++ wsX50)
def wsX5_shortfall_r1 : List Cond := [Cond.fieldLink RX5 101 "RoamingHouseModel" "now" "I", Cond.fieldLink RX5 74 "RoamingHouseModel" "thrown" "I", Cond.fieldLink RX5 71 "RoamingHouseModel" "promises" "[I", Cond.methodLink RX5 78 yX5_in, Cond.static yX5_in, Cond.initialized RX5, Cond.code yX5_in cX5_in 3 (some .boolean), Cond.methodLink RX5 97 yX5_isPair, Cond.instanceMethod yX5_isPair, Cond.selects RX5 yX5_isPair yX5_isPair, Cond.code yX5_isPair cX5_isPair 4 (some .boolean), Cond.methodLink RX5 82 yX5_isOperator, Cond.static yX5_isOperator, Cond.code yX5_isOperator cX5_isOperator 1 (some .boolean), Cond.methodLink RX5 144 yX5_owedIn, Cond.instanceMethod yX5_owedIn, Cond.selects RX5 yX5_owedIn yX5_owedIn, Cond.code yX5_owedIn cX5_owedIn 8 (some .long), Cond.fieldLink RX5 89 "RoamingHouseModel" "callMany" "I", Cond.fieldLink RX5 43 "RoamingHouseModel" "callStates" "[I", Cond.fieldLink RX5 22 "RoamingHouseModel" "pairOf" "[I", Cond.fieldLink RX5 34 "RoamingHouseModel" "fileOf" "[I", Cond.fieldLink RX5 46 "RoamingHouseModel" "months" "[I", Cond.methodLink RX5 138 yX5_owedOf]
def wsX5_shortfall_r2 : List Cond := [Cond.instanceMethod yX5_owedOf, Cond.selects RX5 yX5_owedOf yX5_owedOf, Cond.code yX5_owedOf cX5_owedOf 5 (some .int), Cond.fieldLink RX5 68 "RoamingHouseModel" "goesBack" "[Z", Cond.fieldLink RX5 115 "RoamingHouseModel" "acceptedMany" "I", Cond.fieldLink RX5 58 "RoamingHouseModel" "hasAgreement" "[Z", Cond.fieldLink RX5 62 "RoamingHouseModel" "volumes" "[I", Cond.fieldLink RX5 40 "RoamingHouseModel" "charges" "[I", Cond.fieldLink RX5 65 "RoamingHouseModel" "discounts" "[I", Cond.constantLong RX5 136 (10000), Cond.methodLink RX5 128 yX5_placeOf, Cond.instanceMethod yX5_placeOf, Cond.selects RX5 yX5_placeOf yX5_placeOf, Cond.code yX5_placeOf cX5_placeOf 3 (some .int), Cond.fieldLink RX5 52 "RoamingHouseModel" "accepted" "[I", Cond.methodLink RX5 132 yX5_secondsAhead, Cond.instanceMethod yX5_secondsAhead, Cond.selects RX5 yX5_secondsAhead yX5_secondsAhead, Cond.code yX5_secondsAhead cX5_secondsAhead 7 (some .int), Cond.fieldLink RX5 37 "RoamingHouseModel" "secondsOf" "[I"]
def wsX5_shortfall : List Cond := .code yX5_shortfall cX5_shortfall 7 (some .long) :: ((wsX5_shortfall_r1 ++ wsX5_shortfall_r2) ++ wsX50)
def wsX5_unitsOf_r1 : List Cond := [Cond.fieldLink RX5 19 "RoamingHouseModel" "rates" "[I", Cond.constantLong RX5 148 (1000), Cond.methodLink RX5 144 yX5_owedIn, Cond.instanceMethod yX5_owedIn, Cond.selects RX5 yX5_owedIn yX5_owedIn, Cond.initialized RX5, Cond.code yX5_owedIn cX5_owedIn 8 (some .long), Cond.fieldLink RX5 89 "RoamingHouseModel" "callMany" "I", Cond.fieldLink RX5 43 "RoamingHouseModel" "callStates" "[I", Cond.fieldLink RX5 22 "RoamingHouseModel" "pairOf" "[I", Cond.fieldLink RX5 34 "RoamingHouseModel" "fileOf" "[I", Cond.fieldLink RX5 46 "RoamingHouseModel" "months" "[I", Cond.methodLink RX5 78 yX5_in, Cond.static yX5_in, Cond.code yX5_in cX5_in 3 (some .boolean), Cond.methodLink RX5 138 yX5_owedOf, Cond.instanceMethod yX5_owedOf, Cond.selects RX5 yX5_owedOf yX5_owedOf, Cond.code yX5_owedOf cX5_owedOf 5 (some .int), Cond.fieldLink RX5 68 "RoamingHouseModel" "goesBack" "[Z", Cond.fieldLink RX5 115 "RoamingHouseModel" "acceptedMany" "I", Cond.fieldLink RX5 58 "RoamingHouseModel" "hasAgreement" "[Z", Cond.fieldLink RX5 62 "RoamingHouseModel" "volumes" "[I", Cond.fieldLink RX5 40 "RoamingHouseModel" "charges" "[I"]
def wsX5_unitsOf_r2 : List Cond := [Cond.fieldLink RX5 65 "RoamingHouseModel" "discounts" "[I", Cond.constantLong RX5 136 (10000), Cond.methodLink RX5 128 yX5_placeOf, Cond.instanceMethod yX5_placeOf, Cond.selects RX5 yX5_placeOf yX5_placeOf, Cond.code yX5_placeOf cX5_placeOf 3 (some .int), Cond.fieldLink RX5 52 "RoamingHouseModel" "accepted" "[I", Cond.methodLink RX5 132 yX5_secondsAhead, Cond.instanceMethod yX5_secondsAhead, Cond.selects RX5 yX5_secondsAhead yX5_secondsAhead, Cond.code yX5_secondsAhead cX5_secondsAhead 7 (some .int), Cond.fieldLink RX5 37 "RoamingHouseModel" "secondsOf" "[I"]
def wsX5_unitsOf : List Cond := .code yX5_unitsOf cX5_unitsOf 4 (some .long) :: ((wsX5_unitsOf_r1 ++ wsX5_unitsOf_r2) ++ wsX50)
def wsX5_net_r1 : List Cond := [Cond.fieldLink RX5 101 "RoamingHouseModel" "now" "I", Cond.fieldLink RX5 74 "RoamingHouseModel" "thrown" "I", Cond.methodLink RX5 82 yX5_isOperator, Cond.static yX5_isOperator, Cond.initialized RX5, Cond.code yX5_isOperator cX5_isOperator 1 (some .boolean), Cond.methodLink RX5 78 yX5_in, Cond.static yX5_in, Cond.code yX5_in cX5_in 3 (some .boolean), Cond.methodLink RX5 150 yX5_unitsOf, Cond.instanceMethod yX5_unitsOf, Cond.selects RX5 yX5_unitsOf yX5_unitsOf, Cond.code yX5_unitsOf cX5_unitsOf 4 (some .long), Cond.fieldLink RX5 19 "RoamingHouseModel" "rates" "[I", Cond.constantLong RX5 148 (1000), Cond.methodLink RX5 144 yX5_owedIn, Cond.instanceMethod yX5_owedIn, Cond.selects RX5 yX5_owedIn yX5_owedIn, Cond.code yX5_owedIn cX5_owedIn 8 (some .long), Cond.fieldLink RX5 89 "RoamingHouseModel" "callMany" "I", Cond.fieldLink RX5 43 "RoamingHouseModel" "callStates" "[I", Cond.fieldLink RX5 22 "RoamingHouseModel" "pairOf" "[I", Cond.fieldLink RX5 34 "RoamingHouseModel" "fileOf" "[I", Cond.fieldLink RX5 46 "RoamingHouseModel" "months" "[I"]
def wsX5_net_r2 : List Cond := [Cond.methodLink RX5 138 yX5_owedOf, Cond.instanceMethod yX5_owedOf, Cond.selects RX5 yX5_owedOf yX5_owedOf, Cond.code yX5_owedOf cX5_owedOf 5 (some .int), Cond.fieldLink RX5 68 "RoamingHouseModel" "goesBack" "[Z", Cond.fieldLink RX5 115 "RoamingHouseModel" "acceptedMany" "I", Cond.fieldLink RX5 58 "RoamingHouseModel" "hasAgreement" "[Z", Cond.fieldLink RX5 62 "RoamingHouseModel" "volumes" "[I", Cond.fieldLink RX5 40 "RoamingHouseModel" "charges" "[I", Cond.fieldLink RX5 65 "RoamingHouseModel" "discounts" "[I", Cond.constantLong RX5 136 (10000), Cond.methodLink RX5 128 yX5_placeOf, Cond.instanceMethod yX5_placeOf, Cond.selects RX5 yX5_placeOf yX5_placeOf, Cond.code yX5_placeOf cX5_placeOf 3 (some .int), Cond.fieldLink RX5 52 "RoamingHouseModel" "accepted" "[I", Cond.methodLink RX5 132 yX5_secondsAhead, Cond.instanceMethod yX5_secondsAhead, Cond.selects RX5 yX5_secondsAhead yX5_secondsAhead, Cond.code yX5_secondsAhead cX5_secondsAhead 7 (some .int), Cond.fieldLink RX5 37 "RoamingHouseModel" "secondsOf" "[I"]
def wsX5_net : List Cond := .code yX5_net cX5_net 6 (some .long) :: ((wsX5_net_r1 ++ wsX5_net_r2) ++ wsX50)
def wsJ9_max_7cf53 : List Cond := .code yJ9_max_7cf53 cJ9_max_7cf53 2 (some .int) :: ([])
def wsJ9_max_f86c9 : List Cond := .code yJ9_max_f86c9 cJ9_max_f86c9 4 (some .long) :: ([])
def wsL_setTariff_r1 : List Cond := [Cond.classLink RL 13 "java/lang/IndexOutOfBoundsException", Cond.classLink RL 15 "java/lang/IllegalArgumentException", Cond.methodLink RL 7 yX4_setTariff, Cond.instanceMethod yX4_setTariff, Cond.selects RX4 yX4_setTariff yX4_setTariff, Cond.initialized RX4, Cond.code yX4_setTariff cX4_setTariff 7 (some .int), Cond.fieldLink RX4 55 "RoamingHouse$Operator" "price" "I", Cond.fieldLink RX4 58 "RoamingHouse$Operator" "step" "I", Cond.fieldLink RX4 61 "RoamingHouse$Operator" "beginning" "I", Cond.methodLink RX4 47 yX4_operatorAt, Cond.instanceMethod yX4_operatorAt, Cond.selects RX4 yX4_operatorAt yX4_operatorAt, Cond.code yX4_operatorAt cX4_operatorAt 2 (some (.object "RoamingHouse$Operator")), Cond.classLink RX4 197 "java/lang/IndexOutOfBoundsException", Cond.initialized "java/lang/IndexOutOfBoundsException", Cond.fieldLink RX4 11 "RoamingHouse" "operators" "[LRoamingHouse$Operator;", Cond.methodLink RX4 193 yX4_isOperator, Cond.static yX4_isOperator, Cond.code yX4_isOperator cX4_isOperator 1 (some .boolean), Cond.methodLink RX4 51 yX4_refuseOutside, Cond.static yX4_refuseOutside, Cond.code yX4_refuseOutside cX4_refuseOutside 3 none, Cond.classLink RX4 188 "java/lang/IllegalArgumentException"]
def wsL_setTariff_r2 : List Cond := [Cond.initialized "java/lang/IllegalArgumentException"]
def wsL_setTariff : List Cond := .codeWith yL_setTariff cL_setTariff 7 (some .int) [(0, 14, 17, 13), (0, 14, 21, 15)] :: ((wsL_setTariff_r1 ++ wsL_setTariff_r2) ++ wsX20 ++ wsX40 ++ (vx_atS RX4 201 "java/lang/IndexOutOfBoundsException" ["java/lang/RuntimeException", "java/lang/Exception"]).filter goodWord ++ (vx_atS RX4 192 "java/lang/IllegalArgumentException" ["java/lang/RuntimeException", "java/lang/Exception"]).filter goodWord)
def wsL_charge_r1 : List Cond := [Cond.classLink RL 13 "java/lang/IndexOutOfBoundsException", Cond.classLink RL 15 "java/lang/IllegalArgumentException", Cond.methodLink RL 17 yX4_charge, Cond.instanceMethod yX4_charge, Cond.selects RX4 yX4_charge yX4_charge, Cond.initialized RX4, Cond.code yX4_charge cX4_charge 4 (some .int), Cond.constant RX4 64 (36000), Cond.methodLink RX4 47 yX4_operatorAt, Cond.instanceMethod yX4_operatorAt, Cond.selects RX4 yX4_operatorAt yX4_operatorAt, Cond.code yX4_operatorAt cX4_operatorAt 2 (some (.object "RoamingHouse$Operator")), Cond.classLink RX4 197 "java/lang/IndexOutOfBoundsException", Cond.initialized "java/lang/IndexOutOfBoundsException", Cond.fieldLink RX4 11 "RoamingHouse" "operators" "[LRoamingHouse$Operator;", Cond.methodLink RX4 193 yX4_isOperator, Cond.static yX4_isOperator, Cond.code yX4_isOperator cX4_isOperator 1 (some .boolean), Cond.methodLink RX4 51 yX4_refuseOutside, Cond.static yX4_refuseOutside, Cond.code yX4_refuseOutside cX4_refuseOutside 3 none, Cond.classLink RX4 188 "java/lang/IllegalArgumentException", Cond.initialized "java/lang/IllegalArgumentException", Cond.methodLink RX4 65 yX2_chargeFor]
def wsL_charge_r2 : List Cond := [Cond.instanceMethod yX2_chargeFor, Cond.selects RX2 yX2_chargeFor yX2_chargeFor, Cond.initialized RX2, Cond.code yX2_chargeFor cX2_chargeFor 3 (some .int), Cond.fieldLink RX2 9 "RoamingHouse$Operator" "step" "I", Cond.fieldLink RX2 18 "RoamingHouse$Operator" "beginning" "I", Cond.fieldLink RX2 15 "RoamingHouse$Operator" "price" "I"]
def wsL_charge : List Cond := .codeWith yL_charge cL_charge 5 (some .int) [(0, 10, 13, 13), (0, 10, 17, 15)] :: ((wsL_charge_r1 ++ wsL_charge_r2) ++ wsX40 ++ wsX20 ++ (vx_atS RX4 201 "java/lang/IndexOutOfBoundsException" ["java/lang/RuntimeException", "java/lang/Exception"]).filter goodWord ++ (vx_atS RX4 192 "java/lang/IllegalArgumentException" ["java/lang/RuntimeException", "java/lang/Exception"]).filter goodWord)
def wsL_begin_r1 : List Cond := [Cond.classLink RL 13 "java/lang/IndexOutOfBoundsException", Cond.classLink RL 15 "java/lang/IllegalArgumentException", Cond.classLink RL 24 "java/lang/IllegalStateException", Cond.methodLink RL 21 yX4_begin, Cond.instanceMethod yX4_begin, Cond.selects RX4 yX4_begin yX4_begin, Cond.initialized RX4, Cond.code yX4_begin cX4_begin 5 (some .int), Cond.classLink RX4 73 "java/lang/IllegalStateException", Cond.initialized "java/lang/IllegalStateException", Cond.fieldLink RX4 27 "RoamingHouse" "fileCount" "I", Cond.fieldLink RX4 23 "RoamingHouse" "fileRows" "[LRoamingHouse$CallFile;", Cond.classLink RX4 21 RX1, Cond.instantiable RX1 5, Cond.initialized RX1, Cond.fieldLink RX4 40 "RoamingHouse" "now" "I", Cond.methodLink RX4 69 yX4_pairAt, Cond.instanceMethod yX4_pairAt, Cond.selects RX4 yX4_pairAt yX4_pairAt, Cond.code yX4_pairAt cX4_pairAt 3 (some (.object "RoamingHouse$Pair")), Cond.classLink RX4 197 "java/lang/IndexOutOfBoundsException", Cond.initialized "java/lang/IndexOutOfBoundsException", Cond.classLink RX4 188 "java/lang/IllegalArgumentException", Cond.initialized "java/lang/IllegalArgumentException"]
def wsL_begin_r2 : List Cond := [Cond.fieldLink RX4 17 "RoamingHouse" "pairs" "[LRoamingHouse$Pair;", Cond.methodLink RX4 193 yX4_isOperator, Cond.static yX4_isOperator, Cond.code yX4_isOperator cX4_isOperator 1 (some .boolean), Cond.methodLink RX4 80 yX1_init, Cond.instanceMethod yX1_init, Cond.code yX1_init cX1_init 3 none, Cond.methodLink RX1 3 objectInit, Cond.instanceMethod objectInit, Cond.code objectInit ⟨#[0xb1]⟩ 1 none, Cond.fieldLink RX1 9 "RoamingHouse$CallFile" "state" "I", Cond.fieldLink RX1 15 "RoamingHouse$CallFile" "size" "I", Cond.fieldLink RX1 18 "RoamingHouse$CallFile" "number" "I", Cond.fieldLink RX1 21 "RoamingHouse$CallFile" "pair" "LRoamingHouse$Pair;", Cond.fieldLink RX1 25 "RoamingHouse$CallFile" "begunIn" "I"]
def wsL_begin : List Cond := .codeWith yL_begin cL_begin 5 (some .int) [(0, 10, 13, 13), (0, 10, 17, 15), (0, 10, 21, 24)] :: ((wsL_begin_r1 ++ wsL_begin_r2) ++ wsX40 ++ wsX10 ++ (vx_atS RX4 77 "java/lang/IllegalStateException" ["java/lang/RuntimeException", "java/lang/Exception"]).filter goodWord ++ (vx_atS RX4 201 "java/lang/IndexOutOfBoundsException" ["java/lang/RuntimeException", "java/lang/Exception"]).filter goodWord ++ (vx_atS RX4 192 "java/lang/IllegalArgumentException" ["java/lang/RuntimeException", "java/lang/Exception"]).filter goodWord)
def wsL_enter_r1 : List Cond := [Cond.classLink RL 13 "java/lang/IndexOutOfBoundsException", Cond.classLink RL 15 "java/lang/IllegalArgumentException", Cond.classLink RL 24 "java/lang/IllegalStateException", Cond.methodLink RL 26 yX4_enter, Cond.instanceMethod yX4_enter, Cond.selects RX4 yX4_enter yX4_enter, Cond.initialized RX4, Cond.code yX4_enter cX4_enter 6 (some .int), Cond.classLink RX4 73 "java/lang/IllegalStateException", Cond.initialized "java/lang/IllegalStateException", Cond.constant RX4 64 (36000), Cond.constant RX4 87 (50000000), Cond.fieldLink RX4 88 "RoamingHouse$CallFile" "state" "I", Cond.fieldLink RX4 37 "RoamingHouse" "callCount" "I", Cond.fieldLink RX4 33 "RoamingHouse" "callRows" "[LRoamingHouse$Call;", Cond.classLink RX4 31 RX0, Cond.instantiable RX0 7, Cond.initialized RX0, Cond.fieldLink RX4 98 "RoamingHouse$CallFile" "size" "I", Cond.methodLink RX4 83 yX4_fileAt, Cond.instanceMethod yX4_fileAt, Cond.selects RX4 yX4_fileAt yX4_fileAt, Cond.code yX4_fileAt cX4_fileAt 2 (some (.object "RoamingHouse$CallFile")), Cond.classLink RX4 197 "java/lang/IndexOutOfBoundsException"]
def wsL_enter_r2 : List Cond := [Cond.initialized "java/lang/IndexOutOfBoundsException", Cond.fieldLink RX4 27 "RoamingHouse" "fileCount" "I", Cond.fieldLink RX4 23 "RoamingHouse" "fileRows" "[LRoamingHouse$CallFile;", Cond.methodLink RX4 51 yX4_refuseOutside, Cond.static yX4_refuseOutside, Cond.code yX4_refuseOutside cX4_refuseOutside 3 none, Cond.classLink RX4 188 "java/lang/IllegalArgumentException", Cond.initialized "java/lang/IllegalArgumentException", Cond.methodLink RX4 95 yX0_init, Cond.instanceMethod yX0_init, Cond.code yX0_init cX0_init 4 none, Cond.methodLink RX0 3 objectInit, Cond.instanceMethod objectInit, Cond.code objectInit ⟨#[0xb1]⟩ 1 none, Cond.fieldLink RX0 9 "RoamingHouse$Call" "state" "I", Cond.fieldLink RX0 15 "RoamingHouse$Call" "acceptedIn" "I", Cond.fieldLink RX0 18 "RoamingHouse$Call" "disputedIn" "I", Cond.fieldLink RX0 21 "RoamingHouse$Call" "secondsAhead" "I", Cond.fieldLink RX0 24 "RoamingHouse$Call" "file" "LRoamingHouse$CallFile;", Cond.fieldLink RX0 28 "RoamingHouse$Call" "seconds" "I", Cond.fieldLink RX0 31 "RoamingHouse$Call" "told" "I"]
def wsL_enter : List Cond := .codeWith yL_enter cL_enter 6 (some .int) [(0, 12, 15, 13), (0, 12, 19, 15), (0, 12, 23, 24)] :: ((wsL_enter_r1 ++ wsL_enter_r2) ++ wsX10 ++ wsX40 ++ wsX00 ++ (vx_atS RX4 77 "java/lang/IllegalStateException" ["java/lang/RuntimeException", "java/lang/Exception"]).filter goodWord ++ (vx_atS RX4 201 "java/lang/IndexOutOfBoundsException" ["java/lang/RuntimeException", "java/lang/Exception"]).filter goodWord ++ (vx_atS RX4 192 "java/lang/IllegalArgumentException" ["java/lang/RuntimeException", "java/lang/Exception"]).filter goodWord)
def wsL_send_r1 : List Cond := [Cond.classLink RL 13 "java/lang/IndexOutOfBoundsException", Cond.classLink RL 15 "java/lang/IllegalArgumentException", Cond.classLink RL 24 "java/lang/IllegalStateException", Cond.methodLink RL 30 yX4_send, Cond.instanceMethod yX4_send, Cond.selects RX4 yX4_send yX4_send, Cond.initialized RX4, Cond.code yX4_send cX4_send 5 (some .int), Cond.classLink RX4 73 "java/lang/IllegalStateException", Cond.initialized "java/lang/IllegalStateException", Cond.fieldLink RX4 88 "RoamingHouse$CallFile" "state" "I", Cond.fieldLink RX4 98 "RoamingHouse$CallFile" "size" "I", Cond.fieldLink RX4 103 "RoamingHouse$CallFile" "pair" "LRoamingHouse$Pair;", Cond.fieldLink RX4 107 "RoamingHouse$Pair" "expectedNumber" "I", Cond.fieldLink RX4 114 "RoamingHouse$CallFile" "number" "I", Cond.methodLink RX4 83 yX4_fileAt, Cond.instanceMethod yX4_fileAt, Cond.selects RX4 yX4_fileAt yX4_fileAt, Cond.code yX4_fileAt cX4_fileAt 2 (some (.object "RoamingHouse$CallFile")), Cond.classLink RX4 197 "java/lang/IndexOutOfBoundsException", Cond.initialized "java/lang/IndexOutOfBoundsException", Cond.fieldLink RX4 27 "RoamingHouse" "fileCount" "I", Cond.fieldLink RX4 23 "RoamingHouse" "fileRows" "[LRoamingHouse$CallFile;", Cond.methodLink RX4 51 yX4_refuseOutside]
def wsL_send_r2 : List Cond := [Cond.static yX4_refuseOutside, Cond.code yX4_refuseOutside cX4_refuseOutside 3 none, Cond.classLink RX4 188 "java/lang/IllegalArgumentException", Cond.initialized "java/lang/IllegalArgumentException", Cond.methodLink RX4 110 yX4_waitingFile, Cond.instanceMethod yX4_waitingFile, Cond.selects RX4 yX4_waitingFile yX4_waitingFile, Cond.code yX4_waitingFile cX4_waitingFile 5 (some (.object "RoamingHouse$CallFile")), Cond.methodLink RX4 117 yX4_lookAtAllFrom, Cond.instanceMethod yX4_lookAtAllFrom, Cond.selects RX4 yX4_lookAtAllFrom yX4_lookAtAllFrom, Cond.code yX4_lookAtAllFrom cX4_lookAtAllFrom 5 none, Cond.methodLink RX4 208 yX4_lookAt, Cond.instanceMethod yX4_lookAt, Cond.selects RX4 yX4_lookAt yX4_lookAt, Cond.code yX4_lookAt cX4_lookAt 2 none, Cond.fieldLink RX4 40 "RoamingHouse" "now" "I", Cond.fieldLink RX4 211 "RoamingHouse$CallFile" "begunIn" "I", Cond.methodLink RX4 214 yX4_wrongCallsOf, Cond.instanceMethod yX4_wrongCallsOf, Cond.selects RX4 yX4_wrongCallsOf yX4_wrongCallsOf, Cond.code yX4_wrongCallsOf cX4_wrongCallsOf 5 (some .int), Cond.fieldLink RX4 37 "RoamingHouse" "callCount" "I", Cond.fieldLink RX4 33 "RoamingHouse" "callRows" "[LRoamingHouse$Call;"]
def wsL_send_r3 : List Cond := [Cond.fieldLink RX4 221 "RoamingHouse$Call" "file" "LRoamingHouse$CallFile;", Cond.methodLink RX4 225 yX0_isRight, Cond.instanceMethod yX0_isRight, Cond.selects RX0 yX0_isRight yX0_isRight, Cond.initialized RX0, Cond.code yX0_isRight cX0_isRight 1 (some .boolean), Cond.fieldLink RX0 31 "RoamingHouse$Call" "told" "I", Cond.fieldLink RX0 24 "RoamingHouse$Call" "file" "LRoamingHouse$CallFile;", Cond.fieldLink RX0 34 "RoamingHouse$CallFile" "pair" "LRoamingHouse$Pair;", Cond.fieldLink RX0 40 "RoamingHouse$Pair" "host" "LRoamingHouse$Operator;", Cond.fieldLink RX0 28 "RoamingHouse$Call" "seconds" "I", Cond.methodLink RX0 46 yX2_chargeFor, Cond.instanceMethod yX2_chargeFor, Cond.selects RX2 yX2_chargeFor yX2_chargeFor, Cond.initialized RX2, Cond.code yX2_chargeFor cX2_chargeFor 3 (some .int), Cond.fieldLink RX2 9 "RoamingHouse$Operator" "step" "I", Cond.fieldLink RX2 18 "RoamingHouse$Operator" "beginning" "I", Cond.fieldLink RX2 15 "RoamingHouse$Operator" "price" "I", Cond.methodLink RX4 218 yX4_acceptRightCallsOf, Cond.instanceMethod yX4_acceptRightCallsOf, Cond.selects RX4 yX4_acceptRightCallsOf yX4_acceptRightCallsOf, Cond.code yX4_acceptRightCallsOf cX4_acceptRightCallsOf 4 none, Cond.methodLink RX4 229 yX0_acceptIn]
def wsL_send_r4 : List Cond := [Cond.instanceMethod yX0_acceptIn, Cond.selects RX0 yX0_acceptIn yX0_acceptIn, Cond.code yX0_acceptIn cX0_acceptIn 3 none, Cond.fieldLink RX0 9 "RoamingHouse$Call" "state" "I", Cond.fieldLink RX0 15 "RoamingHouse$Call" "acceptedIn" "I", Cond.fieldLink RX0 55 "RoamingHouse$Pair" "acceptedSeconds" "[I", Cond.fieldLink RX0 21 "RoamingHouse$Call" "secondsAhead" "I", Cond.static yX4_yearOf, Cond.code yX4_yearOf cX4_yearOf 1 (some .int)]
def wsL_send : List Cond := .codeWith yL_send cL_send 5 (some .int) [(0, 10, 13, 13), (0, 10, 17, 15), (0, 10, 21, 24)] :: ((wsL_send_r1 ++ (wsL_send_r2 ++ (wsL_send_r3 ++ wsL_send_r4))) ++ wsX10 ++ wsX30 ++ wsX40 ++ wsX00 ++ wsX20 ++ (vx_atS RX4 77 "java/lang/IllegalStateException" ["java/lang/RuntimeException", "java/lang/Exception"]).filter goodWord ++ (vx_atS RX4 201 "java/lang/IndexOutOfBoundsException" ["java/lang/RuntimeException", "java/lang/Exception"]).filter goodWord ++ (vx_atS RX4 192 "java/lang/IllegalArgumentException" ["java/lang/RuntimeException", "java/lang/Exception"]).filter goodWord)
def wsL_stateOf : List Cond := .codeWith yL_stateOf cL_stateOf 4 (some .int) [(0, 9, 12, 13)] :: ([.classLink RL 13 "java/lang/IndexOutOfBoundsException", .methodLink RL 33 yX4_stateOf, .instanceMethod yX4_stateOf, .selects RX4 yX4_stateOf yX4_stateOf, .initialized RX4, .code yX4_stateOf cX4_stateOf 2 (some .int), .fieldLink RX4 88 "RoamingHouse$CallFile" "state" "I", .methodLink RX4 83 yX4_fileAt, .instanceMethod yX4_fileAt, .selects RX4 yX4_fileAt yX4_fileAt, .code yX4_fileAt cX4_fileAt 2 (some (.object "RoamingHouse$CallFile")), .classLink RX4 197 "java/lang/IndexOutOfBoundsException", .initialized "java/lang/IndexOutOfBoundsException", .fieldLink RX4 27 "RoamingHouse" "fileCount" "I", .fieldLink RX4 23 "RoamingHouse" "fileRows" "[LRoamingHouse$CallFile;"] ++ wsX10 ++ wsX40 ++ (vx_atS RX4 201 "java/lang/IndexOutOfBoundsException" ["java/lang/RuntimeException", "java/lang/Exception"]).filter goodWord)
def wsL_expected : List Cond := .codeWith yL_expected cL_expected 5 (some .int) [(0, 10, 13, 13), (0, 10, 17, 15)] :: ([.classLink RL 13 "java/lang/IndexOutOfBoundsException", .classLink RL 15 "java/lang/IllegalArgumentException", .methodLink RL 37 yX4_expected, .instanceMethod yX4_expected, .selects RX4 yX4_expected yX4_expected, .initialized RX4, .code yX4_expected cX4_expected 3 (some .int), .fieldLink RX4 107 "RoamingHouse$Pair" "expectedNumber" "I", .methodLink RX4 69 yX4_pairAt, .instanceMethod yX4_pairAt, .selects RX4 yX4_pairAt yX4_pairAt, .code yX4_pairAt cX4_pairAt 3 (some (.object "RoamingHouse$Pair")), .classLink RX4 197 "java/lang/IndexOutOfBoundsException", .initialized "java/lang/IndexOutOfBoundsException", .classLink RX4 188 "java/lang/IllegalArgumentException", .initialized "java/lang/IllegalArgumentException", .fieldLink RX4 17 "RoamingHouse" "pairs" "[LRoamingHouse$Pair;", .methodLink RX4 193 yX4_isOperator, .static yX4_isOperator, .code yX4_isOperator cX4_isOperator 1 (some .boolean)] ++ wsX30 ++ wsX40 ++ (vx_atS RX4 201 "java/lang/IndexOutOfBoundsException" ["java/lang/RuntimeException", "java/lang/Exception"]).filter goodWord ++ (vx_atS RX4 192 "java/lang/IllegalArgumentException" ["java/lang/RuntimeException", "java/lang/Exception"]).filter goodWord)
def wsL_lacking_r1 : List Cond := [Cond.classLink RL 13 "java/lang/IndexOutOfBoundsException", Cond.classLink RL 15 "java/lang/IllegalArgumentException", Cond.methodLink RL 40 yX4_lacking, Cond.instanceMethod yX4_lacking, Cond.selects RX4 yX4_lacking yX4_lacking, Cond.initialized RX4, Cond.code yX4_lacking cX4_lacking 8 (some .int), Cond.fieldLink RX4 27 "RoamingHouse" "fileCount" "I", Cond.fieldLink RX4 23 "RoamingHouse" "fileRows" "[LRoamingHouse$CallFile;", Cond.fieldLink RX4 103 "RoamingHouse$CallFile" "pair" "LRoamingHouse$Pair;", Cond.fieldLink RX4 88 "RoamingHouse$CallFile" "state" "I", Cond.fieldLink RX4 114 "RoamingHouse$CallFile" "number" "I", Cond.methodLink RX4 121 Lib.Math.max.name, Cond.static Lib.Math.max.name, Cond.initialized "java/lang/Math", Cond.code Lib.Math.max.name Lib.Math.max.code 2 (some .int), Cond.fieldLink RX4 107 "RoamingHouse$Pair" "expectedNumber" "I", Cond.methodLink RX4 69 yX4_pairAt, Cond.instanceMethod yX4_pairAt, Cond.selects RX4 yX4_pairAt yX4_pairAt, Cond.code yX4_pairAt cX4_pairAt 3 (some (.object "RoamingHouse$Pair")), Cond.classLink RX4 197 "java/lang/IndexOutOfBoundsException", Cond.initialized "java/lang/IndexOutOfBoundsException", Cond.classLink RX4 188 "java/lang/IllegalArgumentException"]
def wsL_lacking_r2 : List Cond := [Cond.initialized "java/lang/IllegalArgumentException", Cond.fieldLink RX4 17 "RoamingHouse" "pairs" "[LRoamingHouse$Pair;", Cond.methodLink RX4 193 yX4_isOperator, Cond.static yX4_isOperator, Cond.code yX4_isOperator cX4_isOperator 1 (some .boolean)]
def wsL_lacking : List Cond := .codeWith yL_lacking cL_lacking 5 (some .int) [(0, 10, 13, 13), (0, 10, 17, 15)] :: ((wsL_lacking_r1 ++ wsL_lacking_r2) ++ wsX40 ++ wsX10 ++ wsX30 ++ (vx_atS RX4 201 "java/lang/IndexOutOfBoundsException" ["java/lang/RuntimeException", "java/lang/Exception"]).filter goodWord ++ (vx_atS RX4 192 "java/lang/IllegalArgumentException" ["java/lang/RuntimeException", "java/lang/Exception"]).filter goodWord)
def wsL_call : List Cond := .codeWith yL_call cL_call 4 (some .int) [(0, 9, 12, 13)] :: ([.classLink RL 13 "java/lang/IndexOutOfBoundsException", .methodLink RL 43 yX4_call, .instanceMethod yX4_call, .selects RX4 yX4_call yX4_call, .initialized RX4, .code yX4_call cX4_call 2 (some .int), .fieldLink RX4 131 "RoamingHouse$Call" "state" "I", .methodLink RX4 127 yX4_callAt, .instanceMethod yX4_callAt, .selects RX4 yX4_callAt yX4_callAt, .code yX4_callAt cX4_callAt 2 (some (.object "RoamingHouse$Call")), .classLink RX4 197 "java/lang/IndexOutOfBoundsException", .initialized "java/lang/IndexOutOfBoundsException", .fieldLink RX4 37 "RoamingHouse" "callCount" "I", .fieldLink RX4 33 "RoamingHouse" "callRows" "[LRoamingHouse$Call;"] ++ wsX00 ++ wsX40 ++ (vx_atS RX4 201 "java/lang/IndexOutOfBoundsException" ["java/lang/RuntimeException", "java/lang/Exception"]).filter goodWord)
def wsL_monthOf : List Cond := .codeWith yL_monthOf cL_monthOf 4 (some .int) [(0, 9, 12, 13)] :: ([.classLink RL 13 "java/lang/IndexOutOfBoundsException", .methodLink RL 46 yX4_monthOf, .instanceMethod yX4_monthOf, .selects RX4 yX4_monthOf yX4_monthOf, .initialized RX4, .code yX4_monthOf cX4_monthOf 2 (some .int), .fieldLink RX4 132 "RoamingHouse$Call" "acceptedIn" "I", .methodLink RX4 127 yX4_callAt, .instanceMethod yX4_callAt, .selects RX4 yX4_callAt yX4_callAt, .code yX4_callAt cX4_callAt 2 (some (.object "RoamingHouse$Call")), .classLink RX4 197 "java/lang/IndexOutOfBoundsException", .initialized "java/lang/IndexOutOfBoundsException", .fieldLink RX4 37 "RoamingHouse" "callCount" "I", .fieldLink RX4 33 "RoamingHouse" "callRows" "[LRoamingHouse$Call;"] ++ wsX00 ++ wsX40 ++ (vx_atS RX4 201 "java/lang/IndexOutOfBoundsException" ["java/lang/RuntimeException", "java/lang/Exception"]).filter goodWord)
def wsL_owedFor_r1 : List Cond := [Cond.classLink RL 13 "java/lang/IndexOutOfBoundsException", Cond.methodLink RL 49 yX4_owedFor, Cond.instanceMethod yX4_owedFor, Cond.selects RX4 yX4_owedFor yX4_owedFor, Cond.initialized RX4, Cond.code yX4_owedFor cX4_owedFor 2 (some .int), Cond.methodLink RX4 127 yX4_callAt, Cond.instanceMethod yX4_callAt, Cond.selects RX4 yX4_callAt yX4_callAt, Cond.code yX4_callAt cX4_callAt 2 (some (.object "RoamingHouse$Call")), Cond.classLink RX4 197 "java/lang/IndexOutOfBoundsException", Cond.initialized "java/lang/IndexOutOfBoundsException", Cond.fieldLink RX4 37 "RoamingHouse" "callCount" "I", Cond.fieldLink RX4 33 "RoamingHouse" "callRows" "[LRoamingHouse$Call;", Cond.methodLink RX4 135 yX0_amount, Cond.instanceMethod yX0_amount, Cond.selects RX0 yX0_amount yX0_amount, Cond.initialized RX0, Cond.code yX0_amount cX0_amount 1 (some .int), Cond.fieldLink RX0 9 "RoamingHouse$Call" "state" "I", Cond.fieldLink RX0 24 "RoamingHouse$Call" "file" "LRoamingHouse$CallFile;", Cond.fieldLink RX0 34 "RoamingHouse$CallFile" "pair" "LRoamingHouse$Pair;", Cond.fieldLink RX0 15 "RoamingHouse$Call" "acceptedIn" "I", Cond.fieldLink RX0 21 "RoamingHouse$Call" "secondsAhead" "I"]
def wsL_owedFor_r2 : List Cond := [Cond.fieldLink RX0 31 "RoamingHouse$Call" "told" "I", Cond.fieldLink RX0 63 "RoamingHouse$Pair" "discountRate" "I", Cond.constantLong RX0 66 (10000), Cond.static yX4_yearOf, Cond.code yX4_yearOf cX4_yearOf 1 (some .int), Cond.methodLink RX0 59 yX3_discounts, Cond.instanceMethod yX3_discounts, Cond.selects RX3 yX3_discounts yX3_discounts, Cond.initialized RX3, Cond.code yX3_discounts cX3_discounts 3 (some .boolean), Cond.fieldLink RX3 24 "RoamingHouse$Pair" "goesBack" "Z", Cond.fieldLink RX3 28 "RoamingHouse$Pair" "acceptedSeconds" "[I", Cond.fieldLink RX3 18 "RoamingHouse$Pair" "volume" "I"]
def wsL_owedFor : List Cond := .codeWith yL_owedFor cL_owedFor 4 (some .int) [(0, 9, 12, 13)] :: ((wsL_owedFor_r1 ++ wsL_owedFor_r2) ++ wsX40 ++ wsX00 ++ wsX10 ++ wsX30 ++ (vx_atS RX4 201 "java/lang/IndexOutOfBoundsException" ["java/lang/RuntimeException", "java/lang/Exception"]).filter goodWord)
def wsL_dispute : List Cond := .codeWith yL_dispute cL_dispute 3 (some .int) [(0, 5, 8, 13), (0, 5, 11, 24)] :: ([.classLink RL 13 "java/lang/IndexOutOfBoundsException", .classLink RL 24 "java/lang/IllegalStateException", .methodLink RL 52 yX4_dispute, .instanceMethod yX4_dispute, .selects RX4 yX4_dispute yX4_dispute, .initialized RX4, .code yX4_dispute cX4_dispute 3 none, .classLink RX4 73 "java/lang/IllegalStateException", .initialized "java/lang/IllegalStateException", .fieldLink RX4 131 "RoamingHouse$Call" "state" "I", .fieldLink RX4 40 "RoamingHouse" "now" "I", .fieldLink RX4 132 "RoamingHouse$Call" "acceptedIn" "I", .fieldLink RX4 143 "RoamingHouse$Call" "disputedIn" "I", .methodLink RX4 127 yX4_callAt, .instanceMethod yX4_callAt, .selects RX4 yX4_callAt yX4_callAt, .code yX4_callAt cX4_callAt 2 (some (.object "RoamingHouse$Call")), .classLink RX4 197 "java/lang/IndexOutOfBoundsException", .initialized "java/lang/IndexOutOfBoundsException", .fieldLink RX4 37 "RoamingHouse" "callCount" "I", .fieldLink RX4 33 "RoamingHouse" "callRows" "[LRoamingHouse$Call;"] ++ wsX00 ++ wsX40 ++ (vx_atS RX4 77 "java/lang/IllegalStateException" ["java/lang/RuntimeException", "java/lang/Exception"]).filter goodWord ++ (vx_atS RX4 201 "java/lang/IndexOutOfBoundsException" ["java/lang/RuntimeException", "java/lang/Exception"]).filter goodWord)
def wsL_answer : List Cond := .codeWith yL_answer cL_answer 4 (some .int) [(0, 6, 9, 13), (0, 6, 12, 24)] :: ([.classLink RL 13 "java/lang/IndexOutOfBoundsException", .classLink RL 24 "java/lang/IllegalStateException", .methodLink RL 56 yX4_answer, .instanceMethod yX4_answer, .selects RX4 yX4_answer yX4_answer, .initialized RX4, .code yX4_answer cX4_answer 4 none, .classLink RX4 73 "java/lang/IllegalStateException", .initialized "java/lang/IllegalStateException", .fieldLink RX4 131 "RoamingHouse$Call" "state" "I", .methodLink RX4 127 yX4_callAt, .instanceMethod yX4_callAt, .selects RX4 yX4_callAt yX4_callAt, .code yX4_callAt cX4_callAt 2 (some (.object "RoamingHouse$Call")), .classLink RX4 197 "java/lang/IndexOutOfBoundsException", .initialized "java/lang/IndexOutOfBoundsException", .fieldLink RX4 37 "RoamingHouse" "callCount" "I", .fieldLink RX4 33 "RoamingHouse" "callRows" "[LRoamingHouse$Call;"] ++ wsX00 ++ wsX40 ++ (vx_atS RX4 77 "java/lang/IllegalStateException" ["java/lang/RuntimeException", "java/lang/Exception"]).filter goodWord ++ (vx_atS RX4 201 "java/lang/IndexOutOfBoundsException" ["java/lang/RuntimeException", "java/lang/Exception"]).filter goodWord)
def wsL_agree_r1 : List Cond := [Cond.classLink RL 13 "java/lang/IndexOutOfBoundsException", Cond.classLink RL 15 "java/lang/IllegalArgumentException", Cond.methodLink RL 60 yX4_agree, Cond.instanceMethod yX4_agree, Cond.selects RX4 yX4_agree yX4_agree, Cond.initialized RX4, Cond.code yX4_agree cX4_agree 7 none, Cond.constant RX4 148 (1000000), Cond.fieldLink RX4 149 "RoamingHouse$Pair" "volume" "I", Cond.fieldLink RX4 152 "RoamingHouse$Pair" "discountRate" "I", Cond.fieldLink RX4 155 "RoamingHouse$Pair" "goesBack" "Z", Cond.methodLink RX4 69 yX4_pairAt, Cond.instanceMethod yX4_pairAt, Cond.selects RX4 yX4_pairAt yX4_pairAt, Cond.code yX4_pairAt cX4_pairAt 3 (some (.object "RoamingHouse$Pair")), Cond.classLink RX4 197 "java/lang/IndexOutOfBoundsException", Cond.initialized "java/lang/IndexOutOfBoundsException", Cond.classLink RX4 188 "java/lang/IllegalArgumentException", Cond.initialized "java/lang/IllegalArgumentException", Cond.fieldLink RX4 17 "RoamingHouse" "pairs" "[LRoamingHouse$Pair;", Cond.methodLink RX4 193 yX4_isOperator, Cond.static yX4_isOperator, Cond.code yX4_isOperator cX4_isOperator 1 (some .boolean), Cond.methodLink RX4 51 yX4_refuseOutside]
def wsL_agree_r2 : List Cond := [Cond.static yX4_refuseOutside, Cond.code yX4_refuseOutside cX4_refuseOutside 3 none]
def wsL_agree : List Cond := .codeWith yL_agree cL_agree 7 (some .int) [(0, 11, 14, 13), (0, 11, 18, 15)] :: ((wsL_agree_r1 ++ wsL_agree_r2) ++ wsX30 ++ wsX40 ++ (vx_atS RX4 201 "java/lang/IndexOutOfBoundsException" ["java/lang/RuntimeException", "java/lang/Exception"]).filter goodWord ++ (vx_atS RX4 192 "java/lang/IllegalArgumentException" ["java/lang/RuntimeException", "java/lang/Exception"]).filter goodWord)
def wsL_promise : List Cond := .codeWith yL_promise cL_promise 6 (some .int) [(0, 12, 15, 13), (0, 12, 19, 15)] :: ([.classLink RL 13 "java/lang/IndexOutOfBoundsException", .classLink RL 15 "java/lang/IllegalArgumentException", .methodLink RL 64 yX4_promise, .instanceMethod yX4_promise, .selects RX4 yX4_promise yX4_promise, .initialized RX4, .code yX4_promise cX4_promise 6 (some .int), .constant RX4 159 (100000000), .fieldLink RX4 160 "RoamingHouse$Pair" "promised" "I", .methodLink RX4 69 yX4_pairAt, .instanceMethod yX4_pairAt, .selects RX4 yX4_pairAt yX4_pairAt, .code yX4_pairAt cX4_pairAt 3 (some (.object "RoamingHouse$Pair")), .classLink RX4 197 "java/lang/IndexOutOfBoundsException", .initialized "java/lang/IndexOutOfBoundsException", .classLink RX4 188 "java/lang/IllegalArgumentException", .initialized "java/lang/IllegalArgumentException", .fieldLink RX4 17 "RoamingHouse" "pairs" "[LRoamingHouse$Pair;", .methodLink RX4 193 yX4_isOperator, .static yX4_isOperator, .code yX4_isOperator cX4_isOperator 1 (some .boolean), .methodLink RX4 51 yX4_refuseOutside, .static yX4_refuseOutside, .code yX4_refuseOutside cX4_refuseOutside 3 none] ++ wsX30 ++ wsX40 ++ (vx_atS RX4 201 "java/lang/IndexOutOfBoundsException" ["java/lang/RuntimeException", "java/lang/Exception"]).filter goodWord ++ (vx_atS RX4 192 "java/lang/IllegalArgumentException" ["java/lang/RuntimeException", "java/lang/Exception"]).filter goodWord)
def wsL_setRate : List Cond := .codeWith yL_setRate cL_setRate 5 (some .int) [(0, 10, 13, 13), (0, 10, 17, 15)] :: ([.classLink RL 13 "java/lang/IndexOutOfBoundsException", .classLink RL 15 "java/lang/IllegalArgumentException", .methodLink RL 67 yX4_setRate, .instanceMethod yX4_setRate, .selects RX4 yX4_setRate yX4_setRate, .initialized RX4, .code yX4_setRate cX4_setRate 5 (some .int), .constant RX4 163 (100000), .fieldLink RX4 164 "RoamingHouse$Operator" "unitRate" "I", .methodLink RX4 47 yX4_operatorAt, .instanceMethod yX4_operatorAt, .selects RX4 yX4_operatorAt yX4_operatorAt, .code yX4_operatorAt cX4_operatorAt 2 (some (.object "RoamingHouse$Operator")), .classLink RX4 197 "java/lang/IndexOutOfBoundsException", .initialized "java/lang/IndexOutOfBoundsException", .fieldLink RX4 11 "RoamingHouse" "operators" "[LRoamingHouse$Operator;", .methodLink RX4 193 yX4_isOperator, .static yX4_isOperator, .code yX4_isOperator cX4_isOperator 1 (some .boolean), .methodLink RX4 51 yX4_refuseOutside, .static yX4_refuseOutside, .code yX4_refuseOutside cX4_refuseOutside 3 none, .classLink RX4 188 "java/lang/IllegalArgumentException", .initialized "java/lang/IllegalArgumentException"] ++ wsX20 ++ wsX40 ++ (vx_atS RX4 201 "java/lang/IndexOutOfBoundsException" ["java/lang/RuntimeException", "java/lang/Exception"]).filter goodWord ++ (vx_atS RX4 192 "java/lang/IllegalArgumentException" ["java/lang/RuntimeException", "java/lang/Exception"]).filter goodWord)
def wsL_nextMonth : List Cond := .codeWith yL_nextMonth cL_nextMonth 3 (some .int) [(0, 8, 11, 24)] :: ([.classLink RL 24 "java/lang/IllegalStateException", .methodLink RL 70 yX4_nextMonth, .instanceMethod yX4_nextMonth, .selects RX4 yX4_nextMonth yX4_nextMonth, .initialized RX4, .code yX4_nextMonth cX4_nextMonth 1 (some .int), .classLink RX4 73 "java/lang/IllegalStateException", .initialized "java/lang/IllegalStateException", .fieldLink RX4 40 "RoamingHouse" "now" "I", .methodLink RX4 169 yX4_giveBackUnanswered, .instanceMethod yX4_giveBackUnanswered, .selects RX4 yX4_giveBackUnanswered yX4_giveBackUnanswered, .code yX4_giveBackUnanswered cX4_giveBackUnanswered 3 none, .fieldLink RX4 37 "RoamingHouse" "callCount" "I", .fieldLink RX4 33 "RoamingHouse" "callRows" "[LRoamingHouse$Call;", .fieldLink RX4 131 "RoamingHouse$Call" "state" "I", .fieldLink RX4 143 "RoamingHouse$Call" "disputedIn" "I"] ++ wsX40 ++ wsX00 ++ (vx_atS RX4 77 "java/lang/IllegalStateException" ["java/lang/RuntimeException", "java/lang/Exception"]).filter goodWord)
def wsL_owed_r1 : List Cond := [Cond.classLink RL 13 "java/lang/IndexOutOfBoundsException", Cond.classLink RL 15 "java/lang/IllegalArgumentException", Cond.methodLink RL 74 yX4_owed, Cond.instanceMethod yX4_owed, Cond.selects RX4 yX4_owed yX4_owed, Cond.initialized RX4, Cond.code yX4_owed cX4_owed 5 (some .long), Cond.fieldLink RX4 40 "RoamingHouse" "now" "I", Cond.methodLink RX4 69 yX4_pairAt, Cond.instanceMethod yX4_pairAt, Cond.selects RX4 yX4_pairAt yX4_pairAt, Cond.code yX4_pairAt cX4_pairAt 3 (some (.object "RoamingHouse$Pair")), Cond.classLink RX4 197 "java/lang/IndexOutOfBoundsException", Cond.initialized "java/lang/IndexOutOfBoundsException", Cond.classLink RX4 188 "java/lang/IllegalArgumentException", Cond.initialized "java/lang/IllegalArgumentException", Cond.fieldLink RX4 17 "RoamingHouse" "pairs" "[LRoamingHouse$Pair;", Cond.methodLink RX4 193 yX4_isOperator, Cond.static yX4_isOperator, Cond.code yX4_isOperator cX4_isOperator 1 (some .boolean), Cond.methodLink RX4 51 yX4_refuseOutside, Cond.static yX4_refuseOutside, Cond.code yX4_refuseOutside cX4_refuseOutside 3 none, Cond.methodLink RX4 172 yX4_amountOfMonths]
def wsL_owed_r2 : List Cond := [Cond.instanceMethod yX4_amountOfMonths, Cond.selects RX4 yX4_amountOfMonths yX4_amountOfMonths, Cond.code yX4_amountOfMonths cX4_amountOfMonths 8 (some .long), Cond.fieldLink RX4 37 "RoamingHouse" "callCount" "I", Cond.fieldLink RX4 33 "RoamingHouse" "callRows" "[LRoamingHouse$Call;", Cond.fieldLink RX4 221 "RoamingHouse$Call" "file" "LRoamingHouse$CallFile;", Cond.fieldLink RX4 103 "RoamingHouse$CallFile" "pair" "LRoamingHouse$Pair;", Cond.fieldLink RX4 132 "RoamingHouse$Call" "acceptedIn" "I", Cond.methodLink RX4 135 yX0_amount, Cond.instanceMethod yX0_amount, Cond.selects RX0 yX0_amount yX0_amount, Cond.initialized RX0, Cond.code yX0_amount cX0_amount 1 (some .int), Cond.fieldLink RX0 9 "RoamingHouse$Call" "state" "I", Cond.fieldLink RX0 24 "RoamingHouse$Call" "file" "LRoamingHouse$CallFile;", Cond.fieldLink RX0 34 "RoamingHouse$CallFile" "pair" "LRoamingHouse$Pair;", Cond.fieldLink RX0 15 "RoamingHouse$Call" "acceptedIn" "I", Cond.fieldLink RX0 21 "RoamingHouse$Call" "secondsAhead" "I", Cond.fieldLink RX0 31 "RoamingHouse$Call" "told" "I", Cond.fieldLink RX0 63 "RoamingHouse$Pair" "discountRate" "I", Cond.constantLong RX0 66 (10000), Cond.static yX4_yearOf, Cond.code yX4_yearOf cX4_yearOf 1 (some .int), Cond.methodLink RX0 59 yX3_discounts]
def wsL_owed_r3 : List Cond := [Cond.instanceMethod yX3_discounts, Cond.selects RX3 yX3_discounts yX3_discounts, Cond.initialized RX3, Cond.code yX3_discounts cX3_discounts 3 (some .boolean), Cond.fieldLink RX3 24 "RoamingHouse$Pair" "goesBack" "Z", Cond.fieldLink RX3 28 "RoamingHouse$Pair" "acceptedSeconds" "[I", Cond.fieldLink RX3 18 "RoamingHouse$Pair" "volume" "I"]
def wsL_owed : List Cond := .codeWith yL_owed cL_owed 6 (some .int) [(0, 11, 14, 13), (0, 11, 18, 15)] :: ((wsL_owed_r1 ++ (wsL_owed_r2 ++ wsL_owed_r3)) ++ wsX40 ++ wsX00 ++ wsX10 ++ wsX30 ++ (vx_atS RX4 201 "java/lang/IndexOutOfBoundsException" ["java/lang/RuntimeException", "java/lang/Exception"]).filter goodWord ++ (vx_atS RX4 192 "java/lang/IllegalArgumentException" ["java/lang/RuntimeException", "java/lang/Exception"]).filter goodWord)
def wsL_shortfall_r1 : List Cond := [Cond.classLink RL 13 "java/lang/IndexOutOfBoundsException", Cond.classLink RL 15 "java/lang/IllegalArgumentException", Cond.classLink RL 24 "java/lang/IllegalStateException", Cond.methodLink RL 78 yX4_shortfall, Cond.instanceMethod yX4_shortfall, Cond.selects RX4 yX4_shortfall yX4_shortfall, Cond.initialized RX4, Cond.code yX4_shortfall cX4_shortfall 6 (some .long), Cond.classLink RX4 73 "java/lang/IllegalStateException", Cond.initialized "java/lang/IllegalStateException", Cond.fieldLink RX4 40 "RoamingHouse" "now" "I", Cond.fieldLink RX4 160 "RoamingHouse$Pair" "promised" "I", Cond.methodLink RX4 181 Lib.MathLoose.max_long.x, Cond.static Lib.MathLoose.max_long.x, Cond.initialized "java/lang/Math", Cond.code Lib.MathLoose.max_long.x Lib.MathLoose.max_long.code 4 (some .long), Cond.methodLink RX4 69 yX4_pairAt, Cond.instanceMethod yX4_pairAt, Cond.selects RX4 yX4_pairAt yX4_pairAt, Cond.code yX4_pairAt cX4_pairAt 3 (some (.object "RoamingHouse$Pair")), Cond.classLink RX4 197 "java/lang/IndexOutOfBoundsException", Cond.initialized "java/lang/IndexOutOfBoundsException", Cond.classLink RX4 188 "java/lang/IllegalArgumentException", Cond.initialized "java/lang/IllegalArgumentException"]
def wsL_shortfall_r2 : List Cond := [Cond.fieldLink RX4 17 "RoamingHouse" "pairs" "[LRoamingHouse$Pair;", Cond.methodLink RX4 193 yX4_isOperator, Cond.static yX4_isOperator, Cond.code yX4_isOperator cX4_isOperator 1 (some .boolean), Cond.methodLink RX4 51 yX4_refuseOutside, Cond.static yX4_refuseOutside, Cond.code yX4_refuseOutside cX4_refuseOutside 3 none, Cond.methodLink RX4 176 yX4_yearOf, Cond.static yX4_yearOf, Cond.code yX4_yearOf cX4_yearOf 1 (some .int), Cond.methodLink RX4 172 yX4_amountOfMonths, Cond.instanceMethod yX4_amountOfMonths, Cond.selects RX4 yX4_amountOfMonths yX4_amountOfMonths, Cond.code yX4_amountOfMonths cX4_amountOfMonths 8 (some .long), Cond.fieldLink RX4 37 "RoamingHouse" "callCount" "I", Cond.fieldLink RX4 33 "RoamingHouse" "callRows" "[LRoamingHouse$Call;", Cond.fieldLink RX4 221 "RoamingHouse$Call" "file" "LRoamingHouse$CallFile;", Cond.fieldLink RX4 103 "RoamingHouse$CallFile" "pair" "LRoamingHouse$Pair;", Cond.fieldLink RX4 132 "RoamingHouse$Call" "acceptedIn" "I", Cond.methodLink RX4 135 yX0_amount, Cond.instanceMethod yX0_amount, Cond.selects RX0 yX0_amount yX0_amount, Cond.initialized RX0, Cond.code yX0_amount cX0_amount 1 (some .int)]
def wsL_shortfall_r3 : List Cond := [Cond.fieldLink RX0 9 "RoamingHouse$Call" "state" "I", Cond.fieldLink RX0 24 "RoamingHouse$Call" "file" "LRoamingHouse$CallFile;", Cond.fieldLink RX0 34 "RoamingHouse$CallFile" "pair" "LRoamingHouse$Pair;", Cond.fieldLink RX0 15 "RoamingHouse$Call" "acceptedIn" "I", Cond.fieldLink RX0 21 "RoamingHouse$Call" "secondsAhead" "I", Cond.fieldLink RX0 31 "RoamingHouse$Call" "told" "I", Cond.fieldLink RX0 63 "RoamingHouse$Pair" "discountRate" "I", Cond.constantLong RX0 66 (10000), Cond.methodLink RX0 59 yX3_discounts, Cond.instanceMethod yX3_discounts, Cond.selects RX3 yX3_discounts yX3_discounts, Cond.initialized RX3, Cond.code yX3_discounts cX3_discounts 3 (some .boolean), Cond.fieldLink RX3 24 "RoamingHouse$Pair" "goesBack" "Z", Cond.fieldLink RX3 28 "RoamingHouse$Pair" "acceptedSeconds" "[I", Cond.fieldLink RX3 18 "RoamingHouse$Pair" "volume" "I"]
def wsL_shortfall : List Cond := .codeWith yL_shortfall cL_shortfall 6 (some .int) [(0, 11, 14, 13), (0, 11, 18, 15), (0, 11, 22, 24)] :: ((wsL_shortfall_r1 ++ (wsL_shortfall_r2 ++ wsL_shortfall_r3)) ++ wsX40 ++ wsX30 ++ wsX00 ++ wsX10 ++ (vx_atS RX4 77 "java/lang/IllegalStateException" ["java/lang/RuntimeException", "java/lang/Exception"]).filter goodWord ++ (vx_atS RX4 201 "java/lang/IndexOutOfBoundsException" ["java/lang/RuntimeException", "java/lang/Exception"]).filter goodWord ++ (vx_atS RX4 192 "java/lang/IllegalArgumentException" ["java/lang/RuntimeException", "java/lang/Exception"]).filter goodWord)
def wsL_net_r1 : List Cond := [Cond.classLink RL 13 "java/lang/IndexOutOfBoundsException", Cond.classLink RL 15 "java/lang/IllegalArgumentException", Cond.methodLink RL 81 yX4_net, Cond.instanceMethod yX4_net, Cond.selects RX4 yX4_net yX4_net, Cond.initialized RX4, Cond.code yX4_net cX4_net 6 (some .long), Cond.fieldLink RX4 40 "RoamingHouse" "now" "I", Cond.fieldLink RX4 17 "RoamingHouse" "pairs" "[LRoamingHouse$Pair;", Cond.methodLink RX4 47 yX4_operatorAt, Cond.instanceMethod yX4_operatorAt, Cond.selects RX4 yX4_operatorAt yX4_operatorAt, Cond.code yX4_operatorAt cX4_operatorAt 2 (some (.object "RoamingHouse$Operator")), Cond.classLink RX4 197 "java/lang/IndexOutOfBoundsException", Cond.initialized "java/lang/IndexOutOfBoundsException", Cond.fieldLink RX4 11 "RoamingHouse" "operators" "[LRoamingHouse$Operator;", Cond.methodLink RX4 193 yX4_isOperator, Cond.static yX4_isOperator, Cond.code yX4_isOperator cX4_isOperator 1 (some .boolean), Cond.methodLink RX4 51 yX4_refuseOutside, Cond.static yX4_refuseOutside, Cond.code yX4_refuseOutside cX4_refuseOutside 3 none, Cond.classLink RX4 188 "java/lang/IllegalArgumentException", Cond.initialized "java/lang/IllegalArgumentException"]
def wsL_net_r2 : List Cond := [Cond.methodLink RX4 184 yX4_unitsOfMonth, Cond.instanceMethod yX4_unitsOfMonth, Cond.selects RX4 yX4_unitsOfMonth yX4_unitsOfMonth, Cond.code yX4_unitsOfMonth cX4_unitsOfMonth 3 (some .long), Cond.fieldLink RX4 233 "RoamingHouse$Pair" "host" "LRoamingHouse$Operator;", Cond.fieldLink RX4 164 "RoamingHouse$Operator" "unitRate" "I", Cond.constantLong RX4 237 (1000), Cond.methodLink RX4 172 yX4_amountOfMonths, Cond.instanceMethod yX4_amountOfMonths, Cond.selects RX4 yX4_amountOfMonths yX4_amountOfMonths, Cond.code yX4_amountOfMonths cX4_amountOfMonths 8 (some .long), Cond.fieldLink RX4 37 "RoamingHouse" "callCount" "I", Cond.fieldLink RX4 33 "RoamingHouse" "callRows" "[LRoamingHouse$Call;", Cond.fieldLink RX4 221 "RoamingHouse$Call" "file" "LRoamingHouse$CallFile;", Cond.fieldLink RX4 103 "RoamingHouse$CallFile" "pair" "LRoamingHouse$Pair;", Cond.fieldLink RX4 132 "RoamingHouse$Call" "acceptedIn" "I", Cond.methodLink RX4 135 yX0_amount, Cond.instanceMethod yX0_amount, Cond.selects RX0 yX0_amount yX0_amount, Cond.initialized RX0, Cond.code yX0_amount cX0_amount 1 (some .int), Cond.fieldLink RX0 9 "RoamingHouse$Call" "state" "I", Cond.fieldLink RX0 24 "RoamingHouse$Call" "file" "LRoamingHouse$CallFile;", Cond.fieldLink RX0 34 "RoamingHouse$CallFile" "pair" "LRoamingHouse$Pair;"]
def wsL_net_r3 : List Cond := [Cond.fieldLink RX0 15 "RoamingHouse$Call" "acceptedIn" "I", Cond.fieldLink RX0 21 "RoamingHouse$Call" "secondsAhead" "I", Cond.fieldLink RX0 31 "RoamingHouse$Call" "told" "I", Cond.fieldLink RX0 63 "RoamingHouse$Pair" "discountRate" "I", Cond.constantLong RX0 66 (10000), Cond.static yX4_yearOf, Cond.code yX4_yearOf cX4_yearOf 1 (some .int), Cond.methodLink RX0 59 yX3_discounts, Cond.instanceMethod yX3_discounts, Cond.selects RX3 yX3_discounts yX3_discounts, Cond.initialized RX3, Cond.code yX3_discounts cX3_discounts 3 (some .boolean), Cond.fieldLink RX3 24 "RoamingHouse$Pair" "goesBack" "Z", Cond.fieldLink RX3 28 "RoamingHouse$Pair" "acceptedSeconds" "[I", Cond.fieldLink RX3 18 "RoamingHouse$Pair" "volume" "I"]
def wsL_net : List Cond := .codeWith yL_net cL_net 5 (some .int) [(0, 9, 12, 13), (0, 9, 16, 15)] :: ((wsL_net_r1 ++ (wsL_net_r2 ++ wsL_net_r3)) ++ wsX40 ++ wsX30 ++ wsX20 ++ wsX00 ++ wsX10 ++ (vx_atS RX4 201 "java/lang/IndexOutOfBoundsException" ["java/lang/RuntimeException", "java/lang/Exception"]).filter goodWord ++ (vx_atS RX4 192 "java/lang/IllegalArgumentException" ["java/lang/RuntimeException", "java/lang/Exception"]).filter goodWord)
def wsL_law0_r1 : List Cond := [Cond.classLink RL 8 RX4, Cond.instantiable RX4 7, Cond.initialized RX4, Cond.classLink RL 86 RX5, Cond.instantiable RX5 26, Cond.initialized RX5, Cond.arrayClass .long, Cond.methodLink RL 85 yX4_init, Cond.instanceMethod yX4_init, Cond.code yX4_init cX4_init 3 none, Cond.methodLink RX4 1 objectInit, Cond.instanceMethod objectInit, Cond.code objectInit ⟨#[0xb1]⟩ 1 none, Cond.classLink RX4 9 RX2, Cond.fieldLink RX4 11 "RoamingHouse" "operators" "[LRoamingHouse$Operator;", Cond.classLink RX4 15 RX3, Cond.fieldLink RX4 17 "RoamingHouse" "pairs" "[LRoamingHouse$Pair;", Cond.classLink RX4 21 RX1, Cond.fieldLink RX4 23 "RoamingHouse" "fileRows" "[LRoamingHouse$CallFile;", Cond.fieldLink RX4 27 "RoamingHouse" "fileCount" "I", Cond.classLink RX4 31 RX0, Cond.fieldLink RX4 33 "RoamingHouse" "callRows" "[LRoamingHouse$Call;", Cond.fieldLink RX4 37 "RoamingHouse" "callCount" "I", Cond.fieldLink RX4 40 "RoamingHouse" "now" "I"]
def wsL_law0_r2 : List Cond := [Cond.instantiable RX2 4, Cond.initialized RX2, Cond.instantiable RX3 7, Cond.initialized RX3, Cond.instanceMethod yX2_init, Cond.code yX2_init cX2_init 1 none, Cond.methodLink RX2 3 objectInit, Cond.fieldLink RX2 9 "RoamingHouse$Operator" "step" "I", Cond.fieldLink RX2 15 "RoamingHouse$Operator" "price" "I", Cond.fieldLink RX2 18 "RoamingHouse$Operator" "beginning" "I", Cond.fieldLink RX2 21 "RoamingHouse$Operator" "unitRate" "I", Cond.methodLink RX4 44 yX3_init, Cond.instanceMethod yX3_init, Cond.code yX3_init cX3_init 2 none, Cond.methodLink RX3 3 objectInit, Cond.fieldLink RX3 9 "RoamingHouse$Pair" "expectedNumber" "I", Cond.fieldLink RX3 15 "RoamingHouse$Pair" "promised" "I", Cond.fieldLink RX3 18 "RoamingHouse$Pair" "volume" "I", Cond.fieldLink RX3 21 "RoamingHouse$Pair" "discountRate" "I", Cond.fieldLink RX3 24 "RoamingHouse$Pair" "goesBack" "Z", Cond.arrayClass .int, Cond.fieldLink RX3 28 "RoamingHouse$Pair" "acceptedSeconds" "[I", Cond.fieldLink RX3 32 "RoamingHouse$Pair" "host" "LRoamingHouse$Operator;", Cond.methodLink RL 88 yX5_init]
def wsL_law0_r3 : List Cond := [Cond.instanceMethod yX5_init, Cond.code yX5_init cX5_init 2 none, Cond.methodLink RX5 1 objectInit, Cond.fieldLink RX5 7 "RoamingHouseModel" "steps" "[I", Cond.fieldLink RX5 13 "RoamingHouseModel" "prices" "[I", Cond.fieldLink RX5 16 "RoamingHouseModel" "beginnings" "[I", Cond.fieldLink RX5 19 "RoamingHouseModel" "rates" "[I", Cond.fieldLink RX5 22 "RoamingHouseModel" "pairOf" "[I", Cond.fieldLink RX5 25 "RoamingHouseModel" "fileMonths" "[I", Cond.fieldLink RX5 28 "RoamingHouseModel" "fileStates" "[I", Cond.fieldLink RX5 31 "RoamingHouseModel" "sentAs" "[I", Cond.fieldLink RX5 34 "RoamingHouseModel" "fileOf" "[I", Cond.fieldLink RX5 37 "RoamingHouseModel" "secondsOf" "[I", Cond.fieldLink RX5 40 "RoamingHouseModel" "charges" "[I", Cond.fieldLink RX5 43 "RoamingHouseModel" "callStates" "[I", Cond.fieldLink RX5 46 "RoamingHouseModel" "months" "[I", Cond.fieldLink RX5 49 "RoamingHouseModel" "disputedIn" "[I", Cond.fieldLink RX5 52 "RoamingHouseModel" "accepted" "[I", Cond.fieldLink RX5 55 "RoamingHouseModel" "expects" "[I", Cond.arrayClass .boolean, Cond.fieldLink RX5 58 "RoamingHouseModel" "hasAgreement" "[Z", Cond.fieldLink RX5 62 "RoamingHouseModel" "volumes" "[I", Cond.fieldLink RX5 65 "RoamingHouseModel" "discounts" "[I", Cond.fieldLink RX5 68 "RoamingHouseModel" "goesBack" "[Z"]
def wsL_law0_r4 : List Cond := [Cond.fieldLink RX5 71 "RoamingHouseModel" "promises" "[I", Cond.methodLink RL 89 yL_setTariff, Cond.static yL_setTariff, Cond.initialized RL, Cond.codeWith yL_setTariff cL_setTariff 7 (some .int) [(0, 14, 17, 13), (0, 14, 21, 15)], Cond.classLink RL 13 "java/lang/IndexOutOfBoundsException", Cond.classLink RL 15 "java/lang/IllegalArgumentException", Cond.methodLink RL 7 yX4_setTariff, Cond.instanceMethod yX4_setTariff, Cond.selects RX4 yX4_setTariff yX4_setTariff, Cond.code yX4_setTariff cX4_setTariff 7 (some .int), Cond.fieldLink RX4 55 "RoamingHouse$Operator" "price" "I", Cond.fieldLink RX4 58 "RoamingHouse$Operator" "step" "I", Cond.fieldLink RX4 61 "RoamingHouse$Operator" "beginning" "I", Cond.methodLink RX4 47 yX4_operatorAt, Cond.instanceMethod yX4_operatorAt, Cond.selects RX4 yX4_operatorAt yX4_operatorAt, Cond.code yX4_operatorAt cX4_operatorAt 2 (some (.object "RoamingHouse$Operator")), Cond.classLink RX4 197 "java/lang/IndexOutOfBoundsException", Cond.initialized "java/lang/IndexOutOfBoundsException", Cond.methodLink RX4 193 yX4_isOperator, Cond.static yX4_isOperator, Cond.code yX4_isOperator cX4_isOperator 1 (some .boolean), Cond.methodLink RX4 51 yX4_refuseOutside]
def wsL_law0_r5 : List Cond := [Cond.static yX4_refuseOutside, Cond.code yX4_refuseOutside cX4_refuseOutside 3 none, Cond.classLink RX4 188 "java/lang/IllegalArgumentException", Cond.initialized "java/lang/IllegalArgumentException", Cond.methodLink RL 94 yX5_setTariff, Cond.instanceMethod yX5_setTariff, Cond.selects RX5 yX5_setTariff yX5_setTariff, Cond.code yX5_setTariff cX5_setTariff 6 (some .int), Cond.fieldLink RX5 74 "RoamingHouseModel" "thrown" "I", Cond.methodLink RX5 82 yX5_isOperator, Cond.static yX5_isOperator, Cond.code yX5_isOperator cX5_isOperator 1 (some .boolean), Cond.methodLink RX5 78 yX5_in, Cond.static yX5_in, Cond.code yX5_in cX5_in 3 (some .boolean), Cond.methodLink RL 95 yX5_thrown, Cond.instanceMethod yX5_thrown, Cond.selects RX5 yX5_thrown yX5_thrown, Cond.code yX5_thrown cX5_thrown 1 (some .int), Cond.methodLink RL 98 yL_charge, Cond.static yL_charge, Cond.codeWith yL_charge cL_charge 5 (some .int) [(0, 10, 13, 13), (0, 10, 17, 15)], Cond.methodLink RL 17 yX4_charge, Cond.instanceMethod yX4_charge]
def wsL_law0_r6 : List Cond := [Cond.selects RX4 yX4_charge yX4_charge, Cond.code yX4_charge cX4_charge 4 (some .int), Cond.constant RX4 64 (36000), Cond.methodLink RX4 65 yX2_chargeFor, Cond.instanceMethod yX2_chargeFor, Cond.selects RX2 yX2_chargeFor yX2_chargeFor, Cond.code yX2_chargeFor cX2_chargeFor 3 (some .int), Cond.methodLink RL 101 yX5_charge, Cond.instanceMethod yX5_charge, Cond.selects RX5 yX5_charge yX5_charge, Cond.code yX5_charge cX5_charge 3 (some .int), Cond.constant RX5 92 (36000), Cond.methodLink RX5 93 yX5_chargeFor, Cond.instanceMethod yX5_chargeFor, Cond.selects RX5 yX5_chargeFor yX5_chargeFor, Cond.code yX5_chargeFor cX5_chargeFor 3 (some .int), Cond.methodLink RL 102 yL_begin, Cond.static yL_begin, Cond.codeWith yL_begin cL_begin 5 (some .int) [(0, 10, 13, 13), (0, 10, 17, 15), (0, 10, 21, 24)], Cond.classLink RL 24 "java/lang/IllegalStateException", Cond.methodLink RL 21 yX4_begin, Cond.instanceMethod yX4_begin, Cond.selects RX4 yX4_begin yX4_begin, Cond.code yX4_begin cX4_begin 5 (some .int)]
def wsL_law0_r7 : List Cond := [Cond.classLink RX4 73 "java/lang/IllegalStateException", Cond.initialized "java/lang/IllegalStateException", Cond.instantiable RX1 5, Cond.initialized RX1, Cond.methodLink RX4 69 yX4_pairAt, Cond.instanceMethod yX4_pairAt, Cond.selects RX4 yX4_pairAt yX4_pairAt, Cond.code yX4_pairAt cX4_pairAt 3 (some (.object "RoamingHouse$Pair")), Cond.methodLink RX4 80 yX1_init, Cond.instanceMethod yX1_init, Cond.code yX1_init cX1_init 3 none, Cond.methodLink RX1 3 objectInit, Cond.fieldLink RX1 9 "RoamingHouse$CallFile" "state" "I", Cond.fieldLink RX1 15 "RoamingHouse$CallFile" "size" "I", Cond.fieldLink RX1 18 "RoamingHouse$CallFile" "number" "I", Cond.fieldLink RX1 21 "RoamingHouse$CallFile" "pair" "LRoamingHouse$Pair;", Cond.fieldLink RX1 25 "RoamingHouse$CallFile" "begunIn" "I", Cond.methodLink RL 104 yX5_begin, Cond.instanceMethod yX5_begin, Cond.selects RX5 yX5_begin yX5_begin, Cond.code yX5_begin cX5_begin 3 (some .int), Cond.fieldLink RX5 86 "RoamingHouseModel" "fileMany" "I", Cond.fieldLink RX5 101 "RoamingHouseModel" "now" "I", Cond.methodLink RX5 97 yX5_isPair]
def wsL_law0_r8 : List Cond := [Cond.instanceMethod yX5_isPair, Cond.selects RX5 yX5_isPair yX5_isPair, Cond.code yX5_isPair cX5_isPair 4 (some .boolean), Cond.methodLink RL 105 yL_enter, Cond.static yL_enter, Cond.codeWith yL_enter cL_enter 6 (some .int) [(0, 12, 15, 13), (0, 12, 19, 15), (0, 12, 23, 24)], Cond.methodLink RL 26 yX4_enter, Cond.instanceMethod yX4_enter, Cond.selects RX4 yX4_enter yX4_enter, Cond.code yX4_enter cX4_enter 6 (some .int), Cond.constant RX4 87 (50000000), Cond.fieldLink RX4 88 "RoamingHouse$CallFile" "state" "I", Cond.instantiable RX0 7, Cond.initialized RX0, Cond.fieldLink RX4 98 "RoamingHouse$CallFile" "size" "I", Cond.methodLink RX4 83 yX4_fileAt, Cond.instanceMethod yX4_fileAt, Cond.selects RX4 yX4_fileAt yX4_fileAt, Cond.code yX4_fileAt cX4_fileAt 2 (some (.object "RoamingHouse$CallFile")), Cond.methodLink RX4 95 yX0_init, Cond.instanceMethod yX0_init, Cond.code yX0_init cX0_init 4 none, Cond.methodLink RX0 3 objectInit, Cond.fieldLink RX0 9 "RoamingHouse$Call" "state" "I"]
def wsL_law0_r9 : List Cond := [Cond.fieldLink RX0 15 "RoamingHouse$Call" "acceptedIn" "I", Cond.fieldLink RX0 18 "RoamingHouse$Call" "disputedIn" "I", Cond.fieldLink RX0 21 "RoamingHouse$Call" "secondsAhead" "I", Cond.fieldLink RX0 24 "RoamingHouse$Call" "file" "LRoamingHouse$CallFile;", Cond.fieldLink RX0 28 "RoamingHouse$Call" "seconds" "I", Cond.fieldLink RX0 31 "RoamingHouse$Call" "told" "I", Cond.methodLink RL 108 yX5_enter, Cond.instanceMethod yX5_enter, Cond.selects RX5 yX5_enter yX5_enter, Cond.code yX5_enter cX5_enter 4 (some .int), Cond.constant RX5 107 (50000000), Cond.fieldLink RX5 89 "RoamingHouseModel" "callMany" "I", Cond.methodLink RX5 104 yX5_isFile, Cond.instanceMethod yX5_isFile, Cond.selects RX5 yX5_isFile yX5_isFile, Cond.code yX5_isFile cX5_isFile 2 (some .boolean), Cond.methodLink RL 109 yL_send, Cond.static yL_send, Cond.codeWith yL_send cL_send 5 (some .int) [(0, 10, 13, 13), (0, 10, 17, 15), (0, 10, 21, 24)], Cond.methodLink RL 30 yX4_send, Cond.instanceMethod yX4_send, Cond.selects RX4 yX4_send yX4_send, Cond.code yX4_send cX4_send 5 (some .int), Cond.fieldLink RX4 103 "RoamingHouse$CallFile" "pair" "LRoamingHouse$Pair;"]
def wsL_law0_r10 : List Cond := [Cond.fieldLink RX4 107 "RoamingHouse$Pair" "expectedNumber" "I", Cond.fieldLink RX4 114 "RoamingHouse$CallFile" "number" "I", Cond.methodLink RX4 110 yX4_waitingFile, Cond.instanceMethod yX4_waitingFile, Cond.selects RX4 yX4_waitingFile yX4_waitingFile, Cond.code yX4_waitingFile cX4_waitingFile 5 (some (.object "RoamingHouse$CallFile")), Cond.methodLink RX4 117 yX4_lookAtAllFrom, Cond.instanceMethod yX4_lookAtAllFrom, Cond.selects RX4 yX4_lookAtAllFrom yX4_lookAtAllFrom, Cond.code yX4_lookAtAllFrom cX4_lookAtAllFrom 5 none, Cond.methodLink RX4 208 yX4_lookAt, Cond.instanceMethod yX4_lookAt, Cond.selects RX4 yX4_lookAt yX4_lookAt, Cond.code yX4_lookAt cX4_lookAt 2 none, Cond.fieldLink RX4 211 "RoamingHouse$CallFile" "begunIn" "I", Cond.methodLink RX4 214 yX4_wrongCallsOf, Cond.instanceMethod yX4_wrongCallsOf, Cond.selects RX4 yX4_wrongCallsOf yX4_wrongCallsOf, Cond.code yX4_wrongCallsOf cX4_wrongCallsOf 5 (some .int), Cond.fieldLink RX4 221 "RoamingHouse$Call" "file" "LRoamingHouse$CallFile;", Cond.methodLink RX4 225 yX0_isRight, Cond.instanceMethod yX0_isRight, Cond.selects RX0 yX0_isRight yX0_isRight, Cond.code yX0_isRight cX0_isRight 1 (some .boolean)]
def wsL_law0_r11 : List Cond := [Cond.fieldLink RX0 34 "RoamingHouse$CallFile" "pair" "LRoamingHouse$Pair;", Cond.fieldLink RX0 40 "RoamingHouse$Pair" "host" "LRoamingHouse$Operator;", Cond.methodLink RX0 46 yX2_chargeFor, Cond.methodLink RX4 218 yX4_acceptRightCallsOf, Cond.instanceMethod yX4_acceptRightCallsOf, Cond.selects RX4 yX4_acceptRightCallsOf yX4_acceptRightCallsOf, Cond.code yX4_acceptRightCallsOf cX4_acceptRightCallsOf 4 none, Cond.methodLink RX4 229 yX0_acceptIn, Cond.instanceMethod yX0_acceptIn, Cond.selects RX0 yX0_acceptIn yX0_acceptIn, Cond.code yX0_acceptIn cX0_acceptIn 3 none, Cond.fieldLink RX0 55 "RoamingHouse$Pair" "acceptedSeconds" "[I", Cond.static yX4_yearOf, Cond.code yX4_yearOf cX4_yearOf 1 (some .int), Cond.methodLink RL 111 yX5_send, Cond.instanceMethod yX5_send, Cond.selects RX5 yX5_send yX5_send, Cond.code yX5_send cX5_send 5 (some .int), Cond.methodLink RX5 111 yX5_callsOf, Cond.instanceMethod yX5_callsOf, Cond.selects RX5 yX5_callsOf yX5_callsOf, Cond.code yX5_callsOf cX5_callsOf 5 (some .int), Cond.methodLink RX5 108 yX5_isRight, Cond.instanceMethod yX5_isRight]
def wsL_law0_r12 : List Cond := [Cond.selects RX5 yX5_isRight yX5_isRight, Cond.code yX5_isRight cX5_isRight 2 (some .boolean), Cond.methodLink RX5 118 yX5_waiting, Cond.instanceMethod yX5_waiting, Cond.selects RX5 yX5_waiting yX5_waiting, Cond.code yX5_waiting cX5_waiting 5 (some .int), Cond.methodLink RX5 121 yX5_lookAt, Cond.instanceMethod yX5_lookAt, Cond.selects RX5 yX5_lookAt yX5_lookAt, Cond.code yX5_lookAt cX5_lookAt 3 none, Cond.fieldLink RX5 115 "RoamingHouseModel" "acceptedMany" "I", Cond.methodLink RL 112 yL_stateOf, Cond.static yL_stateOf, Cond.codeWith yL_stateOf cL_stateOf 4 (some .int) [(0, 9, 12, 13)], Cond.methodLink RL 33 yX4_stateOf, Cond.instanceMethod yX4_stateOf, Cond.selects RX4 yX4_stateOf yX4_stateOf, Cond.code yX4_stateOf cX4_stateOf 2 (some .int), Cond.methodLink RL 115 yX5_stateOf, Cond.instanceMethod yX5_stateOf, Cond.selects RX5 yX5_stateOf yX5_stateOf, Cond.code yX5_stateOf cX5_stateOf 2 (some .int), Cond.methodLink RL 116 yL_expected, Cond.static yL_expected]
def wsL_law0_r13 : List Cond := [Cond.codeWith yL_expected cL_expected 5 (some .int) [(0, 10, 13, 13), (0, 10, 17, 15)], Cond.methodLink RL 37 yX4_expected, Cond.instanceMethod yX4_expected, Cond.selects RX4 yX4_expected yX4_expected, Cond.code yX4_expected cX4_expected 3 (some .int), Cond.methodLink RL 118 yX5_expected, Cond.instanceMethod yX5_expected, Cond.selects RX5 yX5_expected yX5_expected, Cond.code yX5_expected cX5_expected 3 (some .int), Cond.methodLink RL 119 yL_lacking, Cond.static yL_lacking, Cond.codeWith yL_lacking cL_lacking 5 (some .int) [(0, 10, 13, 13), (0, 10, 17, 15)], Cond.methodLink RL 40 yX4_lacking, Cond.instanceMethod yX4_lacking, Cond.selects RX4 yX4_lacking yX4_lacking, Cond.code yX4_lacking cX4_lacking 8 (some .int), Cond.methodLink RX4 121 Lib.Math.max.name, Cond.static Lib.Math.max.name, Cond.initialized "java/lang/Math", Cond.code Lib.Math.max.name Lib.Math.max.code 2 (some .int), Cond.methodLink RL 121 yX5_lacking, Cond.instanceMethod yX5_lacking, Cond.selects RX5 yX5_lacking yX5_lacking, Cond.code yX5_lacking cX5_lacking 7 (some .int)]
def wsL_law0_r14 : List Cond := [Cond.methodLink RL 122 yX4_calls, Cond.instanceMethod yX4_calls, Cond.selects RX4 yX4_calls yX4_calls, Cond.code yX4_calls cX4_calls 1 (some .int), Cond.methodLink RL 125 yX5_calls, Cond.instanceMethod yX5_calls, Cond.selects RX5 yX5_calls yX5_calls, Cond.code yX5_calls cX5_calls 1 (some .int), Cond.methodLink RL 126 yL_call, Cond.static yL_call, Cond.codeWith yL_call cL_call 4 (some .int) [(0, 9, 12, 13)], Cond.methodLink RL 43 yX4_call, Cond.instanceMethod yX4_call, Cond.selects RX4 yX4_call yX4_call, Cond.code yX4_call cX4_call 2 (some .int), Cond.fieldLink RX4 131 "RoamingHouse$Call" "state" "I", Cond.methodLink RX4 127 yX4_callAt, Cond.instanceMethod yX4_callAt, Cond.selects RX4 yX4_callAt yX4_callAt, Cond.code yX4_callAt cX4_callAt 2 (some (.object "RoamingHouse$Call")), Cond.methodLink RL 128 yX5_call, Cond.instanceMethod yX5_call, Cond.selects RX5 yX5_call yX5_call, Cond.code yX5_call cX5_call 2 (some .int)]
def wsL_law0_r15 : List Cond := [Cond.methodLink RX5 125 yX5_isCall, Cond.instanceMethod yX5_isCall, Cond.selects RX5 yX5_isCall yX5_isCall, Cond.code yX5_isCall cX5_isCall 2 (some .boolean), Cond.methodLink RL 129 yL_monthOf, Cond.static yL_monthOf, Cond.codeWith yL_monthOf cL_monthOf 4 (some .int) [(0, 9, 12, 13)], Cond.methodLink RL 46 yX4_monthOf, Cond.instanceMethod yX4_monthOf, Cond.selects RX4 yX4_monthOf yX4_monthOf, Cond.code yX4_monthOf cX4_monthOf 2 (some .int), Cond.fieldLink RX4 132 "RoamingHouse$Call" "acceptedIn" "I", Cond.methodLink RL 131 yX5_monthOf, Cond.instanceMethod yX5_monthOf, Cond.selects RX5 yX5_monthOf yX5_monthOf, Cond.code yX5_monthOf cX5_monthOf 2 (some .int), Cond.methodLink RL 132 yL_owedFor, Cond.static yL_owedFor, Cond.codeWith yL_owedFor cL_owedFor 4 (some .int) [(0, 9, 12, 13)], Cond.methodLink RL 49 yX4_owedFor, Cond.instanceMethod yX4_owedFor, Cond.selects RX4 yX4_owedFor yX4_owedFor, Cond.code yX4_owedFor cX4_owedFor 2 (some .int), Cond.methodLink RX4 135 yX0_amount]
def wsL_law0_r16 : List Cond := [Cond.instanceMethod yX0_amount, Cond.selects RX0 yX0_amount yX0_amount, Cond.code yX0_amount cX0_amount 1 (some .int), Cond.fieldLink RX0 63 "RoamingHouse$Pair" "discountRate" "I", Cond.constantLong RX0 66 (10000), Cond.methodLink RX0 59 yX3_discounts, Cond.instanceMethod yX3_discounts, Cond.selects RX3 yX3_discounts yX3_discounts, Cond.code yX3_discounts cX3_discounts 3 (some .boolean), Cond.methodLink RL 134 yX5_owedFor, Cond.instanceMethod yX5_owedFor, Cond.selects RX5 yX5_owedFor yX5_owedFor, Cond.code yX5_owedFor cX5_owedFor 2 (some .int), Cond.methodLink RX5 138 yX5_owedOf, Cond.instanceMethod yX5_owedOf, Cond.selects RX5 yX5_owedOf yX5_owedOf, Cond.code yX5_owedOf cX5_owedOf 5 (some .int), Cond.constantLong RX5 136 (10000), Cond.methodLink RX5 128 yX5_placeOf, Cond.instanceMethod yX5_placeOf, Cond.selects RX5 yX5_placeOf yX5_placeOf, Cond.code yX5_placeOf cX5_placeOf 3 (some .int), Cond.methodLink RX5 132 yX5_secondsAhead, Cond.instanceMethod yX5_secondsAhead]
def wsL_law0_r17 : List Cond := [Cond.selects RX5 yX5_secondsAhead yX5_secondsAhead, Cond.code yX5_secondsAhead cX5_secondsAhead 7 (some .int), Cond.methodLink RL 135 yL_dispute, Cond.static yL_dispute, Cond.codeWith yL_dispute cL_dispute 3 (some .int) [(0, 5, 8, 13), (0, 5, 11, 24)], Cond.methodLink RL 52 yX4_dispute, Cond.instanceMethod yX4_dispute, Cond.selects RX4 yX4_dispute yX4_dispute, Cond.code yX4_dispute cX4_dispute 3 none, Cond.fieldLink RX4 143 "RoamingHouse$Call" "disputedIn" "I", Cond.methodLink RL 138 yX5_dispute, Cond.instanceMethod yX5_dispute, Cond.selects RX5 yX5_dispute yX5_dispute, Cond.code yX5_dispute cX5_dispute 2 none, Cond.methodLink RL 139 yL_answer, Cond.static yL_answer, Cond.codeWith yL_answer cL_answer 4 (some .int) [(0, 6, 9, 13), (0, 6, 12, 24)], Cond.methodLink RL 56 yX4_answer, Cond.instanceMethod yX4_answer, Cond.selects RX4 yX4_answer yX4_answer, Cond.code yX4_answer cX4_answer 4 none, Cond.methodLink RL 142 yX5_answer, Cond.instanceMethod yX5_answer, Cond.selects RX5 yX5_answer yX5_answer]
def wsL_law0_r18 : List Cond := [Cond.code yX5_answer cX5_answer 3 none, Cond.methodLink RL 143 yL_agree, Cond.static yL_agree, Cond.codeWith yL_agree cL_agree 7 (some .int) [(0, 11, 14, 13), (0, 11, 18, 15)], Cond.methodLink RL 60 yX4_agree, Cond.instanceMethod yX4_agree, Cond.selects RX4 yX4_agree yX4_agree, Cond.code yX4_agree cX4_agree 7 none, Cond.constant RX4 148 (1000000), Cond.fieldLink RX4 149 "RoamingHouse$Pair" "volume" "I", Cond.fieldLink RX4 152 "RoamingHouse$Pair" "discountRate" "I", Cond.fieldLink RX4 155 "RoamingHouse$Pair" "goesBack" "Z", Cond.methodLink RL 146 yX5_agree, Cond.instanceMethod yX5_agree, Cond.selects RX5 yX5_agree yX5_agree, Cond.code yX5_agree cX5_agree 7 none, Cond.constant RX5 141 (1000000), Cond.methodLink RL 147 yL_promise, Cond.static yL_promise, Cond.codeWith yL_promise cL_promise 6 (some .int) [(0, 12, 15, 13), (0, 12, 19, 15)], Cond.methodLink RL 64 yX4_promise, Cond.instanceMethod yX4_promise, Cond.selects RX4 yX4_promise yX4_promise, Cond.code yX4_promise cX4_promise 6 (some .int)]
def wsL_law0_r19 : List Cond := [Cond.constant RX4 159 (100000000), Cond.fieldLink RX4 160 "RoamingHouse$Pair" "promised" "I", Cond.methodLink RL 149 yX5_promise, Cond.instanceMethod yX5_promise, Cond.selects RX5 yX5_promise yX5_promise, Cond.code yX5_promise cX5_promise 5 (some .int), Cond.constant RX5 142 (100000000), Cond.methodLink RL 150 yL_setRate, Cond.static yL_setRate, Cond.codeWith yL_setRate cL_setRate 5 (some .int) [(0, 10, 13, 13), (0, 10, 17, 15)], Cond.methodLink RL 67 yX4_setRate, Cond.instanceMethod yX4_setRate, Cond.selects RX4 yX4_setRate yX4_setRate, Cond.code yX4_setRate cX4_setRate 5 (some .int), Cond.constant RX4 163 (100000), Cond.fieldLink RX4 164 "RoamingHouse$Operator" "unitRate" "I", Cond.methodLink RL 152 yX5_setRate, Cond.instanceMethod yX5_setRate, Cond.selects RX5 yX5_setRate yX5_setRate, Cond.code yX5_setRate cX5_setRate 4 (some .int), Cond.constant RX5 143 (100000), Cond.methodLink RL 153 yL_nextMonth, Cond.static yL_nextMonth, Cond.codeWith yL_nextMonth cL_nextMonth 3 (some .int) [(0, 8, 11, 24)]]
def wsL_law0_r20 : List Cond := [Cond.methodLink RL 70 yX4_nextMonth, Cond.instanceMethod yX4_nextMonth, Cond.selects RX4 yX4_nextMonth yX4_nextMonth, Cond.code yX4_nextMonth cX4_nextMonth 1 (some .int), Cond.methodLink RX4 169 yX4_giveBackUnanswered, Cond.instanceMethod yX4_giveBackUnanswered, Cond.selects RX4 yX4_giveBackUnanswered yX4_giveBackUnanswered, Cond.code yX4_giveBackUnanswered cX4_giveBackUnanswered 3 none, Cond.methodLink RL 156 yX5_nextMonth, Cond.instanceMethod yX5_nextMonth, Cond.selects RX5 yX5_nextMonth yX5_nextMonth, Cond.code yX5_nextMonth cX5_nextMonth 3 (some .int), Cond.methodLink RL 157 yX4_month, Cond.instanceMethod yX4_month, Cond.selects RX4 yX4_month yX4_month, Cond.code yX4_month cX4_month 1 (some .int), Cond.methodLink RL 160 yX5_month, Cond.instanceMethod yX5_month, Cond.selects RX5 yX5_month yX5_month, Cond.code yX5_month cX5_month 1 (some .int), Cond.methodLink RL 161 yL_owed, Cond.static yL_owed, Cond.codeWith yL_owed cL_owed 6 (some .int) [(0, 11, 14, 13), (0, 11, 18, 15)], Cond.methodLink RL 74 yX4_owed]
def wsL_law0_r21 : List Cond := [Cond.instanceMethod yX4_owed, Cond.selects RX4 yX4_owed yX4_owed, Cond.code yX4_owed cX4_owed 5 (some .long), Cond.methodLink RX4 172 yX4_amountOfMonths, Cond.instanceMethod yX4_amountOfMonths, Cond.selects RX4 yX4_amountOfMonths yX4_amountOfMonths, Cond.code yX4_amountOfMonths cX4_amountOfMonths 8 (some .long), Cond.methodLink RL 163 yX5_owed, Cond.instanceMethod yX5_owed, Cond.selects RX5 yX5_owed yX5_owed, Cond.code yX5_owed cX5_owed 4 (some .long), Cond.methodLink RX5 144 yX5_owedIn, Cond.instanceMethod yX5_owedIn, Cond.selects RX5 yX5_owedIn yX5_owedIn, Cond.code yX5_owedIn cX5_owedIn 8 (some .long), Cond.methodLink RL 164 yL_shortfall, Cond.static yL_shortfall, Cond.codeWith yL_shortfall cL_shortfall 6 (some .int) [(0, 11, 14, 13), (0, 11, 18, 15), (0, 11, 22, 24)], Cond.methodLink RL 78 yX4_shortfall, Cond.instanceMethod yX4_shortfall, Cond.selects RX4 yX4_shortfall yX4_shortfall, Cond.code yX4_shortfall cX4_shortfall 6 (some .long), Cond.methodLink RX4 181 Lib.MathLoose.max_long.x, Cond.static Lib.MathLoose.max_long.x]
def wsL_law0_r22 : List Cond := [Cond.code Lib.MathLoose.max_long.x Lib.MathLoose.max_long.code 4 (some .long), Cond.methodLink RX4 176 yX4_yearOf, Cond.methodLink RL 166 yX5_shortfall, Cond.instanceMethod yX5_shortfall, Cond.selects RX5 yX5_shortfall yX5_shortfall, Cond.code yX5_shortfall cX5_shortfall 7 (some .long), Cond.methodLink RL 167 yL_net, Cond.static yL_net, Cond.codeWith yL_net cL_net 5 (some .int) [(0, 9, 12, 13), (0, 9, 16, 15)], Cond.methodLink RL 81 yX4_net, Cond.instanceMethod yX4_net, Cond.selects RX4 yX4_net yX4_net, Cond.code yX4_net cX4_net 6 (some .long), Cond.methodLink RX4 184 yX4_unitsOfMonth, Cond.instanceMethod yX4_unitsOfMonth, Cond.selects RX4 yX4_unitsOfMonth yX4_unitsOfMonth, Cond.code yX4_unitsOfMonth cX4_unitsOfMonth 3 (some .long), Cond.fieldLink RX4 233 "RoamingHouse$Pair" "host" "LRoamingHouse$Operator;", Cond.constantLong RX4 237 (1000), Cond.methodLink RL 169 yX5_net, Cond.instanceMethod yX5_net, Cond.selects RX5 yX5_net yX5_net, Cond.code yX5_net cX5_net 6 (some .long), Cond.methodLink RX5 150 yX5_unitsOf]
def wsL_law0_r23 : List Cond := [Cond.instanceMethod yX5_unitsOf, Cond.selects RX5 yX5_unitsOf yX5_unitsOf, Cond.code yX5_unitsOf cX5_unitsOf 4 (some .long), Cond.constantLong RX5 148 (1000)]
def wsL_law0 : List Cond := (wsL_law0_r1 ++ (wsL_law0_r2 ++ (wsL_law0_r3 ++ (wsL_law0_r4 ++ (wsL_law0_r5 ++ (wsL_law0_r6 ++ (wsL_law0_r7 ++ (wsL_law0_r8 ++ (wsL_law0_r9 ++ (wsL_law0_r10 ++ (wsL_law0_r11 ++ (wsL_law0_r12 ++ (wsL_law0_r13 ++ (wsL_law0_r14 ++ (wsL_law0_r15 ++ (wsL_law0_r16 ++ (wsL_law0_r17 ++ (wsL_law0_r18 ++ (wsL_law0_r19 ++ (wsL_law0_r20 ++ (wsL_law0_r21 ++ (wsL_law0_r22 ++ wsL_law0_r23)))))))))))))))))))))) ++ wsX40 ++ wsX50 ++ wsX20 ++ wsX30 ++ wsX10 ++ wsX00 ++ ([] : List Cond)
def wsL_law : List Cond := wsL_law0 ++ (vx_atS RX4 201 "java/lang/IndexOutOfBoundsException" ["java/lang/RuntimeException", "java/lang/Exception"]).filter goodWord ++ (vx_atS RX4 192 "java/lang/IllegalArgumentException" ["java/lang/RuntimeException", "java/lang/Exception"]).filter goodWord ++ (vx_atS RX4 77 "java/lang/IllegalStateException" ["java/lang/RuntimeException", "java/lang/Exception"]).filter goodWord
theorem rh_sub {big : List Cond} (ws : List Cond) (ps : List Nat) (hp : ws = ps.filterMap (fun i => big[i]?)) : ∀ w ∈ ws, w ∈ big := by
  intro w hw
  rw [hp] at hw
  obtain ⟨i, -, hi⟩ := List.mem_filterMap.mp hw
  exact List.mem_of_getElem? hi
theorem rh_app {big a b : List Cond} (ha : ∀ w ∈ a, w ∈ big) (hb : ∀ w ∈ b, w ∈ big) : ∀ w ∈ a ++ b, w ∈ big := fun w h => (List.mem_append.mp h).elim (ha w) (hb w)
end
section
set_option maxRecDepth 20000 in
theorem wi_wsL_law0_r1 : ∀ w ∈ wsL_law0_r1, w ∈ lw_tbl := rh_sub wsL_law0_r1 [40, 41, 27, 549, 550, 30, 792, 42, 43, 44, 45, 46, 47, 48, 115, 50, 116, 52, 117, 118, 54, 119, 120, 121] (by decide +kernel)
set_option maxRecDepth 20000 in
theorem wi_wsL_law0_r2 : ∀ w ∈ wsL_law0_r2, w ∈ lw_tbl := rh_sub wsL_law0_r2 [56, 28, 78, 29, 58, 59, 60, 61, 63, 65, 67, 79, 80, 81, 82, 86, 88, 90, 92, 95, 114, 97, 83, 551] (by decide +kernel)
set_option maxRecDepth 20000 in
theorem wi_wsL_law0_r3 : ∀ w ∈ wsL_law0_r3, w ∈ lw_tbl := rh_sub wsL_law0_r3 [552, 553, 554, 555, 556, 557, 558, 560, 561, 562, 563, 565, 566, 567, 568, 569, 570, 572, 573, 634, 574, 575, 576, 577] (by decide +kernel)
set_option maxRecDepth 20000 in
theorem wi_wsL_law0_r4 : ∀ w ∈ wsL_law0_r4, w ∈ lw_tbl := rh_sub wsL_law0_r4 [578, 145, 146, 26, 147, 148, 149, 150, 151, 152, 153, 64, 62, 66, 154, 156, 0, 157, 161, 34, 158, 159, 160, 229] (by decide +kernel)
set_option maxRecDepth 20000 in
theorem wi_wsL_law0_r5 : ∀ w ∈ wsL_law0_r5, w ∈ lw_tbl := rh_sub wsL_law0_r5 [230, 231, 232, 35, 639, 640, 641, 642, 580, 643, 644, 645, 646, 647, 648, 635, 636, 637, 638, 248, 249, 250, 251, 252] (by decide +kernel)
set_option maxRecDepth 20000 in
theorem wi_wsL_law0_r6 : ∀ w ∈ wsL_law0_r6, w ∈ lw_tbl := rh_sub wsL_law0_r6 [253, 254, 255, 256, 257, 258, 259, 649, 650, 651, 652, 653, 654, 656, 13, 657, 260, 261, 262, 263, 264, 265, 266, 267] (by decide +kernel)
set_option maxRecDepth 20000 in
theorem wi_wsL_law0_r7 : ∀ w ∈ wsL_law0_r7, w ∈ lw_tbl := rh_sub wsL_law0_r7 [273, 36, 289, 37, 268, 270, 2, 271, 290, 291, 292, 293, 299, 301, 303, 294, 297, 658, 659, 660, 661, 559, 579, 662] (by decide +kernel)
set_option maxRecDepth 20000 in
theorem wi_wsL_law0_r8 : ∀ w ∈ wsL_law0_r8, w ∈ lw_tbl := rh_sub wsL_law0_r8 [664, 14, 665, 316, 317, 318, 319, 320, 321, 322, 328, 300, 331, 38, 302, 323, 325, 3, 326, 332, 333, 334, 335, 340] (by decide +kernel)
set_option maxRecDepth 20000 in
theorem wi_wsL_law0_r9 : ∀ w ∈ wsL_law0_r9, w ∈ lw_tbl := rh_sub wsL_law0_r9 [342, 344, 346, 336, 338, 339, 666, 667, 668, 669, 674, 564, 670, 672, 15, 673, 362, 363, 364, 365, 366, 367, 368, 296] (by decide +kernel)
set_option maxRecDepth 20000 in
theorem wi_wsL_law0_r10 : ∀ w ∈ wsL_law0_r10, w ∈ lw_tbl := rh_sub wsL_law0_r10 [87, 304, 370, 372, 4, 373, 374, 376, 5, 377, 378, 380, 6, 381, 298, 382, 384, 7, 385, 337, 386, 387, 388, 389] (by decide +kernel)
set_option maxRecDepth 20000 in
theorem wi_wsL_law0_r11 : ∀ w ∈ wsL_law0_r11, w ∈ lw_tbl := rh_sub wsL_law0_r11 [295, 84, 390, 391, 393, 8, 394, 395, 396, 397, 398, 98, 400, 401, 675, 676, 677, 678, 679, 681, 16, 682, 683, 685] (by decide +kernel)
set_option maxRecDepth 20000 in
theorem wi_wsL_law0_r12 : ∀ w ∈ wsL_law0_r12, w ∈ lw_tbl := rh_sub wsL_law0_r12 [17, 686, 687, 689, 18, 690, 691, 693, 19, 694, 571, 402, 403, 404, 405, 406, 407, 408, 695, 696, 697, 698, 409, 410] (by decide +kernel)
set_option maxRecDepth 20000 in
theorem wi_wsL_law0_r13 : ∀ w ∈ wsL_law0_r13, w ∈ lw_tbl := rh_sub wsL_law0_r13 [411, 412, 413, 414, 415, 699, 700, 701, 702, 416, 417, 418, 419, 420, 421, 422, 423, 424, 39, 425, 703, 704, 705, 706] (by decide +kernel)
set_option maxRecDepth 20000 in
theorem wi_wsL_law0_r14 : ∀ w ∈ wsL_law0_r14, w ∈ lw_tbl := rh_sub wsL_law0_r14 [137, 138, 139, 140, 707, 708, 709, 710, 426, 427, 428, 429, 430, 431, 432, 341, 433, 435, 9, 436, 711, 712, 713, 714] (by decide +kernel)
set_option maxRecDepth 20000 in
theorem wi_wsL_law0_r15 : ∀ w ∈ wsL_law0_r15, w ∈ lw_tbl := rh_sub wsL_law0_r15 [715, 717, 20, 718, 438, 439, 440, 441, 442, 443, 444, 343, 719, 720, 721, 722, 445, 446, 447, 448, 449, 450, 451, 452] (by decide +kernel)
set_option maxRecDepth 20000 in
theorem wi_wsL_law0_r16 : ∀ w ∈ wsL_law0_r16, w ∈ lw_tbl := rh_sub wsL_law0_r16 [453, 454, 455, 93, 460, 456, 457, 458, 459, 723, 724, 725, 726, 727, 729, 21, 730, 739, 731, 733, 22, 734, 735, 737] (by decide +kernel)
set_option maxRecDepth 20000 in
theorem wi_wsL_law0_r17 : ∀ w ∈ wsL_law0_r17, w ∈ lw_tbl := rh_sub wsL_law0_r17 [23, 738, 461, 462, 463, 464, 465, 466, 467, 345, 740, 741, 742, 743, 470, 471, 472, 473, 474, 475, 476, 744, 745, 746] (by decide +kernel)
set_option maxRecDepth 20000 in
theorem wi_wsL_law0_r18 : ∀ w ∈ wsL_law0_r18, w ∈ lw_tbl := rh_sub wsL_law0_r18 [747, 478, 479, 480, 481, 482, 483, 484, 485, 91, 94, 96, 748, 749, 750, 751, 752, 486, 487, 488, 489, 490, 491, 492] (by decide +kernel)
set_option maxRecDepth 20000 in
theorem wi_wsL_law0_r19 : ∀ w ∈ wsL_law0_r19, w ∈ lw_tbl := rh_sub wsL_law0_r19 [493, 89, 753, 754, 755, 756, 757, 494, 495, 496, 497, 498, 499, 500, 501, 68, 758, 759, 760, 761, 762, 502, 503, 504] (by decide +kernel)
set_option maxRecDepth 20000 in
theorem wi_wsL_law0_r20 : ∀ w ∈ wsL_law0_r20, w ∈ lw_tbl := rh_sub wsL_law0_r20 [505, 506, 507, 508, 510, 512, 10, 513, 763, 764, 765, 766, 141, 142, 143, 144, 767, 768, 769, 770, 514, 515, 516, 517] (by decide +kernel)
set_option maxRecDepth 20000 in
theorem wi_wsL_law0_r21 : ∀ w ∈ wsL_law0_r21, w ∈ lw_tbl := rh_sub wsL_law0_r21 [518, 519, 520, 521, 523, 11, 524, 771, 772, 773, 774, 775, 777, 24, 778, 525, 526, 527, 528, 529, 530, 531, 534, 535] (by decide +kernel)
set_option maxRecDepth 20000 in
theorem wi_wsL_law0_r22 : ∀ w ∈ wsL_law0_r22, w ∈ lw_tbl := rh_sub wsL_law0_r22 [536, 532, 779, 780, 781, 782, 537, 538, 539, 540, 541, 542, 543, 544, 546, 12, 547, 85, 548, 783, 784, 785, 786, 787] (by decide +kernel)
set_option maxRecDepth 20000 in
theorem wi_wsL_law0_r23 : ∀ w ∈ wsL_law0_r23, w ∈ lw_tbl := rh_sub wsL_law0_r23 [789, 25, 790, 791] (by decide +kernel)
set_option maxRecDepth 20000 in
theorem wi_X0 : ∀ w ∈ wsX00, w ∈ lw_tbl := rh_sub wsX00 [347, 349, 351, 353, 355, 357, 359] (by decide +kernel)
set_option maxRecDepth 20000 in
theorem wi_X1 : ∀ w ∈ wsX10, w ∈ lw_tbl := rh_sub wsX10 [305, 307, 309, 311, 313] (by decide +kernel)
set_option maxRecDepth 20000 in
theorem wi_X2 : ∀ w ∈ wsX20, w ∈ lw_tbl := rh_sub wsX20 [69, 71, 73, 75] (by decide +kernel)
set_option maxRecDepth 20000 in
theorem wi_X3 : ∀ w ∈ wsX30, w ∈ lw_tbl := rh_sub wsX30 [99, 101, 103, 105, 107, 109, 111] (by decide +kernel)
set_option maxRecDepth 20000 in
theorem wi_X4 : ∀ w ∈ wsX40, w ∈ lw_tbl := rh_sub wsX40 [122, 124, 126, 128, 130, 132, 134] (by decide +kernel)
set_option maxRecDepth 20000 in
theorem wi_X5 : ∀ w ∈ wsX50, w ∈ lw_tbl := rh_sub wsX50 [581, 583, 585, 587, 589, 591, 593, 595, 597, 599, 601, 603, 605, 607, 609, 611, 613, 615, 617, 619, 621, 623, 625, 627, 629, 631] (by decide +kernel)
theorem wsL_law_in0 : ∀ w ∈ wsL_law0, w ∈ lw_tbl := (rh_app (rh_app (rh_app (rh_app (rh_app (rh_app (rh_app (rh_app wi_wsL_law0_r1 (rh_app wi_wsL_law0_r2 (rh_app wi_wsL_law0_r3 (rh_app wi_wsL_law0_r4 (rh_app wi_wsL_law0_r5 (rh_app wi_wsL_law0_r6 (rh_app wi_wsL_law0_r7 (rh_app wi_wsL_law0_r8 (rh_app wi_wsL_law0_r9 (rh_app wi_wsL_law0_r10 (rh_app wi_wsL_law0_r11 (rh_app wi_wsL_law0_r12 (rh_app wi_wsL_law0_r13 (rh_app wi_wsL_law0_r14 (rh_app wi_wsL_law0_r15 (rh_app wi_wsL_law0_r16 (rh_app wi_wsL_law0_r17 (rh_app wi_wsL_law0_r18 (rh_app wi_wsL_law0_r19 (rh_app wi_wsL_law0_r20 (rh_app wi_wsL_law0_r21 (rh_app wi_wsL_law0_r22 wi_wsL_law0_r23)))))))))))))))))))))) wi_X4) wi_X5) wi_X2) wi_X3) wi_X1) wi_X0) (fun _ h => absurd h List.not_mem_nil))
end
section
theorem wsL_law_x0 : ∀ w ∈ (vx_atS RX4 201 "java/lang/IndexOutOfBoundsException" ["java/lang/RuntimeException", "java/lang/Exception"]).filter goodWord, w ∈ lw_tbl := by decide +kernel
theorem wsL_law_x1 : ∀ w ∈ (vx_atS RX4 192 "java/lang/IllegalArgumentException" ["java/lang/RuntimeException", "java/lang/Exception"]).filter goodWord, w ∈ lw_tbl := by decide +kernel
theorem wsL_law_x2 : ∀ w ∈ (vx_atS RX4 77 "java/lang/IllegalStateException" ["java/lang/RuntimeException", "java/lang/Exception"]).filter goodWord, w ∈ lw_tbl := by decide +kernel
theorem wsL_law_in : ∀ w ∈ wsL_law, w ∈ lw_tbl := fun w h => (List.mem_append.mp h).elim (fun h => (List.mem_append.mp h).elim (fun h => (List.mem_append.mp h).elim (fun h => wsL_law_in0 w h) (fun h => wsL_law_x0 w h)) (fun h => wsL_law_x1 w h)) (fun h => wsL_law_x2 w h)
theorem inlX0 : ∀ w ∈ wsX00, w ∈ wsL_law := fun _ h => List.mem_append_left _ (List.mem_append_left _ (List.mem_append_left _ (List.mem_append_left _ (List.mem_append_right _ h))))
theorem inX0 : ∀ w ∈ wsX00, w ∈ lw_tbl := fun w h => wsL_law_in w (inlX0 w h)
theorem inlX1 : ∀ w ∈ wsX10, w ∈ wsL_law := fun _ h => List.mem_append_left _ (List.mem_append_left _ (List.mem_append_left _ (List.mem_append_left _ (List.mem_append_left _ (List.mem_append_right _ h)))))
theorem inX1 : ∀ w ∈ wsX10, w ∈ lw_tbl := fun w h => wsL_law_in w (inlX1 w h)
theorem inlX2 : ∀ w ∈ wsX20, w ∈ wsL_law := fun _ h => List.mem_append_left _ (List.mem_append_left _ (List.mem_append_left _ (List.mem_append_left _ (List.mem_append_left _ (List.mem_append_left _ (List.mem_append_left _ (List.mem_append_right _ h)))))))
theorem inX2 : ∀ w ∈ wsX20, w ∈ lw_tbl := fun w h => wsL_law_in w (inlX2 w h)
theorem inlX3 : ∀ w ∈ wsX30, w ∈ wsL_law := fun _ h => List.mem_append_left _ (List.mem_append_left _ (List.mem_append_left _ (List.mem_append_left _ (List.mem_append_left _ (List.mem_append_left _ (List.mem_append_right _ h))))))
theorem inX3 : ∀ w ∈ wsX30, w ∈ lw_tbl := fun w h => wsL_law_in w (inlX3 w h)
theorem inlX4 : ∀ w ∈ wsX40, w ∈ wsL_law := fun _ h => List.mem_append_left _ (List.mem_append_left _ (List.mem_append_left _ (List.mem_append_left _ (List.mem_append_left _ (List.mem_append_left _ (List.mem_append_left _ (List.mem_append_left _ (List.mem_append_left _ (List.mem_append_right _ h)))))))))
theorem inX4 : ∀ w ∈ wsX40, w ∈ lw_tbl := fun w h => wsL_law_in w (inlX4 w h)
theorem inlX5 : ∀ w ∈ wsX50, w ∈ wsL_law := fun _ h => List.mem_append_left _ (List.mem_append_left _ (List.mem_append_left _ (List.mem_append_left _ (List.mem_append_left _ (List.mem_append_left _ (List.mem_append_left _ (List.mem_append_left _ (List.mem_append_right _ h))))))))
theorem inX5 : ∀ w ∈ wsX50, w ∈ lw_tbl := fun w h => wsL_law_in w (inlX5 w h)
theorem inJ9 : ∀ w ∈ wsJ90, w ∈ lw_tbl := by decide +kernel
theorem inJ0 : ∀ w ∈ wsJ00, w ∈ lw_tbl := by decide +kernel
theorem dX0_init_0 : decode cX0_init 0 = .ok (.aload_n 0, 1) := by decide +kernel
theorem dX0_init_1 : decode cX0_init 1 = .ok (.invokespecial 3, 3) := by decide +kernel
theorem dX0_init_4 : decode cX0_init 4 = .ok (.aload_n 0, 1) := by decide +kernel
theorem dX0_init_5 : decode cX0_init 5 = .ok (.iconst 0, 1) := by decide +kernel
theorem dX0_init_6 : decode cX0_init 6 = .ok (.putfield 9, 3) := by decide +kernel
theorem dX0_init_9 : decode cX0_init 9 = .ok (.aload_n 0, 1) := by decide +kernel
theorem dX0_init_10 : decode cX0_init 10 = .ok (.iconst (-1), 1) := by decide +kernel
theorem dX0_init_11 : decode cX0_init 11 = .ok (.putfield 15, 3) := by decide +kernel
theorem dX0_init_14 : decode cX0_init 14 = .ok (.aload_n 0, 1) := by decide +kernel
theorem dX0_init_15 : decode cX0_init 15 = .ok (.iconst (-1), 1) := by decide +kernel
theorem dX0_init_16 : decode cX0_init 16 = .ok (.putfield 18, 3) := by decide +kernel
theorem dX0_init_19 : decode cX0_init 19 = .ok (.aload_n 0, 1) := by decide +kernel
theorem dX0_init_20 : decode cX0_init 20 = .ok (.iconst 0, 1) := by decide +kernel
theorem dX0_init_21 : decode cX0_init 21 = .ok (.putfield 21, 3) := by decide +kernel
theorem dX0_init_24 : decode cX0_init 24 = .ok (.aload_n 0, 1) := by decide +kernel
theorem dX0_init_25 : decode cX0_init 25 = .ok (.aload_n 1, 1) := by decide +kernel
theorem dX0_init_26 : decode cX0_init 26 = .ok (.putfield 24, 3) := by decide +kernel
theorem dX0_init_29 : decode cX0_init 29 = .ok (.aload_n 0, 1) := by decide +kernel
theorem dX0_init_30 : decode cX0_init 30 = .ok (.iload_n 2, 1) := by decide +kernel
theorem dX0_init_31 : decode cX0_init 31 = .ok (.putfield 28, 3) := by decide +kernel
theorem dX0_init_34 : decode cX0_init 34 = .ok (.aload_n 0, 1) := by decide +kernel
theorem dX0_init_35 : decode cX0_init 35 = .ok (.iload_n 3, 1) := by decide +kernel
theorem dX0_init_36 : decode cX0_init 36 = .ok (.putfield 31, 3) := by decide +kernel
theorem dX0_init_39 : decode cX0_init 39 = .ok (.return_, 1) := by decide +kernel
set_option maxRecDepth 20000 in
theorem ggX0_isRight_X2_chargeFor : GoodIn wsX0_isRight wsX2_chargeFor := goodIn_r _ [10, 11, 12, 13, 33, 34, 35, 36] (by decide +kernel) (by decide +kernel)
set_option maxRecDepth 20000 in
theorem gX0_isRight_X2_chargeFor : GoodIn wsX0_isRight (wsV RX0 46 RX2 yX2_chargeFor wsX2_chargeFor) := goodIn_app (goodIn_of _ (by decide +kernel)) ggX0_isRight_X2_chargeFor
theorem dX0_isRight_0 : decode cX0_isRight 0 = .ok (.aload_n 0, 1) := by decide +kernel
theorem dX0_isRight_1 : decode cX0_isRight 1 = .ok (.getfield 31, 3) := by decide +kernel
theorem dX0_isRight_4 : decode cX0_isRight 4 = .ok (.aload_n 0, 1) := by decide +kernel
theorem dX0_isRight_5 : decode cX0_isRight 5 = .ok (.getfield 24, 3) := by decide +kernel
theorem dX0_isRight_8 : decode cX0_isRight 8 = .ok (.getfield 34, 3) := by decide +kernel
theorem dX0_isRight_11 : decode cX0_isRight 11 = .ok (.getfield 40, 3) := by decide +kernel
theorem dX0_isRight_14 : decode cX0_isRight 14 = .ok (.aload_n 0, 1) := by decide +kernel
theorem dX0_isRight_15 : decode cX0_isRight 15 = .ok (.getfield 28, 3) := by decide +kernel
theorem dX0_isRight_18 : decode cX0_isRight 18 = .ok (.invokevirtual 46, 3) := by decide +kernel
theorem dX0_isRight_21 : decode cX0_isRight 21 = .ok (.if_icmp .ne 7, 3) := by decide +kernel
theorem dX0_isRight_24 : decode cX0_isRight 24 = .ok (.iconst 1, 1) := by decide +kernel
theorem dX0_isRight_25 : decode cX0_isRight 25 = .ok (.goto 4, 3) := by decide +kernel
theorem dX0_isRight_28 : decode cX0_isRight 28 = .ok (.iconst 0, 1) := by decide +kernel
theorem dX0_isRight_29 : decode cX0_isRight 29 = .ok (.ireturn, 1) := by decide +kernel
set_option maxRecDepth 20000 in
theorem ggX0_acceptIn_X4_yearOf : GoodIn wsX0_acceptIn wsX4_yearOf := goodIn_r _ [10] (by decide +kernel) (by decide +kernel)
set_option maxRecDepth 20000 in
theorem gX0_acceptIn_X4_yearOf_n52 : GoodIn wsX0_acceptIn (wsX4_yearOf) := ggX0_acceptIn_X4_yearOf
theorem dX0_acceptIn_0 : decode cX0_acceptIn 0 = .ok (.iload_n 1, 1) := by decide +kernel
theorem dX0_acceptIn_1 : decode cX0_acceptIn 1 = .ok (.invokestatic 52, 3) := by decide +kernel
theorem dX0_acceptIn_4 : decode cX0_acceptIn 4 = .ok (.istore_n 2, 1) := by decide +kernel
theorem dX0_acceptIn_5 : decode cX0_acceptIn 5 = .ok (.aload_n 0, 1) := by decide +kernel
theorem dX0_acceptIn_6 : decode cX0_acceptIn 6 = .ok (.iconst 1, 1) := by decide +kernel
theorem dX0_acceptIn_7 : decode cX0_acceptIn 7 = .ok (.putfield 9, 3) := by decide +kernel
theorem dX0_acceptIn_10 : decode cX0_acceptIn 10 = .ok (.aload_n 0, 1) := by decide +kernel
theorem dX0_acceptIn_11 : decode cX0_acceptIn 11 = .ok (.iload_n 1, 1) := by decide +kernel
theorem dX0_acceptIn_12 : decode cX0_acceptIn 12 = .ok (.putfield 15, 3) := by decide +kernel
theorem dX0_acceptIn_15 : decode cX0_acceptIn 15 = .ok (.aload_n 0, 1) := by decide +kernel
theorem dX0_acceptIn_16 : decode cX0_acceptIn 16 = .ok (.aload_n 0, 1) := by decide +kernel
theorem dX0_acceptIn_17 : decode cX0_acceptIn 17 = .ok (.getfield 24, 3) := by decide +kernel
theorem dX0_acceptIn_20 : decode cX0_acceptIn 20 = .ok (.getfield 34, 3) := by decide +kernel
theorem dX0_acceptIn_23 : decode cX0_acceptIn 23 = .ok (.getfield 55, 3) := by decide +kernel
theorem dX0_acceptIn_26 : decode cX0_acceptIn 26 = .ok (.iload_n 2, 1) := by decide +kernel
theorem dX0_acceptIn_27 : decode cX0_acceptIn 27 = .ok (.iaload, 1) := by decide +kernel
theorem dX0_acceptIn_28 : decode cX0_acceptIn 28 = .ok (.putfield 21, 3) := by decide +kernel
theorem dX0_acceptIn_31 : decode cX0_acceptIn 31 = .ok (.aload_n 0, 1) := by decide +kernel
theorem dX0_acceptIn_32 : decode cX0_acceptIn 32 = .ok (.getfield 24, 3) := by decide +kernel
theorem dX0_acceptIn_35 : decode cX0_acceptIn 35 = .ok (.getfield 34, 3) := by decide +kernel
theorem dX0_acceptIn_38 : decode cX0_acceptIn 38 = .ok (.getfield 55, 3) := by decide +kernel
theorem dX0_acceptIn_41 : decode cX0_acceptIn 41 = .ok (.iload_n 2, 1) := by decide +kernel
theorem dX0_acceptIn_42 : decode cX0_acceptIn 42 = .ok (.dup2, 1) := by decide +kernel
theorem dX0_acceptIn_43 : decode cX0_acceptIn 43 = .ok (.iaload, 1) := by decide +kernel
theorem dX0_acceptIn_44 : decode cX0_acceptIn 44 = .ok (.aload_n 0, 1) := by decide +kernel
theorem dX0_acceptIn_45 : decode cX0_acceptIn 45 = .ok (.getfield 28, 3) := by decide +kernel
theorem dX0_acceptIn_48 : decode cX0_acceptIn 48 = .ok (.iadd, 1) := by decide +kernel
theorem dX0_acceptIn_49 : decode cX0_acceptIn 49 = .ok (.iastore, 1) := by decide +kernel
theorem dX0_acceptIn_50 : decode cX0_acceptIn 50 = .ok (.return_, 1) := by decide +kernel
set_option maxRecDepth 20000 in
theorem ggX0_amount_X4_yearOf : GoodIn wsX0_amount wsX4_yearOf := goodIn_r _ [11] (by decide +kernel) (by decide +kernel)
set_option maxRecDepth 20000 in
theorem gX0_amount_X4_yearOf_n52 : GoodIn wsX0_amount (wsX4_yearOf) := ggX0_amount_X4_yearOf
set_option maxRecDepth 20000 in
theorem ggX0_amount_X3_discounts : GoodIn wsX0_amount wsX3_discounts := goodIn_r _ [16, 17, 18, 19, 32, 33, 34, 35, 36, 37, 38] (by decide +kernel) (by decide +kernel)
set_option maxRecDepth 20000 in
theorem gX0_amount_X3_discounts : GoodIn wsX0_amount (wsV RX0 59 RX3 yX3_discounts wsX3_discounts) := goodIn_app (goodIn_of _ (by decide +kernel)) ggX0_amount_X3_discounts
theorem dX0_amount_0 : decode cX0_amount 0 = .ok (.aload_n 0, 1) := by decide +kernel
theorem dX0_amount_1 : decode cX0_amount 1 = .ok (.getfield 9, 3) := by decide +kernel
theorem dX0_amount_4 : decode cX0_amount 4 = .ok (.ifCond .eq 11, 3) := by decide +kernel
theorem dX0_amount_7 : decode cX0_amount 7 = .ok (.aload_n 0, 1) := by decide +kernel
theorem dX0_amount_8 : decode cX0_amount 8 = .ok (.getfield 9, 3) := by decide +kernel
theorem dX0_amount_11 : decode cX0_amount 11 = .ok (.iconst 4, 1) := by decide +kernel
theorem dX0_amount_12 : decode cX0_amount 12 = .ok (.if_icmp .ne 5, 3) := by decide +kernel
theorem dX0_amount_15 : decode cX0_amount 15 = .ok (.iconst 0, 1) := by decide +kernel
theorem dX0_amount_16 : decode cX0_amount 16 = .ok (.ireturn, 1) := by decide +kernel
theorem dX0_amount_17 : decode cX0_amount 17 = .ok (.aload_n 0, 1) := by decide +kernel
theorem dX0_amount_18 : decode cX0_amount 18 = .ok (.getfield 24, 3) := by decide +kernel
theorem dX0_amount_21 : decode cX0_amount 21 = .ok (.getfield 34, 3) := by decide +kernel
theorem dX0_amount_24 : decode cX0_amount 24 = .ok (.aload_n 0, 1) := by decide +kernel
theorem dX0_amount_25 : decode cX0_amount 25 = .ok (.getfield 15, 3) := by decide +kernel
theorem dX0_amount_28 : decode cX0_amount 28 = .ok (.invokestatic 52, 3) := by decide +kernel
theorem dX0_amount_31 : decode cX0_amount 31 = .ok (.aload_n 0, 1) := by decide +kernel
theorem dX0_amount_32 : decode cX0_amount 32 = .ok (.getfield 21, 3) := by decide +kernel
theorem dX0_amount_35 : decode cX0_amount 35 = .ok (.invokevirtual 59, 3) := by decide +kernel
theorem dX0_amount_38 : decode cX0_amount 38 = .ok (.ifCond .ne 8, 3) := by decide +kernel
theorem dX0_amount_41 : decode cX0_amount 41 = .ok (.aload_n 0, 1) := by decide +kernel
theorem dX0_amount_42 : decode cX0_amount 42 = .ok (.getfield 31, 3) := by decide +kernel
theorem dX0_amount_45 : decode cX0_amount 45 = .ok (.ireturn, 1) := by decide +kernel
theorem dX0_amount_46 : decode cX0_amount 46 = .ok (.aload_n 0, 1) := by decide +kernel
theorem dX0_amount_47 : decode cX0_amount 47 = .ok (.getfield 31, 3) := by decide +kernel
theorem dX0_amount_50 : decode cX0_amount 50 = .ok (.aload_n 0, 1) := by decide +kernel
theorem dX0_amount_51 : decode cX0_amount 51 = .ok (.getfield 31, 3) := by decide +kernel
theorem dX0_amount_54 : decode cX0_amount 54 = .ok (.i2l, 1) := by decide +kernel
theorem dX0_amount_55 : decode cX0_amount 55 = .ok (.aload_n 0, 1) := by decide +kernel
theorem dX0_amount_56 : decode cX0_amount 56 = .ok (.getfield 24, 3) := by decide +kernel
theorem dX0_amount_59 : decode cX0_amount 59 = .ok (.getfield 34, 3) := by decide +kernel
theorem dX0_amount_62 : decode cX0_amount 62 = .ok (.getfield 63, 3) := by decide +kernel
theorem dX0_amount_65 : decode cX0_amount 65 = .ok (.i2l, 1) := by decide +kernel
theorem dX0_amount_66 : decode cX0_amount 66 = .ok (.lmul, 1) := by decide +kernel
theorem dX0_amount_67 : decode cX0_amount 67 = .ok (.ldc2_w 66, 3) := by decide +kernel
theorem dX0_amount_70 : decode cX0_amount 70 = .ok (.ldiv, 1) := by decide +kernel
theorem dX0_amount_71 : decode cX0_amount 71 = .ok (.l2i, 1) := by decide +kernel
theorem dX0_amount_72 : decode cX0_amount 72 = .ok (.isub, 1) := by decide +kernel
theorem dX0_amount_73 : decode cX0_amount 73 = .ok (.ireturn, 1) := by decide +kernel
theorem dX1_init_0 : decode cX1_init 0 = .ok (.aload_n 0, 1) := by decide +kernel
theorem dX1_init_1 : decode cX1_init 1 = .ok (.invokespecial 3, 3) := by decide +kernel
theorem dX1_init_4 : decode cX1_init 4 = .ok (.aload_n 0, 1) := by decide +kernel
theorem dX1_init_5 : decode cX1_init 5 = .ok (.iconst 0, 1) := by decide +kernel
theorem dX1_init_6 : decode cX1_init 6 = .ok (.putfield 9, 3) := by decide +kernel
theorem dX1_init_9 : decode cX1_init 9 = .ok (.aload_n 0, 1) := by decide +kernel
theorem dX1_init_10 : decode cX1_init 10 = .ok (.iconst 0, 1) := by decide +kernel
theorem dX1_init_11 : decode cX1_init 11 = .ok (.putfield 15, 3) := by decide +kernel
theorem dX1_init_14 : decode cX1_init 14 = .ok (.aload_n 0, 1) := by decide +kernel
theorem dX1_init_15 : decode cX1_init 15 = .ok (.iconst (-1), 1) := by decide +kernel
theorem dX1_init_16 : decode cX1_init 16 = .ok (.putfield 18, 3) := by decide +kernel
theorem dX1_init_19 : decode cX1_init 19 = .ok (.aload_n 0, 1) := by decide +kernel
theorem dX1_init_20 : decode cX1_init 20 = .ok (.aload_n 1, 1) := by decide +kernel
theorem dX1_init_21 : decode cX1_init 21 = .ok (.putfield 21, 3) := by decide +kernel
theorem dX1_init_24 : decode cX1_init 24 = .ok (.aload_n 0, 1) := by decide +kernel
theorem dX1_init_25 : decode cX1_init 25 = .ok (.iload_n 2, 1) := by decide +kernel
theorem dX1_init_26 : decode cX1_init 26 = .ok (.putfield 25, 3) := by decide +kernel
theorem dX1_init_29 : decode cX1_init 29 = .ok (.return_, 1) := by decide +kernel
theorem dX2_init_0 : decode cX2_init 0 = .ok (.aload_n 0, 1) := by decide +kernel
theorem dX2_init_1 : decode cX2_init 1 = .ok (.invokespecial 3, 3) := by decide +kernel
theorem dX2_init_4 : decode cX2_init 4 = .ok (.aload_n 0, 1) := by decide +kernel
theorem dX2_init_5 : decode cX2_init 5 = .ok (.bipush 60, 2) := by decide +kernel
theorem dX2_init_7 : decode cX2_init 7 = .ok (.putfield 9, 3) := by decide +kernel
theorem dX2_init_10 : decode cX2_init 10 = .ok (.aload_n 0, 1) := by decide +kernel
theorem dX2_init_11 : decode cX2_init 11 = .ok (.bipush 10, 2) := by decide +kernel
theorem dX2_init_13 : decode cX2_init 13 = .ok (.putfield 15, 3) := by decide +kernel
theorem dX2_init_16 : decode cX2_init 16 = .ok (.aload_n 0, 1) := by decide +kernel
theorem dX2_init_17 : decode cX2_init 17 = .ok (.iconst 0, 1) := by decide +kernel
theorem dX2_init_18 : decode cX2_init 18 = .ok (.putfield 18, 3) := by decide +kernel
theorem dX2_init_21 : decode cX2_init 21 = .ok (.aload_n 0, 1) := by decide +kernel
theorem dX2_init_22 : decode cX2_init 22 = .ok (.sipush 1000, 3) := by decide +kernel
theorem dX2_init_25 : decode cX2_init 25 = .ok (.putfield 21, 3) := by decide +kernel
theorem dX2_init_28 : decode cX2_init 28 = .ok (.return_, 1) := by decide +kernel
theorem dX2_chargeFor_0 : decode cX2_chargeFor 0 = .ok (.iload_n 1, 1) := by decide +kernel
theorem dX2_chargeFor_1 : decode cX2_chargeFor 1 = .ok (.aload_n 0, 1) := by decide +kernel
theorem dX2_chargeFor_2 : decode cX2_chargeFor 2 = .ok (.getfield 9, 3) := by decide +kernel
theorem dX2_chargeFor_5 : decode cX2_chargeFor 5 = .ok (.iadd, 1) := by decide +kernel
theorem dX2_chargeFor_6 : decode cX2_chargeFor 6 = .ok (.iconst 1, 1) := by decide +kernel
theorem dX2_chargeFor_7 : decode cX2_chargeFor 7 = .ok (.isub, 1) := by decide +kernel
theorem dX2_chargeFor_8 : decode cX2_chargeFor 8 = .ok (.aload_n 0, 1) := by decide +kernel
theorem dX2_chargeFor_9 : decode cX2_chargeFor 9 = .ok (.getfield 9, 3) := by decide +kernel
theorem dX2_chargeFor_12 : decode cX2_chargeFor 12 = .ok (.idiv, 1) := by decide +kernel
theorem dX2_chargeFor_13 : decode cX2_chargeFor 13 = .ok (.istore_n 2, 1) := by decide +kernel
theorem dX2_chargeFor_14 : decode cX2_chargeFor 14 = .ok (.aload_n 0, 1) := by decide +kernel
theorem dX2_chargeFor_15 : decode cX2_chargeFor 15 = .ok (.getfield 18, 3) := by decide +kernel
theorem dX2_chargeFor_18 : decode cX2_chargeFor 18 = .ok (.aload_n 0, 1) := by decide +kernel
theorem dX2_chargeFor_19 : decode cX2_chargeFor 19 = .ok (.getfield 15, 3) := by decide +kernel
theorem dX2_chargeFor_22 : decode cX2_chargeFor 22 = .ok (.iload_n 2, 1) := by decide +kernel
theorem dX2_chargeFor_23 : decode cX2_chargeFor 23 = .ok (.imul, 1) := by decide +kernel
theorem dX2_chargeFor_24 : decode cX2_chargeFor 24 = .ok (.iadd, 1) := by decide +kernel
theorem dX2_chargeFor_25 : decode cX2_chargeFor 25 = .ok (.ireturn, 1) := by decide +kernel
theorem dX3_init_0 : decode cX3_init 0 = .ok (.aload_n 0, 1) := by decide +kernel
theorem dX3_init_1 : decode cX3_init 1 = .ok (.invokespecial 3, 3) := by decide +kernel
theorem dX3_init_4 : decode cX3_init 4 = .ok (.aload_n 0, 1) := by decide +kernel
theorem dX3_init_5 : decode cX3_init 5 = .ok (.iconst 1, 1) := by decide +kernel
theorem dX3_init_6 : decode cX3_init 6 = .ok (.putfield 9, 3) := by decide +kernel
theorem dX3_init_9 : decode cX3_init 9 = .ok (.aload_n 0, 1) := by decide +kernel
theorem dX3_init_10 : decode cX3_init 10 = .ok (.iconst 0, 1) := by decide +kernel
theorem dX3_init_11 : decode cX3_init 11 = .ok (.putfield 15, 3) := by decide +kernel
theorem dX3_init_14 : decode cX3_init 14 = .ok (.aload_n 0, 1) := by decide +kernel
theorem dX3_init_15 : decode cX3_init 15 = .ok (.iconst 0, 1) := by decide +kernel
theorem dX3_init_16 : decode cX3_init 16 = .ok (.putfield 18, 3) := by decide +kernel
theorem dX3_init_19 : decode cX3_init 19 = .ok (.aload_n 0, 1) := by decide +kernel
theorem dX3_init_20 : decode cX3_init 20 = .ok (.iconst 0, 1) := by decide +kernel
theorem dX3_init_21 : decode cX3_init 21 = .ok (.putfield 21, 3) := by decide +kernel
theorem dX3_init_24 : decode cX3_init 24 = .ok (.aload_n 0, 1) := by decide +kernel
theorem dX3_init_25 : decode cX3_init 25 = .ok (.iconst 0, 1) := by decide +kernel
theorem dX3_init_26 : decode cX3_init 26 = .ok (.putfield 24, 3) := by decide +kernel
theorem dX3_init_29 : decode cX3_init 29 = .ok (.aload_n 0, 1) := by decide +kernel
theorem dX3_init_30 : decode cX3_init 30 = .ok (.iconst 3, 1) := by decide +kernel
theorem dX3_init_31 : decode cX3_init 31 = .ok (.newarray .int, 2) := by decide +kernel
theorem dX3_init_33 : decode cX3_init 33 = .ok (.putfield 28, 3) := by decide +kernel
theorem dX3_init_36 : decode cX3_init 36 = .ok (.aload_n 0, 1) := by decide +kernel
theorem dX3_init_37 : decode cX3_init 37 = .ok (.aload_n 1, 1) := by decide +kernel
theorem dX3_init_38 : decode cX3_init 38 = .ok (.putfield 32, 3) := by decide +kernel
theorem dX3_init_41 : decode cX3_init 41 = .ok (.return_, 1) := by decide +kernel
theorem dX3_discounts_0 : decode cX3_discounts 0 = .ok (.aload_n 0, 1) := by decide +kernel
theorem dX3_discounts_1 : decode cX3_discounts 1 = .ok (.getfield 24, 3) := by decide +kernel
theorem dX3_discounts_4 : decode cX3_discounts 4 = .ok (.ifCond .eq 12, 3) := by decide +kernel
theorem dX3_discounts_7 : decode cX3_discounts 7 = .ok (.aload_n 0, 1) := by decide +kernel
theorem dX3_discounts_8 : decode cX3_discounts 8 = .ok (.getfield 28, 3) := by decide +kernel
theorem dX3_discounts_11 : decode cX3_discounts 11 = .ok (.iload_n 1, 1) := by decide +kernel
theorem dX3_discounts_12 : decode cX3_discounts 12 = .ok (.iaload, 1) := by decide +kernel
theorem dX3_discounts_13 : decode cX3_discounts 13 = .ok (.goto 4, 3) := by decide +kernel
theorem dX3_discounts_16 : decode cX3_discounts 16 = .ok (.iload_n 2, 1) := by decide +kernel
theorem dX3_discounts_17 : decode cX3_discounts 17 = .ok (.aload_n 0, 1) := by decide +kernel
theorem dX3_discounts_18 : decode cX3_discounts 18 = .ok (.getfield 18, 3) := by decide +kernel
theorem dX3_discounts_21 : decode cX3_discounts 21 = .ok (.if_icmp .lt 7, 3) := by decide +kernel
theorem dX3_discounts_24 : decode cX3_discounts 24 = .ok (.iconst 1, 1) := by decide +kernel
theorem dX3_discounts_25 : decode cX3_discounts 25 = .ok (.goto 4, 3) := by decide +kernel
theorem dX3_discounts_28 : decode cX3_discounts 28 = .ok (.iconst 0, 1) := by decide +kernel
theorem dX3_discounts_29 : decode cX3_discounts 29 = .ok (.ireturn, 1) := by decide +kernel
set_option maxRecDepth 20000 in
theorem ggX4_init_X2_init : GoodIn wsX4_init wsX2_init := goodIn_r _ [20, 21, 2, 3, 22, 23, 24, 25, 45, 46, 47, 48] (by decide +kernel) (by decide +kernel)
set_option maxRecDepth 20000 in
theorem gX4_init_X2_init_n43 : GoodIn wsX4_init (wsX2_init) := ggX4_init_X2_init
set_option maxRecDepth 20000 in
theorem ggX4_init_X3_init : GoodIn wsX4_init wsX3_init := goodIn_r _ [28, 29, 2, 3, 30, 31, 32, 33, 34, 35, 36, 37, 49, 50, 51, 52, 53, 54, 55] (by decide +kernel) (by decide +kernel)
set_option maxRecDepth 20000 in
theorem gX4_init_X3_init : GoodIn wsX4_init (wsX3_init) := ggX4_init_X3_init
theorem dX4_init_0 : decode cX4_init 0 = .ok (.aload_n 0, 1) := by decide +kernel
theorem dX4_init_1 : decode cX4_init 1 = .ok (.invokespecial 1, 3) := by decide +kernel
theorem dX4_init_4 : decode cX4_init 4 = .ok (.aload_n 0, 1) := by decide +kernel
theorem dX4_init_5 : decode cX4_init 5 = .ok (.iconst 4, 1) := by decide +kernel
theorem dX4_init_6 : decode cX4_init 6 = .ok (.anewarray 9, 3) := by decide +kernel
theorem dX4_init_9 : decode cX4_init 9 = .ok (.putfield 11, 3) := by decide +kernel
theorem dX4_init_12 : decode cX4_init 12 = .ok (.aload_n 0, 1) := by decide +kernel
theorem dX4_init_13 : decode cX4_init 13 = .ok (.bipush 16, 2) := by decide +kernel
theorem dX4_init_15 : decode cX4_init 15 = .ok (.anewarray 15, 3) := by decide +kernel
theorem dX4_init_18 : decode cX4_init 18 = .ok (.putfield 17, 3) := by decide +kernel
theorem dX4_init_21 : decode cX4_init 21 = .ok (.aload_n 0, 1) := by decide +kernel
theorem dX4_init_22 : decode cX4_init 22 = .ok (.bipush 30, 2) := by decide +kernel
theorem dX4_init_24 : decode cX4_init 24 = .ok (.anewarray 21, 3) := by decide +kernel
theorem dX4_init_27 : decode cX4_init 27 = .ok (.putfield 23, 3) := by decide +kernel
theorem dX4_init_30 : decode cX4_init 30 = .ok (.aload_n 0, 1) := by decide +kernel
theorem dX4_init_31 : decode cX4_init 31 = .ok (.iconst 0, 1) := by decide +kernel
theorem dX4_init_32 : decode cX4_init 32 = .ok (.putfield 27, 3) := by decide +kernel
theorem dX4_init_35 : decode cX4_init 35 = .ok (.aload_n 0, 1) := by decide +kernel
theorem dX4_init_36 : decode cX4_init 36 = .ok (.bipush 60, 2) := by decide +kernel
theorem dX4_init_38 : decode cX4_init 38 = .ok (.anewarray 31, 3) := by decide +kernel
theorem dX4_init_41 : decode cX4_init 41 = .ok (.putfield 33, 3) := by decide +kernel
theorem dX4_init_44 : decode cX4_init 44 = .ok (.aload_n 0, 1) := by decide +kernel
theorem dX4_init_45 : decode cX4_init 45 = .ok (.iconst 0, 1) := by decide +kernel
theorem dX4_init_46 : decode cX4_init 46 = .ok (.putfield 37, 3) := by decide +kernel
theorem dX4_init_49 : decode cX4_init 49 = .ok (.aload_n 0, 1) := by decide +kernel
theorem dX4_init_50 : decode cX4_init 50 = .ok (.iconst 0, 1) := by decide +kernel
theorem dX4_init_51 : decode cX4_init 51 = .ok (.putfield 40, 3) := by decide +kernel
theorem dX4_init_54 : decode cX4_init 54 = .ok (.iconst 0, 1) := by decide +kernel
theorem dX4_init_55 : decode cX4_init 55 = .ok (.istore_n 1, 1) := by decide +kernel
theorem dX4_init_56 : decode cX4_init 56 = .ok (.iload_n 1, 1) := by decide +kernel
theorem dX4_init_57 : decode cX4_init 57 = .ok (.iconst 4, 1) := by decide +kernel
theorem dX4_init_58 : decode cX4_init 58 = .ok (.if_icmp .ge 58, 3) := by decide +kernel
theorem dX4_init_61 : decode cX4_init 61 = .ok (.aload_n 0, 1) := by decide +kernel
theorem dX4_init_62 : decode cX4_init 62 = .ok (.getfield 11, 3) := by decide +kernel
theorem dX4_init_65 : decode cX4_init 65 = .ok (.iload_n 1, 1) := by decide +kernel
theorem dX4_init_66 : decode cX4_init 66 = .ok (.new 9, 3) := by decide +kernel
theorem dX4_init_69 : decode cX4_init 69 = .ok (.dup, 1) := by decide +kernel
theorem dX4_init_70 : decode cX4_init 70 = .ok (.invokespecial 43, 3) := by decide +kernel
theorem dX4_init_73 : decode cX4_init 73 = .ok (.aastore, 1) := by decide +kernel
theorem dX4_init_74 : decode cX4_init 74 = .ok (.iconst 0, 1) := by decide +kernel
theorem dX4_init_75 : decode cX4_init 75 = .ok (.istore_n 2, 1) := by decide +kernel
theorem dX4_init_76 : decode cX4_init 76 = .ok (.iload_n 2, 1) := by decide +kernel
theorem dX4_init_77 : decode cX4_init 77 = .ok (.iconst 4, 1) := by decide +kernel
theorem dX4_init_78 : decode cX4_init 78 = .ok (.if_icmp .ge 32, 3) := by decide +kernel
theorem dX4_init_81 : decode cX4_init 81 = .ok (.aload_n 0, 1) := by decide +kernel
theorem dX4_init_82 : decode cX4_init 82 = .ok (.getfield 17, 3) := by decide +kernel
theorem dX4_init_85 : decode cX4_init 85 = .ok (.iload_n 1, 1) := by decide +kernel
theorem dX4_init_86 : decode cX4_init 86 = .ok (.iconst 4, 1) := by decide +kernel
theorem dX4_init_87 : decode cX4_init 87 = .ok (.imul, 1) := by decide +kernel
theorem dX4_init_88 : decode cX4_init 88 = .ok (.iload_n 2, 1) := by decide +kernel
theorem dX4_init_89 : decode cX4_init 89 = .ok (.iadd, 1) := by decide +kernel
theorem dX4_init_90 : decode cX4_init 90 = .ok (.new 15, 3) := by decide +kernel
theorem dX4_init_93 : decode cX4_init 93 = .ok (.dup, 1) := by decide +kernel
theorem dX4_init_94 : decode cX4_init 94 = .ok (.aload_n 0, 1) := by decide +kernel
theorem dX4_init_95 : decode cX4_init 95 = .ok (.getfield 11, 3) := by decide +kernel
theorem dX4_init_98 : decode cX4_init 98 = .ok (.iload_n 1, 1) := by decide +kernel
theorem dX4_init_99 : decode cX4_init 99 = .ok (.aaload, 1) := by decide +kernel
theorem dX4_init_100 : decode cX4_init 100 = .ok (.invokespecial 44, 3) := by decide +kernel
theorem dX4_init_103 : decode cX4_init 103 = .ok (.aastore, 1) := by decide +kernel
theorem dX4_init_104 : decode cX4_init 104 = .ok (.iinc 2 1, 3) := by decide +kernel
theorem dX4_init_107 : decode cX4_init 107 = .ok (.goto (-31), 3) := by decide +kernel
theorem dX4_init_110 : decode cX4_init 110 = .ok (.iinc 1 1, 3) := by decide +kernel
theorem dX4_init_113 : decode cX4_init 113 = .ok (.goto (-57), 3) := by decide +kernel
theorem dX4_init_116 : decode cX4_init 116 = .ok (.return_, 1) := by decide +kernel
set_option maxRecDepth 20000 in
theorem ggX4_setTariff_X4_operatorAt : GoodIn wsX4_setTariff wsX4_operatorAt := goodIn_ca (goodIn_r _ [8, 9, 10, 11, 12, 13, 7, 14, 24, 25, 26, 27, 28, 29, 30] (by decide +kernel) (by decide +kernel)) (goodIn_sub (fun _ h => List.mem_cons_of_mem _ (List.mem_append_left _ (List.mem_append_right _ h))) (by decide +kernel))
set_option maxRecDepth 20000 in
theorem gX4_setTariff_X4_operatorAt : GoodIn wsX4_setTariff (wsV RX4 47 RX4 yX4_operatorAt wsX4_operatorAt) := goodIn_app (goodIn_of _ (by decide +kernel)) ggX4_setTariff_X4_operatorAt
set_option maxRecDepth 20000 in
theorem ggX4_setTariff_X4_refuseOutside : GoodIn wsX4_setTariff wsX4_refuseOutside := goodIn_ca (goodIn_r _ [17, 18, 19] (by decide +kernel) (by decide +kernel)) (goodIn_sub (fun _ h => List.mem_cons_of_mem _ (List.mem_append_right _ h)) (by decide +kernel))
set_option maxRecDepth 20000 in
theorem gX4_setTariff_X4_refuseOutside : GoodIn wsX4_setTariff (va_wsS RX4 51 yX4_refuseOutside wsX4_refuseOutside) := goodIn_app (goodIn_of _ (by decide +kernel)) ggX4_setTariff_X4_refuseOutside
theorem dX4_setTariff_0 : decode cX4_setTariff 0 = .ok (.aload_n 0, 1) := by decide +kernel
theorem dX4_setTariff_1 : decode cX4_setTariff 1 = .ok (.iload_n 1, 1) := by decide +kernel
theorem dX4_setTariff_2 : decode cX4_setTariff 2 = .ok (.invokevirtual 47, 3) := by decide +kernel
theorem dX4_setTariff_5 : decode cX4_setTariff 5 = .ok (.astore 5, 2) := by decide +kernel
theorem dX4_setTariff_7 : decode cX4_setTariff 7 = .ok (.iload_n 2, 1) := by decide +kernel
theorem dX4_setTariff_8 : decode cX4_setTariff 8 = .ok (.iconst 1, 1) := by decide +kernel
theorem dX4_setTariff_9 : decode cX4_setTariff 9 = .ok (.sipush 600, 3) := by decide +kernel
theorem dX4_setTariff_12 : decode cX4_setTariff 12 = .ok (.invokestatic 51, 3) := by decide +kernel
theorem dX4_setTariff_15 : decode cX4_setTariff 15 = .ok (.iload_n 3, 1) := by decide +kernel
theorem dX4_setTariff_16 : decode cX4_setTariff 16 = .ok (.iconst 0, 1) := by decide +kernel
theorem dX4_setTariff_17 : decode cX4_setTariff 17 = .ok (.sipush 1000, 3) := by decide +kernel
theorem dX4_setTariff_20 : decode cX4_setTariff 20 = .ok (.invokestatic 51, 3) := by decide +kernel
theorem dX4_setTariff_23 : decode cX4_setTariff 23 = .ok (.iload 4, 2) := by decide +kernel
theorem dX4_setTariff_25 : decode cX4_setTariff 25 = .ok (.iconst 0, 1) := by decide +kernel
theorem dX4_setTariff_26 : decode cX4_setTariff 26 = .ok (.sipush 1000, 3) := by decide +kernel
theorem dX4_setTariff_29 : decode cX4_setTariff 29 = .ok (.invokestatic 51, 3) := by decide +kernel
theorem dX4_setTariff_32 : decode cX4_setTariff 32 = .ok (.aload 5, 2) := by decide +kernel
theorem dX4_setTariff_34 : decode cX4_setTariff 34 = .ok (.getfield 55, 3) := by decide +kernel
theorem dX4_setTariff_37 : decode cX4_setTariff 37 = .ok (.istore 6, 2) := by decide +kernel
theorem dX4_setTariff_39 : decode cX4_setTariff 39 = .ok (.aload 5, 2) := by decide +kernel
theorem dX4_setTariff_41 : decode cX4_setTariff 41 = .ok (.iload_n 2, 1) := by decide +kernel
theorem dX4_setTariff_42 : decode cX4_setTariff 42 = .ok (.putfield 58, 3) := by decide +kernel
theorem dX4_setTariff_45 : decode cX4_setTariff 45 = .ok (.aload 5, 2) := by decide +kernel
theorem dX4_setTariff_47 : decode cX4_setTariff 47 = .ok (.iload_n 3, 1) := by decide +kernel
theorem dX4_setTariff_48 : decode cX4_setTariff 48 = .ok (.putfield 55, 3) := by decide +kernel
theorem dX4_setTariff_51 : decode cX4_setTariff 51 = .ok (.aload 5, 2) := by decide +kernel
theorem dX4_setTariff_53 : decode cX4_setTariff 53 = .ok (.iload 4, 2) := by decide +kernel
theorem dX4_setTariff_55 : decode cX4_setTariff 55 = .ok (.putfield 61, 3) := by decide +kernel
theorem dX4_setTariff_58 : decode cX4_setTariff 58 = .ok (.iload 6, 2) := by decide +kernel
theorem dX4_setTariff_60 : decode cX4_setTariff 60 = .ok (.ireturn, 1) := by decide +kernel
set_option maxRecDepth 20000 in
theorem ggX4_charge_X4_operatorAt : GoodIn wsX4_charge wsX4_operatorAt := goodIn_ca (goodIn_r _ [6, 7, 8, 9, 10, 11, 5, 12, 26, 27, 28, 29, 30, 31, 32] (by decide +kernel) (by decide +kernel)) (goodIn_sub (fun _ h => List.mem_cons_of_mem _ (List.mem_append_left _ (List.mem_append_right _ h))) (by decide +kernel))
set_option maxRecDepth 20000 in
theorem gX4_charge_X4_operatorAt : GoodIn wsX4_charge (wsV RX4 47 RX4 yX4_operatorAt wsX4_operatorAt) := goodIn_app (goodIn_of _ (by decide +kernel)) ggX4_charge_X4_operatorAt
set_option maxRecDepth 20000 in
theorem ggX4_charge_X4_refuseOutside : GoodIn wsX4_charge wsX4_refuseOutside := goodIn_ca (goodIn_r _ [15, 16, 17] (by decide +kernel) (by decide +kernel)) (goodIn_sub (fun _ h => List.mem_cons_of_mem _ (List.mem_append_right _ h)) (by decide +kernel))
set_option maxRecDepth 20000 in
theorem gX4_charge_X4_refuseOutside : GoodIn wsX4_charge (va_wsS RX4 51 yX4_refuseOutside wsX4_refuseOutside) := goodIn_app (goodIn_of _ (by decide +kernel)) ggX4_charge_X4_refuseOutside
set_option maxRecDepth 20000 in
theorem ggX4_charge_X2_chargeFor : GoodIn wsX4_charge wsX2_chargeFor := goodIn_r _ [22, 23, 24, 25, 33, 34, 35, 36] (by decide +kernel) (by decide +kernel)
set_option maxRecDepth 20000 in
theorem gX4_charge_X2_chargeFor : GoodIn wsX4_charge (wsV RX4 65 RX2 yX2_chargeFor wsX2_chargeFor) := goodIn_app (goodIn_of _ (by decide +kernel)) ggX4_charge_X2_chargeFor
theorem dX4_charge_0 : decode cX4_charge 0 = .ok (.aload_n 0, 1) := by decide +kernel
theorem dX4_charge_1 : decode cX4_charge 1 = .ok (.iload_n 1, 1) := by decide +kernel
theorem dX4_charge_2 : decode cX4_charge 2 = .ok (.invokevirtual 47, 3) := by decide +kernel
theorem dX4_charge_5 : decode cX4_charge 5 = .ok (.astore_n 3, 1) := by decide +kernel
theorem dX4_charge_6 : decode cX4_charge 6 = .ok (.iload_n 2, 1) := by decide +kernel
theorem dX4_charge_7 : decode cX4_charge 7 = .ok (.iconst 1, 1) := by decide +kernel
theorem dX4_charge_8 : decode cX4_charge 8 = .ok (.ldc 64, 2) := by decide +kernel
theorem dX4_charge_10 : decode cX4_charge 10 = .ok (.invokestatic 51, 3) := by decide +kernel
theorem dX4_charge_13 : decode cX4_charge 13 = .ok (.aload_n 3, 1) := by decide +kernel
theorem dX4_charge_14 : decode cX4_charge 14 = .ok (.iload_n 2, 1) := by decide +kernel
theorem dX4_charge_15 : decode cX4_charge 15 = .ok (.invokevirtual 65, 3) := by decide +kernel
theorem dX4_charge_18 : decode cX4_charge 18 = .ok (.ireturn, 1) := by decide +kernel
set_option maxRecDepth 20000 in
theorem ggX4_begin_X4_pairAt : GoodIn wsX4_begin wsX4_pairAt := goodIn_ca (goodIn_ca (goodIn_r _ [13, 14, 15, 16, 17, 18, 19, 20, 12, 21, 33, 34, 35, 36, 37, 38, 39] (by decide +kernel) (by decide +kernel)) (goodIn_sub (fun _ h => List.mem_cons_of_mem _ (List.mem_append_left _ (List.mem_append_right _ h))) (by decide +kernel))) (goodIn_sub (fun _ h => List.mem_cons_of_mem _ (List.mem_append_right _ h)) (by decide +kernel))
set_option maxRecDepth 20000 in
theorem gX4_begin_X4_pairAt : GoodIn wsX4_begin (wsV RX4 69 RX4 yX4_pairAt wsX4_pairAt) := goodIn_app (goodIn_of _ (by decide +kernel)) ggX4_begin_X4_pairAt
set_option maxRecDepth 20000 in
theorem ggX4_begin_X1_init : GoodIn wsX4_begin wsX1_init := goodIn_r _ [24, 25, 26, 27, 28, 29, 30, 31, 32, 40, 41, 42, 43, 44] (by decide +kernel) (by decide +kernel)
set_option maxRecDepth 20000 in
theorem gX4_begin_X1_init : GoodIn wsX4_begin (wsX1_init) := ggX4_begin_X1_init
theorem dX4_begin_0 : decode cX4_begin 0 = .ok (.aload_n 0, 1) := by decide +kernel
theorem dX4_begin_1 : decode cX4_begin 1 = .ok (.iload_n 1, 1) := by decide +kernel
theorem dX4_begin_2 : decode cX4_begin 2 = .ok (.iload_n 2, 1) := by decide +kernel
theorem dX4_begin_3 : decode cX4_begin 3 = .ok (.invokevirtual 69, 3) := by decide +kernel
theorem dX4_begin_6 : decode cX4_begin 6 = .ok (.astore_n 3, 1) := by decide +kernel
theorem dX4_begin_7 : decode cX4_begin 7 = .ok (.aload_n 0, 1) := by decide +kernel
theorem dX4_begin_8 : decode cX4_begin 8 = .ok (.getfield 27, 3) := by decide +kernel
theorem dX4_begin_11 : decode cX4_begin 11 = .ok (.bipush 30, 2) := by decide +kernel
theorem dX4_begin_13 : decode cX4_begin 13 = .ok (.if_icmp .lt 13, 3) := by decide +kernel
theorem dX4_begin_16 : decode cX4_begin 16 = .ok (.new 73, 3) := by decide +kernel
theorem dX4_begin_19 : decode cX4_begin 19 = .ok (.dup, 1) := by decide +kernel
theorem dX4_begin_20 : decode cX4_begin 20 = .ok (.ldc 75, 2) := by decide +kernel
theorem dX4_begin_22 : decode cX4_begin 22 = .ok (.invokespecial 77, 3) := by decide +kernel
theorem dX4_begin_25 : decode cX4_begin 25 = .ok (.athrow, 1) := by decide +kernel
theorem dX4_begin_26 : decode cX4_begin 26 = .ok (.aload_n 0, 1) := by decide +kernel
theorem dX4_begin_27 : decode cX4_begin 27 = .ok (.getfield 27, 3) := by decide +kernel
theorem dX4_begin_30 : decode cX4_begin 30 = .ok (.istore 4, 2) := by decide +kernel
theorem dX4_begin_32 : decode cX4_begin 32 = .ok (.aload_n 0, 1) := by decide +kernel
theorem dX4_begin_33 : decode cX4_begin 33 = .ok (.getfield 23, 3) := by decide +kernel
theorem dX4_begin_36 : decode cX4_begin 36 = .ok (.iload 4, 2) := by decide +kernel
theorem dX4_begin_38 : decode cX4_begin 38 = .ok (.new 21, 3) := by decide +kernel
theorem dX4_begin_41 : decode cX4_begin 41 = .ok (.dup, 1) := by decide +kernel
theorem dX4_begin_42 : decode cX4_begin 42 = .ok (.aload_n 3, 1) := by decide +kernel
theorem dX4_begin_43 : decode cX4_begin 43 = .ok (.aload_n 0, 1) := by decide +kernel
theorem dX4_begin_44 : decode cX4_begin 44 = .ok (.getfield 40, 3) := by decide +kernel
theorem dX4_begin_47 : decode cX4_begin 47 = .ok (.invokespecial 80, 3) := by decide +kernel
theorem dX4_begin_50 : decode cX4_begin 50 = .ok (.aastore, 1) := by decide +kernel
theorem dX4_begin_51 : decode cX4_begin 51 = .ok (.aload_n 0, 1) := by decide +kernel
theorem dX4_begin_52 : decode cX4_begin 52 = .ok (.dup, 1) := by decide +kernel
theorem dX4_begin_53 : decode cX4_begin 53 = .ok (.getfield 27, 3) := by decide +kernel
theorem dX4_begin_56 : decode cX4_begin 56 = .ok (.iconst 1, 1) := by decide +kernel
theorem dX4_begin_57 : decode cX4_begin 57 = .ok (.iadd, 1) := by decide +kernel
theorem dX4_begin_58 : decode cX4_begin 58 = .ok (.putfield 27, 3) := by decide +kernel
theorem dX4_begin_61 : decode cX4_begin 61 = .ok (.iload 4, 2) := by decide +kernel
theorem dX4_begin_63 : decode cX4_begin 63 = .ok (.ireturn, 1) := by decide +kernel
set_option maxRecDepth 20000 in
theorem ggX4_enter_X4_fileAt : GoodIn wsX4_enter wsX4_fileAt := goodIn_ca (goodIn_r _ [16, 17, 18, 19, 20, 44, 45, 46, 47, 48, 49, 50] (by decide +kernel) (by decide +kernel)) (goodIn_sub (fun _ h => List.mem_cons_of_mem _ (List.mem_append_left _ (List.mem_append_right _ h))) (by decide +kernel))
set_option maxRecDepth 20000 in
theorem gX4_enter_X4_fileAt : GoodIn wsX4_enter (wsV RX4 83 RX4 yX4_fileAt wsX4_fileAt) := goodIn_app (goodIn_of _ (by decide +kernel)) ggX4_enter_X4_fileAt
set_option maxRecDepth 20000 in
theorem ggX4_enter_X4_refuseOutside : GoodIn wsX4_enter wsX4_refuseOutside := goodIn_ca (goodIn_r _ [23, 24, 25] (by decide +kernel) (by decide +kernel)) (goodIn_sub (fun _ h => List.mem_cons_of_mem _ (List.mem_append_right _ h)) (by decide +kernel))
set_option maxRecDepth 20000 in
theorem gX4_enter_X4_refuseOutside : GoodIn wsX4_enter (va_wsS RX4 51 yX4_refuseOutside wsX4_refuseOutside) := goodIn_app (goodIn_of _ (by decide +kernel)) ggX4_enter_X4_refuseOutside
set_option maxRecDepth 20000 in
theorem ggX4_enter_X0_init : GoodIn wsX4_enter wsX0_init := goodIn_r _ [28, 29, 30, 31, 32, 33, 34, 35, 36, 37, 38, 51, 52, 53, 54, 55, 56, 57] (by decide +kernel) (by decide +kernel)
set_option maxRecDepth 20000 in
theorem gX4_enter_X0_init : GoodIn wsX4_enter (wsX0_init) := ggX4_enter_X0_init
theorem dX4_enter_0 : decode cX4_enter 0 = .ok (.aload_n 0, 1) := by decide +kernel
theorem dX4_enter_1 : decode cX4_enter 1 = .ok (.iload_n 1, 1) := by decide +kernel
theorem dX4_enter_2 : decode cX4_enter 2 = .ok (.invokevirtual 83, 3) := by decide +kernel
theorem dX4_enter_5 : decode cX4_enter 5 = .ok (.astore 4, 2) := by decide +kernel
theorem dX4_enter_7 : decode cX4_enter 7 = .ok (.iload_n 2, 1) := by decide +kernel
theorem dX4_enter_8 : decode cX4_enter 8 = .ok (.iconst 1, 1) := by decide +kernel
theorem dX4_enter_9 : decode cX4_enter 9 = .ok (.ldc 64, 2) := by decide +kernel
theorem dX4_enter_11 : decode cX4_enter 11 = .ok (.invokestatic 51, 3) := by decide +kernel
theorem dX4_enter_14 : decode cX4_enter 14 = .ok (.iload_n 3, 1) := by decide +kernel
theorem dX4_enter_15 : decode cX4_enter 15 = .ok (.iconst 0, 1) := by decide +kernel
theorem dX4_enter_16 : decode cX4_enter 16 = .ok (.ldc 87, 2) := by decide +kernel
theorem dX4_enter_18 : decode cX4_enter 18 = .ok (.invokestatic 51, 3) := by decide +kernel
theorem dX4_enter_21 : decode cX4_enter 21 = .ok (.aload 4, 2) := by decide +kernel
theorem dX4_enter_23 : decode cX4_enter 23 = .ok (.getfield 88, 3) := by decide +kernel
theorem dX4_enter_26 : decode cX4_enter 26 = .ok (.ifCond .eq 13, 3) := by decide +kernel
theorem dX4_enter_29 : decode cX4_enter 29 = .ok (.new 73, 3) := by decide +kernel
theorem dX4_enter_32 : decode cX4_enter 32 = .ok (.dup, 1) := by decide +kernel
theorem dX4_enter_33 : decode cX4_enter 33 = .ok (.ldc 91, 2) := by decide +kernel
theorem dX4_enter_35 : decode cX4_enter 35 = .ok (.invokespecial 77, 3) := by decide +kernel
theorem dX4_enter_38 : decode cX4_enter 38 = .ok (.athrow, 1) := by decide +kernel
theorem dX4_enter_39 : decode cX4_enter 39 = .ok (.aload_n 0, 1) := by decide +kernel
theorem dX4_enter_40 : decode cX4_enter 40 = .ok (.getfield 37, 3) := by decide +kernel
theorem dX4_enter_43 : decode cX4_enter 43 = .ok (.bipush 60, 2) := by decide +kernel
theorem dX4_enter_45 : decode cX4_enter 45 = .ok (.if_icmp .lt 13, 3) := by decide +kernel
theorem dX4_enter_48 : decode cX4_enter 48 = .ok (.new 73, 3) := by decide +kernel
theorem dX4_enter_51 : decode cX4_enter 51 = .ok (.dup, 1) := by decide +kernel
theorem dX4_enter_52 : decode cX4_enter 52 = .ok (.ldc 93, 2) := by decide +kernel
theorem dX4_enter_54 : decode cX4_enter 54 = .ok (.invokespecial 77, 3) := by decide +kernel
theorem dX4_enter_57 : decode cX4_enter 57 = .ok (.athrow, 1) := by decide +kernel
theorem dX4_enter_58 : decode cX4_enter 58 = .ok (.aload_n 0, 1) := by decide +kernel
theorem dX4_enter_59 : decode cX4_enter 59 = .ok (.getfield 37, 3) := by decide +kernel
theorem dX4_enter_62 : decode cX4_enter 62 = .ok (.istore 5, 2) := by decide +kernel
theorem dX4_enter_64 : decode cX4_enter 64 = .ok (.aload_n 0, 1) := by decide +kernel
theorem dX4_enter_65 : decode cX4_enter 65 = .ok (.getfield 33, 3) := by decide +kernel
theorem dX4_enter_68 : decode cX4_enter 68 = .ok (.iload 5, 2) := by decide +kernel
theorem dX4_enter_70 : decode cX4_enter 70 = .ok (.new 31, 3) := by decide +kernel
theorem dX4_enter_73 : decode cX4_enter 73 = .ok (.dup, 1) := by decide +kernel
theorem dX4_enter_74 : decode cX4_enter 74 = .ok (.aload 4, 2) := by decide +kernel
theorem dX4_enter_76 : decode cX4_enter 76 = .ok (.iload_n 2, 1) := by decide +kernel
theorem dX4_enter_77 : decode cX4_enter 77 = .ok (.iload_n 3, 1) := by decide +kernel
theorem dX4_enter_78 : decode cX4_enter 78 = .ok (.invokespecial 95, 3) := by decide +kernel
theorem dX4_enter_81 : decode cX4_enter 81 = .ok (.aastore, 1) := by decide +kernel
theorem dX4_enter_82 : decode cX4_enter 82 = .ok (.aload_n 0, 1) := by decide +kernel
theorem dX4_enter_83 : decode cX4_enter 83 = .ok (.dup, 1) := by decide +kernel
theorem dX4_enter_84 : decode cX4_enter 84 = .ok (.getfield 37, 3) := by decide +kernel
theorem dX4_enter_87 : decode cX4_enter 87 = .ok (.iconst 1, 1) := by decide +kernel
theorem dX4_enter_88 : decode cX4_enter 88 = .ok (.iadd, 1) := by decide +kernel
theorem dX4_enter_89 : decode cX4_enter 89 = .ok (.putfield 37, 3) := by decide +kernel
theorem dX4_enter_92 : decode cX4_enter 92 = .ok (.aload 4, 2) := by decide +kernel
theorem dX4_enter_94 : decode cX4_enter 94 = .ok (.dup, 1) := by decide +kernel
theorem dX4_enter_95 : decode cX4_enter 95 = .ok (.getfield 98, 3) := by decide +kernel
theorem dX4_enter_98 : decode cX4_enter 98 = .ok (.iconst 1, 1) := by decide +kernel
theorem dX4_enter_99 : decode cX4_enter 99 = .ok (.iadd, 1) := by decide +kernel
theorem dX4_enter_100 : decode cX4_enter 100 = .ok (.putfield 98, 3) := by decide +kernel
theorem dX4_enter_103 : decode cX4_enter 103 = .ok (.iload 5, 2) := by decide +kernel
theorem dX4_enter_105 : decode cX4_enter 105 = .ok (.ireturn, 1) := by decide +kernel
set_option maxRecDepth 20000 in
theorem ggX4_send_X4_fileAt : GoodIn wsX4_send wsX4_fileAt := goodIn_ca (goodIn_r _ [12, 13, 14, 15, 16, 87, 88, 89, 90, 91, 92, 93] (by decide +kernel) (by decide +kernel)) (goodIn_sub (fun _ h => List.mem_cons_of_mem _ (List.mem_append_left _ (List.mem_append_right _ h))) (by decide +kernel))
set_option maxRecDepth 20000 in
theorem gX4_send_X4_fileAt : GoodIn wsX4_send (wsV RX4 83 RX4 yX4_fileAt wsX4_fileAt) := goodIn_app (goodIn_of _ (by decide +kernel)) ggX4_send_X4_fileAt
set_option maxRecDepth 20000 in
theorem ggX4_send_X4_refuseOutside : GoodIn wsX4_send wsX4_refuseOutside := goodIn_ca (goodIn_r _ [19, 20, 21] (by decide +kernel) (by decide +kernel)) (goodIn_sub (fun _ h => List.mem_cons_of_mem _ (List.mem_append_right _ h)) (by decide +kernel))
set_option maxRecDepth 20000 in
theorem gX4_send_X4_refuseOutside : GoodIn wsX4_send (va_wsS RX4 51 yX4_refuseOutside wsX4_refuseOutside) := goodIn_app (goodIn_of _ (by decide +kernel)) ggX4_send_X4_refuseOutside
set_option maxRecDepth 20000 in
theorem ggX4_send_X4_waitingFile : GoodIn wsX4_send wsX4_waitingFile := goodIn_r _ [25, 15, 16, 5, 3, 7, 87, 88, 89, 90, 91, 92, 93, 75, 76, 77, 78, 79] (by decide +kernel) (by decide +kernel)
set_option maxRecDepth 20000 in
theorem gX4_send_X4_waitingFile : GoodIn wsX4_send (wsV RX4 110 RX4 yX4_waitingFile wsX4_waitingFile) := goodIn_app (goodIn_of _ (by decide +kernel)) ggX4_send_X4_waitingFile
set_option maxRecDepth 20000 in
theorem ggX4_send_X4_lookAtAllFrom : GoodIn wsX4_send wsX4_lookAtAllFrom := goodIn_r _ [29, 5, 6, 30, 31, 32, 11, 33, 34, 35, 3, 4, 36, 37, 38, 39, 40, 41, 42, 43, 44, 45, 46, 47, 48, 49, 50, 51, 52, 53, 54, 55, 56, 57, 58, 59, 60, 61, 62, 63, 64, 65, 66, 67, 68, 69, 70, 71, 72, 73, 74, 22, 23, 24, 25, 15, 16, 7, 75, 76, 77, 78, 79, 80, 81, 82, 83, 84, 85, 86, 87, 88, 89, 90, 91, 92, 93, 94, 95, 96, 97, 98, 99, 100, 101, 102, 103, 104] (by decide +kernel) (by decide +kernel)
set_option maxRecDepth 20000 in
theorem gX4_send_X4_lookAtAllFrom : GoodIn wsX4_send (wsV RX4 117 RX4 yX4_lookAtAllFrom wsX4_lookAtAllFrom) := goodIn_app (goodIn_of _ (by decide +kernel)) ggX4_send_X4_lookAtAllFrom
theorem dX4_send_0 : decode cX4_send 0 = .ok (.aload_n 0, 1) := by decide +kernel
theorem dX4_send_1 : decode cX4_send 1 = .ok (.iload_n 1, 1) := by decide +kernel
theorem dX4_send_2 : decode cX4_send 2 = .ok (.invokevirtual 83, 3) := by decide +kernel
theorem dX4_send_5 : decode cX4_send 5 = .ok (.astore_n 3, 1) := by decide +kernel
theorem dX4_send_6 : decode cX4_send 6 = .ok (.iload_n 2, 1) := by decide +kernel
theorem dX4_send_7 : decode cX4_send 7 = .ok (.iconst 1, 1) := by decide +kernel
theorem dX4_send_8 : decode cX4_send 8 = .ok (.bipush 99, 2) := by decide +kernel
theorem dX4_send_10 : decode cX4_send 10 = .ok (.invokestatic 51, 3) := by decide +kernel
theorem dX4_send_13 : decode cX4_send 13 = .ok (.aload_n 3, 1) := by decide +kernel
theorem dX4_send_14 : decode cX4_send 14 = .ok (.getfield 88, 3) := by decide +kernel
theorem dX4_send_17 : decode cX4_send 17 = .ok (.ifCond .ne 10, 3) := by decide +kernel
theorem dX4_send_20 : decode cX4_send 20 = .ok (.aload_n 3, 1) := by decide +kernel
theorem dX4_send_21 : decode cX4_send 21 = .ok (.getfield 98, 3) := by decide +kernel
theorem dX4_send_24 : decode cX4_send 24 = .ok (.ifCond .ne 13, 3) := by decide +kernel
theorem dX4_send_27 : decode cX4_send 27 = .ok (.new 73, 3) := by decide +kernel
theorem dX4_send_30 : decode cX4_send 30 = .ok (.dup, 1) := by decide +kernel
theorem dX4_send_31 : decode cX4_send 31 = .ok (.ldc 101, 2) := by decide +kernel
theorem dX4_send_33 : decode cX4_send 33 = .ok (.invokespecial 77, 3) := by decide +kernel
theorem dX4_send_36 : decode cX4_send 36 = .ok (.athrow, 1) := by decide +kernel
theorem dX4_send_37 : decode cX4_send 37 = .ok (.aload_n 3, 1) := by decide +kernel
theorem dX4_send_38 : decode cX4_send 38 = .ok (.getfield 103, 3) := by decide +kernel
theorem dX4_send_41 : decode cX4_send 41 = .ok (.astore 4, 2) := by decide +kernel
theorem dX4_send_43 : decode cX4_send 43 = .ok (.iload_n 2, 1) := by decide +kernel
theorem dX4_send_44 : decode cX4_send 44 = .ok (.aload 4, 2) := by decide +kernel
theorem dX4_send_46 : decode cX4_send 46 = .ok (.getfield 107, 3) := by decide +kernel
theorem dX4_send_49 : decode cX4_send 49 = .ok (.if_icmp .lt 13, 3) := by decide +kernel
theorem dX4_send_52 : decode cX4_send 52 = .ok (.aload_n 0, 1) := by decide +kernel
theorem dX4_send_53 : decode cX4_send 53 = .ok (.aload 4, 2) := by decide +kernel
theorem dX4_send_55 : decode cX4_send 55 = .ok (.iload_n 2, 1) := by decide +kernel
theorem dX4_send_56 : decode cX4_send 56 = .ok (.invokevirtual 110, 3) := by decide +kernel
theorem dX4_send_59 : decode cX4_send 59 = .ok (.ifnull 11, 3) := by decide +kernel
theorem dX4_send_62 : decode cX4_send 62 = .ok (.aload_n 3, 1) := by decide +kernel
theorem dX4_send_63 : decode cX4_send 63 = .ok (.iconst 1, 1) := by decide +kernel
theorem dX4_send_64 : decode cX4_send 64 = .ok (.putfield 88, 3) := by decide +kernel
theorem dX4_send_67 : decode cX4_send 67 = .ok (.goto 30, 3) := by decide +kernel
theorem dX4_send_70 : decode cX4_send 70 = .ok (.iload_n 2, 1) := by decide +kernel
theorem dX4_send_71 : decode cX4_send 71 = .ok (.aload 4, 2) := by decide +kernel
theorem dX4_send_73 : decode cX4_send 73 = .ok (.getfield 107, 3) := by decide +kernel
theorem dX4_send_76 : decode cX4_send 76 = .ok (.if_icmp .le 16, 3) := by decide +kernel
theorem dX4_send_79 : decode cX4_send 79 = .ok (.aload_n 3, 1) := by decide +kernel
theorem dX4_send_80 : decode cX4_send 80 = .ok (.iload_n 2, 1) := by decide +kernel
theorem dX4_send_81 : decode cX4_send 81 = .ok (.putfield 114, 3) := by decide +kernel
theorem dX4_send_84 : decode cX4_send 84 = .ok (.aload_n 3, 1) := by decide +kernel
theorem dX4_send_85 : decode cX4_send 85 = .ok (.iconst 2, 1) := by decide +kernel
theorem dX4_send_86 : decode cX4_send 86 = .ok (.putfield 88, 3) := by decide +kernel
theorem dX4_send_89 : decode cX4_send 89 = .ok (.goto 8, 3) := by decide +kernel
theorem dX4_send_92 : decode cX4_send 92 = .ok (.aload_n 0, 1) := by decide +kernel
theorem dX4_send_93 : decode cX4_send 93 = .ok (.aload_n 3, 1) := by decide +kernel
theorem dX4_send_94 : decode cX4_send 94 = .ok (.invokevirtual 117, 3) := by decide +kernel
theorem dX4_send_97 : decode cX4_send 97 = .ok (.aload_n 3, 1) := by decide +kernel
theorem dX4_send_98 : decode cX4_send 98 = .ok (.getfield 88, 3) := by decide +kernel
theorem dX4_send_101 : decode cX4_send 101 = .ok (.ireturn, 1) := by decide +kernel
set_option maxRecDepth 20000 in
theorem ggX4_stateOf_X4_fileAt : GoodIn wsX4_stateOf wsX4_fileAt := goodIn_ca (goodIn_r _ [6, 7, 8, 9, 10, 16, 17, 18, 19, 20, 21, 22] (by decide +kernel) (by decide +kernel)) (goodIn_sub (fun _ h => List.mem_cons_of_mem _ (List.mem_append_right _ h)) (by decide +kernel))
set_option maxRecDepth 20000 in
theorem gX4_stateOf_X4_fileAt : GoodIn wsX4_stateOf (wsV RX4 83 RX4 yX4_fileAt wsX4_fileAt) := goodIn_app (goodIn_of _ (by decide +kernel)) ggX4_stateOf_X4_fileAt
theorem dX4_stateOf_0 : decode cX4_stateOf 0 = .ok (.aload_n 0, 1) := by decide +kernel
theorem dX4_stateOf_1 : decode cX4_stateOf 1 = .ok (.iload_n 1, 1) := by decide +kernel
theorem dX4_stateOf_2 : decode cX4_stateOf 2 = .ok (.invokevirtual 83, 3) := by decide +kernel
theorem dX4_stateOf_5 : decode cX4_stateOf 5 = .ok (.getfield 88, 3) := by decide +kernel
theorem dX4_stateOf_8 : decode cX4_stateOf 8 = .ok (.ireturn, 1) := by decide +kernel
set_option maxRecDepth 20000 in
theorem ggX4_expected_X4_pairAt : GoodIn wsX4_expected wsX4_pairAt := goodIn_ca (goodIn_ca (goodIn_r _ [6, 7, 8, 9, 10, 11, 12, 13, 5, 14, 22, 23, 24, 25, 26, 27, 28] (by decide +kernel) (by decide +kernel)) (goodIn_sub (fun _ h => List.mem_cons_of_mem _ (List.mem_append_left _ (List.mem_append_right _ h))) (by decide +kernel))) (goodIn_sub (fun _ h => List.mem_cons_of_mem _ (List.mem_append_right _ h)) (by decide +kernel))
set_option maxRecDepth 20000 in
theorem gX4_expected_X4_pairAt : GoodIn wsX4_expected (wsV RX4 69 RX4 yX4_pairAt wsX4_pairAt) := goodIn_app (goodIn_of _ (by decide +kernel)) ggX4_expected_X4_pairAt
theorem dX4_expected_0 : decode cX4_expected 0 = .ok (.aload_n 0, 1) := by decide +kernel
theorem dX4_expected_1 : decode cX4_expected 1 = .ok (.iload_n 1, 1) := by decide +kernel
theorem dX4_expected_2 : decode cX4_expected 2 = .ok (.iload_n 2, 1) := by decide +kernel
theorem dX4_expected_3 : decode cX4_expected 3 = .ok (.invokevirtual 69, 3) := by decide +kernel
theorem dX4_expected_6 : decode cX4_expected 6 = .ok (.getfield 107, 3) := by decide +kernel
theorem dX4_expected_9 : decode cX4_expected 9 = .ok (.ireturn, 1) := by decide +kernel
set_option maxRecDepth 20000 in
theorem ggX4_lacking_X4_pairAt : GoodIn wsX4_lacking wsX4_pairAt := goodIn_ca (goodIn_ca (goodIn_r _ [15, 16, 17, 18, 19, 20, 21, 22, 14, 23, 24, 25, 26, 27, 28, 29, 30] (by decide +kernel) (by decide +kernel)) (goodIn_sub (fun _ h => List.mem_cons_of_mem _ (List.mem_append_left _ (List.mem_append_right _ h))) (by decide +kernel))) (goodIn_sub (fun _ h => List.mem_cons_of_mem _ (List.mem_append_right _ h)) (by decide +kernel))
set_option maxRecDepth 20000 in
theorem gX4_lacking_X4_pairAt : GoodIn wsX4_lacking (wsV RX4 69 RX4 yX4_pairAt wsX4_pairAt) := goodIn_app (goodIn_of _ (by decide +kernel)) ggX4_lacking_X4_pairAt
theorem dX4_lacking_0 : decode cX4_lacking 0 = .ok (.aload_n 0, 1) := by decide +kernel
theorem dX4_lacking_1 : decode cX4_lacking 1 = .ok (.iload_n 1, 1) := by decide +kernel
theorem dX4_lacking_2 : decode cX4_lacking 2 = .ok (.iload_n 2, 1) := by decide +kernel
theorem dX4_lacking_3 : decode cX4_lacking 3 = .ok (.invokevirtual 69, 3) := by decide +kernel
theorem dX4_lacking_6 : decode cX4_lacking 6 = .ok (.astore_n 3, 1) := by decide +kernel
theorem dX4_lacking_7 : decode cX4_lacking 7 = .ok (.iconst 0, 1) := by decide +kernel
theorem dX4_lacking_8 : decode cX4_lacking 8 = .ok (.istore 4, 2) := by decide +kernel
theorem dX4_lacking_10 : decode cX4_lacking 10 = .ok (.iconst 0, 1) := by decide +kernel
theorem dX4_lacking_11 : decode cX4_lacking 11 = .ok (.istore 5, 2) := by decide +kernel
theorem dX4_lacking_13 : decode cX4_lacking 13 = .ok (.iconst 0, 1) := by decide +kernel
theorem dX4_lacking_14 : decode cX4_lacking 14 = .ok (.istore 6, 2) := by decide +kernel
theorem dX4_lacking_16 : decode cX4_lacking 16 = .ok (.iload 6, 2) := by decide +kernel
theorem dX4_lacking_18 : decode cX4_lacking 18 = .ok (.aload_n 0, 1) := by decide +kernel
theorem dX4_lacking_19 : decode cX4_lacking 19 = .ok (.getfield 27, 3) := by decide +kernel
theorem dX4_lacking_22 : decode cX4_lacking 22 = .ok (.if_icmp .ge 51, 3) := by decide +kernel
theorem dX4_lacking_25 : decode cX4_lacking 25 = .ok (.aload_n 0, 1) := by decide +kernel
theorem dX4_lacking_26 : decode cX4_lacking 26 = .ok (.getfield 23, 3) := by decide +kernel
theorem dX4_lacking_29 : decode cX4_lacking 29 = .ok (.iload 6, 2) := by decide +kernel
theorem dX4_lacking_31 : decode cX4_lacking 31 = .ok (.aaload, 1) := by decide +kernel
theorem dX4_lacking_32 : decode cX4_lacking 32 = .ok (.astore 7, 2) := by decide +kernel
theorem dX4_lacking_34 : decode cX4_lacking 34 = .ok (.aload 7, 2) := by decide +kernel
theorem dX4_lacking_36 : decode cX4_lacking 36 = .ok (.getfield 103, 3) := by decide +kernel
theorem dX4_lacking_39 : decode cX4_lacking 39 = .ok (.aload_n 3, 1) := by decide +kernel
theorem dX4_lacking_40 : decode cX4_lacking 40 = .ok (.if_acmp .ne 27, 3) := by decide +kernel
theorem dX4_lacking_43 : decode cX4_lacking 43 = .ok (.aload 7, 2) := by decide +kernel
theorem dX4_lacking_45 : decode cX4_lacking 45 = .ok (.getfield 88, 3) := by decide +kernel
theorem dX4_lacking_48 : decode cX4_lacking 48 = .ok (.iconst 2, 1) := by decide +kernel
theorem dX4_lacking_49 : decode cX4_lacking 49 = .ok (.if_icmp .ne 18, 3) := by decide +kernel
theorem dX4_lacking_52 : decode cX4_lacking 52 = .ok (.iinc 4 1, 3) := by decide +kernel
theorem dX4_lacking_55 : decode cX4_lacking 55 = .ok (.iload 5, 2) := by decide +kernel
theorem dX4_lacking_57 : decode cX4_lacking 57 = .ok (.aload 7, 2) := by decide +kernel
theorem dX4_lacking_59 : decode cX4_lacking 59 = .ok (.getfield 114, 3) := by decide +kernel
theorem dX4_lacking_62 : decode cX4_lacking 62 = .ok (.invokestatic 121, 3) := by decide +kernel
theorem dX4_lacking_65 : decode cX4_lacking 65 = .ok (.istore 5, 2) := by decide +kernel
theorem dX4_lacking_67 : decode cX4_lacking 67 = .ok (.iinc 6 1, 3) := by decide +kernel
theorem dX4_lacking_70 : decode cX4_lacking 70 = .ok (.goto (-54), 3) := by decide +kernel
theorem dX4_lacking_73 : decode cX4_lacking 73 = .ok (.iload 4, 2) := by decide +kernel
theorem dX4_lacking_75 : decode cX4_lacking 75 = .ok (.ifCond .ne 7, 3) := by decide +kernel
theorem dX4_lacking_78 : decode cX4_lacking 78 = .ok (.iconst 0, 1) := by decide +kernel
theorem dX4_lacking_79 : decode cX4_lacking 79 = .ok (.goto 15, 3) := by decide +kernel
theorem dX4_lacking_82 : decode cX4_lacking 82 = .ok (.iload 5, 2) := by decide +kernel
theorem dX4_lacking_84 : decode cX4_lacking 84 = .ok (.aload_n 3, 1) := by decide +kernel
theorem dX4_lacking_85 : decode cX4_lacking 85 = .ok (.getfield 107, 3) := by decide +kernel
theorem dX4_lacking_88 : decode cX4_lacking 88 = .ok (.isub, 1) := by decide +kernel
theorem dX4_lacking_89 : decode cX4_lacking 89 = .ok (.iconst 1, 1) := by decide +kernel
theorem dX4_lacking_90 : decode cX4_lacking 90 = .ok (.iadd, 1) := by decide +kernel
theorem dX4_lacking_91 : decode cX4_lacking 91 = .ok (.iload 4, 2) := by decide +kernel
theorem dX4_lacking_93 : decode cX4_lacking 93 = .ok (.isub, 1) := by decide +kernel
theorem dX4_lacking_94 : decode cX4_lacking 94 = .ok (.ireturn, 1) := by decide +kernel
theorem dX4_calls_0 : decode cX4_calls 0 = .ok (.aload_n 0, 1) := by decide +kernel
theorem dX4_calls_1 : decode cX4_calls 1 = .ok (.getfield 37, 3) := by decide +kernel
theorem dX4_calls_4 : decode cX4_calls 4 = .ok (.ireturn, 1) := by decide +kernel
set_option maxRecDepth 20000 in
theorem ggX4_call_X4_callAt : GoodIn wsX4_call wsX4_callAt := goodIn_ca (goodIn_r _ [6, 7, 8, 9, 10, 18, 19, 20, 21, 22, 23, 24] (by decide +kernel) (by decide +kernel)) (goodIn_sub (fun _ h => List.mem_cons_of_mem _ (List.mem_append_right _ h)) (by decide +kernel))
set_option maxRecDepth 20000 in
theorem gX4_call_X4_callAt : GoodIn wsX4_call (wsV RX4 127 RX4 yX4_callAt wsX4_callAt) := goodIn_app (goodIn_of _ (by decide +kernel)) ggX4_call_X4_callAt
theorem dX4_call_0 : decode cX4_call 0 = .ok (.aload_n 0, 1) := by decide +kernel
theorem dX4_call_1 : decode cX4_call 1 = .ok (.iload_n 1, 1) := by decide +kernel
theorem dX4_call_2 : decode cX4_call 2 = .ok (.invokevirtual 127, 3) := by decide +kernel
theorem dX4_call_5 : decode cX4_call 5 = .ok (.getfield 131, 3) := by decide +kernel
theorem dX4_call_8 : decode cX4_call 8 = .ok (.ireturn, 1) := by decide +kernel
set_option maxRecDepth 20000 in
theorem ggX4_monthOf_X4_callAt : GoodIn wsX4_monthOf wsX4_callAt := goodIn_ca (goodIn_r _ [6, 7, 8, 9, 10, 18, 19, 20, 21, 22, 23, 24] (by decide +kernel) (by decide +kernel)) (goodIn_sub (fun _ h => List.mem_cons_of_mem _ (List.mem_append_right _ h)) (by decide +kernel))
set_option maxRecDepth 20000 in
theorem gX4_monthOf_X4_callAt : GoodIn wsX4_monthOf (wsV RX4 127 RX4 yX4_callAt wsX4_callAt) := goodIn_app (goodIn_of _ (by decide +kernel)) ggX4_monthOf_X4_callAt
theorem dX4_monthOf_0 : decode cX4_monthOf 0 = .ok (.aload_n 0, 1) := by decide +kernel
theorem dX4_monthOf_1 : decode cX4_monthOf 1 = .ok (.iload_n 1, 1) := by decide +kernel
theorem dX4_monthOf_2 : decode cX4_monthOf 2 = .ok (.invokevirtual 127, 3) := by decide +kernel
theorem dX4_monthOf_5 : decode cX4_monthOf 5 = .ok (.getfield 132, 3) := by decide +kernel
theorem dX4_monthOf_8 : decode cX4_monthOf 8 = .ok (.ireturn, 1) := by decide +kernel
set_option maxRecDepth 20000 in
theorem ggX4_owedFor_X4_callAt : GoodIn wsX4_owedFor wsX4_callAt := goodIn_ca (goodIn_r _ [5, 6, 7, 8, 9, 33, 34, 35, 36, 37, 38, 39] (by decide +kernel) (by decide +kernel)) (goodIn_sub (fun _ h => List.mem_cons_of_mem _ (List.mem_append_right _ h)) (by decide +kernel))
set_option maxRecDepth 20000 in
theorem gX4_owedFor_X4_callAt : GoodIn wsX4_owedFor (wsV RX4 127 RX4 yX4_callAt wsX4_callAt) := goodIn_app (goodIn_of _ (by decide +kernel)) ggX4_owedFor_X4_callAt
set_option maxRecDepth 20000 in
theorem ggX4_owedFor_X0_amount : GoodIn wsX4_owedFor wsX0_amount := goodIn_r _ [14, 15, 16, 17, 18, 19, 20, 21, 22, 23, 4, 24, 25, 26, 27, 28, 29, 30, 31, 32, 40, 41, 42, 43, 44, 45, 46, 47, 48, 49, 50, 51, 52, 53, 54, 55, 56, 57, 58] (by decide +kernel) (by decide +kernel)
set_option maxRecDepth 20000 in
theorem gX4_owedFor_X0_amount : GoodIn wsX4_owedFor (wsV RX4 135 RX0 yX0_amount wsX0_amount) := goodIn_app (goodIn_of _ (by decide +kernel)) ggX4_owedFor_X0_amount
theorem dX4_owedFor_0 : decode cX4_owedFor 0 = .ok (.aload_n 0, 1) := by decide +kernel
theorem dX4_owedFor_1 : decode cX4_owedFor 1 = .ok (.iload_n 1, 1) := by decide +kernel
theorem dX4_owedFor_2 : decode cX4_owedFor 2 = .ok (.invokevirtual 127, 3) := by decide +kernel
theorem dX4_owedFor_5 : decode cX4_owedFor 5 = .ok (.invokevirtual 135, 3) := by decide +kernel
theorem dX4_owedFor_8 : decode cX4_owedFor 8 = .ok (.ireturn, 1) := by decide +kernel
set_option maxRecDepth 20000 in
theorem ggX4_dispute_X4_callAt : GoodIn wsX4_dispute wsX4_callAt := goodIn_ca (goodIn_r _ [11, 12, 13, 14, 15, 23, 24, 25, 26, 27, 28, 29] (by decide +kernel) (by decide +kernel)) (goodIn_sub (fun _ h => List.mem_cons_of_mem _ (List.mem_append_right _ h)) (by decide +kernel))
set_option maxRecDepth 20000 in
theorem gX4_dispute_X4_callAt : GoodIn wsX4_dispute (wsV RX4 127 RX4 yX4_callAt wsX4_callAt) := goodIn_app (goodIn_of _ (by decide +kernel)) ggX4_dispute_X4_callAt
theorem dX4_dispute_0 : decode cX4_dispute 0 = .ok (.aload_n 0, 1) := by decide +kernel
theorem dX4_dispute_1 : decode cX4_dispute 1 = .ok (.iload_n 1, 1) := by decide +kernel
theorem dX4_dispute_2 : decode cX4_dispute 2 = .ok (.invokevirtual 127, 3) := by decide +kernel
theorem dX4_dispute_5 : decode cX4_dispute 5 = .ok (.astore_n 2, 1) := by decide +kernel
theorem dX4_dispute_6 : decode cX4_dispute 6 = .ok (.aload_n 2, 1) := by decide +kernel
theorem dX4_dispute_7 : decode cX4_dispute 7 = .ok (.getfield 131, 3) := by decide +kernel
theorem dX4_dispute_10 : decode cX4_dispute 10 = .ok (.iconst 1, 1) := by decide +kernel
theorem dX4_dispute_11 : decode cX4_dispute 11 = .ok (.if_icmp .eq 13, 3) := by decide +kernel
theorem dX4_dispute_14 : decode cX4_dispute 14 = .ok (.new 73, 3) := by decide +kernel
theorem dX4_dispute_17 : decode cX4_dispute 17 = .ok (.dup, 1) := by decide +kernel
theorem dX4_dispute_18 : decode cX4_dispute 18 = .ok (.ldc 139, 2) := by decide +kernel
theorem dX4_dispute_20 : decode cX4_dispute 20 = .ok (.invokespecial 77, 3) := by decide +kernel
theorem dX4_dispute_23 : decode cX4_dispute 23 = .ok (.athrow, 1) := by decide +kernel
theorem dX4_dispute_24 : decode cX4_dispute 24 = .ok (.aload_n 0, 1) := by decide +kernel
theorem dX4_dispute_25 : decode cX4_dispute 25 = .ok (.getfield 40, 3) := by decide +kernel
theorem dX4_dispute_28 : decode cX4_dispute 28 = .ok (.aload_n 2, 1) := by decide +kernel
theorem dX4_dispute_29 : decode cX4_dispute 29 = .ok (.getfield 132, 3) := by decide +kernel
theorem dX4_dispute_32 : decode cX4_dispute 32 = .ok (.isub, 1) := by decide +kernel
theorem dX4_dispute_33 : decode cX4_dispute 33 = .ok (.iconst 1, 1) := by decide +kernel
theorem dX4_dispute_34 : decode cX4_dispute 34 = .ok (.if_icmp .le 13, 3) := by decide +kernel
theorem dX4_dispute_37 : decode cX4_dispute 37 = .ok (.new 73, 3) := by decide +kernel
theorem dX4_dispute_40 : decode cX4_dispute 40 = .ok (.dup, 1) := by decide +kernel
theorem dX4_dispute_41 : decode cX4_dispute 41 = .ok (.ldc 141, 2) := by decide +kernel
theorem dX4_dispute_43 : decode cX4_dispute 43 = .ok (.invokespecial 77, 3) := by decide +kernel
theorem dX4_dispute_46 : decode cX4_dispute 46 = .ok (.athrow, 1) := by decide +kernel
theorem dX4_dispute_47 : decode cX4_dispute 47 = .ok (.aload_n 2, 1) := by decide +kernel
theorem dX4_dispute_48 : decode cX4_dispute 48 = .ok (.iconst 2, 1) := by decide +kernel
theorem dX4_dispute_49 : decode cX4_dispute 49 = .ok (.putfield 131, 3) := by decide +kernel
theorem dX4_dispute_52 : decode cX4_dispute 52 = .ok (.aload_n 2, 1) := by decide +kernel
theorem dX4_dispute_53 : decode cX4_dispute 53 = .ok (.aload_n 0, 1) := by decide +kernel
theorem dX4_dispute_54 : decode cX4_dispute 54 = .ok (.getfield 40, 3) := by decide +kernel
theorem dX4_dispute_57 : decode cX4_dispute 57 = .ok (.putfield 143, 3) := by decide +kernel
theorem dX4_dispute_60 : decode cX4_dispute 60 = .ok (.return_, 1) := by decide +kernel
set_option maxRecDepth 20000 in
theorem ggX4_answer_X4_callAt : GoodIn wsX4_answer wsX4_callAt := goodIn_ca (goodIn_r _ [8, 9, 10, 11, 12, 20, 21, 22, 23, 24, 25, 26] (by decide +kernel) (by decide +kernel)) (goodIn_sub (fun _ h => List.mem_cons_of_mem _ (List.mem_append_right _ h)) (by decide +kernel))
set_option maxRecDepth 20000 in
theorem gX4_answer_X4_callAt : GoodIn wsX4_answer (wsV RX4 127 RX4 yX4_callAt wsX4_callAt) := goodIn_app (goodIn_of _ (by decide +kernel)) ggX4_answer_X4_callAt
theorem dX4_answer_0 : decode cX4_answer 0 = .ok (.aload_n 0, 1) := by decide +kernel
theorem dX4_answer_1 : decode cX4_answer 1 = .ok (.iload_n 1, 1) := by decide +kernel
theorem dX4_answer_2 : decode cX4_answer 2 = .ok (.invokevirtual 127, 3) := by decide +kernel
theorem dX4_answer_5 : decode cX4_answer 5 = .ok (.astore_n 3, 1) := by decide +kernel
theorem dX4_answer_6 : decode cX4_answer 6 = .ok (.aload_n 3, 1) := by decide +kernel
theorem dX4_answer_7 : decode cX4_answer 7 = .ok (.getfield 131, 3) := by decide +kernel
theorem dX4_answer_10 : decode cX4_answer 10 = .ok (.iconst 2, 1) := by decide +kernel
theorem dX4_answer_11 : decode cX4_answer 11 = .ok (.if_icmp .eq 13, 3) := by decide +kernel
theorem dX4_answer_14 : decode cX4_answer 14 = .ok (.new 73, 3) := by decide +kernel
theorem dX4_answer_17 : decode cX4_answer 17 = .ok (.dup, 1) := by decide +kernel
theorem dX4_answer_18 : decode cX4_answer 18 = .ok (.ldc 146, 2) := by decide +kernel
theorem dX4_answer_20 : decode cX4_answer 20 = .ok (.invokespecial 77, 3) := by decide +kernel
theorem dX4_answer_23 : decode cX4_answer 23 = .ok (.athrow, 1) := by decide +kernel
theorem dX4_answer_24 : decode cX4_answer 24 = .ok (.aload_n 3, 1) := by decide +kernel
theorem dX4_answer_25 : decode cX4_answer 25 = .ok (.iload_n 2, 1) := by decide +kernel
theorem dX4_answer_26 : decode cX4_answer 26 = .ok (.ifCond .eq 7, 3) := by decide +kernel
theorem dX4_answer_29 : decode cX4_answer 29 = .ok (.iconst 3, 1) := by decide +kernel
theorem dX4_answer_30 : decode cX4_answer 30 = .ok (.goto 4, 3) := by decide +kernel
theorem dX4_answer_33 : decode cX4_answer 33 = .ok (.iconst 4, 1) := by decide +kernel
theorem dX4_answer_34 : decode cX4_answer 34 = .ok (.putfield 131, 3) := by decide +kernel
theorem dX4_answer_37 : decode cX4_answer 37 = .ok (.return_, 1) := by decide +kernel
set_option maxRecDepth 20000 in
theorem ggX4_agree_X4_pairAt : GoodIn wsX4_agree wsX4_pairAt := goodIn_ca (goodIn_ca (goodIn_r _ [9, 10, 11, 12, 13, 14, 15, 16, 8, 17, 28, 29, 30, 31, 32, 33, 34] (by decide +kernel) (by decide +kernel)) (goodIn_sub (fun _ h => List.mem_cons_of_mem _ (List.mem_append_left _ (List.mem_append_right _ h))) (by decide +kernel))) (goodIn_sub (fun _ h => List.mem_cons_of_mem _ (List.mem_append_right _ h)) (by decide +kernel))
set_option maxRecDepth 20000 in
theorem gX4_agree_X4_pairAt : GoodIn wsX4_agree (wsV RX4 69 RX4 yX4_pairAt wsX4_pairAt) := goodIn_app (goodIn_of _ (by decide +kernel)) ggX4_agree_X4_pairAt
set_option maxRecDepth 20000 in
theorem ggX4_agree_X4_refuseOutside : GoodIn wsX4_agree wsX4_refuseOutside := goodIn_ca (goodIn_r _ [20, 12, 13] (by decide +kernel) (by decide +kernel)) (goodIn_sub (fun _ h => List.mem_cons_of_mem _ (List.mem_append_right _ h)) (by decide +kernel))
set_option maxRecDepth 20000 in
theorem gX4_agree_X4_refuseOutside : GoodIn wsX4_agree (va_wsS RX4 51 yX4_refuseOutside wsX4_refuseOutside) := goodIn_app (goodIn_of _ (by decide +kernel)) ggX4_agree_X4_refuseOutside
theorem dX4_agree_0 : decode cX4_agree 0 = .ok (.aload_n 0, 1) := by decide +kernel
theorem dX4_agree_1 : decode cX4_agree 1 = .ok (.iload_n 1, 1) := by decide +kernel
theorem dX4_agree_2 : decode cX4_agree 2 = .ok (.iload_n 2, 1) := by decide +kernel
theorem dX4_agree_3 : decode cX4_agree 3 = .ok (.invokevirtual 69, 3) := by decide +kernel
theorem dX4_agree_6 : decode cX4_agree 6 = .ok (.astore 6, 2) := by decide +kernel
theorem dX4_agree_8 : decode cX4_agree 8 = .ok (.iload_n 3, 1) := by decide +kernel
theorem dX4_agree_9 : decode cX4_agree 9 = .ok (.iconst 0, 1) := by decide +kernel
theorem dX4_agree_10 : decode cX4_agree 10 = .ok (.ldc 148, 2) := by decide +kernel
theorem dX4_agree_12 : decode cX4_agree 12 = .ok (.invokestatic 51, 3) := by decide +kernel
theorem dX4_agree_15 : decode cX4_agree 15 = .ok (.iload 4, 2) := by decide +kernel
theorem dX4_agree_17 : decode cX4_agree 17 = .ok (.iconst 0, 1) := by decide +kernel
theorem dX4_agree_18 : decode cX4_agree 18 = .ok (.sipush 10000, 3) := by decide +kernel
theorem dX4_agree_21 : decode cX4_agree 21 = .ok (.invokestatic 51, 3) := by decide +kernel
theorem dX4_agree_24 : decode cX4_agree 24 = .ok (.aload 6, 2) := by decide +kernel
theorem dX4_agree_26 : decode cX4_agree 26 = .ok (.iload_n 3, 1) := by decide +kernel
theorem dX4_agree_27 : decode cX4_agree 27 = .ok (.putfield 149, 3) := by decide +kernel
theorem dX4_agree_30 : decode cX4_agree 30 = .ok (.aload 6, 2) := by decide +kernel
theorem dX4_agree_32 : decode cX4_agree 32 = .ok (.iload 4, 2) := by decide +kernel
theorem dX4_agree_34 : decode cX4_agree 34 = .ok (.putfield 152, 3) := by decide +kernel
theorem dX4_agree_37 : decode cX4_agree 37 = .ok (.aload 6, 2) := by decide +kernel
theorem dX4_agree_39 : decode cX4_agree 39 = .ok (.iload 5, 2) := by decide +kernel
theorem dX4_agree_41 : decode cX4_agree 41 = .ok (.putfield 155, 3) := by decide +kernel
theorem dX4_agree_44 : decode cX4_agree 44 = .ok (.return_, 1) := by decide +kernel
set_option maxRecDepth 20000 in
theorem ggX4_promise_X4_pairAt : GoodIn wsX4_promise wsX4_pairAt := goodIn_ca (goodIn_ca (goodIn_r _ [7, 8, 9, 10, 11, 12, 13, 14, 6, 15, 26, 27, 28, 29, 30, 31, 32] (by decide +kernel) (by decide +kernel)) (goodIn_sub (fun _ h => List.mem_cons_of_mem _ (List.mem_append_left _ (List.mem_append_right _ h))) (by decide +kernel))) (goodIn_sub (fun _ h => List.mem_cons_of_mem _ (List.mem_append_right _ h)) (by decide +kernel))
set_option maxRecDepth 20000 in
theorem gX4_promise_X4_pairAt : GoodIn wsX4_promise (wsV RX4 69 RX4 yX4_pairAt wsX4_pairAt) := goodIn_app (goodIn_of _ (by decide +kernel)) ggX4_promise_X4_pairAt
set_option maxRecDepth 20000 in
theorem ggX4_promise_X4_refuseOutside : GoodIn wsX4_promise wsX4_refuseOutside := goodIn_ca (goodIn_r _ [18, 10, 11] (by decide +kernel) (by decide +kernel)) (goodIn_sub (fun _ h => List.mem_cons_of_mem _ (List.mem_append_right _ h)) (by decide +kernel))
set_option maxRecDepth 20000 in
theorem gX4_promise_X4_refuseOutside : GoodIn wsX4_promise (va_wsS RX4 51 yX4_refuseOutside wsX4_refuseOutside) := goodIn_app (goodIn_of _ (by decide +kernel)) ggX4_promise_X4_refuseOutside
theorem dX4_promise_0 : decode cX4_promise 0 = .ok (.aload_n 0, 1) := by decide +kernel
theorem dX4_promise_1 : decode cX4_promise 1 = .ok (.iload_n 1, 1) := by decide +kernel
theorem dX4_promise_2 : decode cX4_promise 2 = .ok (.iload_n 2, 1) := by decide +kernel
theorem dX4_promise_3 : decode cX4_promise 3 = .ok (.invokevirtual 69, 3) := by decide +kernel
theorem dX4_promise_6 : decode cX4_promise 6 = .ok (.astore 4, 2) := by decide +kernel
theorem dX4_promise_8 : decode cX4_promise 8 = .ok (.iload_n 3, 1) := by decide +kernel
theorem dX4_promise_9 : decode cX4_promise 9 = .ok (.iconst 0, 1) := by decide +kernel
theorem dX4_promise_10 : decode cX4_promise 10 = .ok (.ldc 159, 2) := by decide +kernel
theorem dX4_promise_12 : decode cX4_promise 12 = .ok (.invokestatic 51, 3) := by decide +kernel
theorem dX4_promise_15 : decode cX4_promise 15 = .ok (.aload 4, 2) := by decide +kernel
theorem dX4_promise_17 : decode cX4_promise 17 = .ok (.getfield 160, 3) := by decide +kernel
theorem dX4_promise_20 : decode cX4_promise 20 = .ok (.istore 5, 2) := by decide +kernel
theorem dX4_promise_22 : decode cX4_promise 22 = .ok (.aload 4, 2) := by decide +kernel
theorem dX4_promise_24 : decode cX4_promise 24 = .ok (.iload_n 3, 1) := by decide +kernel
theorem dX4_promise_25 : decode cX4_promise 25 = .ok (.putfield 160, 3) := by decide +kernel
theorem dX4_promise_28 : decode cX4_promise 28 = .ok (.iload 5, 2) := by decide +kernel
theorem dX4_promise_30 : decode cX4_promise 30 = .ok (.ireturn, 1) := by decide +kernel
set_option maxRecDepth 20000 in
theorem ggX4_setRate_X4_operatorAt : GoodIn wsX4_setRate wsX4_operatorAt := goodIn_ca (goodIn_r _ [7, 8, 9, 10, 11, 12, 6, 13, 23, 24, 25, 26, 27, 28, 29] (by decide +kernel) (by decide +kernel)) (goodIn_sub (fun _ h => List.mem_cons_of_mem _ (List.mem_append_left _ (List.mem_append_right _ h))) (by decide +kernel))
set_option maxRecDepth 20000 in
theorem gX4_setRate_X4_operatorAt : GoodIn wsX4_setRate (wsV RX4 47 RX4 yX4_operatorAt wsX4_operatorAt) := goodIn_app (goodIn_of _ (by decide +kernel)) ggX4_setRate_X4_operatorAt
set_option maxRecDepth 20000 in
theorem ggX4_setRate_X4_refuseOutside : GoodIn wsX4_setRate wsX4_refuseOutside := goodIn_ca (goodIn_r _ [16, 17, 18] (by decide +kernel) (by decide +kernel)) (goodIn_sub (fun _ h => List.mem_cons_of_mem _ (List.mem_append_right _ h)) (by decide +kernel))
set_option maxRecDepth 20000 in
theorem gX4_setRate_X4_refuseOutside : GoodIn wsX4_setRate (va_wsS RX4 51 yX4_refuseOutside wsX4_refuseOutside) := goodIn_app (goodIn_of _ (by decide +kernel)) ggX4_setRate_X4_refuseOutside
theorem dX4_setRate_0 : decode cX4_setRate 0 = .ok (.aload_n 0, 1) := by decide +kernel
theorem dX4_setRate_1 : decode cX4_setRate 1 = .ok (.iload_n 1, 1) := by decide +kernel
theorem dX4_setRate_2 : decode cX4_setRate 2 = .ok (.invokevirtual 47, 3) := by decide +kernel
theorem dX4_setRate_5 : decode cX4_setRate 5 = .ok (.astore_n 3, 1) := by decide +kernel
theorem dX4_setRate_6 : decode cX4_setRate 6 = .ok (.iload_n 2, 1) := by decide +kernel
theorem dX4_setRate_7 : decode cX4_setRate 7 = .ok (.iconst 1, 1) := by decide +kernel
theorem dX4_setRate_8 : decode cX4_setRate 8 = .ok (.ldc 163, 2) := by decide +kernel
theorem dX4_setRate_10 : decode cX4_setRate 10 = .ok (.invokestatic 51, 3) := by decide +kernel
theorem dX4_setRate_13 : decode cX4_setRate 13 = .ok (.aload_n 3, 1) := by decide +kernel
theorem dX4_setRate_14 : decode cX4_setRate 14 = .ok (.getfield 164, 3) := by decide +kernel
theorem dX4_setRate_17 : decode cX4_setRate 17 = .ok (.istore 4, 2) := by decide +kernel
theorem dX4_setRate_19 : decode cX4_setRate 19 = .ok (.aload_n 3, 1) := by decide +kernel
theorem dX4_setRate_20 : decode cX4_setRate 20 = .ok (.iload_n 2, 1) := by decide +kernel
theorem dX4_setRate_21 : decode cX4_setRate 21 = .ok (.putfield 164, 3) := by decide +kernel
theorem dX4_setRate_24 : decode cX4_setRate 24 = .ok (.iload 4, 2) := by decide +kernel
theorem dX4_setRate_26 : decode cX4_setRate 26 = .ok (.ireturn, 1) := by decide +kernel
set_option maxRecDepth 20000 in
theorem ggX4_nextMonth_X4_giveBackUnanswered : GoodIn wsX4_nextMonth wsX4_giveBackUnanswered := goodIn_r _ [8, 9, 10, 11, 3, 12, 13, 14, 15, 16, 17, 18, 19, 20, 21, 22, 23, 24, 25, 26] (by decide +kernel) (by decide +kernel)
set_option maxRecDepth 20000 in
theorem gX4_nextMonth_X4_giveBackUnanswered : GoodIn wsX4_nextMonth (wsV RX4 169 RX4 yX4_giveBackUnanswered wsX4_giveBackUnanswered) := goodIn_app (goodIn_of _ (by decide +kernel)) ggX4_nextMonth_X4_giveBackUnanswered
theorem dX4_nextMonth_0 : decode cX4_nextMonth 0 = .ok (.aload_n 0, 1) := by decide +kernel
theorem dX4_nextMonth_1 : decode cX4_nextMonth 1 = .ok (.getfield 40, 3) := by decide +kernel
theorem dX4_nextMonth_4 : decode cX4_nextMonth 4 = .ok (.bipush 35, 2) := by decide +kernel
theorem dX4_nextMonth_6 : decode cX4_nextMonth 6 = .ok (.if_icmp .lt 13, 3) := by decide +kernel
theorem dX4_nextMonth_9 : decode cX4_nextMonth 9 = .ok (.new 73, 3) := by decide +kernel
theorem dX4_nextMonth_12 : decode cX4_nextMonth 12 = .ok (.dup, 1) := by decide +kernel
theorem dX4_nextMonth_13 : decode cX4_nextMonth 13 = .ok (.ldc 167, 2) := by decide +kernel
theorem dX4_nextMonth_15 : decode cX4_nextMonth 15 = .ok (.invokespecial 77, 3) := by decide +kernel
theorem dX4_nextMonth_18 : decode cX4_nextMonth 18 = .ok (.athrow, 1) := by decide +kernel
theorem dX4_nextMonth_19 : decode cX4_nextMonth 19 = .ok (.aload_n 0, 1) := by decide +kernel
theorem dX4_nextMonth_20 : decode cX4_nextMonth 20 = .ok (.dup, 1) := by decide +kernel
theorem dX4_nextMonth_21 : decode cX4_nextMonth 21 = .ok (.getfield 40, 3) := by decide +kernel
theorem dX4_nextMonth_24 : decode cX4_nextMonth 24 = .ok (.iconst 1, 1) := by decide +kernel
theorem dX4_nextMonth_25 : decode cX4_nextMonth 25 = .ok (.iadd, 1) := by decide +kernel
theorem dX4_nextMonth_26 : decode cX4_nextMonth 26 = .ok (.putfield 40, 3) := by decide +kernel
theorem dX4_nextMonth_29 : decode cX4_nextMonth 29 = .ok (.aload_n 0, 1) := by decide +kernel
theorem dX4_nextMonth_30 : decode cX4_nextMonth 30 = .ok (.invokevirtual 169, 3) := by decide +kernel
theorem dX4_nextMonth_33 : decode cX4_nextMonth 33 = .ok (.aload_n 0, 1) := by decide +kernel
theorem dX4_nextMonth_34 : decode cX4_nextMonth 34 = .ok (.getfield 40, 3) := by decide +kernel
theorem dX4_nextMonth_37 : decode cX4_nextMonth 37 = .ok (.ireturn, 1) := by decide +kernel
theorem dX4_month_0 : decode cX4_month 0 = .ok (.aload_n 0, 1) := by decide +kernel
theorem dX4_month_1 : decode cX4_month 1 = .ok (.getfield 40, 3) := by decide +kernel
theorem dX4_month_4 : decode cX4_month 4 = .ok (.ireturn, 1) := by decide +kernel
set_option maxRecDepth 20000 in
theorem ggX4_owed_X4_pairAt : GoodIn wsX4_owed wsX4_pairAt := goodIn_ca (goodIn_ca (goodIn_r _ [6, 7, 8, 9, 10, 11, 12, 13, 5, 14, 50, 51, 52, 53, 54, 55, 56] (by decide +kernel) (by decide +kernel)) (goodIn_sub (fun _ h => List.mem_cons_of_mem _ (List.mem_append_left _ (List.mem_append_right _ h))) (by decide +kernel))) (goodIn_sub (fun _ h => List.mem_cons_of_mem _ (List.mem_append_right _ h)) (by decide +kernel))
set_option maxRecDepth 20000 in
theorem gX4_owed_X4_pairAt : GoodIn wsX4_owed (wsV RX4 69 RX4 yX4_pairAt wsX4_pairAt) := goodIn_app (goodIn_of _ (by decide +kernel)) ggX4_owed_X4_pairAt
set_option maxRecDepth 20000 in
theorem ggX4_owed_X4_refuseOutside : GoodIn wsX4_owed wsX4_refuseOutside := goodIn_ca (goodIn_r _ [17, 9, 10] (by decide +kernel) (by decide +kernel)) (goodIn_sub (fun _ h => List.mem_cons_of_mem _ (List.mem_append_right _ h)) (by decide +kernel))
set_option maxRecDepth 20000 in
theorem gX4_owed_X4_refuseOutside : GoodIn wsX4_owed (va_wsS RX4 51 yX4_refuseOutside wsX4_refuseOutside) := goodIn_app (goodIn_of _ (by decide +kernel)) ggX4_owed_X4_refuseOutside
set_option maxRecDepth 20000 in
theorem ggX4_owed_X4_amountOfMonths : GoodIn wsX4_owed wsX4_amountOfMonths := goodIn_r _ [21, 22, 23, 24, 25, 26, 27, 28, 29, 30, 31, 32, 33, 34, 35, 36, 37, 38, 39, 40, 5, 41, 42, 43, 44, 45, 46, 47, 48, 49, 50, 51, 52, 53, 54, 55, 56, 57, 58, 59, 60, 61, 62, 63, 64, 65, 66, 67, 68, 69, 70, 71, 72, 73, 74, 75] (by decide +kernel) (by decide +kernel)
set_option maxRecDepth 20000 in
theorem gX4_owed_X4_amountOfMonths : GoodIn wsX4_owed (wsV RX4 172 RX4 yX4_amountOfMonths wsX4_amountOfMonths) := goodIn_app (goodIn_of _ (by decide +kernel)) ggX4_owed_X4_amountOfMonths
theorem dX4_owed_0 : decode cX4_owed 0 = .ok (.aload_n 0, 1) := by decide +kernel
theorem dX4_owed_1 : decode cX4_owed 1 = .ok (.iload_n 1, 1) := by decide +kernel
theorem dX4_owed_2 : decode cX4_owed 2 = .ok (.iload_n 2, 1) := by decide +kernel
theorem dX4_owed_3 : decode cX4_owed 3 = .ok (.invokevirtual 69, 3) := by decide +kernel
theorem dX4_owed_6 : decode cX4_owed 6 = .ok (.astore 4, 2) := by decide +kernel
theorem dX4_owed_8 : decode cX4_owed 8 = .ok (.iload_n 3, 1) := by decide +kernel
theorem dX4_owed_9 : decode cX4_owed 9 = .ok (.iconst 0, 1) := by decide +kernel
theorem dX4_owed_10 : decode cX4_owed 10 = .ok (.aload_n 0, 1) := by decide +kernel
theorem dX4_owed_11 : decode cX4_owed 11 = .ok (.getfield 40, 3) := by decide +kernel
theorem dX4_owed_14 : decode cX4_owed 14 = .ok (.invokestatic 51, 3) := by decide +kernel
theorem dX4_owed_17 : decode cX4_owed 17 = .ok (.aload_n 0, 1) := by decide +kernel
theorem dX4_owed_18 : decode cX4_owed 18 = .ok (.aload 4, 2) := by decide +kernel
theorem dX4_owed_20 : decode cX4_owed 20 = .ok (.iload_n 3, 1) := by decide +kernel
theorem dX4_owed_21 : decode cX4_owed 21 = .ok (.iload_n 3, 1) := by decide +kernel
theorem dX4_owed_22 : decode cX4_owed 22 = .ok (.invokevirtual 172, 3) := by decide +kernel
theorem dX4_owed_25 : decode cX4_owed 25 = .ok (.lreturn, 1) := by decide +kernel
set_option maxRecDepth 20000 in
theorem ggX4_shortfall_X4_pairAt : GoodIn wsX4_shortfall wsX4_pairAt := goodIn_ca (goodIn_ca (goodIn_r _ [13, 14, 15, 16, 17, 18, 19, 20, 12, 21, 58, 59, 60, 61, 62, 63, 64] (by decide +kernel) (by decide +kernel)) (goodIn_sub (fun _ h => List.mem_cons_of_mem _ (List.mem_append_left _ (List.mem_append_right _ h))) (by decide +kernel))) (goodIn_sub (fun _ h => List.mem_cons_of_mem _ (List.mem_append_right _ h)) (by decide +kernel))
set_option maxRecDepth 20000 in
theorem gX4_shortfall_X4_pairAt : GoodIn wsX4_shortfall (wsV RX4 69 RX4 yX4_pairAt wsX4_pairAt) := goodIn_app (goodIn_of _ (by decide +kernel)) ggX4_shortfall_X4_pairAt
set_option maxRecDepth 20000 in
theorem ggX4_shortfall_X4_refuseOutside : GoodIn wsX4_shortfall wsX4_refuseOutside := goodIn_ca (goodIn_r _ [24, 16, 17] (by decide +kernel) (by decide +kernel)) (goodIn_sub (fun _ h => List.mem_cons_of_mem _ (List.mem_append_right _ h)) (by decide +kernel))
set_option maxRecDepth 20000 in
theorem gX4_shortfall_X4_refuseOutside : GoodIn wsX4_shortfall (va_wsS RX4 51 yX4_refuseOutside wsX4_refuseOutside) := goodIn_app (goodIn_of _ (by decide +kernel)) ggX4_shortfall_X4_refuseOutside
set_option maxRecDepth 20000 in
theorem ggX4_shortfall_X4_yearOf : GoodIn wsX4_shortfall wsX4_yearOf := goodIn_r _ [27] (by decide +kernel) (by decide +kernel)
set_option maxRecDepth 20000 in
theorem gX4_shortfall_X4_yearOf : GoodIn wsX4_shortfall (va_wsS RX4 176 yX4_yearOf wsX4_yearOf) := goodIn_app (goodIn_of _ (by decide +kernel)) ggX4_shortfall_X4_yearOf
set_option maxRecDepth 20000 in
theorem ggX4_shortfall_X4_amountOfMonths : GoodIn wsX4_shortfall wsX4_amountOfMonths := goodIn_r _ [31, 32, 33, 34, 35, 36, 37, 38, 39, 40, 41, 42, 43, 44, 45, 46, 47, 48, 49, 26, 12, 27, 50, 51, 52, 53, 54, 55, 56, 57, 58, 59, 60, 61, 62, 63, 64, 72, 73, 74, 75, 76, 77, 78, 79, 80, 81, 82, 83, 65, 66, 67, 68, 69, 70, 71] (by decide +kernel) (by decide +kernel)
set_option maxRecDepth 20000 in
theorem gX4_shortfall_X4_amountOfMonths : GoodIn wsX4_shortfall (wsV RX4 172 RX4 yX4_amountOfMonths wsX4_amountOfMonths) := goodIn_app (goodIn_of _ (by decide +kernel)) ggX4_shortfall_X4_amountOfMonths
theorem dX4_shortfall_0 : decode cX4_shortfall 0 = .ok (.aload_n 0, 1) := by decide +kernel
theorem dX4_shortfall_1 : decode cX4_shortfall 1 = .ok (.iload_n 1, 1) := by decide +kernel
theorem dX4_shortfall_2 : decode cX4_shortfall 2 = .ok (.iload_n 2, 1) := by decide +kernel
theorem dX4_shortfall_3 : decode cX4_shortfall 3 = .ok (.invokevirtual 69, 3) := by decide +kernel
theorem dX4_shortfall_6 : decode cX4_shortfall 6 = .ok (.astore 4, 2) := by decide +kernel
theorem dX4_shortfall_8 : decode cX4_shortfall 8 = .ok (.iload_n 3, 1) := by decide +kernel
theorem dX4_shortfall_9 : decode cX4_shortfall 9 = .ok (.iconst 0, 1) := by decide +kernel
theorem dX4_shortfall_10 : decode cX4_shortfall 10 = .ok (.iconst 1, 1) := by decide +kernel
theorem dX4_shortfall_11 : decode cX4_shortfall 11 = .ok (.invokestatic 51, 3) := by decide +kernel
theorem dX4_shortfall_14 : decode cX4_shortfall 14 = .ok (.aload_n 0, 1) := by decide +kernel
theorem dX4_shortfall_15 : decode cX4_shortfall 15 = .ok (.getfield 40, 3) := by decide +kernel
theorem dX4_shortfall_18 : decode cX4_shortfall 18 = .ok (.invokestatic 176, 3) := by decide +kernel
theorem dX4_shortfall_21 : decode cX4_shortfall 21 = .ok (.iload_n 3, 1) := by decide +kernel
theorem dX4_shortfall_22 : decode cX4_shortfall 22 = .ok (.if_icmp .gt 13, 3) := by decide +kernel
theorem dX4_shortfall_25 : decode cX4_shortfall 25 = .ok (.new 73, 3) := by decide +kernel
theorem dX4_shortfall_28 : decode cX4_shortfall 28 = .ok (.dup, 1) := by decide +kernel
theorem dX4_shortfall_29 : decode cX4_shortfall 29 = .ok (.ldc 179, 2) := by decide +kernel
theorem dX4_shortfall_31 : decode cX4_shortfall 31 = .ok (.invokespecial 77, 3) := by decide +kernel
theorem dX4_shortfall_34 : decode cX4_shortfall 34 = .ok (.athrow, 1) := by decide +kernel
theorem dX4_shortfall_35 : decode cX4_shortfall 35 = .ok (.iload_n 3, 1) := by decide +kernel
theorem dX4_shortfall_36 : decode cX4_shortfall 36 = .ok (.bipush 12, 2) := by decide +kernel
theorem dX4_shortfall_38 : decode cX4_shortfall 38 = .ok (.imul, 1) := by decide +kernel
theorem dX4_shortfall_39 : decode cX4_shortfall 39 = .ok (.istore 5, 2) := by decide +kernel
theorem dX4_shortfall_41 : decode cX4_shortfall 41 = .ok (.lconst 0, 1) := by decide +kernel
theorem dX4_shortfall_42 : decode cX4_shortfall 42 = .ok (.aload 4, 2) := by decide +kernel
theorem dX4_shortfall_44 : decode cX4_shortfall 44 = .ok (.getfield 160, 3) := by decide +kernel
theorem dX4_shortfall_47 : decode cX4_shortfall 47 = .ok (.i2l, 1) := by decide +kernel
theorem dX4_shortfall_48 : decode cX4_shortfall 48 = .ok (.aload_n 0, 1) := by decide +kernel
theorem dX4_shortfall_49 : decode cX4_shortfall 49 = .ok (.aload 4, 2) := by decide +kernel
theorem dX4_shortfall_51 : decode cX4_shortfall 51 = .ok (.iload 5, 2) := by decide +kernel
theorem dX4_shortfall_53 : decode cX4_shortfall 53 = .ok (.iload 5, 2) := by decide +kernel
theorem dX4_shortfall_55 : decode cX4_shortfall 55 = .ok (.bipush 12, 2) := by decide +kernel
theorem dX4_shortfall_57 : decode cX4_shortfall 57 = .ok (.iadd, 1) := by decide +kernel
theorem dX4_shortfall_58 : decode cX4_shortfall 58 = .ok (.iconst 1, 1) := by decide +kernel
theorem dX4_shortfall_59 : decode cX4_shortfall 59 = .ok (.isub, 1) := by decide +kernel
theorem dX4_shortfall_60 : decode cX4_shortfall 60 = .ok (.invokevirtual 172, 3) := by decide +kernel
theorem dX4_shortfall_63 : decode cX4_shortfall 63 = .ok (.lsub, 1) := by decide +kernel
theorem dX4_shortfall_64 : decode cX4_shortfall 64 = .ok (.invokestatic 181, 3) := by decide +kernel
theorem dX4_shortfall_67 : decode cX4_shortfall 67 = .ok (.lreturn, 1) := by decide +kernel
set_option maxRecDepth 20000 in
theorem ggX4_net_X4_operatorAt : GoodIn wsX4_net wsX4_operatorAt := goodIn_ca (goodIn_r _ [7, 8, 9, 10, 11, 12, 6, 13, 58, 59, 60, 61, 62, 63, 64] (by decide +kernel) (by decide +kernel)) (goodIn_sub (fun _ h => List.mem_cons_of_mem _ (List.mem_append_left _ (List.mem_append_right _ h))) (by decide +kernel))
set_option maxRecDepth 20000 in
theorem gX4_net_X4_operatorAt : GoodIn wsX4_net (wsV RX4 47 RX4 yX4_operatorAt wsX4_operatorAt) := goodIn_app (goodIn_of _ (by decide +kernel)) ggX4_net_X4_operatorAt
set_option maxRecDepth 20000 in
theorem ggX4_net_X4_refuseOutside : GoodIn wsX4_net wsX4_refuseOutside := goodIn_ca (goodIn_r _ [16, 17, 18] (by decide +kernel) (by decide +kernel)) (goodIn_sub (fun _ h => List.mem_cons_of_mem _ (List.mem_append_right _ h)) (by decide +kernel))
set_option maxRecDepth 20000 in
theorem gX4_net_X4_refuseOutside : GoodIn wsX4_net (va_wsS RX4 51 yX4_refuseOutside wsX4_refuseOutside) := goodIn_app (goodIn_of _ (by decide +kernel)) ggX4_net_X4_refuseOutside
set_option maxRecDepth 20000 in
theorem ggX4_net_X4_unitsOfMonth : GoodIn wsX4_net wsX4_unitsOfMonth := goodIn_r _ [22, 23, 24, 25, 26, 27, 28, 6, 29, 30, 31, 32, 33, 34, 35, 36, 37, 38, 39, 40, 41, 42, 43, 44, 45, 46, 47, 48, 49, 50, 51, 52, 53, 54, 55, 56, 57, 65, 66, 67, 68, 69, 70, 71, 72, 73, 74, 75, 58, 59, 60, 61, 62, 63, 64, 76, 77, 78, 79, 80, 81, 82, 83, 84, 85, 86, 87] (by decide +kernel) (by decide +kernel)
set_option maxRecDepth 20000 in
theorem gX4_net_X4_unitsOfMonth : GoodIn wsX4_net (wsV RX4 184 RX4 yX4_unitsOfMonth wsX4_unitsOfMonth) := goodIn_app (goodIn_of _ (by decide +kernel)) ggX4_net_X4_unitsOfMonth
theorem dX4_net_0 : decode cX4_net 0 = .ok (.aload_n 0, 1) := by decide +kernel
theorem dX4_net_1 : decode cX4_net 1 = .ok (.iload_n 1, 1) := by decide +kernel
theorem dX4_net_2 : decode cX4_net 2 = .ok (.invokevirtual 47, 3) := by decide +kernel
theorem dX4_net_5 : decode cX4_net 5 = .ok (.pop, 1) := by decide +kernel
theorem dX4_net_6 : decode cX4_net 6 = .ok (.iload_n 2, 1) := by decide +kernel
theorem dX4_net_7 : decode cX4_net 7 = .ok (.iconst 0, 1) := by decide +kernel
theorem dX4_net_8 : decode cX4_net 8 = .ok (.aload_n 0, 1) := by decide +kernel
theorem dX4_net_9 : decode cX4_net 9 = .ok (.getfield 40, 3) := by decide +kernel
theorem dX4_net_12 : decode cX4_net 12 = .ok (.invokestatic 51, 3) := by decide +kernel
theorem dX4_net_15 : decode cX4_net 15 = .ok (.lconst 0, 1) := by decide +kernel
theorem dX4_net_16 : decode cX4_net 16 = .ok (.lstore_n 3, 1) := by decide +kernel
theorem dX4_net_17 : decode cX4_net 17 = .ok (.iconst 0, 1) := by decide +kernel
theorem dX4_net_18 : decode cX4_net 18 = .ok (.istore 5, 2) := by decide +kernel
theorem dX4_net_20 : decode cX4_net 20 = .ok (.iload 5, 2) := by decide +kernel
theorem dX4_net_22 : decode cX4_net 22 = .ok (.iconst 4, 1) := by decide +kernel
theorem dX4_net_23 : decode cX4_net 23 = .ok (.if_icmp .ge 53, 3) := by decide +kernel
theorem dX4_net_26 : decode cX4_net 26 = .ok (.iload 5, 2) := by decide +kernel
theorem dX4_net_28 : decode cX4_net 28 = .ok (.iload_n 1, 1) := by decide +kernel
theorem dX4_net_29 : decode cX4_net 29 = .ok (.if_icmp .eq 41, 3) := by decide +kernel
theorem dX4_net_32 : decode cX4_net 32 = .ok (.lload_n 3, 1) := by decide +kernel
theorem dX4_net_33 : decode cX4_net 33 = .ok (.aload_n 0, 1) := by decide +kernel
theorem dX4_net_34 : decode cX4_net 34 = .ok (.aload_n 0, 1) := by decide +kernel
theorem dX4_net_35 : decode cX4_net 35 = .ok (.getfield 17, 3) := by decide +kernel
theorem dX4_net_38 : decode cX4_net 38 = .ok (.iload_n 1, 1) := by decide +kernel
theorem dX4_net_39 : decode cX4_net 39 = .ok (.iconst 4, 1) := by decide +kernel
theorem dX4_net_40 : decode cX4_net 40 = .ok (.imul, 1) := by decide +kernel
theorem dX4_net_41 : decode cX4_net 41 = .ok (.iload 5, 2) := by decide +kernel
theorem dX4_net_43 : decode cX4_net 43 = .ok (.iadd, 1) := by decide +kernel
theorem dX4_net_44 : decode cX4_net 44 = .ok (.aaload, 1) := by decide +kernel
theorem dX4_net_45 : decode cX4_net 45 = .ok (.iload_n 2, 1) := by decide +kernel
theorem dX4_net_46 : decode cX4_net 46 = .ok (.invokevirtual 184, 3) := by decide +kernel
theorem dX4_net_49 : decode cX4_net 49 = .ok (.ladd, 1) := by decide +kernel
theorem dX4_net_50 : decode cX4_net 50 = .ok (.lstore_n 3, 1) := by decide +kernel
theorem dX4_net_51 : decode cX4_net 51 = .ok (.lload_n 3, 1) := by decide +kernel
theorem dX4_net_52 : decode cX4_net 52 = .ok (.aload_n 0, 1) := by decide +kernel
theorem dX4_net_53 : decode cX4_net 53 = .ok (.aload_n 0, 1) := by decide +kernel
theorem dX4_net_54 : decode cX4_net 54 = .ok (.getfield 17, 3) := by decide +kernel
theorem dX4_net_57 : decode cX4_net 57 = .ok (.iload 5, 2) := by decide +kernel
theorem dX4_net_59 : decode cX4_net 59 = .ok (.iconst 4, 1) := by decide +kernel
theorem dX4_net_60 : decode cX4_net 60 = .ok (.imul, 1) := by decide +kernel
theorem dX4_net_61 : decode cX4_net 61 = .ok (.iload_n 1, 1) := by decide +kernel
theorem dX4_net_62 : decode cX4_net 62 = .ok (.iadd, 1) := by decide +kernel
theorem dX4_net_63 : decode cX4_net 63 = .ok (.aaload, 1) := by decide +kernel
theorem dX4_net_64 : decode cX4_net 64 = .ok (.iload_n 2, 1) := by decide +kernel
theorem dX4_net_65 : decode cX4_net 65 = .ok (.invokevirtual 184, 3) := by decide +kernel
theorem dX4_net_68 : decode cX4_net 68 = .ok (.lsub, 1) := by decide +kernel
theorem dX4_net_69 : decode cX4_net 69 = .ok (.lstore_n 3, 1) := by decide +kernel
theorem dX4_net_70 : decode cX4_net 70 = .ok (.iinc 5 1, 3) := by decide +kernel
theorem dX4_net_73 : decode cX4_net 73 = .ok (.goto (-53), 3) := by decide +kernel
theorem dX4_net_76 : decode cX4_net 76 = .ok (.lload_n 3, 1) := by decide +kernel
theorem dX4_net_77 : decode cX4_net 77 = .ok (.lreturn, 1) := by decide +kernel
theorem dX4_isOperator_0 : decode cX4_isOperator 0 = .ok (.iload_n 0, 1) := by decide +kernel
theorem dX4_isOperator_1 : decode cX4_isOperator 1 = .ok (.ifCond .lt 12, 3) := by decide +kernel
theorem dX4_isOperator_4 : decode cX4_isOperator 4 = .ok (.iload_n 0, 1) := by decide +kernel
theorem dX4_isOperator_5 : decode cX4_isOperator 5 = .ok (.iconst 4, 1) := by decide +kernel
theorem dX4_isOperator_6 : decode cX4_isOperator 6 = .ok (.if_icmp .ge 7, 3) := by decide +kernel
theorem dX4_isOperator_9 : decode cX4_isOperator 9 = .ok (.iconst 1, 1) := by decide +kernel
theorem dX4_isOperator_10 : decode cX4_isOperator 10 = .ok (.goto 4, 3) := by decide +kernel
theorem dX4_isOperator_13 : decode cX4_isOperator 13 = .ok (.iconst 0, 1) := by decide +kernel
theorem dX4_isOperator_14 : decode cX4_isOperator 14 = .ok (.ireturn, 1) := by decide +kernel
theorem dX4_yearOf_0 : decode cX4_yearOf 0 = .ok (.iload_n 0, 1) := by decide +kernel
theorem dX4_yearOf_1 : decode cX4_yearOf 1 = .ok (.bipush 12, 2) := by decide +kernel
theorem dX4_yearOf_3 : decode cX4_yearOf 3 = .ok (.idiv, 1) := by decide +kernel
theorem dX4_yearOf_4 : decode cX4_yearOf 4 = .ok (.ireturn, 1) := by decide +kernel
theorem dX4_refuseOutside_0 : decode cX4_refuseOutside 0 = .ok (.iload_n 0, 1) := by decide +kernel
theorem dX4_refuseOutside_1 : decode cX4_refuseOutside 1 = .ok (.iload_n 1, 1) := by decide +kernel
theorem dX4_refuseOutside_2 : decode cX4_refuseOutside 2 = .ok (.if_icmp .lt 8, 3) := by decide +kernel
theorem dX4_refuseOutside_5 : decode cX4_refuseOutside 5 = .ok (.iload_n 0, 1) := by decide +kernel
theorem dX4_refuseOutside_6 : decode cX4_refuseOutside 6 = .ok (.iload_n 2, 1) := by decide +kernel
theorem dX4_refuseOutside_7 : decode cX4_refuseOutside 7 = .ok (.if_icmp .le 13, 3) := by decide +kernel
theorem dX4_refuseOutside_10 : decode cX4_refuseOutside 10 = .ok (.new 188, 3) := by decide +kernel
theorem dX4_refuseOutside_13 : decode cX4_refuseOutside 13 = .ok (.dup, 1) := by decide +kernel
theorem dX4_refuseOutside_14 : decode cX4_refuseOutside 14 = .ok (.ldc 190, 2) := by decide +kernel
theorem dX4_refuseOutside_16 : decode cX4_refuseOutside 16 = .ok (.invokespecial 192, 3) := by decide +kernel
theorem dX4_refuseOutside_19 : decode cX4_refuseOutside 19 = .ok (.athrow, 1) := by decide +kernel
theorem dX4_refuseOutside_20 : decode cX4_refuseOutside 20 = .ok (.return_, 1) := by decide +kernel
set_option maxRecDepth 20000 in
theorem ggX4_operatorAt_X4_isOperator : GoodIn wsX4_operatorAt wsX4_isOperator := goodIn_r _ [7] (by decide +kernel) (by decide +kernel)
set_option maxRecDepth 20000 in
theorem gX4_operatorAt_X4_isOperator : GoodIn wsX4_operatorAt (va_wsS RX4 193 yX4_isOperator wsX4_isOperator) := goodIn_app (goodIn_of _ (by decide +kernel)) ggX4_operatorAt_X4_isOperator
theorem dX4_operatorAt_0 : decode cX4_operatorAt 0 = .ok (.iload_n 1, 1) := by decide +kernel
theorem dX4_operatorAt_1 : decode cX4_operatorAt 1 = .ok (.invokestatic 193, 3) := by decide +kernel
theorem dX4_operatorAt_4 : decode cX4_operatorAt 4 = .ok (.ifCond .ne 13, 3) := by decide +kernel
theorem dX4_operatorAt_7 : decode cX4_operatorAt 7 = .ok (.new 197, 3) := by decide +kernel
theorem dX4_operatorAt_10 : decode cX4_operatorAt 10 = .ok (.dup, 1) := by decide +kernel
theorem dX4_operatorAt_11 : decode cX4_operatorAt 11 = .ok (.ldc 199, 2) := by decide +kernel
theorem dX4_operatorAt_13 : decode cX4_operatorAt 13 = .ok (.invokespecial 201, 3) := by decide +kernel
theorem dX4_operatorAt_16 : decode cX4_operatorAt 16 = .ok (.athrow, 1) := by decide +kernel
theorem dX4_operatorAt_17 : decode cX4_operatorAt 17 = .ok (.aload_n 0, 1) := by decide +kernel
theorem dX4_operatorAt_18 : decode cX4_operatorAt 18 = .ok (.getfield 11, 3) := by decide +kernel
theorem dX4_operatorAt_21 : decode cX4_operatorAt 21 = .ok (.iload_n 1, 1) := by decide +kernel
theorem dX4_operatorAt_22 : decode cX4_operatorAt 22 = .ok (.aaload, 1) := by decide +kernel
theorem dX4_operatorAt_23 : decode cX4_operatorAt 23 = .ok (.areturn, 1) := by decide +kernel
set_option maxRecDepth 20000 in
theorem ggX4_pairAt_X4_isOperator : GoodIn wsX4_pairAt wsX4_isOperator := goodIn_r _ [9] (by decide +kernel) (by decide +kernel)
set_option maxRecDepth 20000 in
theorem gX4_pairAt_X4_isOperator : GoodIn wsX4_pairAt (va_wsS RX4 193 yX4_isOperator wsX4_isOperator) := goodIn_app (goodIn_of _ (by decide +kernel)) ggX4_pairAt_X4_isOperator
theorem dX4_pairAt_0 : decode cX4_pairAt 0 = .ok (.iload_n 1, 1) := by decide +kernel
theorem dX4_pairAt_1 : decode cX4_pairAt 1 = .ok (.invokestatic 193, 3) := by decide +kernel
theorem dX4_pairAt_4 : decode cX4_pairAt 4 = .ok (.ifCond .eq 10, 3) := by decide +kernel
theorem dX4_pairAt_7 : decode cX4_pairAt 7 = .ok (.iload_n 2, 1) := by decide +kernel
theorem dX4_pairAt_8 : decode cX4_pairAt 8 = .ok (.invokestatic 193, 3) := by decide +kernel
theorem dX4_pairAt_11 : decode cX4_pairAt 11 = .ok (.ifCond .ne 13, 3) := by decide +kernel
theorem dX4_pairAt_14 : decode cX4_pairAt 14 = .ok (.new 197, 3) := by decide +kernel
theorem dX4_pairAt_17 : decode cX4_pairAt 17 = .ok (.dup, 1) := by decide +kernel
theorem dX4_pairAt_18 : decode cX4_pairAt 18 = .ok (.ldc 199, 2) := by decide +kernel
theorem dX4_pairAt_20 : decode cX4_pairAt 20 = .ok (.invokespecial 201, 3) := by decide +kernel
theorem dX4_pairAt_23 : decode cX4_pairAt 23 = .ok (.athrow, 1) := by decide +kernel
theorem dX4_pairAt_24 : decode cX4_pairAt 24 = .ok (.iload_n 1, 1) := by decide +kernel
theorem dX4_pairAt_25 : decode cX4_pairAt 25 = .ok (.iload_n 2, 1) := by decide +kernel
theorem dX4_pairAt_26 : decode cX4_pairAt 26 = .ok (.if_icmp .ne 13, 3) := by decide +kernel
theorem dX4_pairAt_29 : decode cX4_pairAt 29 = .ok (.new 188, 3) := by decide +kernel
theorem dX4_pairAt_32 : decode cX4_pairAt 32 = .ok (.dup, 1) := by decide +kernel
theorem dX4_pairAt_33 : decode cX4_pairAt 33 = .ok (.ldc 202, 2) := by decide +kernel
theorem dX4_pairAt_35 : decode cX4_pairAt 35 = .ok (.invokespecial 192, 3) := by decide +kernel
theorem dX4_pairAt_38 : decode cX4_pairAt 38 = .ok (.athrow, 1) := by decide +kernel
theorem dX4_pairAt_39 : decode cX4_pairAt 39 = .ok (.aload_n 0, 1) := by decide +kernel
theorem dX4_pairAt_40 : decode cX4_pairAt 40 = .ok (.getfield 17, 3) := by decide +kernel
theorem dX4_pairAt_43 : decode cX4_pairAt 43 = .ok (.iload_n 1, 1) := by decide +kernel
theorem dX4_pairAt_44 : decode cX4_pairAt 44 = .ok (.iconst 4, 1) := by decide +kernel
theorem dX4_pairAt_45 : decode cX4_pairAt 45 = .ok (.imul, 1) := by decide +kernel
theorem dX4_pairAt_46 : decode cX4_pairAt 46 = .ok (.iload_n 2, 1) := by decide +kernel
theorem dX4_pairAt_47 : decode cX4_pairAt 47 = .ok (.iadd, 1) := by decide +kernel
theorem dX4_pairAt_48 : decode cX4_pairAt 48 = .ok (.aaload, 1) := by decide +kernel
theorem dX4_pairAt_49 : decode cX4_pairAt 49 = .ok (.areturn, 1) := by decide +kernel
theorem dX4_fileAt_0 : decode cX4_fileAt 0 = .ok (.iload_n 1, 1) := by decide +kernel
theorem dX4_fileAt_1 : decode cX4_fileAt 1 = .ok (.ifCond .lt 11, 3) := by decide +kernel
theorem dX4_fileAt_4 : decode cX4_fileAt 4 = .ok (.iload_n 1, 1) := by decide +kernel
theorem dX4_fileAt_5 : decode cX4_fileAt 5 = .ok (.aload_n 0, 1) := by decide +kernel
theorem dX4_fileAt_6 : decode cX4_fileAt 6 = .ok (.getfield 27, 3) := by decide +kernel
theorem dX4_fileAt_9 : decode cX4_fileAt 9 = .ok (.if_icmp .lt 13, 3) := by decide +kernel
theorem dX4_fileAt_12 : decode cX4_fileAt 12 = .ok (.new 197, 3) := by decide +kernel
theorem dX4_fileAt_15 : decode cX4_fileAt 15 = .ok (.dup, 1) := by decide +kernel
theorem dX4_fileAt_16 : decode cX4_fileAt 16 = .ok (.ldc 204, 2) := by decide +kernel
theorem dX4_fileAt_18 : decode cX4_fileAt 18 = .ok (.invokespecial 201, 3) := by decide +kernel
theorem dX4_fileAt_21 : decode cX4_fileAt 21 = .ok (.athrow, 1) := by decide +kernel
theorem dX4_fileAt_22 : decode cX4_fileAt 22 = .ok (.aload_n 0, 1) := by decide +kernel
theorem dX4_fileAt_23 : decode cX4_fileAt 23 = .ok (.getfield 23, 3) := by decide +kernel
theorem dX4_fileAt_26 : decode cX4_fileAt 26 = .ok (.iload_n 1, 1) := by decide +kernel
theorem dX4_fileAt_27 : decode cX4_fileAt 27 = .ok (.aaload, 1) := by decide +kernel
theorem dX4_fileAt_28 : decode cX4_fileAt 28 = .ok (.areturn, 1) := by decide +kernel
theorem dX4_callAt_0 : decode cX4_callAt 0 = .ok (.iload_n 1, 1) := by decide +kernel
theorem dX4_callAt_1 : decode cX4_callAt 1 = .ok (.ifCond .lt 11, 3) := by decide +kernel
theorem dX4_callAt_4 : decode cX4_callAt 4 = .ok (.iload_n 1, 1) := by decide +kernel
theorem dX4_callAt_5 : decode cX4_callAt 5 = .ok (.aload_n 0, 1) := by decide +kernel
theorem dX4_callAt_6 : decode cX4_callAt 6 = .ok (.getfield 37, 3) := by decide +kernel
theorem dX4_callAt_9 : decode cX4_callAt 9 = .ok (.if_icmp .lt 13, 3) := by decide +kernel
theorem dX4_callAt_12 : decode cX4_callAt 12 = .ok (.new 197, 3) := by decide +kernel
theorem dX4_callAt_15 : decode cX4_callAt 15 = .ok (.dup, 1) := by decide +kernel
theorem dX4_callAt_16 : decode cX4_callAt 16 = .ok (.ldc 206, 2) := by decide +kernel
theorem dX4_callAt_18 : decode cX4_callAt 18 = .ok (.invokespecial 201, 3) := by decide +kernel
theorem dX4_callAt_21 : decode cX4_callAt 21 = .ok (.athrow, 1) := by decide +kernel
theorem dX4_callAt_22 : decode cX4_callAt 22 = .ok (.aload_n 0, 1) := by decide +kernel
theorem dX4_callAt_23 : decode cX4_callAt 23 = .ok (.getfield 33, 3) := by decide +kernel
theorem dX4_callAt_26 : decode cX4_callAt 26 = .ok (.iload_n 1, 1) := by decide +kernel
theorem dX4_callAt_27 : decode cX4_callAt 27 = .ok (.aaload, 1) := by decide +kernel
theorem dX4_callAt_28 : decode cX4_callAt 28 = .ok (.areturn, 1) := by decide +kernel
theorem dX4_waitingFile_0 : decode cX4_waitingFile 0 = .ok (.iconst 0, 1) := by decide +kernel
theorem dX4_waitingFile_1 : decode cX4_waitingFile 1 = .ok (.istore_n 3, 1) := by decide +kernel
theorem dX4_waitingFile_2 : decode cX4_waitingFile 2 = .ok (.iload_n 3, 1) := by decide +kernel
theorem dX4_waitingFile_3 : decode cX4_waitingFile 3 = .ok (.aload_n 0, 1) := by decide +kernel
theorem dX4_waitingFile_4 : decode cX4_waitingFile 4 = .ok (.getfield 27, 3) := by decide +kernel
theorem dX4_waitingFile_7 : decode cX4_waitingFile 7 = .ok (.if_icmp .ge 47, 3) := by decide +kernel
theorem dX4_waitingFile_10 : decode cX4_waitingFile 10 = .ok (.aload_n 0, 1) := by decide +kernel
theorem dX4_waitingFile_11 : decode cX4_waitingFile 11 = .ok (.getfield 23, 3) := by decide +kernel
theorem dX4_waitingFile_14 : decode cX4_waitingFile 14 = .ok (.iload_n 3, 1) := by decide +kernel
theorem dX4_waitingFile_15 : decode cX4_waitingFile 15 = .ok (.aaload, 1) := by decide +kernel
theorem dX4_waitingFile_16 : decode cX4_waitingFile 16 = .ok (.astore 4, 2) := by decide +kernel
theorem dX4_waitingFile_18 : decode cX4_waitingFile 18 = .ok (.aload 4, 2) := by decide +kernel
theorem dX4_waitingFile_20 : decode cX4_waitingFile 20 = .ok (.getfield 103, 3) := by decide +kernel
theorem dX4_waitingFile_23 : decode cX4_waitingFile 23 = .ok (.aload_n 1, 1) := by decide +kernel
theorem dX4_waitingFile_24 : decode cX4_waitingFile 24 = .ok (.if_acmp .ne 24, 3) := by decide +kernel
theorem dX4_waitingFile_27 : decode cX4_waitingFile 27 = .ok (.aload 4, 2) := by decide +kernel
theorem dX4_waitingFile_29 : decode cX4_waitingFile 29 = .ok (.getfield 88, 3) := by decide +kernel
theorem dX4_waitingFile_32 : decode cX4_waitingFile 32 = .ok (.iconst 2, 1) := by decide +kernel
theorem dX4_waitingFile_33 : decode cX4_waitingFile 33 = .ok (.if_icmp .ne 15, 3) := by decide +kernel
theorem dX4_waitingFile_36 : decode cX4_waitingFile 36 = .ok (.aload 4, 2) := by decide +kernel
theorem dX4_waitingFile_38 : decode cX4_waitingFile 38 = .ok (.getfield 114, 3) := by decide +kernel
theorem dX4_waitingFile_41 : decode cX4_waitingFile 41 = .ok (.iload_n 2, 1) := by decide +kernel
theorem dX4_waitingFile_42 : decode cX4_waitingFile 42 = .ok (.if_icmp .ne 6, 3) := by decide +kernel
theorem dX4_waitingFile_45 : decode cX4_waitingFile 45 = .ok (.aload 4, 2) := by decide +kernel
theorem dX4_waitingFile_47 : decode cX4_waitingFile 47 = .ok (.areturn, 1) := by decide +kernel
theorem dX4_waitingFile_48 : decode cX4_waitingFile 48 = .ok (.iinc 3 1, 3) := by decide +kernel
theorem dX4_waitingFile_51 : decode cX4_waitingFile 51 = .ok (.goto (-49), 3) := by decide +kernel
theorem dX4_waitingFile_54 : decode cX4_waitingFile 54 = .ok (.aconst_null, 1) := by decide +kernel
theorem dX4_waitingFile_55 : decode cX4_waitingFile 55 = .ok (.areturn, 1) := by decide +kernel
set_option maxRecDepth 20000 in
theorem ggX4_lookAtAllFrom_X4_lookAt : GoodIn wsX4_lookAtAllFrom wsX4_lookAt := goodIn_r _ [7, 8, 9, 10, 11, 12, 13, 14, 6, 15, 16, 17, 18, 19, 20, 21, 22, 23, 24, 25, 26, 27, 28, 29, 30, 31, 32, 33, 34, 35, 36, 37, 38, 39, 40, 41, 42, 43, 44, 45, 46, 47, 48, 49, 50, 70, 71, 72, 73, 74, 75, 76, 58, 59, 60, 61, 62, 77, 78, 79, 80, 81, 82, 83, 63, 64, 65, 66, 67, 68, 69, 84, 85, 86, 87] (by decide +kernel) (by decide +kernel)
set_option maxRecDepth 20000 in
theorem gX4_lookAtAllFrom_X4_lookAt : GoodIn wsX4_lookAtAllFrom (wsV RX4 208 RX4 yX4_lookAt wsX4_lookAt) := goodIn_app (goodIn_of _ (by decide +kernel)) ggX4_lookAtAllFrom_X4_lookAt
set_option maxRecDepth 20000 in
theorem ggX4_lookAtAllFrom_X4_waitingFile : GoodIn wsX4_lookAtAllFrom wsX4_waitingFile := goodIn_r _ [54, 55, 56, 1, 10, 57, 70, 71, 72, 73, 74, 75, 76, 58, 59, 60, 61, 62] (by decide +kernel) (by decide +kernel)
set_option maxRecDepth 20000 in
theorem gX4_lookAtAllFrom_X4_waitingFile : GoodIn wsX4_lookAtAllFrom (wsV RX4 110 RX4 yX4_waitingFile wsX4_waitingFile) := goodIn_app (goodIn_of _ (by decide +kernel)) ggX4_lookAtAllFrom_X4_waitingFile
end
section
theorem dX4_lookAtAllFrom_0 : decode cX4_lookAtAllFrom 0 = .ok (.aload_n 1, 1) := by decide +kernel
theorem dX4_lookAtAllFrom_1 : decode cX4_lookAtAllFrom 1 = .ok (.getfield 103, 3) := by decide +kernel
theorem dX4_lookAtAllFrom_4 : decode cX4_lookAtAllFrom 4 = .ok (.astore_n 2, 1) := by decide +kernel
theorem dX4_lookAtAllFrom_5 : decode cX4_lookAtAllFrom 5 = .ok (.aload_n 1, 1) := by decide +kernel
theorem dX4_lookAtAllFrom_6 : decode cX4_lookAtAllFrom 6 = .ok (.astore_n 3, 1) := by decide +kernel
theorem dX4_lookAtAllFrom_7 : decode cX4_lookAtAllFrom 7 = .ok (.iconst 0, 1) := by decide +kernel
theorem dX4_lookAtAllFrom_8 : decode cX4_lookAtAllFrom 8 = .ok (.istore 4, 2) := by decide +kernel
theorem dX4_lookAtAllFrom_10 : decode cX4_lookAtAllFrom 10 = .ok (.iload 4, 2) := by decide +kernel
theorem dX4_lookAtAllFrom_12 : decode cX4_lookAtAllFrom 12 = .ok (.bipush 30, 2) := by decide +kernel
theorem dX4_lookAtAllFrom_14 : decode cX4_lookAtAllFrom 14 = .ok (.if_icmp .ge 38, 3) := by decide +kernel
theorem dX4_lookAtAllFrom_17 : decode cX4_lookAtAllFrom 17 = .ok (.aload_n 3, 1) := by decide +kernel
theorem dX4_lookAtAllFrom_18 : decode cX4_lookAtAllFrom 18 = .ok (.ifnull 34, 3) := by decide +kernel
theorem dX4_lookAtAllFrom_21 : decode cX4_lookAtAllFrom 21 = .ok (.aload_n 0, 1) := by decide +kernel
theorem dX4_lookAtAllFrom_22 : decode cX4_lookAtAllFrom 22 = .ok (.aload_n 3, 1) := by decide +kernel
theorem dX4_lookAtAllFrom_23 : decode cX4_lookAtAllFrom 23 = .ok (.invokevirtual 208, 3) := by decide +kernel
theorem dX4_lookAtAllFrom_26 : decode cX4_lookAtAllFrom 26 = .ok (.aload_n 2, 1) := by decide +kernel
theorem dX4_lookAtAllFrom_27 : decode cX4_lookAtAllFrom 27 = .ok (.dup, 1) := by decide +kernel
theorem dX4_lookAtAllFrom_28 : decode cX4_lookAtAllFrom 28 = .ok (.getfield 107, 3) := by decide +kernel
theorem dX4_lookAtAllFrom_31 : decode cX4_lookAtAllFrom 31 = .ok (.iconst 1, 1) := by decide +kernel
theorem dX4_lookAtAllFrom_32 : decode cX4_lookAtAllFrom 32 = .ok (.iadd, 1) := by decide +kernel
theorem dX4_lookAtAllFrom_33 : decode cX4_lookAtAllFrom 33 = .ok (.putfield 107, 3) := by decide +kernel
theorem dX4_lookAtAllFrom_36 : decode cX4_lookAtAllFrom 36 = .ok (.aload_n 0, 1) := by decide +kernel
theorem dX4_lookAtAllFrom_37 : decode cX4_lookAtAllFrom 37 = .ok (.aload_n 2, 1) := by decide +kernel
theorem dX4_lookAtAllFrom_38 : decode cX4_lookAtAllFrom 38 = .ok (.aload_n 2, 1) := by decide +kernel
theorem dX4_lookAtAllFrom_39 : decode cX4_lookAtAllFrom 39 = .ok (.getfield 107, 3) := by decide +kernel
theorem dX4_lookAtAllFrom_42 : decode cX4_lookAtAllFrom 42 = .ok (.invokevirtual 110, 3) := by decide +kernel
theorem dX4_lookAtAllFrom_45 : decode cX4_lookAtAllFrom 45 = .ok (.astore_n 3, 1) := by decide +kernel
theorem dX4_lookAtAllFrom_46 : decode cX4_lookAtAllFrom 46 = .ok (.iinc 4 1, 3) := by decide +kernel
theorem dX4_lookAtAllFrom_49 : decode cX4_lookAtAllFrom 49 = .ok (.goto (-39), 3) := by decide +kernel
theorem dX4_lookAtAllFrom_52 : decode cX4_lookAtAllFrom 52 = .ok (.return_, 1) := by decide +kernel
set_option maxRecDepth 20000 in
theorem ggX4_lookAt_X4_wrongCallsOf : GoodIn wsX4_lookAt wsX4_wrongCallsOf := goodIn_r _ [9, 10, 11, 12, 13, 14, 15, 16, 17, 18, 19, 20, 21, 22, 23, 24, 25, 26, 27, 28, 29, 30, 45, 46, 47, 48, 49, 50, 51, 57, 58, 59, 60, 61, 62, 63, 52, 53, 54, 55, 56, 64, 65, 66, 67, 68, 69, 70, 71, 72, 73, 74] (by decide +kernel) (by decide +kernel)
set_option maxRecDepth 20000 in
theorem gX4_lookAt_X4_wrongCallsOf : GoodIn wsX4_lookAt (wsV RX4 214 RX4 yX4_wrongCallsOf wsX4_wrongCallsOf) := goodIn_app (goodIn_of _ (by decide +kernel)) ggX4_lookAt_X4_wrongCallsOf
set_option maxRecDepth 20000 in
theorem ggX4_lookAt_X4_acceptRightCallsOf : GoodIn wsX4_lookAt wsX4_acceptRightCallsOf := goodIn_r _ [34, 10, 11, 12, 1, 13, 14, 15, 16, 17, 18, 19, 20, 21, 22, 23, 24, 25, 26, 27, 28, 29, 30, 35, 36, 37, 38, 39, 40, 41, 42, 43, 8, 44, 45, 46, 47, 48, 49, 50, 51, 57, 58, 59, 60, 61, 62, 63, 52, 53, 54, 55, 56, 64, 65, 66, 67, 68, 69, 70, 71, 72, 73, 74] (by decide +kernel) (by decide +kernel)
set_option maxRecDepth 20000 in
theorem gX4_lookAt_X4_acceptRightCallsOf : GoodIn wsX4_lookAt (wsV RX4 218 RX4 yX4_acceptRightCallsOf wsX4_acceptRightCallsOf) := goodIn_app (goodIn_of _ (by decide +kernel)) ggX4_lookAt_X4_acceptRightCallsOf
theorem dX4_lookAt_0 : decode cX4_lookAt 0 = .ok (.aload_n 0, 1) := by decide +kernel
theorem dX4_lookAt_1 : decode cX4_lookAt 1 = .ok (.getfield 40, 3) := by decide +kernel
theorem dX4_lookAt_4 : decode cX4_lookAt 4 = .ok (.aload_n 1, 1) := by decide +kernel
theorem dX4_lookAt_5 : decode cX4_lookAt 5 = .ok (.getfield 211, 3) := by decide +kernel
theorem dX4_lookAt_8 : decode cX4_lookAt 8 = .ok (.isub, 1) := by decide +kernel
theorem dX4_lookAt_9 : decode cX4_lookAt 9 = .ok (.iconst 2, 1) := by decide +kernel
theorem dX4_lookAt_10 : decode cX4_lookAt 10 = .ok (.if_icmp .le 11, 3) := by decide +kernel
theorem dX4_lookAt_13 : decode cX4_lookAt 13 = .ok (.aload_n 1, 1) := by decide +kernel
theorem dX4_lookAt_14 : decode cX4_lookAt 14 = .ok (.iconst 3, 1) := by decide +kernel
theorem dX4_lookAt_15 : decode cX4_lookAt 15 = .ok (.putfield 88, 3) := by decide +kernel
theorem dX4_lookAt_18 : decode cX4_lookAt 18 = .ok (.goto 35, 3) := by decide +kernel
theorem dX4_lookAt_21 : decode cX4_lookAt 21 = .ok (.aload_n 0, 1) := by decide +kernel
theorem dX4_lookAt_22 : decode cX4_lookAt 22 = .ok (.aload_n 1, 1) := by decide +kernel
theorem dX4_lookAt_23 : decode cX4_lookAt 23 = .ok (.invokevirtual 214, 3) := by decide +kernel
theorem dX4_lookAt_26 : decode cX4_lookAt 26 = .ok (.iconst 3, 1) := by decide +kernel
theorem dX4_lookAt_27 : decode cX4_lookAt 27 = .ok (.imul, 1) := by decide +kernel
theorem dX4_lookAt_28 : decode cX4_lookAt 28 = .ok (.aload_n 1, 1) := by decide +kernel
theorem dX4_lookAt_29 : decode cX4_lookAt 29 = .ok (.getfield 98, 3) := by decide +kernel
theorem dX4_lookAt_32 : decode cX4_lookAt 32 = .ok (.if_icmp .le 11, 3) := by decide +kernel
theorem dX4_lookAt_35 : decode cX4_lookAt 35 = .ok (.aload_n 1, 1) := by decide +kernel
theorem dX4_lookAt_36 : decode cX4_lookAt 36 = .ok (.iconst 4, 1) := by decide +kernel
theorem dX4_lookAt_37 : decode cX4_lookAt 37 = .ok (.putfield 88, 3) := by decide +kernel
theorem dX4_lookAt_40 : decode cX4_lookAt 40 = .ok (.goto 13, 3) := by decide +kernel
theorem dX4_lookAt_43 : decode cX4_lookAt 43 = .ok (.aload_n 1, 1) := by decide +kernel
theorem dX4_lookAt_44 : decode cX4_lookAt 44 = .ok (.iconst 5, 1) := by decide +kernel
theorem dX4_lookAt_45 : decode cX4_lookAt 45 = .ok (.putfield 88, 3) := by decide +kernel
theorem dX4_lookAt_48 : decode cX4_lookAt 48 = .ok (.aload_n 0, 1) := by decide +kernel
theorem dX4_lookAt_49 : decode cX4_lookAt 49 = .ok (.aload_n 1, 1) := by decide +kernel
theorem dX4_lookAt_50 : decode cX4_lookAt 50 = .ok (.invokevirtual 218, 3) := by decide +kernel
theorem dX4_lookAt_53 : decode cX4_lookAt 53 = .ok (.return_, 1) := by decide +kernel
set_option maxRecDepth 20000 in
theorem ggX4_wrongCallsOf_X0_isRight : GoodIn wsX4_wrongCallsOf wsX0_isRight := goodIn_r _ [8, 9, 10, 11, 12, 13, 14, 15, 16, 17, 18, 19, 20, 21, 29, 30, 31, 32, 33, 34, 35, 36, 37, 38, 39, 40, 41, 42, 43, 44, 45, 46, 47, 48, 49, 50, 51] (by decide +kernel) (by decide +kernel)
set_option maxRecDepth 20000 in
theorem gX4_wrongCallsOf_X0_isRight : GoodIn wsX4_wrongCallsOf (wsV RX4 225 RX0 yX0_isRight wsX0_isRight) := goodIn_app (goodIn_of _ (by decide +kernel)) ggX4_wrongCallsOf_X0_isRight
theorem dX4_wrongCallsOf_0 : decode cX4_wrongCallsOf 0 = .ok (.iconst 0, 1) := by decide +kernel
theorem dX4_wrongCallsOf_1 : decode cX4_wrongCallsOf 1 = .ok (.istore_n 2, 1) := by decide +kernel
theorem dX4_wrongCallsOf_2 : decode cX4_wrongCallsOf 2 = .ok (.iconst 0, 1) := by decide +kernel
theorem dX4_wrongCallsOf_3 : decode cX4_wrongCallsOf 3 = .ok (.istore_n 3, 1) := by decide +kernel
theorem dX4_wrongCallsOf_4 : decode cX4_wrongCallsOf 4 = .ok (.iload_n 3, 1) := by decide +kernel
theorem dX4_wrongCallsOf_5 : decode cX4_wrongCallsOf 5 = .ok (.aload_n 0, 1) := by decide +kernel
theorem dX4_wrongCallsOf_6 : decode cX4_wrongCallsOf 6 = .ok (.getfield 37, 3) := by decide +kernel
theorem dX4_wrongCallsOf_9 : decode cX4_wrongCallsOf 9 = .ok (.if_icmp .ge 37, 3) := by decide +kernel
theorem dX4_wrongCallsOf_12 : decode cX4_wrongCallsOf 12 = .ok (.aload_n 0, 1) := by decide +kernel
theorem dX4_wrongCallsOf_13 : decode cX4_wrongCallsOf 13 = .ok (.getfield 33, 3) := by decide +kernel
theorem dX4_wrongCallsOf_16 : decode cX4_wrongCallsOf 16 = .ok (.iload_n 3, 1) := by decide +kernel
theorem dX4_wrongCallsOf_17 : decode cX4_wrongCallsOf 17 = .ok (.aaload, 1) := by decide +kernel
theorem dX4_wrongCallsOf_18 : decode cX4_wrongCallsOf 18 = .ok (.astore 4, 2) := by decide +kernel
theorem dX4_wrongCallsOf_20 : decode cX4_wrongCallsOf 20 = .ok (.aload 4, 2) := by decide +kernel
theorem dX4_wrongCallsOf_22 : decode cX4_wrongCallsOf 22 = .ok (.getfield 221, 3) := by decide +kernel
theorem dX4_wrongCallsOf_25 : decode cX4_wrongCallsOf 25 = .ok (.aload_n 1, 1) := by decide +kernel
theorem dX4_wrongCallsOf_26 : decode cX4_wrongCallsOf 26 = .ok (.if_acmp .ne 14, 3) := by decide +kernel
theorem dX4_wrongCallsOf_29 : decode cX4_wrongCallsOf 29 = .ok (.aload 4, 2) := by decide +kernel
theorem dX4_wrongCallsOf_31 : decode cX4_wrongCallsOf 31 = .ok (.invokevirtual 225, 3) := by decide +kernel
theorem dX4_wrongCallsOf_34 : decode cX4_wrongCallsOf 34 = .ok (.ifCond .ne 6, 3) := by decide +kernel
theorem dX4_wrongCallsOf_37 : decode cX4_wrongCallsOf 37 = .ok (.iinc 2 1, 3) := by decide +kernel
theorem dX4_wrongCallsOf_40 : decode cX4_wrongCallsOf 40 = .ok (.iinc 3 1, 3) := by decide +kernel
theorem dX4_wrongCallsOf_43 : decode cX4_wrongCallsOf 43 = .ok (.goto (-39), 3) := by decide +kernel
theorem dX4_wrongCallsOf_46 : decode cX4_wrongCallsOf 46 = .ok (.iload_n 2, 1) := by decide +kernel
theorem dX4_wrongCallsOf_47 : decode cX4_wrongCallsOf 47 = .ok (.ireturn, 1) := by decide +kernel
set_option maxRecDepth 20000 in
theorem ggX4_acceptRightCallsOf_X0_isRight : GoodIn wsX4_acceptRightCallsOf wsX0_isRight := goodIn_r _ [9, 10, 11, 12, 13, 14, 15, 16, 17, 18, 19, 20, 21, 22, 41, 42, 43, 44, 45, 46, 47, 48, 49, 50, 51, 52, 53, 54, 55, 56, 57, 58, 59, 60, 61, 62, 63] (by decide +kernel) (by decide +kernel)
set_option maxRecDepth 20000 in
theorem gX4_acceptRightCallsOf_X0_isRight : GoodIn wsX4_acceptRightCallsOf (wsV RX4 225 RX0 yX0_isRight wsX0_isRight) := goodIn_app (goodIn_of _ (by decide +kernel)) ggX4_acceptRightCallsOf_X0_isRight
set_option maxRecDepth 20000 in
theorem ggX4_acceptRightCallsOf_X0_acceptIn : GoodIn wsX4_acceptRightCallsOf wsX0_acceptIn := goodIn_r _ [26, 27, 28, 11, 12, 29, 30, 14, 31, 32, 33, 41, 42, 43, 44, 45, 46, 47, 48, 49, 50, 51, 52, 53, 54, 55, 56, 57, 58, 59] (by decide +kernel) (by decide +kernel)
set_option maxRecDepth 20000 in
theorem gX4_acceptRightCallsOf_X0_acceptIn : GoodIn wsX4_acceptRightCallsOf (wsV RX4 229 RX0 yX0_acceptIn wsX0_acceptIn) := goodIn_app (goodIn_of _ (by decide +kernel)) ggX4_acceptRightCallsOf_X0_acceptIn
theorem dX4_acceptRightCallsOf_0 : decode cX4_acceptRightCallsOf 0 = .ok (.iconst 0, 1) := by decide +kernel
theorem dX4_acceptRightCallsOf_1 : decode cX4_acceptRightCallsOf 1 = .ok (.istore_n 2, 1) := by decide +kernel
theorem dX4_acceptRightCallsOf_2 : decode cX4_acceptRightCallsOf 2 = .ok (.iload_n 2, 1) := by decide +kernel
theorem dX4_acceptRightCallsOf_3 : decode cX4_acceptRightCallsOf 3 = .ok (.aload_n 0, 1) := by decide +kernel
theorem dX4_acceptRightCallsOf_4 : decode cX4_acceptRightCallsOf 4 = .ok (.getfield 37, 3) := by decide +kernel
theorem dX4_acceptRightCallsOf_7 : decode cX4_acceptRightCallsOf 7 = .ok (.if_icmp .ge 39, 3) := by decide +kernel
theorem dX4_acceptRightCallsOf_10 : decode cX4_acceptRightCallsOf 10 = .ok (.aload_n 0, 1) := by decide +kernel
theorem dX4_acceptRightCallsOf_11 : decode cX4_acceptRightCallsOf 11 = .ok (.getfield 33, 3) := by decide +kernel
theorem dX4_acceptRightCallsOf_14 : decode cX4_acceptRightCallsOf 14 = .ok (.iload_n 2, 1) := by decide +kernel
theorem dX4_acceptRightCallsOf_15 : decode cX4_acceptRightCallsOf 15 = .ok (.aaload, 1) := by decide +kernel
theorem dX4_acceptRightCallsOf_16 : decode cX4_acceptRightCallsOf 16 = .ok (.astore_n 3, 1) := by decide +kernel
theorem dX4_acceptRightCallsOf_17 : decode cX4_acceptRightCallsOf 17 = .ok (.aload_n 3, 1) := by decide +kernel
theorem dX4_acceptRightCallsOf_18 : decode cX4_acceptRightCallsOf 18 = .ok (.getfield 221, 3) := by decide +kernel
theorem dX4_acceptRightCallsOf_21 : decode cX4_acceptRightCallsOf 21 = .ok (.aload_n 1, 1) := by decide +kernel
theorem dX4_acceptRightCallsOf_22 : decode cX4_acceptRightCallsOf 22 = .ok (.if_acmp .ne 18, 3) := by decide +kernel
theorem dX4_acceptRightCallsOf_25 : decode cX4_acceptRightCallsOf 25 = .ok (.aload_n 3, 1) := by decide +kernel
theorem dX4_acceptRightCallsOf_26 : decode cX4_acceptRightCallsOf 26 = .ok (.invokevirtual 225, 3) := by decide +kernel
theorem dX4_acceptRightCallsOf_29 : decode cX4_acceptRightCallsOf 29 = .ok (.ifCond .eq 11, 3) := by decide +kernel
theorem dX4_acceptRightCallsOf_32 : decode cX4_acceptRightCallsOf 32 = .ok (.aload_n 3, 1) := by decide +kernel
theorem dX4_acceptRightCallsOf_33 : decode cX4_acceptRightCallsOf 33 = .ok (.aload_n 0, 1) := by decide +kernel
theorem dX4_acceptRightCallsOf_34 : decode cX4_acceptRightCallsOf 34 = .ok (.getfield 40, 3) := by decide +kernel
theorem dX4_acceptRightCallsOf_37 : decode cX4_acceptRightCallsOf 37 = .ok (.invokevirtual 229, 3) := by decide +kernel
theorem dX4_acceptRightCallsOf_40 : decode cX4_acceptRightCallsOf 40 = .ok (.iinc 2 1, 3) := by decide +kernel
theorem dX4_acceptRightCallsOf_43 : decode cX4_acceptRightCallsOf 43 = .ok (.goto (-41), 3) := by decide +kernel
theorem dX4_acceptRightCallsOf_46 : decode cX4_acceptRightCallsOf 46 = .ok (.return_, 1) := by decide +kernel
theorem dX4_giveBackUnanswered_0 : decode cX4_giveBackUnanswered 0 = .ok (.iconst 0, 1) := by decide +kernel
theorem dX4_giveBackUnanswered_1 : decode cX4_giveBackUnanswered 1 = .ok (.istore_n 1, 1) := by decide +kernel
theorem dX4_giveBackUnanswered_2 : decode cX4_giveBackUnanswered 2 = .ok (.iload_n 1, 1) := by decide +kernel
theorem dX4_giveBackUnanswered_3 : decode cX4_giveBackUnanswered 3 = .ok (.aload_n 0, 1) := by decide +kernel
theorem dX4_giveBackUnanswered_4 : decode cX4_giveBackUnanswered 4 = .ok (.getfield 37, 3) := by decide +kernel
theorem dX4_giveBackUnanswered_7 : decode cX4_giveBackUnanswered 7 = .ok (.if_icmp .ge 42, 3) := by decide +kernel
theorem dX4_giveBackUnanswered_10 : decode cX4_giveBackUnanswered 10 = .ok (.aload_n 0, 1) := by decide +kernel
theorem dX4_giveBackUnanswered_11 : decode cX4_giveBackUnanswered 11 = .ok (.getfield 33, 3) := by decide +kernel
theorem dX4_giveBackUnanswered_14 : decode cX4_giveBackUnanswered 14 = .ok (.iload_n 1, 1) := by decide +kernel
theorem dX4_giveBackUnanswered_15 : decode cX4_giveBackUnanswered 15 = .ok (.aaload, 1) := by decide +kernel
theorem dX4_giveBackUnanswered_16 : decode cX4_giveBackUnanswered 16 = .ok (.astore_n 2, 1) := by decide +kernel
theorem dX4_giveBackUnanswered_17 : decode cX4_giveBackUnanswered 17 = .ok (.aload_n 2, 1) := by decide +kernel
theorem dX4_giveBackUnanswered_18 : decode cX4_giveBackUnanswered 18 = .ok (.getfield 131, 3) := by decide +kernel
theorem dX4_giveBackUnanswered_21 : decode cX4_giveBackUnanswered 21 = .ok (.iconst 2, 1) := by decide +kernel
theorem dX4_giveBackUnanswered_22 : decode cX4_giveBackUnanswered 22 = .ok (.if_icmp .ne 21, 3) := by decide +kernel
theorem dX4_giveBackUnanswered_25 : decode cX4_giveBackUnanswered 25 = .ok (.aload_n 0, 1) := by decide +kernel
theorem dX4_giveBackUnanswered_26 : decode cX4_giveBackUnanswered 26 = .ok (.getfield 40, 3) := by decide +kernel
theorem dX4_giveBackUnanswered_29 : decode cX4_giveBackUnanswered 29 = .ok (.aload_n 2, 1) := by decide +kernel
theorem dX4_giveBackUnanswered_30 : decode cX4_giveBackUnanswered 30 = .ok (.getfield 143, 3) := by decide +kernel
theorem dX4_giveBackUnanswered_33 : decode cX4_giveBackUnanswered 33 = .ok (.isub, 1) := by decide +kernel
theorem dX4_giveBackUnanswered_34 : decode cX4_giveBackUnanswered 34 = .ok (.iconst 2, 1) := by decide +kernel
theorem dX4_giveBackUnanswered_35 : decode cX4_giveBackUnanswered 35 = .ok (.if_icmp .lt 8, 3) := by decide +kernel
theorem dX4_giveBackUnanswered_38 : decode cX4_giveBackUnanswered 38 = .ok (.aload_n 2, 1) := by decide +kernel
theorem dX4_giveBackUnanswered_39 : decode cX4_giveBackUnanswered 39 = .ok (.iconst 4, 1) := by decide +kernel
theorem dX4_giveBackUnanswered_40 : decode cX4_giveBackUnanswered 40 = .ok (.putfield 131, 3) := by decide +kernel
theorem dX4_giveBackUnanswered_43 : decode cX4_giveBackUnanswered 43 = .ok (.iinc 1 1, 3) := by decide +kernel
theorem dX4_giveBackUnanswered_46 : decode cX4_giveBackUnanswered 46 = .ok (.goto (-44), 3) := by decide +kernel
theorem dX4_giveBackUnanswered_49 : decode cX4_giveBackUnanswered 49 = .ok (.return_, 1) := by decide +kernel
set_option maxRecDepth 20000 in
theorem ggX4_amountOfMonths_X0_amount : GoodIn wsX4_amountOfMonths wsX0_amount := goodIn_r _ [10, 11, 12, 13, 14, 15, 16, 17, 18, 19, 20, 21, 22, 23, 24, 25, 26, 27, 28, 29, 37, 38, 39, 40, 41, 42, 43, 44, 45, 46, 47, 48, 49, 50, 51, 52, 53, 54, 55] (by decide +kernel) (by decide +kernel)
set_option maxRecDepth 20000 in
theorem gX4_amountOfMonths_X0_amount : GoodIn wsX4_amountOfMonths (wsV RX4 135 RX0 yX0_amount wsX0_amount) := goodIn_app (goodIn_of _ (by decide +kernel)) ggX4_amountOfMonths_X0_amount
theorem dX4_amountOfMonths_0 : decode cX4_amountOfMonths 0 = .ok (.lconst 0, 1) := by decide +kernel
theorem dX4_amountOfMonths_1 : decode cX4_amountOfMonths 1 = .ok (.lstore 4, 2) := by decide +kernel
theorem dX4_amountOfMonths_3 : decode cX4_amountOfMonths 3 = .ok (.iconst 0, 1) := by decide +kernel
theorem dX4_amountOfMonths_4 : decode cX4_amountOfMonths 4 = .ok (.istore 6, 2) := by decide +kernel
theorem dX4_amountOfMonths_6 : decode cX4_amountOfMonths 6 = .ok (.iload 6, 2) := by decide +kernel
theorem dX4_amountOfMonths_8 : decode cX4_amountOfMonths 8 = .ok (.aload_n 0, 1) := by decide +kernel
theorem dX4_amountOfMonths_9 : decode cX4_amountOfMonths 9 = .ok (.getfield 37, 3) := by decide +kernel
theorem dX4_amountOfMonths_12 : decode cX4_amountOfMonths 12 = .ok (.if_icmp .ge 59, 3) := by decide +kernel
theorem dX4_amountOfMonths_15 : decode cX4_amountOfMonths 15 = .ok (.aload_n 0, 1) := by decide +kernel
theorem dX4_amountOfMonths_16 : decode cX4_amountOfMonths 16 = .ok (.getfield 33, 3) := by decide +kernel
theorem dX4_amountOfMonths_19 : decode cX4_amountOfMonths 19 = .ok (.iload 6, 2) := by decide +kernel
theorem dX4_amountOfMonths_21 : decode cX4_amountOfMonths 21 = .ok (.aaload, 1) := by decide +kernel
theorem dX4_amountOfMonths_22 : decode cX4_amountOfMonths 22 = .ok (.astore 7, 2) := by decide +kernel
theorem dX4_amountOfMonths_24 : decode cX4_amountOfMonths 24 = .ok (.aload 7, 2) := by decide +kernel
theorem dX4_amountOfMonths_26 : decode cX4_amountOfMonths 26 = .ok (.getfield 221, 3) := by decide +kernel
theorem dX4_amountOfMonths_29 : decode cX4_amountOfMonths 29 = .ok (.getfield 103, 3) := by decide +kernel
theorem dX4_amountOfMonths_32 : decode cX4_amountOfMonths 32 = .ok (.aload_n 1, 1) := by decide +kernel
theorem dX4_amountOfMonths_33 : decode cX4_amountOfMonths 33 = .ok (.if_acmp .ne 32, 3) := by decide +kernel
theorem dX4_amountOfMonths_36 : decode cX4_amountOfMonths 36 = .ok (.aload 7, 2) := by decide +kernel
theorem dX4_amountOfMonths_38 : decode cX4_amountOfMonths 38 = .ok (.getfield 132, 3) := by decide +kernel
theorem dX4_amountOfMonths_41 : decode cX4_amountOfMonths 41 = .ok (.iload_n 2, 1) := by decide +kernel
theorem dX4_amountOfMonths_42 : decode cX4_amountOfMonths 42 = .ok (.if_icmp .lt 23, 3) := by decide +kernel
theorem dX4_amountOfMonths_45 : decode cX4_amountOfMonths 45 = .ok (.aload 7, 2) := by decide +kernel
theorem dX4_amountOfMonths_47 : decode cX4_amountOfMonths 47 = .ok (.getfield 132, 3) := by decide +kernel
theorem dX4_amountOfMonths_50 : decode cX4_amountOfMonths 50 = .ok (.iload_n 3, 1) := by decide +kernel
theorem dX4_amountOfMonths_51 : decode cX4_amountOfMonths 51 = .ok (.if_icmp .gt 14, 3) := by decide +kernel
theorem dX4_amountOfMonths_54 : decode cX4_amountOfMonths 54 = .ok (.lload 4, 2) := by decide +kernel
theorem dX4_amountOfMonths_56 : decode cX4_amountOfMonths 56 = .ok (.aload 7, 2) := by decide +kernel
theorem dX4_amountOfMonths_58 : decode cX4_amountOfMonths 58 = .ok (.invokevirtual 135, 3) := by decide +kernel
theorem dX4_amountOfMonths_61 : decode cX4_amountOfMonths 61 = .ok (.i2l, 1) := by decide +kernel
theorem dX4_amountOfMonths_62 : decode cX4_amountOfMonths 62 = .ok (.ladd, 1) := by decide +kernel
theorem dX4_amountOfMonths_63 : decode cX4_amountOfMonths 63 = .ok (.lstore 4, 2) := by decide +kernel
theorem dX4_amountOfMonths_65 : decode cX4_amountOfMonths 65 = .ok (.iinc 6 1, 3) := by decide +kernel
theorem dX4_amountOfMonths_68 : decode cX4_amountOfMonths 68 = .ok (.goto (-62), 3) := by decide +kernel
theorem dX4_amountOfMonths_71 : decode cX4_amountOfMonths 71 = .ok (.lload 4, 2) := by decide +kernel
theorem dX4_amountOfMonths_73 : decode cX4_amountOfMonths 73 = .ok (.lreturn, 1) := by decide +kernel
set_option maxRecDepth 20000 in
theorem ggX4_unitsOfMonth_X4_amountOfMonths : GoodIn wsX4_unitsOfMonth wsX4_amountOfMonths := goodIn_r _ [8, 9, 10, 11, 12, 13, 14, 15, 16, 17, 18, 19, 20, 21, 22, 23, 24, 25, 26, 27, 7, 28, 29, 30, 31, 32, 33, 34, 35, 36, 48, 49, 50, 51, 52, 53, 54, 55, 56, 57, 58, 59, 60, 61, 62, 63, 64, 65, 66, 37, 38, 39, 40, 41, 42, 43] (by decide +kernel) (by decide +kernel)
set_option maxRecDepth 20000 in
theorem gX4_unitsOfMonth_X4_amountOfMonths : GoodIn wsX4_unitsOfMonth (wsV RX4 172 RX4 yX4_amountOfMonths wsX4_amountOfMonths) := goodIn_app (goodIn_of _ (by decide +kernel)) ggX4_unitsOfMonth_X4_amountOfMonths
theorem dX4_unitsOfMonth_0 : decode cX4_unitsOfMonth 0 = .ok (.aload_n 0, 1) := by decide +kernel
theorem dX4_unitsOfMonth_1 : decode cX4_unitsOfMonth 1 = .ok (.aload_n 1, 1) := by decide +kernel
theorem dX4_unitsOfMonth_2 : decode cX4_unitsOfMonth 2 = .ok (.iload_n 2, 1) := by decide +kernel
theorem dX4_unitsOfMonth_3 : decode cX4_unitsOfMonth 3 = .ok (.iload_n 2, 1) := by decide +kernel
theorem dX4_unitsOfMonth_4 : decode cX4_unitsOfMonth 4 = .ok (.invokevirtual 172, 3) := by decide +kernel
theorem dX4_unitsOfMonth_7 : decode cX4_unitsOfMonth 7 = .ok (.aload_n 1, 1) := by decide +kernel
theorem dX4_unitsOfMonth_8 : decode cX4_unitsOfMonth 8 = .ok (.getfield 233, 3) := by decide +kernel
theorem dX4_unitsOfMonth_11 : decode cX4_unitsOfMonth 11 = .ok (.getfield 164, 3) := by decide +kernel
theorem dX4_unitsOfMonth_14 : decode cX4_unitsOfMonth 14 = .ok (.i2l, 1) := by decide +kernel
theorem dX4_unitsOfMonth_15 : decode cX4_unitsOfMonth 15 = .ok (.lmul, 1) := by decide +kernel
theorem dX4_unitsOfMonth_16 : decode cX4_unitsOfMonth 16 = .ok (.ldc2_w 237, 3) := by decide +kernel
theorem dX4_unitsOfMonth_19 : decode cX4_unitsOfMonth 19 = .ok (.ldiv, 1) := by decide +kernel
theorem dX4_unitsOfMonth_20 : decode cX4_unitsOfMonth 20 = .ok (.lreturn, 1) := by decide +kernel
theorem dX5_init_0 : decode cX5_init 0 = .ok (.aload_n 0, 1) := by decide +kernel
theorem dX5_init_1 : decode cX5_init 1 = .ok (.invokespecial 1, 3) := by decide +kernel
theorem dX5_init_4 : decode cX5_init 4 = .ok (.aload_n 0, 1) := by decide +kernel
theorem dX5_init_5 : decode cX5_init 5 = .ok (.iconst 4, 1) := by decide +kernel
theorem dX5_init_6 : decode cX5_init 6 = .ok (.newarray .int, 2) := by decide +kernel
theorem dX5_init_8 : decode cX5_init 8 = .ok (.putfield 7, 3) := by decide +kernel
theorem dX5_init_11 : decode cX5_init 11 = .ok (.aload_n 0, 1) := by decide +kernel
theorem dX5_init_12 : decode cX5_init 12 = .ok (.iconst 4, 1) := by decide +kernel
theorem dX5_init_13 : decode cX5_init 13 = .ok (.newarray .int, 2) := by decide +kernel
theorem dX5_init_15 : decode cX5_init 15 = .ok (.putfield 13, 3) := by decide +kernel
theorem dX5_init_18 : decode cX5_init 18 = .ok (.aload_n 0, 1) := by decide +kernel
theorem dX5_init_19 : decode cX5_init 19 = .ok (.iconst 4, 1) := by decide +kernel
theorem dX5_init_20 : decode cX5_init 20 = .ok (.newarray .int, 2) := by decide +kernel
theorem dX5_init_22 : decode cX5_init 22 = .ok (.putfield 16, 3) := by decide +kernel
theorem dX5_init_25 : decode cX5_init 25 = .ok (.aload_n 0, 1) := by decide +kernel
theorem dX5_init_26 : decode cX5_init 26 = .ok (.iconst 4, 1) := by decide +kernel
theorem dX5_init_27 : decode cX5_init 27 = .ok (.newarray .int, 2) := by decide +kernel
theorem dX5_init_29 : decode cX5_init 29 = .ok (.putfield 19, 3) := by decide +kernel
theorem dX5_init_32 : decode cX5_init 32 = .ok (.aload_n 0, 1) := by decide +kernel
theorem dX5_init_33 : decode cX5_init 33 = .ok (.bipush 30, 2) := by decide +kernel
theorem dX5_init_35 : decode cX5_init 35 = .ok (.newarray .int, 2) := by decide +kernel
theorem dX5_init_37 : decode cX5_init 37 = .ok (.putfield 22, 3) := by decide +kernel
theorem dX5_init_40 : decode cX5_init 40 = .ok (.aload_n 0, 1) := by decide +kernel
theorem dX5_init_41 : decode cX5_init 41 = .ok (.bipush 30, 2) := by decide +kernel
theorem dX5_init_43 : decode cX5_init 43 = .ok (.newarray .int, 2) := by decide +kernel
theorem dX5_init_45 : decode cX5_init 45 = .ok (.putfield 25, 3) := by decide +kernel
theorem dX5_init_48 : decode cX5_init 48 = .ok (.aload_n 0, 1) := by decide +kernel
theorem dX5_init_49 : decode cX5_init 49 = .ok (.bipush 30, 2) := by decide +kernel
theorem dX5_init_51 : decode cX5_init 51 = .ok (.newarray .int, 2) := by decide +kernel
theorem dX5_init_53 : decode cX5_init 53 = .ok (.putfield 28, 3) := by decide +kernel
theorem dX5_init_56 : decode cX5_init 56 = .ok (.aload_n 0, 1) := by decide +kernel
theorem dX5_init_57 : decode cX5_init 57 = .ok (.bipush 30, 2) := by decide +kernel
theorem dX5_init_59 : decode cX5_init 59 = .ok (.newarray .int, 2) := by decide +kernel
theorem dX5_init_61 : decode cX5_init 61 = .ok (.putfield 31, 3) := by decide +kernel
theorem dX5_init_64 : decode cX5_init 64 = .ok (.aload_n 0, 1) := by decide +kernel
theorem dX5_init_65 : decode cX5_init 65 = .ok (.bipush 60, 2) := by decide +kernel
theorem dX5_init_67 : decode cX5_init 67 = .ok (.newarray .int, 2) := by decide +kernel
theorem dX5_init_69 : decode cX5_init 69 = .ok (.putfield 34, 3) := by decide +kernel
theorem dX5_init_72 : decode cX5_init 72 = .ok (.aload_n 0, 1) := by decide +kernel
theorem dX5_init_73 : decode cX5_init 73 = .ok (.bipush 60, 2) := by decide +kernel
theorem dX5_init_75 : decode cX5_init 75 = .ok (.newarray .int, 2) := by decide +kernel
theorem dX5_init_77 : decode cX5_init 77 = .ok (.putfield 37, 3) := by decide +kernel
theorem dX5_init_80 : decode cX5_init 80 = .ok (.aload_n 0, 1) := by decide +kernel
theorem dX5_init_81 : decode cX5_init 81 = .ok (.bipush 60, 2) := by decide +kernel
theorem dX5_init_83 : decode cX5_init 83 = .ok (.newarray .int, 2) := by decide +kernel
theorem dX5_init_85 : decode cX5_init 85 = .ok (.putfield 40, 3) := by decide +kernel
theorem dX5_init_88 : decode cX5_init 88 = .ok (.aload_n 0, 1) := by decide +kernel
theorem dX5_init_89 : decode cX5_init 89 = .ok (.bipush 60, 2) := by decide +kernel
theorem dX5_init_91 : decode cX5_init 91 = .ok (.newarray .int, 2) := by decide +kernel
theorem dX5_init_93 : decode cX5_init 93 = .ok (.putfield 43, 3) := by decide +kernel
theorem dX5_init_96 : decode cX5_init 96 = .ok (.aload_n 0, 1) := by decide +kernel
theorem dX5_init_97 : decode cX5_init 97 = .ok (.bipush 60, 2) := by decide +kernel
theorem dX5_init_99 : decode cX5_init 99 = .ok (.newarray .int, 2) := by decide +kernel
theorem dX5_init_101 : decode cX5_init 101 = .ok (.putfield 46, 3) := by decide +kernel
theorem dX5_init_104 : decode cX5_init 104 = .ok (.aload_n 0, 1) := by decide +kernel
theorem dX5_init_105 : decode cX5_init 105 = .ok (.bipush 60, 2) := by decide +kernel
theorem dX5_init_107 : decode cX5_init 107 = .ok (.newarray .int, 2) := by decide +kernel
theorem dX5_init_109 : decode cX5_init 109 = .ok (.putfield 49, 3) := by decide +kernel
theorem dX5_init_112 : decode cX5_init 112 = .ok (.aload_n 0, 1) := by decide +kernel
theorem dX5_init_113 : decode cX5_init 113 = .ok (.bipush 60, 2) := by decide +kernel
theorem dX5_init_115 : decode cX5_init 115 = .ok (.newarray .int, 2) := by decide +kernel
theorem dX5_init_117 : decode cX5_init 117 = .ok (.putfield 52, 3) := by decide +kernel
theorem dX5_init_120 : decode cX5_init 120 = .ok (.aload_n 0, 1) := by decide +kernel
theorem dX5_init_121 : decode cX5_init 121 = .ok (.bipush 16, 2) := by decide +kernel
theorem dX5_init_123 : decode cX5_init 123 = .ok (.newarray .int, 2) := by decide +kernel
theorem dX5_init_125 : decode cX5_init 125 = .ok (.putfield 55, 3) := by decide +kernel
theorem dX5_init_128 : decode cX5_init 128 = .ok (.aload_n 0, 1) := by decide +kernel
theorem dX5_init_129 : decode cX5_init 129 = .ok (.bipush 16, 2) := by decide +kernel
theorem dX5_init_131 : decode cX5_init 131 = .ok (.newarray .boolean, 2) := by decide +kernel
theorem dX5_init_133 : decode cX5_init 133 = .ok (.putfield 58, 3) := by decide +kernel
theorem dX5_init_136 : decode cX5_init 136 = .ok (.aload_n 0, 1) := by decide +kernel
theorem dX5_init_137 : decode cX5_init 137 = .ok (.bipush 16, 2) := by decide +kernel
theorem dX5_init_139 : decode cX5_init 139 = .ok (.newarray .int, 2) := by decide +kernel
theorem dX5_init_141 : decode cX5_init 141 = .ok (.putfield 62, 3) := by decide +kernel
theorem dX5_init_144 : decode cX5_init 144 = .ok (.aload_n 0, 1) := by decide +kernel
theorem dX5_init_145 : decode cX5_init 145 = .ok (.bipush 16, 2) := by decide +kernel
theorem dX5_init_147 : decode cX5_init 147 = .ok (.newarray .int, 2) := by decide +kernel
theorem dX5_init_149 : decode cX5_init 149 = .ok (.putfield 65, 3) := by decide +kernel
theorem dX5_init_152 : decode cX5_init 152 = .ok (.aload_n 0, 1) := by decide +kernel
theorem dX5_init_153 : decode cX5_init 153 = .ok (.bipush 16, 2) := by decide +kernel
theorem dX5_init_155 : decode cX5_init 155 = .ok (.newarray .boolean, 2) := by decide +kernel
theorem dX5_init_157 : decode cX5_init 157 = .ok (.putfield 68, 3) := by decide +kernel
theorem dX5_init_160 : decode cX5_init 160 = .ok (.aload_n 0, 1) := by decide +kernel
theorem dX5_init_161 : decode cX5_init 161 = .ok (.bipush 16, 2) := by decide +kernel
theorem dX5_init_163 : decode cX5_init 163 = .ok (.newarray .int, 2) := by decide +kernel
theorem dX5_init_165 : decode cX5_init 165 = .ok (.putfield 71, 3) := by decide +kernel
theorem dX5_init_168 : decode cX5_init 168 = .ok (.iconst 0, 1) := by decide +kernel
theorem dX5_init_169 : decode cX5_init 169 = .ok (.istore_n 1, 1) := by decide +kernel
theorem dX5_init_170 : decode cX5_init 170 = .ok (.iload_n 1, 1) := by decide +kernel
theorem dX5_init_171 : decode cX5_init 171 = .ok (.iconst 4, 1) := by decide +kernel
theorem dX5_init_172 : decode cX5_init 172 = .ok (.if_icmp .ge 34, 3) := by decide +kernel
theorem dX5_init_175 : decode cX5_init 175 = .ok (.aload_n 0, 1) := by decide +kernel
theorem dX5_init_176 : decode cX5_init 176 = .ok (.getfield 7, 3) := by decide +kernel
theorem dX5_init_179 : decode cX5_init 179 = .ok (.iload_n 1, 1) := by decide +kernel
theorem dX5_init_180 : decode cX5_init 180 = .ok (.bipush 60, 2) := by decide +kernel
theorem dX5_init_182 : decode cX5_init 182 = .ok (.iastore, 1) := by decide +kernel
theorem dX5_init_183 : decode cX5_init 183 = .ok (.aload_n 0, 1) := by decide +kernel
theorem dX5_init_184 : decode cX5_init 184 = .ok (.getfield 13, 3) := by decide +kernel
theorem dX5_init_187 : decode cX5_init 187 = .ok (.iload_n 1, 1) := by decide +kernel
theorem dX5_init_188 : decode cX5_init 188 = .ok (.bipush 10, 2) := by decide +kernel
theorem dX5_init_190 : decode cX5_init 190 = .ok (.iastore, 1) := by decide +kernel
theorem dX5_init_191 : decode cX5_init 191 = .ok (.aload_n 0, 1) := by decide +kernel
theorem dX5_init_192 : decode cX5_init 192 = .ok (.getfield 19, 3) := by decide +kernel
theorem dX5_init_195 : decode cX5_init 195 = .ok (.iload_n 1, 1) := by decide +kernel
theorem dX5_init_196 : decode cX5_init 196 = .ok (.sipush 1000, 3) := by decide +kernel
theorem dX5_init_199 : decode cX5_init 199 = .ok (.iastore, 1) := by decide +kernel
theorem dX5_init_200 : decode cX5_init 200 = .ok (.iinc 1 1, 3) := by decide +kernel
theorem dX5_init_203 : decode cX5_init 203 = .ok (.goto (-33), 3) := by decide +kernel
theorem dX5_init_206 : decode cX5_init 206 = .ok (.iconst 0, 1) := by decide +kernel
theorem dX5_init_207 : decode cX5_init 207 = .ok (.istore_n 1, 1) := by decide +kernel
theorem dX5_init_208 : decode cX5_init 208 = .ok (.iload_n 1, 1) := by decide +kernel
theorem dX5_init_209 : decode cX5_init 209 = .ok (.bipush 16, 2) := by decide +kernel
theorem dX5_init_211 : decode cX5_init 211 = .ok (.if_icmp .ge 16, 3) := by decide +kernel
theorem dX5_init_214 : decode cX5_init 214 = .ok (.aload_n 0, 1) := by decide +kernel
theorem dX5_init_215 : decode cX5_init 215 = .ok (.getfield 55, 3) := by decide +kernel
theorem dX5_init_218 : decode cX5_init 218 = .ok (.iload_n 1, 1) := by decide +kernel
theorem dX5_init_219 : decode cX5_init 219 = .ok (.iconst 1, 1) := by decide +kernel
theorem dX5_init_220 : decode cX5_init 220 = .ok (.iastore, 1) := by decide +kernel
theorem dX5_init_221 : decode cX5_init 221 = .ok (.iinc 1 1, 3) := by decide +kernel
theorem dX5_init_224 : decode cX5_init 224 = .ok (.goto (-16), 3) := by decide +kernel
theorem dX5_init_227 : decode cX5_init 227 = .ok (.return_, 1) := by decide +kernel
theorem dX5_thrown_0 : decode cX5_thrown 0 = .ok (.aload_n 0, 1) := by decide +kernel
theorem dX5_thrown_1 : decode cX5_thrown 1 = .ok (.getfield 74, 3) := by decide +kernel
theorem dX5_thrown_4 : decode cX5_thrown 4 = .ok (.ireturn, 1) := by decide +kernel
theorem dX5_in_0 : decode cX5_in 0 = .ok (.iload_n 0, 1) := by decide +kernel
theorem dX5_in_1 : decode cX5_in 1 = .ok (.iload_n 1, 1) := by decide +kernel
theorem dX5_in_2 : decode cX5_in 2 = .ok (.if_icmp .lt 12, 3) := by decide +kernel
theorem dX5_in_5 : decode cX5_in 5 = .ok (.iload_n 0, 1) := by decide +kernel
theorem dX5_in_6 : decode cX5_in 6 = .ok (.iload_n 2, 1) := by decide +kernel
theorem dX5_in_7 : decode cX5_in 7 = .ok (.if_icmp .gt 7, 3) := by decide +kernel
theorem dX5_in_10 : decode cX5_in 10 = .ok (.iconst 1, 1) := by decide +kernel
theorem dX5_in_11 : decode cX5_in 11 = .ok (.goto 4, 3) := by decide +kernel
theorem dX5_in_14 : decode cX5_in 14 = .ok (.iconst 0, 1) := by decide +kernel
theorem dX5_in_15 : decode cX5_in 15 = .ok (.ireturn, 1) := by decide +kernel
set_option maxRecDepth 20000 in
theorem ggX5_isOperator_X5_in : GoodIn wsX5_isOperator wsX5_in := goodIn_r _ [4] (by decide +kernel) (by decide +kernel)
set_option maxRecDepth 20000 in
theorem gX5_isOperator_X5_in : GoodIn wsX5_isOperator (va_wsS RX5 78 yX5_in wsX5_in) := goodIn_app (goodIn_of _ (by decide +kernel)) ggX5_isOperator_X5_in
theorem dX5_isOperator_0 : decode cX5_isOperator 0 = .ok (.iload_n 0, 1) := by decide +kernel
theorem dX5_isOperator_1 : decode cX5_isOperator 1 = .ok (.iconst 0, 1) := by decide +kernel
theorem dX5_isOperator_2 : decode cX5_isOperator 2 = .ok (.iconst 3, 1) := by decide +kernel
theorem dX5_isOperator_3 : decode cX5_isOperator 3 = .ok (.invokestatic 78, 3) := by decide +kernel
theorem dX5_isOperator_6 : decode cX5_isOperator 6 = .ok (.ireturn, 1) := by decide +kernel
set_option maxRecDepth 20000 in
theorem ggX5_isPair_X5_isOperator : GoodIn wsX5_isPair wsX5_isOperator := goodIn_r _ [5, 6, 7, 4, 8] (by decide +kernel) (by decide +kernel)
set_option maxRecDepth 20000 in
theorem gX5_isPair_X5_isOperator : GoodIn wsX5_isPair (va_wsS RX5 82 yX5_isOperator wsX5_isOperator) := goodIn_app (goodIn_of _ (by decide +kernel)) ggX5_isPair_X5_isOperator
theorem dX5_isPair_0 : decode cX5_isPair 0 = .ok (.aload_n 0, 1) := by decide +kernel
theorem dX5_isPair_1 : decode cX5_isPair 1 = .ok (.iload_n 1, 1) := by decide +kernel
theorem dX5_isPair_2 : decode cX5_isPair 2 = .ok (.invokestatic 82, 3) := by decide +kernel
theorem dX5_isPair_5 : decode cX5_isPair 5 = .ok (.ifCond .eq 10, 3) := by decide +kernel
theorem dX5_isPair_8 : decode cX5_isPair 8 = .ok (.iload_n 2, 1) := by decide +kernel
theorem dX5_isPair_9 : decode cX5_isPair 9 = .ok (.invokestatic 82, 3) := by decide +kernel
theorem dX5_isPair_12 : decode cX5_isPair 12 = .ok (.ifCond .ne 7, 3) := by decide +kernel
theorem dX5_isPair_15 : decode cX5_isPair 15 = .ok (.iconst 1, 1) := by decide +kernel
theorem dX5_isPair_16 : decode cX5_isPair 16 = .ok (.goto 17, 3) := by decide +kernel
theorem dX5_isPair_19 : decode cX5_isPair 19 = .ok (.iload_n 1, 1) := by decide +kernel
theorem dX5_isPair_20 : decode cX5_isPair 20 = .ok (.iload_n 2, 1) := by decide +kernel
theorem dX5_isPair_21 : decode cX5_isPair 21 = .ok (.if_icmp .eq 7, 3) := by decide +kernel
theorem dX5_isPair_24 : decode cX5_isPair 24 = .ok (.iload_n 3, 1) := by decide +kernel
theorem dX5_isPair_25 : decode cX5_isPair 25 = .ok (.ifCond .ne 7, 3) := by decide +kernel
theorem dX5_isPair_28 : decode cX5_isPair 28 = .ok (.iconst 2, 1) := by decide +kernel
theorem dX5_isPair_29 : decode cX5_isPair 29 = .ok (.goto 4, 3) := by decide +kernel
theorem dX5_isPair_32 : decode cX5_isPair 32 = .ok (.iconst 0, 1) := by decide +kernel
theorem dX5_isPair_33 : decode cX5_isPair 33 = .ok (.putfield 74, 3) := by decide +kernel
theorem dX5_isPair_36 : decode cX5_isPair 36 = .ok (.aload_n 0, 1) := by decide +kernel
theorem dX5_isPair_37 : decode cX5_isPair 37 = .ok (.getfield 74, 3) := by decide +kernel
theorem dX5_isPair_40 : decode cX5_isPair 40 = .ok (.ifCond .ne 7, 3) := by decide +kernel
theorem dX5_isPair_43 : decode cX5_isPair 43 = .ok (.iconst 1, 1) := by decide +kernel
theorem dX5_isPair_44 : decode cX5_isPair 44 = .ok (.goto 4, 3) := by decide +kernel
theorem dX5_isPair_47 : decode cX5_isPair 47 = .ok (.iconst 0, 1) := by decide +kernel
theorem dX5_isPair_48 : decode cX5_isPair 48 = .ok (.ireturn, 1) := by decide +kernel
set_option maxRecDepth 20000 in
theorem ggX5_isFile_X5_in : GoodIn wsX5_isFile wsX5_in := goodIn_r _ [5] (by decide +kernel) (by decide +kernel)
set_option maxRecDepth 20000 in
theorem gX5_isFile_X5_in : GoodIn wsX5_isFile (va_wsS RX5 78 yX5_in wsX5_in) := goodIn_app (goodIn_of _ (by decide +kernel)) ggX5_isFile_X5_in
theorem dX5_isFile_0 : decode cX5_isFile 0 = .ok (.iload_n 1, 1) := by decide +kernel
theorem dX5_isFile_1 : decode cX5_isFile 1 = .ok (.iconst 0, 1) := by decide +kernel
theorem dX5_isFile_2 : decode cX5_isFile 2 = .ok (.aload_n 0, 1) := by decide +kernel
theorem dX5_isFile_3 : decode cX5_isFile 3 = .ok (.getfield 86, 3) := by decide +kernel
theorem dX5_isFile_6 : decode cX5_isFile 6 = .ok (.iconst 1, 1) := by decide +kernel
theorem dX5_isFile_7 : decode cX5_isFile 7 = .ok (.isub, 1) := by decide +kernel
theorem dX5_isFile_8 : decode cX5_isFile 8 = .ok (.invokestatic 78, 3) := by decide +kernel
theorem dX5_isFile_11 : decode cX5_isFile 11 = .ok (.ireturn, 1) := by decide +kernel
set_option maxRecDepth 20000 in
theorem ggX5_isCall_X5_in : GoodIn wsX5_isCall wsX5_in := goodIn_r _ [5] (by decide +kernel) (by decide +kernel)
set_option maxRecDepth 20000 in
theorem gX5_isCall_X5_in : GoodIn wsX5_isCall (va_wsS RX5 78 yX5_in wsX5_in) := goodIn_app (goodIn_of _ (by decide +kernel)) ggX5_isCall_X5_in
theorem dX5_isCall_0 : decode cX5_isCall 0 = .ok (.iload_n 1, 1) := by decide +kernel
theorem dX5_isCall_1 : decode cX5_isCall 1 = .ok (.iconst 0, 1) := by decide +kernel
theorem dX5_isCall_2 : decode cX5_isCall 2 = .ok (.aload_n 0, 1) := by decide +kernel
theorem dX5_isCall_3 : decode cX5_isCall 3 = .ok (.getfield 89, 3) := by decide +kernel
theorem dX5_isCall_6 : decode cX5_isCall 6 = .ok (.iconst 1, 1) := by decide +kernel
theorem dX5_isCall_7 : decode cX5_isCall 7 = .ok (.isub, 1) := by decide +kernel
theorem dX5_isCall_8 : decode cX5_isCall 8 = .ok (.invokestatic 78, 3) := by decide +kernel
theorem dX5_isCall_11 : decode cX5_isCall 11 = .ok (.ireturn, 1) := by decide +kernel
set_option maxRecDepth 20000 in
theorem ggX5_setTariff_X5_isOperator : GoodIn wsX5_setTariff wsX5_isOperator := goodIn_r _ [8, 9, 10, 7, 11] (by decide +kernel) (by decide +kernel)
set_option maxRecDepth 20000 in
theorem gX5_setTariff_X5_isOperator : GoodIn wsX5_setTariff (va_wsS RX5 82 yX5_isOperator wsX5_isOperator) := goodIn_app (goodIn_of _ (by decide +kernel)) ggX5_setTariff_X5_isOperator
set_option maxRecDepth 20000 in
theorem ggX5_setTariff_X5_in : GoodIn wsX5_setTariff wsX5_in := goodIn_r _ [11] (by decide +kernel) (by decide +kernel)
set_option maxRecDepth 20000 in
theorem gX5_setTariff_X5_in : GoodIn wsX5_setTariff (va_wsS RX5 78 yX5_in wsX5_in) := goodIn_app (goodIn_of _ (by decide +kernel)) ggX5_setTariff_X5_in
theorem dX5_setTariff_0 : decode cX5_setTariff 0 = .ok (.aload_n 0, 1) := by decide +kernel
theorem dX5_setTariff_1 : decode cX5_setTariff 1 = .ok (.iload_n 1, 1) := by decide +kernel
theorem dX5_setTariff_2 : decode cX5_setTariff 2 = .ok (.invokestatic 82, 3) := by decide +kernel
theorem dX5_setTariff_5 : decode cX5_setTariff 5 = .ok (.ifCond .ne 7, 3) := by decide +kernel
theorem dX5_setTariff_8 : decode cX5_setTariff 8 = .ok (.iconst 1, 1) := by decide +kernel
theorem dX5_setTariff_9 : decode cX5_setTariff 9 = .ok (.goto 42, 3) := by decide +kernel
theorem dX5_setTariff_12 : decode cX5_setTariff 12 = .ok (.iload_n 2, 1) := by decide +kernel
theorem dX5_setTariff_13 : decode cX5_setTariff 13 = .ok (.iconst 1, 1) := by decide +kernel
theorem dX5_setTariff_14 : decode cX5_setTariff 14 = .ok (.sipush 600, 3) := by decide +kernel
theorem dX5_setTariff_17 : decode cX5_setTariff 17 = .ok (.invokestatic 78, 3) := by decide +kernel
theorem dX5_setTariff_20 : decode cX5_setTariff 20 = .ok (.ifCond .eq 26, 3) := by decide +kernel
theorem dX5_setTariff_23 : decode cX5_setTariff 23 = .ok (.iload_n 3, 1) := by decide +kernel
theorem dX5_setTariff_24 : decode cX5_setTariff 24 = .ok (.iconst 0, 1) := by decide +kernel
theorem dX5_setTariff_25 : decode cX5_setTariff 25 = .ok (.sipush 1000, 3) := by decide +kernel
theorem dX5_setTariff_28 : decode cX5_setTariff 28 = .ok (.invokestatic 78, 3) := by decide +kernel
theorem dX5_setTariff_31 : decode cX5_setTariff 31 = .ok (.ifCond .eq 15, 3) := by decide +kernel
theorem dX5_setTariff_34 : decode cX5_setTariff 34 = .ok (.iload 4, 2) := by decide +kernel
theorem dX5_setTariff_36 : decode cX5_setTariff 36 = .ok (.iconst 0, 1) := by decide +kernel
theorem dX5_setTariff_37 : decode cX5_setTariff 37 = .ok (.sipush 1000, 3) := by decide +kernel
theorem dX5_setTariff_40 : decode cX5_setTariff 40 = .ok (.invokestatic 78, 3) := by decide +kernel
theorem dX5_setTariff_43 : decode cX5_setTariff 43 = .ok (.ifCond .ne 7, 3) := by decide +kernel
theorem dX5_setTariff_46 : decode cX5_setTariff 46 = .ok (.iconst 2, 1) := by decide +kernel
theorem dX5_setTariff_47 : decode cX5_setTariff 47 = .ok (.goto 4, 3) := by decide +kernel
theorem dX5_setTariff_50 : decode cX5_setTariff 50 = .ok (.iconst 0, 1) := by decide +kernel
theorem dX5_setTariff_51 : decode cX5_setTariff 51 = .ok (.putfield 74, 3) := by decide +kernel
theorem dX5_setTariff_54 : decode cX5_setTariff 54 = .ok (.aload_n 0, 1) := by decide +kernel
theorem dX5_setTariff_55 : decode cX5_setTariff 55 = .ok (.getfield 74, 3) := by decide +kernel
theorem dX5_setTariff_58 : decode cX5_setTariff 58 = .ok (.ifCond .le 5, 3) := by decide +kernel
theorem dX5_setTariff_61 : decode cX5_setTariff 61 = .ok (.iconst 0, 1) := by decide +kernel
theorem dX5_setTariff_62 : decode cX5_setTariff 62 = .ok (.ireturn, 1) := by decide +kernel
theorem dX5_setTariff_63 : decode cX5_setTariff 63 = .ok (.aload_n 0, 1) := by decide +kernel
theorem dX5_setTariff_64 : decode cX5_setTariff 64 = .ok (.getfield 13, 3) := by decide +kernel
theorem dX5_setTariff_67 : decode cX5_setTariff 67 = .ok (.iload_n 1, 1) := by decide +kernel
theorem dX5_setTariff_68 : decode cX5_setTariff 68 = .ok (.iaload, 1) := by decide +kernel
theorem dX5_setTariff_69 : decode cX5_setTariff 69 = .ok (.istore 5, 2) := by decide +kernel
theorem dX5_setTariff_71 : decode cX5_setTariff 71 = .ok (.aload_n 0, 1) := by decide +kernel
theorem dX5_setTariff_72 : decode cX5_setTariff 72 = .ok (.getfield 7, 3) := by decide +kernel
theorem dX5_setTariff_75 : decode cX5_setTariff 75 = .ok (.iload_n 1, 1) := by decide +kernel
theorem dX5_setTariff_76 : decode cX5_setTariff 76 = .ok (.iload_n 2, 1) := by decide +kernel
theorem dX5_setTariff_77 : decode cX5_setTariff 77 = .ok (.iastore, 1) := by decide +kernel
theorem dX5_setTariff_78 : decode cX5_setTariff 78 = .ok (.aload_n 0, 1) := by decide +kernel
theorem dX5_setTariff_79 : decode cX5_setTariff 79 = .ok (.getfield 13, 3) := by decide +kernel
theorem dX5_setTariff_82 : decode cX5_setTariff 82 = .ok (.iload_n 1, 1) := by decide +kernel
theorem dX5_setTariff_83 : decode cX5_setTariff 83 = .ok (.iload_n 3, 1) := by decide +kernel
theorem dX5_setTariff_84 : decode cX5_setTariff 84 = .ok (.iastore, 1) := by decide +kernel
theorem dX5_setTariff_85 : decode cX5_setTariff 85 = .ok (.aload_n 0, 1) := by decide +kernel
theorem dX5_setTariff_86 : decode cX5_setTariff 86 = .ok (.getfield 16, 3) := by decide +kernel
theorem dX5_setTariff_89 : decode cX5_setTariff 89 = .ok (.iload_n 1, 1) := by decide +kernel
theorem dX5_setTariff_90 : decode cX5_setTariff 90 = .ok (.iload 4, 2) := by decide +kernel
theorem dX5_setTariff_92 : decode cX5_setTariff 92 = .ok (.iastore, 1) := by decide +kernel
theorem dX5_setTariff_93 : decode cX5_setTariff 93 = .ok (.iload 5, 2) := by decide +kernel
theorem dX5_setTariff_95 : decode cX5_setTariff 95 = .ok (.ireturn, 1) := by decide +kernel
theorem dX5_chargeFor_0 : decode cX5_chargeFor 0 = .ok (.aload_n 0, 1) := by decide +kernel
theorem dX5_chargeFor_1 : decode cX5_chargeFor 1 = .ok (.getfield 16, 3) := by decide +kernel
theorem dX5_chargeFor_4 : decode cX5_chargeFor 4 = .ok (.iload_n 1, 1) := by decide +kernel
theorem dX5_chargeFor_5 : decode cX5_chargeFor 5 = .ok (.iaload, 1) := by decide +kernel
theorem dX5_chargeFor_6 : decode cX5_chargeFor 6 = .ok (.aload_n 0, 1) := by decide +kernel
theorem dX5_chargeFor_7 : decode cX5_chargeFor 7 = .ok (.getfield 13, 3) := by decide +kernel
theorem dX5_chargeFor_10 : decode cX5_chargeFor 10 = .ok (.iload_n 1, 1) := by decide +kernel
theorem dX5_chargeFor_11 : decode cX5_chargeFor 11 = .ok (.iaload, 1) := by decide +kernel
theorem dX5_chargeFor_12 : decode cX5_chargeFor 12 = .ok (.iload_n 2, 1) := by decide +kernel
theorem dX5_chargeFor_13 : decode cX5_chargeFor 13 = .ok (.aload_n 0, 1) := by decide +kernel
theorem dX5_chargeFor_14 : decode cX5_chargeFor 14 = .ok (.getfield 7, 3) := by decide +kernel
theorem dX5_chargeFor_17 : decode cX5_chargeFor 17 = .ok (.iload_n 1, 1) := by decide +kernel
theorem dX5_chargeFor_18 : decode cX5_chargeFor 18 = .ok (.iaload, 1) := by decide +kernel
theorem dX5_chargeFor_19 : decode cX5_chargeFor 19 = .ok (.iadd, 1) := by decide +kernel
theorem dX5_chargeFor_20 : decode cX5_chargeFor 20 = .ok (.iconst 1, 1) := by decide +kernel
theorem dX5_chargeFor_21 : decode cX5_chargeFor 21 = .ok (.isub, 1) := by decide +kernel
theorem dX5_chargeFor_22 : decode cX5_chargeFor 22 = .ok (.aload_n 0, 1) := by decide +kernel
theorem dX5_chargeFor_23 : decode cX5_chargeFor 23 = .ok (.getfield 7, 3) := by decide +kernel
theorem dX5_chargeFor_26 : decode cX5_chargeFor 26 = .ok (.iload_n 1, 1) := by decide +kernel
theorem dX5_chargeFor_27 : decode cX5_chargeFor 27 = .ok (.iaload, 1) := by decide +kernel
theorem dX5_chargeFor_28 : decode cX5_chargeFor 28 = .ok (.idiv, 1) := by decide +kernel
theorem dX5_chargeFor_29 : decode cX5_chargeFor 29 = .ok (.imul, 1) := by decide +kernel
theorem dX5_chargeFor_30 : decode cX5_chargeFor 30 = .ok (.iadd, 1) := by decide +kernel
theorem dX5_chargeFor_31 : decode cX5_chargeFor 31 = .ok (.ireturn, 1) := by decide +kernel
set_option maxRecDepth 20000 in
theorem ggX5_charge_X5_isOperator : GoodIn wsX5_charge wsX5_isOperator := goodIn_r _ [6, 7, 8, 5, 9] (by decide +kernel) (by decide +kernel)
set_option maxRecDepth 20000 in
theorem gX5_charge_X5_isOperator : GoodIn wsX5_charge (va_wsS RX5 82 yX5_isOperator wsX5_isOperator) := goodIn_app (goodIn_of _ (by decide +kernel)) ggX5_charge_X5_isOperator
set_option maxRecDepth 20000 in
theorem ggX5_charge_X5_in : GoodIn wsX5_charge wsX5_in := goodIn_r _ [9] (by decide +kernel) (by decide +kernel)
set_option maxRecDepth 20000 in
theorem gX5_charge_X5_in : GoodIn wsX5_charge (va_wsS RX5 78 yX5_in wsX5_in) := goodIn_app (goodIn_of _ (by decide +kernel)) ggX5_charge_X5_in
set_option maxRecDepth 20000 in
theorem ggX5_charge_X5_chargeFor : GoodIn wsX5_charge wsX5_chargeFor := goodIn_r _ [13, 14, 15, 16, 17, 18, 19, 20, 21, 22, 23, 24, 25, 26, 27, 28, 29, 30, 31, 32, 33, 34, 35, 36, 37, 38, 39, 40, 41, 42] (by decide +kernel) (by decide +kernel)
set_option maxRecDepth 20000 in
theorem gX5_charge_X5_chargeFor : GoodIn wsX5_charge (wsV RX5 93 RX5 yX5_chargeFor wsX5_chargeFor) := goodIn_app (goodIn_of _ (by decide +kernel)) ggX5_charge_X5_chargeFor
theorem dX5_charge_0 : decode cX5_charge 0 = .ok (.aload_n 0, 1) := by decide +kernel
theorem dX5_charge_1 : decode cX5_charge 1 = .ok (.iload_n 1, 1) := by decide +kernel
theorem dX5_charge_2 : decode cX5_charge 2 = .ok (.invokestatic 82, 3) := by decide +kernel
theorem dX5_charge_5 : decode cX5_charge 5 = .ok (.ifCond .ne 7, 3) := by decide +kernel
theorem dX5_charge_8 : decode cX5_charge 8 = .ok (.iconst 1, 1) := by decide +kernel
theorem dX5_charge_9 : decode cX5_charge 9 = .ok (.goto 18, 3) := by decide +kernel
theorem dX5_charge_12 : decode cX5_charge 12 = .ok (.iload_n 2, 1) := by decide +kernel
theorem dX5_charge_13 : decode cX5_charge 13 = .ok (.iconst 1, 1) := by decide +kernel
theorem dX5_charge_14 : decode cX5_charge 14 = .ok (.ldc 92, 2) := by decide +kernel
theorem dX5_charge_16 : decode cX5_charge 16 = .ok (.invokestatic 78, 3) := by decide +kernel
theorem dX5_charge_19 : decode cX5_charge 19 = .ok (.ifCond .ne 7, 3) := by decide +kernel
theorem dX5_charge_22 : decode cX5_charge 22 = .ok (.iconst 2, 1) := by decide +kernel
theorem dX5_charge_23 : decode cX5_charge 23 = .ok (.goto 4, 3) := by decide +kernel
theorem dX5_charge_26 : decode cX5_charge 26 = .ok (.iconst 0, 1) := by decide +kernel
theorem dX5_charge_27 : decode cX5_charge 27 = .ok (.putfield 74, 3) := by decide +kernel
theorem dX5_charge_30 : decode cX5_charge 30 = .ok (.aload_n 0, 1) := by decide +kernel
theorem dX5_charge_31 : decode cX5_charge 31 = .ok (.getfield 74, 3) := by decide +kernel
theorem dX5_charge_34 : decode cX5_charge 34 = .ok (.ifCond .ne 12, 3) := by decide +kernel
theorem dX5_charge_37 : decode cX5_charge 37 = .ok (.aload_n 0, 1) := by decide +kernel
theorem dX5_charge_38 : decode cX5_charge 38 = .ok (.iload_n 1, 1) := by decide +kernel
theorem dX5_charge_39 : decode cX5_charge 39 = .ok (.iload_n 2, 1) := by decide +kernel
theorem dX5_charge_40 : decode cX5_charge 40 = .ok (.invokevirtual 93, 3) := by decide +kernel
theorem dX5_charge_43 : decode cX5_charge 43 = .ok (.goto 4, 3) := by decide +kernel
theorem dX5_charge_46 : decode cX5_charge 46 = .ok (.iconst 0, 1) := by decide +kernel
theorem dX5_charge_47 : decode cX5_charge 47 = .ok (.ireturn, 1) := by decide +kernel
set_option maxRecDepth 20000 in
theorem ggX5_begin_X5_isPair : GoodIn wsX5_begin wsX5_isPair := goodIn_r _ [11, 2, 12, 13, 10, 14, 15, 16, 17, 18, 19, 20, 21, 22, 23, 24, 25, 26, 27, 28, 29, 30, 31, 32, 33, 34, 35, 36, 37, 38, 39, 40, 41, 42, 43] (by decide +kernel) (by decide +kernel)
set_option maxRecDepth 20000 in
theorem gX5_begin_X5_isPair : GoodIn wsX5_begin (wsV RX5 97 RX5 yX5_isPair wsX5_isPair) := goodIn_app (goodIn_of _ (by decide +kernel)) ggX5_begin_X5_isPair
theorem dX5_begin_0 : decode cX5_begin 0 = .ok (.aload_n 0, 1) := by decide +kernel
theorem dX5_begin_1 : decode cX5_begin 1 = .ok (.iload_n 1, 1) := by decide +kernel
theorem dX5_begin_2 : decode cX5_begin 2 = .ok (.iload_n 2, 1) := by decide +kernel
theorem dX5_begin_3 : decode cX5_begin 3 = .ok (.iconst 1, 1) := by decide +kernel
theorem dX5_begin_4 : decode cX5_begin 4 = .ok (.invokevirtual 97, 3) := by decide +kernel
theorem dX5_begin_7 : decode cX5_begin 7 = .ok (.ifCond .eq 21, 3) := by decide +kernel
theorem dX5_begin_10 : decode cX5_begin 10 = .ok (.aload_n 0, 1) := by decide +kernel
theorem dX5_begin_11 : decode cX5_begin 11 = .ok (.aload_n 0, 1) := by decide +kernel
theorem dX5_begin_12 : decode cX5_begin 12 = .ok (.getfield 86, 3) := by decide +kernel
theorem dX5_begin_15 : decode cX5_begin 15 = .ok (.bipush 30, 2) := by decide +kernel
theorem dX5_begin_17 : decode cX5_begin 17 = .ok (.if_icmp .ne 7, 3) := by decide +kernel
theorem dX5_begin_20 : decode cX5_begin 20 = .ok (.iconst 3, 1) := by decide +kernel
theorem dX5_begin_21 : decode cX5_begin 21 = .ok (.goto 4, 3) := by decide +kernel
theorem dX5_begin_24 : decode cX5_begin 24 = .ok (.iconst 0, 1) := by decide +kernel
theorem dX5_begin_25 : decode cX5_begin 25 = .ok (.putfield 74, 3) := by decide +kernel
theorem dX5_begin_28 : decode cX5_begin 28 = .ok (.aload_n 0, 1) := by decide +kernel
theorem dX5_begin_29 : decode cX5_begin 29 = .ok (.getfield 74, 3) := by decide +kernel
theorem dX5_begin_32 : decode cX5_begin 32 = .ok (.ifCond .le 5, 3) := by decide +kernel
theorem dX5_begin_35 : decode cX5_begin 35 = .ok (.iconst 0, 1) := by decide +kernel
theorem dX5_begin_36 : decode cX5_begin 36 = .ok (.ireturn, 1) := by decide +kernel
theorem dX5_begin_37 : decode cX5_begin 37 = .ok (.aload_n 0, 1) := by decide +kernel
theorem dX5_begin_38 : decode cX5_begin 38 = .ok (.getfield 22, 3) := by decide +kernel
theorem dX5_begin_41 : decode cX5_begin 41 = .ok (.aload_n 0, 1) := by decide +kernel
theorem dX5_begin_42 : decode cX5_begin 42 = .ok (.getfield 86, 3) := by decide +kernel
theorem dX5_begin_45 : decode cX5_begin 45 = .ok (.iconst 4, 1) := by decide +kernel
theorem dX5_begin_46 : decode cX5_begin 46 = .ok (.iload_n 1, 1) := by decide +kernel
theorem dX5_begin_47 : decode cX5_begin 47 = .ok (.imul, 1) := by decide +kernel
theorem dX5_begin_48 : decode cX5_begin 48 = .ok (.iload_n 2, 1) := by decide +kernel
theorem dX5_begin_49 : decode cX5_begin 49 = .ok (.iadd, 1) := by decide +kernel
theorem dX5_begin_50 : decode cX5_begin 50 = .ok (.iastore, 1) := by decide +kernel
theorem dX5_begin_51 : decode cX5_begin 51 = .ok (.aload_n 0, 1) := by decide +kernel
theorem dX5_begin_52 : decode cX5_begin 52 = .ok (.getfield 25, 3) := by decide +kernel
theorem dX5_begin_55 : decode cX5_begin 55 = .ok (.aload_n 0, 1) := by decide +kernel
theorem dX5_begin_56 : decode cX5_begin 56 = .ok (.getfield 86, 3) := by decide +kernel
theorem dX5_begin_59 : decode cX5_begin 59 = .ok (.aload_n 0, 1) := by decide +kernel
theorem dX5_begin_60 : decode cX5_begin 60 = .ok (.getfield 101, 3) := by decide +kernel
theorem dX5_begin_63 : decode cX5_begin 63 = .ok (.iastore, 1) := by decide +kernel
theorem dX5_begin_64 : decode cX5_begin 64 = .ok (.aload_n 0, 1) := by decide +kernel
theorem dX5_begin_65 : decode cX5_begin 65 = .ok (.getfield 28, 3) := by decide +kernel
theorem dX5_begin_68 : decode cX5_begin 68 = .ok (.aload_n 0, 1) := by decide +kernel
theorem dX5_begin_69 : decode cX5_begin 69 = .ok (.getfield 86, 3) := by decide +kernel
theorem dX5_begin_72 : decode cX5_begin 72 = .ok (.iconst 0, 1) := by decide +kernel
theorem dX5_begin_73 : decode cX5_begin 73 = .ok (.iastore, 1) := by decide +kernel
theorem dX5_begin_74 : decode cX5_begin 74 = .ok (.aload_n 0, 1) := by decide +kernel
theorem dX5_begin_75 : decode cX5_begin 75 = .ok (.dup, 1) := by decide +kernel
theorem dX5_begin_76 : decode cX5_begin 76 = .ok (.getfield 86, 3) := by decide +kernel
theorem dX5_begin_79 : decode cX5_begin 79 = .ok (.iconst 1, 1) := by decide +kernel
theorem dX5_begin_80 : decode cX5_begin 80 = .ok (.iadd, 1) := by decide +kernel
theorem dX5_begin_81 : decode cX5_begin 81 = .ok (.putfield 86, 3) := by decide +kernel
theorem dX5_begin_84 : decode cX5_begin 84 = .ok (.aload_n 0, 1) := by decide +kernel
theorem dX5_begin_85 : decode cX5_begin 85 = .ok (.getfield 86, 3) := by decide +kernel
theorem dX5_begin_88 : decode cX5_begin 88 = .ok (.iconst 1, 1) := by decide +kernel
theorem dX5_begin_89 : decode cX5_begin 89 = .ok (.isub, 1) := by decide +kernel
theorem dX5_begin_90 : decode cX5_begin 90 = .ok (.ireturn, 1) := by decide +kernel
set_option maxRecDepth 20000 in
theorem ggX5_enter_X5_isFile : GoodIn wsX5_enter wsX5_isFile := goodIn_r _ [14, 15, 16, 17, 13, 18, 19, 20, 21, 22, 23, 24, 25, 26, 27, 28, 29, 30, 31, 32, 33, 34, 35, 36, 37, 38, 39, 40, 41, 42, 43, 44] (by decide +kernel) (by decide +kernel)
set_option maxRecDepth 20000 in
theorem gX5_enter_X5_isFile : GoodIn wsX5_enter (wsV RX5 104 RX5 yX5_isFile wsX5_isFile) := goodIn_app (goodIn_of _ (by decide +kernel)) ggX5_enter_X5_isFile
set_option maxRecDepth 20000 in
theorem ggX5_enter_X5_in : GoodIn wsX5_enter wsX5_in := goodIn_r _ [18] (by decide +kernel) (by decide +kernel)
set_option maxRecDepth 20000 in
theorem gX5_enter_X5_in : GoodIn wsX5_enter (va_wsS RX5 78 yX5_in wsX5_in) := goodIn_app (goodIn_of _ (by decide +kernel)) ggX5_enter_X5_in
theorem dX5_enter_0 : decode cX5_enter 0 = .ok (.aload_n 0, 1) := by decide +kernel
theorem dX5_enter_1 : decode cX5_enter 1 = .ok (.aload_n 0, 1) := by decide +kernel
theorem dX5_enter_2 : decode cX5_enter 2 = .ok (.iload_n 1, 1) := by decide +kernel
theorem dX5_enter_3 : decode cX5_enter 3 = .ok (.invokevirtual 104, 3) := by decide +kernel
theorem dX5_enter_6 : decode cX5_enter 6 = .ok (.ifCond .ne 7, 3) := by decide +kernel
theorem dX5_enter_9 : decode cX5_enter 9 = .ok (.iconst 1, 1) := by decide +kernel
theorem dX5_enter_10 : decode cX5_enter 10 = .ok (.goto 50, 3) := by decide +kernel
theorem dX5_enter_13 : decode cX5_enter 13 = .ok (.iload_n 2, 1) := by decide +kernel
theorem dX5_enter_14 : decode cX5_enter 14 = .ok (.iconst 1, 1) := by decide +kernel
theorem dX5_enter_15 : decode cX5_enter 15 = .ok (.ldc 92, 2) := by decide +kernel
theorem dX5_enter_17 : decode cX5_enter 17 = .ok (.invokestatic 78, 3) := by decide +kernel
theorem dX5_enter_20 : decode cX5_enter 20 = .ok (.ifCond .eq 13, 3) := by decide +kernel
theorem dX5_enter_23 : decode cX5_enter 23 = .ok (.iload_n 3, 1) := by decide +kernel
theorem dX5_enter_24 : decode cX5_enter 24 = .ok (.iconst 0, 1) := by decide +kernel
theorem dX5_enter_25 : decode cX5_enter 25 = .ok (.ldc 107, 2) := by decide +kernel
theorem dX5_enter_27 : decode cX5_enter 27 = .ok (.invokestatic 78, 3) := by decide +kernel
theorem dX5_enter_30 : decode cX5_enter 30 = .ok (.ifCond .ne 7, 3) := by decide +kernel
theorem dX5_enter_33 : decode cX5_enter 33 = .ok (.iconst 2, 1) := by decide +kernel
theorem dX5_enter_34 : decode cX5_enter 34 = .ok (.goto 26, 3) := by decide +kernel
theorem dX5_enter_37 : decode cX5_enter 37 = .ok (.aload_n 0, 1) := by decide +kernel
theorem dX5_enter_38 : decode cX5_enter 38 = .ok (.getfield 28, 3) := by decide +kernel
theorem dX5_enter_41 : decode cX5_enter 41 = .ok (.iload_n 1, 1) := by decide +kernel
theorem dX5_enter_42 : decode cX5_enter 42 = .ok (.iaload, 1) := by decide +kernel
theorem dX5_enter_43 : decode cX5_enter 43 = .ok (.ifCond .ne 12, 3) := by decide +kernel
theorem dX5_enter_46 : decode cX5_enter 46 = .ok (.aload_n 0, 1) := by decide +kernel
theorem dX5_enter_47 : decode cX5_enter 47 = .ok (.getfield 89, 3) := by decide +kernel
theorem dX5_enter_50 : decode cX5_enter 50 = .ok (.bipush 60, 2) := by decide +kernel
theorem dX5_enter_52 : decode cX5_enter 52 = .ok (.if_icmp .ne 7, 3) := by decide +kernel
theorem dX5_enter_55 : decode cX5_enter 55 = .ok (.iconst 3, 1) := by decide +kernel
theorem dX5_enter_56 : decode cX5_enter 56 = .ok (.goto 4, 3) := by decide +kernel
theorem dX5_enter_59 : decode cX5_enter 59 = .ok (.iconst 0, 1) := by decide +kernel
theorem dX5_enter_60 : decode cX5_enter 60 = .ok (.putfield 74, 3) := by decide +kernel
theorem dX5_enter_63 : decode cX5_enter 63 = .ok (.aload_n 0, 1) := by decide +kernel
theorem dX5_enter_64 : decode cX5_enter 64 = .ok (.getfield 74, 3) := by decide +kernel
theorem dX5_enter_67 : decode cX5_enter 67 = .ok (.ifCond .le 5, 3) := by decide +kernel
theorem dX5_enter_70 : decode cX5_enter 70 = .ok (.iconst 0, 1) := by decide +kernel
theorem dX5_enter_71 : decode cX5_enter 71 = .ok (.ireturn, 1) := by decide +kernel
theorem dX5_enter_72 : decode cX5_enter 72 = .ok (.aload_n 0, 1) := by decide +kernel
theorem dX5_enter_73 : decode cX5_enter 73 = .ok (.getfield 34, 3) := by decide +kernel
theorem dX5_enter_76 : decode cX5_enter 76 = .ok (.aload_n 0, 1) := by decide +kernel
theorem dX5_enter_77 : decode cX5_enter 77 = .ok (.getfield 89, 3) := by decide +kernel
theorem dX5_enter_80 : decode cX5_enter 80 = .ok (.iload_n 1, 1) := by decide +kernel
theorem dX5_enter_81 : decode cX5_enter 81 = .ok (.iastore, 1) := by decide +kernel
theorem dX5_enter_82 : decode cX5_enter 82 = .ok (.aload_n 0, 1) := by decide +kernel
theorem dX5_enter_83 : decode cX5_enter 83 = .ok (.getfield 37, 3) := by decide +kernel
theorem dX5_enter_86 : decode cX5_enter 86 = .ok (.aload_n 0, 1) := by decide +kernel
theorem dX5_enter_87 : decode cX5_enter 87 = .ok (.getfield 89, 3) := by decide +kernel
theorem dX5_enter_90 : decode cX5_enter 90 = .ok (.iload_n 2, 1) := by decide +kernel
theorem dX5_enter_91 : decode cX5_enter 91 = .ok (.iastore, 1) := by decide +kernel
theorem dX5_enter_92 : decode cX5_enter 92 = .ok (.aload_n 0, 1) := by decide +kernel
theorem dX5_enter_93 : decode cX5_enter 93 = .ok (.getfield 40, 3) := by decide +kernel
theorem dX5_enter_96 : decode cX5_enter 96 = .ok (.aload_n 0, 1) := by decide +kernel
theorem dX5_enter_97 : decode cX5_enter 97 = .ok (.getfield 89, 3) := by decide +kernel
theorem dX5_enter_100 : decode cX5_enter 100 = .ok (.iload_n 3, 1) := by decide +kernel
theorem dX5_enter_101 : decode cX5_enter 101 = .ok (.iastore, 1) := by decide +kernel
theorem dX5_enter_102 : decode cX5_enter 102 = .ok (.aload_n 0, 1) := by decide +kernel
theorem dX5_enter_103 : decode cX5_enter 103 = .ok (.getfield 43, 3) := by decide +kernel
theorem dX5_enter_106 : decode cX5_enter 106 = .ok (.aload_n 0, 1) := by decide +kernel
theorem dX5_enter_107 : decode cX5_enter 107 = .ok (.getfield 89, 3) := by decide +kernel
theorem dX5_enter_110 : decode cX5_enter 110 = .ok (.iconst 0, 1) := by decide +kernel
theorem dX5_enter_111 : decode cX5_enter 111 = .ok (.iastore, 1) := by decide +kernel
theorem dX5_enter_112 : decode cX5_enter 112 = .ok (.aload_n 0, 1) := by decide +kernel
theorem dX5_enter_113 : decode cX5_enter 113 = .ok (.dup, 1) := by decide +kernel
theorem dX5_enter_114 : decode cX5_enter 114 = .ok (.getfield 89, 3) := by decide +kernel
theorem dX5_enter_117 : decode cX5_enter 117 = .ok (.iconst 1, 1) := by decide +kernel
theorem dX5_enter_118 : decode cX5_enter 118 = .ok (.iadd, 1) := by decide +kernel
theorem dX5_enter_119 : decode cX5_enter 119 = .ok (.putfield 89, 3) := by decide +kernel
theorem dX5_enter_122 : decode cX5_enter 122 = .ok (.aload_n 0, 1) := by decide +kernel
theorem dX5_enter_123 : decode cX5_enter 123 = .ok (.getfield 89, 3) := by decide +kernel
theorem dX5_enter_126 : decode cX5_enter 126 = .ok (.iconst 1, 1) := by decide +kernel
theorem dX5_enter_127 : decode cX5_enter 127 = .ok (.isub, 1) := by decide +kernel
theorem dX5_enter_128 : decode cX5_enter 128 = .ok (.ireturn, 1) := by decide +kernel
set_option maxRecDepth 20000 in
theorem ggX5_isRight_X5_chargeFor : GoodIn wsX5_isRight wsX5_chargeFor := goodIn_r _ [9, 10, 11, 12, 13, 14, 15, 16, 17, 18, 19, 20, 21, 22, 23, 24, 25, 26, 27, 28, 29, 30, 31, 32, 33, 34, 35, 36, 37, 38] (by decide +kernel) (by decide +kernel)
set_option maxRecDepth 20000 in
theorem gX5_isRight_X5_chargeFor : GoodIn wsX5_isRight (wsV RX5 93 RX5 yX5_chargeFor wsX5_chargeFor) := goodIn_app (goodIn_of _ (by decide +kernel)) ggX5_isRight_X5_chargeFor
theorem dX5_isRight_0 : decode cX5_isRight 0 = .ok (.aload_n 0, 1) := by decide +kernel
theorem dX5_isRight_1 : decode cX5_isRight 1 = .ok (.aload_n 0, 1) := by decide +kernel
theorem dX5_isRight_2 : decode cX5_isRight 2 = .ok (.getfield 22, 3) := by decide +kernel
theorem dX5_isRight_5 : decode cX5_isRight 5 = .ok (.aload_n 0, 1) := by decide +kernel
theorem dX5_isRight_6 : decode cX5_isRight 6 = .ok (.getfield 34, 3) := by decide +kernel
theorem dX5_isRight_9 : decode cX5_isRight 9 = .ok (.iload_n 1, 1) := by decide +kernel
theorem dX5_isRight_10 : decode cX5_isRight 10 = .ok (.iaload, 1) := by decide +kernel
theorem dX5_isRight_11 : decode cX5_isRight 11 = .ok (.iaload, 1) := by decide +kernel
theorem dX5_isRight_12 : decode cX5_isRight 12 = .ok (.iconst 4, 1) := by decide +kernel
theorem dX5_isRight_13 : decode cX5_isRight 13 = .ok (.idiv, 1) := by decide +kernel
theorem dX5_isRight_14 : decode cX5_isRight 14 = .ok (.aload_n 0, 1) := by decide +kernel
theorem dX5_isRight_15 : decode cX5_isRight 15 = .ok (.getfield 37, 3) := by decide +kernel
theorem dX5_isRight_18 : decode cX5_isRight 18 = .ok (.iload_n 1, 1) := by decide +kernel
theorem dX5_isRight_19 : decode cX5_isRight 19 = .ok (.iaload, 1) := by decide +kernel
theorem dX5_isRight_20 : decode cX5_isRight 20 = .ok (.invokevirtual 93, 3) := by decide +kernel
theorem dX5_isRight_23 : decode cX5_isRight 23 = .ok (.aload_n 0, 1) := by decide +kernel
theorem dX5_isRight_24 : decode cX5_isRight 24 = .ok (.getfield 40, 3) := by decide +kernel
theorem dX5_isRight_27 : decode cX5_isRight 27 = .ok (.iload_n 1, 1) := by decide +kernel
theorem dX5_isRight_28 : decode cX5_isRight 28 = .ok (.iaload, 1) := by decide +kernel
theorem dX5_isRight_29 : decode cX5_isRight 29 = .ok (.if_icmp .ne 7, 3) := by decide +kernel
theorem dX5_isRight_32 : decode cX5_isRight 32 = .ok (.iconst 1, 1) := by decide +kernel
theorem dX5_isRight_33 : decode cX5_isRight 33 = .ok (.goto 4, 3) := by decide +kernel
theorem dX5_isRight_36 : decode cX5_isRight 36 = .ok (.iconst 0, 1) := by decide +kernel
theorem dX5_isRight_37 : decode cX5_isRight 37 = .ok (.ireturn, 1) := by decide +kernel
set_option maxRecDepth 20000 in
theorem ggX5_callsOf_X5_isRight : GoodIn wsX5_callsOf wsX5_isRight := goodIn_r _ [7, 8, 2, 9, 10, 11, 12, 13, 6, 14, 15, 16, 17, 18, 19, 20, 21, 22, 23, 24, 25, 26, 27, 28, 29, 30, 31, 32, 33, 34, 35, 36, 37, 38, 39, 40, 41, 42, 43] (by decide +kernel) (by decide +kernel)
set_option maxRecDepth 20000 in
theorem gX5_callsOf_X5_isRight : GoodIn wsX5_callsOf (wsV RX5 108 RX5 yX5_isRight wsX5_isRight) := goodIn_app (goodIn_of _ (by decide +kernel)) ggX5_callsOf_X5_isRight
theorem dX5_callsOf_0 : decode cX5_callsOf 0 = .ok (.iconst 0, 1) := by decide +kernel
theorem dX5_callsOf_1 : decode cX5_callsOf 1 = .ok (.istore_n 3, 1) := by decide +kernel
theorem dX5_callsOf_2 : decode cX5_callsOf 2 = .ok (.iconst 0, 1) := by decide +kernel
theorem dX5_callsOf_3 : decode cX5_callsOf 3 = .ok (.istore 4, 2) := by decide +kernel
theorem dX5_callsOf_5 : decode cX5_callsOf 5 = .ok (.iload 4, 2) := by decide +kernel
theorem dX5_callsOf_7 : decode cX5_callsOf 7 = .ok (.aload_n 0, 1) := by decide +kernel
theorem dX5_callsOf_8 : decode cX5_callsOf 8 = .ok (.getfield 89, 3) := by decide +kernel
theorem dX5_callsOf_11 : decode cX5_callsOf 11 = .ok (.if_icmp .ge 41, 3) := by decide +kernel
theorem dX5_callsOf_14 : decode cX5_callsOf 14 = .ok (.iload_n 3, 1) := by decide +kernel
theorem dX5_callsOf_15 : decode cX5_callsOf 15 = .ok (.aload_n 0, 1) := by decide +kernel
theorem dX5_callsOf_16 : decode cX5_callsOf 16 = .ok (.getfield 34, 3) := by decide +kernel
theorem dX5_callsOf_19 : decode cX5_callsOf 19 = .ok (.iload 4, 2) := by decide +kernel
theorem dX5_callsOf_21 : decode cX5_callsOf 21 = .ok (.iaload, 1) := by decide +kernel
theorem dX5_callsOf_22 : decode cX5_callsOf 22 = .ok (.iload_n 1, 1) := by decide +kernel
theorem dX5_callsOf_23 : decode cX5_callsOf 23 = .ok (.if_icmp .ne 20, 3) := by decide +kernel
theorem dX5_callsOf_26 : decode cX5_callsOf 26 = .ok (.iload_n 2, 1) := by decide +kernel
theorem dX5_callsOf_27 : decode cX5_callsOf 27 = .ok (.ifCond .eq 12, 3) := by decide +kernel
theorem dX5_callsOf_30 : decode cX5_callsOf 30 = .ok (.aload_n 0, 1) := by decide +kernel
theorem dX5_callsOf_31 : decode cX5_callsOf 31 = .ok (.iload 4, 2) := by decide +kernel
theorem dX5_callsOf_33 : decode cX5_callsOf 33 = .ok (.invokevirtual 108, 3) := by decide +kernel
theorem dX5_callsOf_36 : decode cX5_callsOf 36 = .ok (.ifCond .ne 7, 3) := by decide +kernel
theorem dX5_callsOf_39 : decode cX5_callsOf 39 = .ok (.iconst 1, 1) := by decide +kernel
theorem dX5_callsOf_40 : decode cX5_callsOf 40 = .ok (.goto 4, 3) := by decide +kernel
theorem dX5_callsOf_43 : decode cX5_callsOf 43 = .ok (.iconst 0, 1) := by decide +kernel
theorem dX5_callsOf_44 : decode cX5_callsOf 44 = .ok (.iadd, 1) := by decide +kernel
theorem dX5_callsOf_45 : decode cX5_callsOf 45 = .ok (.istore_n 3, 1) := by decide +kernel
theorem dX5_callsOf_46 : decode cX5_callsOf 46 = .ok (.iinc 4 1, 3) := by decide +kernel
theorem dX5_callsOf_49 : decode cX5_callsOf 49 = .ok (.goto (-44), 3) := by decide +kernel
theorem dX5_callsOf_52 : decode cX5_callsOf 52 = .ok (.iload_n 3, 1) := by decide +kernel
theorem dX5_callsOf_53 : decode cX5_callsOf 53 = .ok (.ireturn, 1) := by decide +kernel
set_option maxRecDepth 20000 in
theorem ggX5_lookAt_X5_callsOf : GoodIn wsX5_lookAt wsX5_callsOf := goodIn_r _ [14, 4, 5, 15, 16, 17, 13, 18, 19, 20, 21, 22, 23, 24, 25, 26, 27, 28, 29, 30, 31, 32, 33, 34, 35, 36, 37, 38, 39, 40, 41, 42, 43, 44, 45, 46, 47, 48, 49, 50, 51, 52, 53, 54] (by decide +kernel) (by decide +kernel)
set_option maxRecDepth 20000 in
theorem gX5_lookAt_X5_callsOf : GoodIn wsX5_lookAt (wsV RX5 111 RX5 yX5_callsOf wsX5_callsOf) := goodIn_app (goodIn_of _ (by decide +kernel)) ggX5_lookAt_X5_callsOf
set_option maxRecDepth 20000 in
theorem ggX5_lookAt_X5_isRight : GoodIn wsX5_lookAt wsX5_isRight := goodIn_r _ [18, 19, 5, 20, 21, 22, 23, 24, 13, 25, 26, 27, 28, 29, 30, 31, 32, 33, 34, 35, 36, 37, 38, 39, 40, 41, 42, 43, 44, 45, 46, 47, 48, 49, 50, 51, 52, 53, 54] (by decide +kernel) (by decide +kernel)
set_option maxRecDepth 20000 in
theorem gX5_lookAt_X5_isRight : GoodIn wsX5_lookAt (wsV RX5 108 RX5 yX5_isRight wsX5_isRight) := goodIn_app (goodIn_of _ (by decide +kernel)) ggX5_lookAt_X5_isRight
theorem dX5_lookAt_0 : decode cX5_lookAt 0 = .ok (.aload_n 0, 1) := by decide +kernel
theorem dX5_lookAt_1 : decode cX5_lookAt 1 = .ok (.getfield 101, 3) := by decide +kernel
theorem dX5_lookAt_4 : decode cX5_lookAt 4 = .ok (.aload_n 0, 1) := by decide +kernel
theorem dX5_lookAt_5 : decode cX5_lookAt 5 = .ok (.getfield 25, 3) := by decide +kernel
theorem dX5_lookAt_8 : decode cX5_lookAt 8 = .ok (.iload_n 1, 1) := by decide +kernel
theorem dX5_lookAt_9 : decode cX5_lookAt 9 = .ok (.iaload, 1) := by decide +kernel
theorem dX5_lookAt_10 : decode cX5_lookAt 10 = .ok (.iconst 2, 1) := by decide +kernel
theorem dX5_lookAt_11 : decode cX5_lookAt 11 = .ok (.iadd, 1) := by decide +kernel
theorem dX5_lookAt_12 : decode cX5_lookAt 12 = .ok (.if_icmp .le 13, 3) := by decide +kernel
theorem dX5_lookAt_15 : decode cX5_lookAt 15 = .ok (.aload_n 0, 1) := by decide +kernel
theorem dX5_lookAt_16 : decode cX5_lookAt 16 = .ok (.getfield 28, 3) := by decide +kernel
theorem dX5_lookAt_19 : decode cX5_lookAt 19 = .ok (.iload_n 1, 1) := by decide +kernel
theorem dX5_lookAt_20 : decode cX5_lookAt 20 = .ok (.iconst 3, 1) := by decide +kernel
theorem dX5_lookAt_21 : decode cX5_lookAt 21 = .ok (.iastore, 1) := by decide +kernel
theorem dX5_lookAt_22 : decode cX5_lookAt 22 = .ok (.goto 108, 3) := by decide +kernel
theorem dX5_lookAt_25 : decode cX5_lookAt 25 = .ok (.aload_n 0, 1) := by decide +kernel
theorem dX5_lookAt_26 : decode cX5_lookAt 26 = .ok (.iload_n 1, 1) := by decide +kernel
theorem dX5_lookAt_27 : decode cX5_lookAt 27 = .ok (.iconst 1, 1) := by decide +kernel
theorem dX5_lookAt_28 : decode cX5_lookAt 28 = .ok (.invokevirtual 111, 3) := by decide +kernel
theorem dX5_lookAt_31 : decode cX5_lookAt 31 = .ok (.iconst 3, 1) := by decide +kernel
theorem dX5_lookAt_32 : decode cX5_lookAt 32 = .ok (.imul, 1) := by decide +kernel
theorem dX5_lookAt_33 : decode cX5_lookAt 33 = .ok (.aload_n 0, 1) := by decide +kernel
theorem dX5_lookAt_34 : decode cX5_lookAt 34 = .ok (.iload_n 1, 1) := by decide +kernel
theorem dX5_lookAt_35 : decode cX5_lookAt 35 = .ok (.iconst 0, 1) := by decide +kernel
theorem dX5_lookAt_36 : decode cX5_lookAt 36 = .ok (.invokevirtual 111, 3) := by decide +kernel
theorem dX5_lookAt_39 : decode cX5_lookAt 39 = .ok (.if_icmp .le 13, 3) := by decide +kernel
theorem dX5_lookAt_42 : decode cX5_lookAt 42 = .ok (.aload_n 0, 1) := by decide +kernel
theorem dX5_lookAt_43 : decode cX5_lookAt 43 = .ok (.getfield 28, 3) := by decide +kernel
theorem dX5_lookAt_46 : decode cX5_lookAt 46 = .ok (.iload_n 1, 1) := by decide +kernel
theorem dX5_lookAt_47 : decode cX5_lookAt 47 = .ok (.iconst 4, 1) := by decide +kernel
theorem dX5_lookAt_48 : decode cX5_lookAt 48 = .ok (.iastore, 1) := by decide +kernel
theorem dX5_lookAt_49 : decode cX5_lookAt 49 = .ok (.goto 81, 3) := by decide +kernel
theorem dX5_lookAt_52 : decode cX5_lookAt 52 = .ok (.aload_n 0, 1) := by decide +kernel
theorem dX5_lookAt_53 : decode cX5_lookAt 53 = .ok (.getfield 28, 3) := by decide +kernel
theorem dX5_lookAt_56 : decode cX5_lookAt 56 = .ok (.iload_n 1, 1) := by decide +kernel
theorem dX5_lookAt_57 : decode cX5_lookAt 57 = .ok (.iconst 5, 1) := by decide +kernel
theorem dX5_lookAt_58 : decode cX5_lookAt 58 = .ok (.iastore, 1) := by decide +kernel
theorem dX5_lookAt_59 : decode cX5_lookAt 59 = .ok (.iconst 0, 1) := by decide +kernel
theorem dX5_lookAt_60 : decode cX5_lookAt 60 = .ok (.istore_n 2, 1) := by decide +kernel
theorem dX5_lookAt_61 : decode cX5_lookAt 61 = .ok (.iload_n 2, 1) := by decide +kernel
theorem dX5_lookAt_62 : decode cX5_lookAt 62 = .ok (.aload_n 0, 1) := by decide +kernel
theorem dX5_lookAt_63 : decode cX5_lookAt 63 = .ok (.getfield 89, 3) := by decide +kernel
theorem dX5_lookAt_66 : decode cX5_lookAt 66 = .ok (.if_icmp .ge 64, 3) := by decide +kernel
theorem dX5_lookAt_69 : decode cX5_lookAt 69 = .ok (.aload_n 0, 1) := by decide +kernel
theorem dX5_lookAt_70 : decode cX5_lookAt 70 = .ok (.getfield 34, 3) := by decide +kernel
theorem dX5_lookAt_73 : decode cX5_lookAt 73 = .ok (.iload_n 2, 1) := by decide +kernel
theorem dX5_lookAt_74 : decode cX5_lookAt 74 = .ok (.iaload, 1) := by decide +kernel
theorem dX5_lookAt_75 : decode cX5_lookAt 75 = .ok (.iload_n 1, 1) := by decide +kernel
theorem dX5_lookAt_76 : decode cX5_lookAt 76 = .ok (.if_icmp .ne 48, 3) := by decide +kernel
theorem dX5_lookAt_79 : decode cX5_lookAt 79 = .ok (.aload_n 0, 1) := by decide +kernel
theorem dX5_lookAt_80 : decode cX5_lookAt 80 = .ok (.iload_n 2, 1) := by decide +kernel
theorem dX5_lookAt_81 : decode cX5_lookAt 81 = .ok (.invokevirtual 108, 3) := by decide +kernel
theorem dX5_lookAt_84 : decode cX5_lookAt 84 = .ok (.ifCond .eq 40, 3) := by decide +kernel
theorem dX5_lookAt_87 : decode cX5_lookAt 87 = .ok (.aload_n 0, 1) := by decide +kernel
theorem dX5_lookAt_88 : decode cX5_lookAt 88 = .ok (.getfield 43, 3) := by decide +kernel
theorem dX5_lookAt_91 : decode cX5_lookAt 91 = .ok (.iload_n 2, 1) := by decide +kernel
theorem dX5_lookAt_92 : decode cX5_lookAt 92 = .ok (.iconst 1, 1) := by decide +kernel
theorem dX5_lookAt_93 : decode cX5_lookAt 93 = .ok (.iastore, 1) := by decide +kernel
theorem dX5_lookAt_94 : decode cX5_lookAt 94 = .ok (.aload_n 0, 1) := by decide +kernel
theorem dX5_lookAt_95 : decode cX5_lookAt 95 = .ok (.getfield 46, 3) := by decide +kernel
theorem dX5_lookAt_98 : decode cX5_lookAt 98 = .ok (.iload_n 2, 1) := by decide +kernel
theorem dX5_lookAt_99 : decode cX5_lookAt 99 = .ok (.aload_n 0, 1) := by decide +kernel
theorem dX5_lookAt_100 : decode cX5_lookAt 100 = .ok (.getfield 101, 3) := by decide +kernel
theorem dX5_lookAt_103 : decode cX5_lookAt 103 = .ok (.iastore, 1) := by decide +kernel
theorem dX5_lookAt_104 : decode cX5_lookAt 104 = .ok (.aload_n 0, 1) := by decide +kernel
theorem dX5_lookAt_105 : decode cX5_lookAt 105 = .ok (.getfield 52, 3) := by decide +kernel
theorem dX5_lookAt_108 : decode cX5_lookAt 108 = .ok (.aload_n 0, 1) := by decide +kernel
theorem dX5_lookAt_109 : decode cX5_lookAt 109 = .ok (.getfield 115, 3) := by decide +kernel
theorem dX5_lookAt_112 : decode cX5_lookAt 112 = .ok (.iload_n 2, 1) := by decide +kernel
theorem dX5_lookAt_113 : decode cX5_lookAt 113 = .ok (.iastore, 1) := by decide +kernel
theorem dX5_lookAt_114 : decode cX5_lookAt 114 = .ok (.aload_n 0, 1) := by decide +kernel
theorem dX5_lookAt_115 : decode cX5_lookAt 115 = .ok (.dup, 1) := by decide +kernel
theorem dX5_lookAt_116 : decode cX5_lookAt 116 = .ok (.getfield 115, 3) := by decide +kernel
theorem dX5_lookAt_119 : decode cX5_lookAt 119 = .ok (.iconst 1, 1) := by decide +kernel
theorem dX5_lookAt_120 : decode cX5_lookAt 120 = .ok (.iadd, 1) := by decide +kernel
theorem dX5_lookAt_121 : decode cX5_lookAt 121 = .ok (.putfield 115, 3) := by decide +kernel
theorem dX5_lookAt_124 : decode cX5_lookAt 124 = .ok (.iinc 2 1, 3) := by decide +kernel
theorem dX5_lookAt_127 : decode cX5_lookAt 127 = .ok (.goto (-66), 3) := by decide +kernel
theorem dX5_lookAt_130 : decode cX5_lookAt 130 = .ok (.return_, 1) := by decide +kernel
theorem dX5_waiting_0 : decode cX5_waiting 0 = .ok (.iconst (-1), 1) := by decide +kernel
theorem dX5_waiting_1 : decode cX5_waiting 1 = .ok (.istore_n 3, 1) := by decide +kernel
theorem dX5_waiting_2 : decode cX5_waiting 2 = .ok (.iconst 0, 1) := by decide +kernel
theorem dX5_waiting_3 : decode cX5_waiting 3 = .ok (.istore 4, 2) := by decide +kernel
theorem dX5_waiting_5 : decode cX5_waiting 5 = .ok (.iload 4, 2) := by decide +kernel
theorem dX5_waiting_7 : decode cX5_waiting 7 = .ok (.aload_n 0, 1) := by decide +kernel
theorem dX5_waiting_8 : decode cX5_waiting 8 = .ok (.getfield 86, 3) := by decide +kernel
theorem dX5_waiting_11 : decode cX5_waiting 11 = .ok (.if_icmp .ge 49, 3) := by decide +kernel
theorem dX5_waiting_14 : decode cX5_waiting 14 = .ok (.aload_n 0, 1) := by decide +kernel
theorem dX5_waiting_15 : decode cX5_waiting 15 = .ok (.getfield 28, 3) := by decide +kernel
theorem dX5_waiting_18 : decode cX5_waiting 18 = .ok (.iload 4, 2) := by decide +kernel
theorem dX5_waiting_20 : decode cX5_waiting 20 = .ok (.iaload, 1) := by decide +kernel
theorem dX5_waiting_21 : decode cX5_waiting 21 = .ok (.iconst 2, 1) := by decide +kernel
theorem dX5_waiting_22 : decode cX5_waiting 22 = .ok (.if_icmp .ne 30, 3) := by decide +kernel
theorem dX5_waiting_25 : decode cX5_waiting 25 = .ok (.aload_n 0, 1) := by decide +kernel
theorem dX5_waiting_26 : decode cX5_waiting 26 = .ok (.getfield 22, 3) := by decide +kernel
theorem dX5_waiting_29 : decode cX5_waiting 29 = .ok (.iload 4, 2) := by decide +kernel
theorem dX5_waiting_31 : decode cX5_waiting 31 = .ok (.iaload, 1) := by decide +kernel
theorem dX5_waiting_32 : decode cX5_waiting 32 = .ok (.iload_n 1, 1) := by decide +kernel
theorem dX5_waiting_33 : decode cX5_waiting 33 = .ok (.if_icmp .ne 19, 3) := by decide +kernel
theorem dX5_waiting_36 : decode cX5_waiting 36 = .ok (.aload_n 0, 1) := by decide +kernel
theorem dX5_waiting_37 : decode cX5_waiting 37 = .ok (.getfield 31, 3) := by decide +kernel
theorem dX5_waiting_40 : decode cX5_waiting 40 = .ok (.iload 4, 2) := by decide +kernel
theorem dX5_waiting_42 : decode cX5_waiting 42 = .ok (.iaload, 1) := by decide +kernel
theorem dX5_waiting_43 : decode cX5_waiting 43 = .ok (.iload_n 2, 1) := by decide +kernel
theorem dX5_waiting_44 : decode cX5_waiting 44 = .ok (.if_icmp .ne 8, 3) := by decide +kernel
theorem dX5_waiting_47 : decode cX5_waiting 47 = .ok (.iload 4, 2) := by decide +kernel
theorem dX5_waiting_49 : decode cX5_waiting 49 = .ok (.goto 4, 3) := by decide +kernel
theorem dX5_waiting_52 : decode cX5_waiting 52 = .ok (.iload_n 3, 1) := by decide +kernel
theorem dX5_waiting_53 : decode cX5_waiting 53 = .ok (.istore_n 3, 1) := by decide +kernel
theorem dX5_waiting_54 : decode cX5_waiting 54 = .ok (.iinc 4 1, 3) := by decide +kernel
theorem dX5_waiting_57 : decode cX5_waiting 57 = .ok (.goto (-52), 3) := by decide +kernel
theorem dX5_waiting_60 : decode cX5_waiting 60 = .ok (.iload_n 3, 1) := by decide +kernel
theorem dX5_waiting_61 : decode cX5_waiting 61 = .ok (.ireturn, 1) := by decide +kernel
set_option maxRecDepth 20000 in
theorem ggX5_send_X5_isFile : GoodIn wsX5_send wsX5_isFile := goodIn_r _ [10, 11, 12, 13, 9, 14, 48, 49, 50, 51, 52, 53, 54, 55, 56, 57, 58, 59, 60, 61, 62, 63, 64, 65, 66, 67, 68, 69, 70, 71, 72, 73] (by decide +kernel) (by decide +kernel)
set_option maxRecDepth 20000 in
theorem gX5_send_X5_isFile : GoodIn wsX5_send (wsV RX5 104 RX5 yX5_isFile wsX5_isFile) := goodIn_app (goodIn_of _ (by decide +kernel)) ggX5_send_X5_isFile
set_option maxRecDepth 20000 in
theorem ggX5_send_X5_in : GoodIn wsX5_send wsX5_in := goodIn_r _ [14] (by decide +kernel) (by decide +kernel)
set_option maxRecDepth 20000 in
theorem gX5_send_X5_in : GoodIn wsX5_send (va_wsS RX5 78 yX5_in wsX5_in) := goodIn_app (goodIn_of _ (by decide +kernel)) ggX5_send_X5_in
set_option maxRecDepth 20000 in
theorem ggX5_send_X5_callsOf : GoodIn wsX5_send wsX5_callsOf := goodIn_r _ [18, 19, 20, 21, 22, 23, 9, 24, 3, 25, 26, 27, 28, 29, 30, 31, 32, 33, 48, 49, 50, 51, 52, 53, 54, 55, 56, 57, 58, 59, 60, 61, 62, 63, 64, 65, 66, 67, 68, 69, 70, 71, 72, 73] (by decide +kernel) (by decide +kernel)
set_option maxRecDepth 20000 in
theorem gX5_send_X5_callsOf : GoodIn wsX5_send (wsV RX5 111 RX5 yX5_callsOf wsX5_callsOf) := goodIn_app (goodIn_of _ (by decide +kernel)) ggX5_send_X5_callsOf
set_option maxRecDepth 20000 in
theorem ggX5_send_X5_waiting : GoodIn wsX5_send wsX5_waiting := goodIn_r _ [37, 11, 1, 3, 5, 48, 49, 50, 51, 52, 53, 54, 55, 56, 57, 58, 59, 60, 61, 62, 63, 64, 65, 66, 67, 68, 69, 70, 71, 72, 73] (by decide +kernel) (by decide +kernel)
set_option maxRecDepth 20000 in
theorem gX5_send_X5_waiting : GoodIn wsX5_send (wsV RX5 118 RX5 yX5_waiting wsX5_waiting) := goodIn_app (goodIn_of _ (by decide +kernel)) ggX5_send_X5_waiting
set_option maxRecDepth 20000 in
theorem ggX5_send_X5_lookAt : GoodIn wsX5_send wsX5_lookAt := goodIn_r _ [41, 42, 43, 1, 19, 20, 44, 45, 46, 47, 15, 16, 17, 9, 18, 21, 22, 23, 24, 3, 25, 26, 27, 28, 29, 30, 31, 32, 33, 48, 49, 50, 51, 52, 53, 54, 55, 56, 57, 58, 59, 60, 61, 62, 63, 64, 65, 66, 67, 68, 69, 70, 71, 72, 73] (by decide +kernel) (by decide +kernel)
set_option maxRecDepth 20000 in
theorem gX5_send_X5_lookAt : GoodIn wsX5_send (wsV RX5 121 RX5 yX5_lookAt wsX5_lookAt) := goodIn_app (goodIn_of _ (by decide +kernel)) ggX5_send_X5_lookAt
theorem dX5_send_0 : decode cX5_send 0 = .ok (.aload_n 0, 1) := by decide +kernel
theorem dX5_send_1 : decode cX5_send 1 = .ok (.aload_n 0, 1) := by decide +kernel
theorem dX5_send_2 : decode cX5_send 2 = .ok (.iload_n 1, 1) := by decide +kernel
theorem dX5_send_3 : decode cX5_send 3 = .ok (.invokevirtual 104, 3) := by decide +kernel
theorem dX5_send_6 : decode cX5_send 6 = .ok (.ifCond .ne 7, 3) := by decide +kernel
theorem dX5_send_9 : decode cX5_send 9 = .ok (.iconst 1, 1) := by decide +kernel
theorem dX5_send_10 : decode cX5_send 10 = .ok (.goto 40, 3) := by decide +kernel
theorem dX5_send_13 : decode cX5_send 13 = .ok (.iload_n 2, 1) := by decide +kernel
theorem dX5_send_14 : decode cX5_send 14 = .ok (.iconst 1, 1) := by decide +kernel
theorem dX5_send_15 : decode cX5_send 15 = .ok (.bipush 99, 2) := by decide +kernel
theorem dX5_send_17 : decode cX5_send 17 = .ok (.invokestatic 78, 3) := by decide +kernel
theorem dX5_send_20 : decode cX5_send 20 = .ok (.ifCond .ne 7, 3) := by decide +kernel
theorem dX5_send_23 : decode cX5_send 23 = .ok (.iconst 2, 1) := by decide +kernel
theorem dX5_send_24 : decode cX5_send 24 = .ok (.goto 26, 3) := by decide +kernel
theorem dX5_send_27 : decode cX5_send 27 = .ok (.aload_n 0, 1) := by decide +kernel
theorem dX5_send_28 : decode cX5_send 28 = .ok (.getfield 28, 3) := by decide +kernel
theorem dX5_send_31 : decode cX5_send 31 = .ok (.iload_n 1, 1) := by decide +kernel
theorem dX5_send_32 : decode cX5_send 32 = .ok (.iaload, 1) := by decide +kernel
theorem dX5_send_33 : decode cX5_send 33 = .ok (.ifCond .ne 12, 3) := by decide +kernel
theorem dX5_send_36 : decode cX5_send 36 = .ok (.aload_n 0, 1) := by decide +kernel
theorem dX5_send_37 : decode cX5_send 37 = .ok (.iload_n 1, 1) := by decide +kernel
theorem dX5_send_38 : decode cX5_send 38 = .ok (.iconst 0, 1) := by decide +kernel
theorem dX5_send_39 : decode cX5_send 39 = .ok (.invokevirtual 111, 3) := by decide +kernel
theorem dX5_send_42 : decode cX5_send 42 = .ok (.ifCond .ne 7, 3) := by decide +kernel
theorem dX5_send_45 : decode cX5_send 45 = .ok (.iconst 3, 1) := by decide +kernel
theorem dX5_send_46 : decode cX5_send 46 = .ok (.goto 4, 3) := by decide +kernel
theorem dX5_send_49 : decode cX5_send 49 = .ok (.iconst 0, 1) := by decide +kernel
theorem dX5_send_50 : decode cX5_send 50 = .ok (.putfield 74, 3) := by decide +kernel
theorem dX5_send_53 : decode cX5_send 53 = .ok (.aload_n 0, 1) := by decide +kernel
theorem dX5_send_54 : decode cX5_send 54 = .ok (.getfield 74, 3) := by decide +kernel
theorem dX5_send_57 : decode cX5_send 57 = .ok (.ifCond .le 5, 3) := by decide +kernel
theorem dX5_send_60 : decode cX5_send 60 = .ok (.iconst 0, 1) := by decide +kernel
theorem dX5_send_61 : decode cX5_send 61 = .ok (.ireturn, 1) := by decide +kernel
theorem dX5_send_62 : decode cX5_send 62 = .ok (.aload_n 0, 1) := by decide +kernel
theorem dX5_send_63 : decode cX5_send 63 = .ok (.getfield 22, 3) := by decide +kernel
theorem dX5_send_66 : decode cX5_send 66 = .ok (.iload_n 1, 1) := by decide +kernel
theorem dX5_send_67 : decode cX5_send 67 = .ok (.iaload, 1) := by decide +kernel
theorem dX5_send_68 : decode cX5_send 68 = .ok (.istore_n 3, 1) := by decide +kernel
theorem dX5_send_69 : decode cX5_send 69 = .ok (.iload_n 2, 1) := by decide +kernel
theorem dX5_send_70 : decode cX5_send 70 = .ok (.aload_n 0, 1) := by decide +kernel
theorem dX5_send_71 : decode cX5_send 71 = .ok (.getfield 55, 3) := by decide +kernel
theorem dX5_send_74 : decode cX5_send 74 = .ok (.iload_n 3, 1) := by decide +kernel
theorem dX5_send_75 : decode cX5_send 75 = .ok (.iaload, 1) := by decide +kernel
theorem dX5_send_76 : decode cX5_send 76 = .ok (.if_icmp .lt 13, 3) := by decide +kernel
theorem dX5_send_79 : decode cX5_send 79 = .ok (.aload_n 0, 1) := by decide +kernel
theorem dX5_send_80 : decode cX5_send 80 = .ok (.iload_n 3, 1) := by decide +kernel
theorem dX5_send_81 : decode cX5_send 81 = .ok (.iload_n 2, 1) := by decide +kernel
theorem dX5_send_82 : decode cX5_send 82 = .ok (.invokevirtual 118, 3) := by decide +kernel
theorem dX5_send_85 : decode cX5_send 85 = .ok (.iconst (-1), 1) := by decide +kernel
theorem dX5_send_86 : decode cX5_send 86 = .ok (.if_icmp .eq 13, 3) := by decide +kernel
theorem dX5_send_89 : decode cX5_send 89 = .ok (.aload_n 0, 1) := by decide +kernel
theorem dX5_send_90 : decode cX5_send 90 = .ok (.getfield 28, 3) := by decide +kernel
theorem dX5_send_93 : decode cX5_send 93 = .ok (.iload_n 1, 1) := by decide +kernel
theorem dX5_send_94 : decode cX5_send 94 = .ok (.iconst 1, 1) := by decide +kernel
theorem dX5_send_95 : decode cX5_send 95 = .ok (.iastore, 1) := by decide +kernel
theorem dX5_send_96 : decode cX5_send 96 = .ok (.goto 68, 3) := by decide +kernel
theorem dX5_send_99 : decode cX5_send 99 = .ok (.aload_n 0, 1) := by decide +kernel
theorem dX5_send_100 : decode cX5_send 100 = .ok (.getfield 28, 3) := by decide +kernel
theorem dX5_send_103 : decode cX5_send 103 = .ok (.iload_n 1, 1) := by decide +kernel
theorem dX5_send_104 : decode cX5_send 104 = .ok (.iconst 2, 1) := by decide +kernel
theorem dX5_send_105 : decode cX5_send 105 = .ok (.iastore, 1) := by decide +kernel
theorem dX5_send_106 : decode cX5_send 106 = .ok (.aload_n 0, 1) := by decide +kernel
theorem dX5_send_107 : decode cX5_send 107 = .ok (.getfield 31, 3) := by decide +kernel
theorem dX5_send_110 : decode cX5_send 110 = .ok (.iload_n 1, 1) := by decide +kernel
theorem dX5_send_111 : decode cX5_send 111 = .ok (.iload_n 2, 1) := by decide +kernel
theorem dX5_send_112 : decode cX5_send 112 = .ok (.iastore, 1) := by decide +kernel
theorem dX5_send_113 : decode cX5_send 113 = .ok (.aload_n 0, 1) := by decide +kernel
theorem dX5_send_114 : decode cX5_send 114 = .ok (.iload_n 3, 1) := by decide +kernel
theorem dX5_send_115 : decode cX5_send 115 = .ok (.aload_n 0, 1) := by decide +kernel
theorem dX5_send_116 : decode cX5_send 116 = .ok (.getfield 55, 3) := by decide +kernel
theorem dX5_send_119 : decode cX5_send 119 = .ok (.iload_n 3, 1) := by decide +kernel
theorem dX5_send_120 : decode cX5_send 120 = .ok (.iaload, 1) := by decide +kernel
theorem dX5_send_121 : decode cX5_send 121 = .ok (.invokevirtual 118, 3) := by decide +kernel
theorem dX5_send_124 : decode cX5_send 124 = .ok (.istore 4, 2) := by decide +kernel
theorem dX5_send_126 : decode cX5_send 126 = .ok (.iload 4, 2) := by decide +kernel
theorem dX5_send_128 : decode cX5_send 128 = .ok (.iconst (-1), 1) := by decide +kernel
theorem dX5_send_129 : decode cX5_send 129 = .ok (.if_icmp .eq 35, 3) := by decide +kernel
theorem dX5_send_132 : decode cX5_send 132 = .ok (.aload_n 0, 1) := by decide +kernel
theorem dX5_send_133 : decode cX5_send 133 = .ok (.iload 4, 2) := by decide +kernel
theorem dX5_send_135 : decode cX5_send 135 = .ok (.invokevirtual 121, 3) := by decide +kernel
theorem dX5_send_138 : decode cX5_send 138 = .ok (.aload_n 0, 1) := by decide +kernel
theorem dX5_send_139 : decode cX5_send 139 = .ok (.getfield 55, 3) := by decide +kernel
theorem dX5_send_142 : decode cX5_send 142 = .ok (.iload_n 3, 1) := by decide +kernel
theorem dX5_send_143 : decode cX5_send 143 = .ok (.dup2, 1) := by decide +kernel
theorem dX5_send_144 : decode cX5_send 144 = .ok (.iaload, 1) := by decide +kernel
theorem dX5_send_145 : decode cX5_send 145 = .ok (.iconst 1, 1) := by decide +kernel
theorem dX5_send_146 : decode cX5_send 146 = .ok (.iadd, 1) := by decide +kernel
theorem dX5_send_147 : decode cX5_send 147 = .ok (.iastore, 1) := by decide +kernel
theorem dX5_send_148 : decode cX5_send 148 = .ok (.aload_n 0, 1) := by decide +kernel
theorem dX5_send_149 : decode cX5_send 149 = .ok (.iload_n 3, 1) := by decide +kernel
theorem dX5_send_150 : decode cX5_send 150 = .ok (.aload_n 0, 1) := by decide +kernel
theorem dX5_send_151 : decode cX5_send 151 = .ok (.getfield 55, 3) := by decide +kernel
theorem dX5_send_154 : decode cX5_send 154 = .ok (.iload_n 3, 1) := by decide +kernel
theorem dX5_send_155 : decode cX5_send 155 = .ok (.iaload, 1) := by decide +kernel
theorem dX5_send_156 : decode cX5_send 156 = .ok (.invokevirtual 118, 3) := by decide +kernel
theorem dX5_send_159 : decode cX5_send 159 = .ok (.istore 4, 2) := by decide +kernel
theorem dX5_send_161 : decode cX5_send 161 = .ok (.goto (-35), 3) := by decide +kernel
theorem dX5_send_164 : decode cX5_send 164 = .ok (.aload_n 0, 1) := by decide +kernel
theorem dX5_send_165 : decode cX5_send 165 = .ok (.getfield 28, 3) := by decide +kernel
theorem dX5_send_168 : decode cX5_send 168 = .ok (.iload_n 1, 1) := by decide +kernel
theorem dX5_send_169 : decode cX5_send 169 = .ok (.iaload, 1) := by decide +kernel
theorem dX5_send_170 : decode cX5_send 170 = .ok (.ireturn, 1) := by decide +kernel
set_option maxRecDepth 20000 in
theorem ggX5_stateOf_X5_isFile : GoodIn wsX5_stateOf wsX5_isFile := goodIn_r _ [7, 8, 9, 10, 6, 11, 12, 13, 14, 15, 16, 17, 18, 19, 20, 21, 22, 23, 24, 25, 26, 27, 28, 29, 30, 31, 32, 33, 34, 35, 36, 37] (by decide +kernel) (by decide +kernel)
set_option maxRecDepth 20000 in
theorem gX5_stateOf_X5_isFile : GoodIn wsX5_stateOf (wsV RX5 104 RX5 yX5_isFile wsX5_isFile) := goodIn_app (goodIn_of _ (by decide +kernel)) ggX5_stateOf_X5_isFile
theorem dX5_stateOf_0 : decode cX5_stateOf 0 = .ok (.aload_n 0, 1) := by decide +kernel
theorem dX5_stateOf_1 : decode cX5_stateOf 1 = .ok (.aload_n 0, 1) := by decide +kernel
theorem dX5_stateOf_2 : decode cX5_stateOf 2 = .ok (.iload_n 1, 1) := by decide +kernel
theorem dX5_stateOf_3 : decode cX5_stateOf 3 = .ok (.invokevirtual 104, 3) := by decide +kernel
theorem dX5_stateOf_6 : decode cX5_stateOf 6 = .ok (.ifCond .eq 7, 3) := by decide +kernel
theorem dX5_stateOf_9 : decode cX5_stateOf 9 = .ok (.iconst 0, 1) := by decide +kernel
theorem dX5_stateOf_10 : decode cX5_stateOf 10 = .ok (.goto 4, 3) := by decide +kernel
theorem dX5_stateOf_13 : decode cX5_stateOf 13 = .ok (.iconst 1, 1) := by decide +kernel
theorem dX5_stateOf_14 : decode cX5_stateOf 14 = .ok (.putfield 74, 3) := by decide +kernel
theorem dX5_stateOf_17 : decode cX5_stateOf 17 = .ok (.aload_n 0, 1) := by decide +kernel
theorem dX5_stateOf_18 : decode cX5_stateOf 18 = .ok (.getfield 74, 3) := by decide +kernel
theorem dX5_stateOf_21 : decode cX5_stateOf 21 = .ok (.ifCond .ne 12, 3) := by decide +kernel
theorem dX5_stateOf_24 : decode cX5_stateOf 24 = .ok (.aload_n 0, 1) := by decide +kernel
theorem dX5_stateOf_25 : decode cX5_stateOf 25 = .ok (.getfield 28, 3) := by decide +kernel
theorem dX5_stateOf_28 : decode cX5_stateOf 28 = .ok (.iload_n 1, 1) := by decide +kernel
theorem dX5_stateOf_29 : decode cX5_stateOf 29 = .ok (.iaload, 1) := by decide +kernel
theorem dX5_stateOf_30 : decode cX5_stateOf 30 = .ok (.goto 4, 3) := by decide +kernel
theorem dX5_stateOf_33 : decode cX5_stateOf 33 = .ok (.iconst 0, 1) := by decide +kernel
theorem dX5_stateOf_34 : decode cX5_stateOf 34 = .ok (.ireturn, 1) := by decide +kernel
set_option maxRecDepth 20000 in
theorem ggX5_expected_X5_isPair : GoodIn wsX5_expected wsX5_isPair := goodIn_r _ [6, 7, 8, 9, 5, 10, 11, 12, 13, 14, 15, 16, 17, 18, 19, 20, 21, 22, 23, 24, 25, 26, 27, 28, 29, 30, 31, 32, 33, 34, 35, 36, 37, 38, 39] (by decide +kernel) (by decide +kernel)
set_option maxRecDepth 20000 in
theorem gX5_expected_X5_isPair : GoodIn wsX5_expected (wsV RX5 97 RX5 yX5_isPair wsX5_isPair) := goodIn_app (goodIn_of _ (by decide +kernel)) ggX5_expected_X5_isPair
theorem dX5_expected_0 : decode cX5_expected 0 = .ok (.aload_n 0, 1) := by decide +kernel
theorem dX5_expected_1 : decode cX5_expected 1 = .ok (.iload_n 1, 1) := by decide +kernel
theorem dX5_expected_2 : decode cX5_expected 2 = .ok (.iload_n 2, 1) := by decide +kernel
theorem dX5_expected_3 : decode cX5_expected 3 = .ok (.iconst 1, 1) := by decide +kernel
theorem dX5_expected_4 : decode cX5_expected 4 = .ok (.invokevirtual 97, 3) := by decide +kernel
theorem dX5_expected_7 : decode cX5_expected 7 = .ok (.ifCond .eq 16, 3) := by decide +kernel
theorem dX5_expected_10 : decode cX5_expected 10 = .ok (.aload_n 0, 1) := by decide +kernel
theorem dX5_expected_11 : decode cX5_expected 11 = .ok (.getfield 55, 3) := by decide +kernel
theorem dX5_expected_14 : decode cX5_expected 14 = .ok (.iconst 4, 1) := by decide +kernel
theorem dX5_expected_15 : decode cX5_expected 15 = .ok (.iload_n 1, 1) := by decide +kernel
theorem dX5_expected_16 : decode cX5_expected 16 = .ok (.imul, 1) := by decide +kernel
theorem dX5_expected_17 : decode cX5_expected 17 = .ok (.iload_n 2, 1) := by decide +kernel
theorem dX5_expected_18 : decode cX5_expected 18 = .ok (.iadd, 1) := by decide +kernel
theorem dX5_expected_19 : decode cX5_expected 19 = .ok (.iaload, 1) := by decide +kernel
theorem dX5_expected_20 : decode cX5_expected 20 = .ok (.goto 4, 3) := by decide +kernel
theorem dX5_expected_23 : decode cX5_expected 23 = .ok (.iconst 0, 1) := by decide +kernel
theorem dX5_expected_24 : decode cX5_expected 24 = .ok (.ireturn, 1) := by decide +kernel
set_option maxRecDepth 20000 in
theorem ggX5_lacking_X5_isPair : GoodIn wsX5_lacking wsX5_isPair := goodIn_r _ [10, 11, 12, 13, 9, 14, 15, 16, 17, 18, 19, 20, 21, 22, 23, 24, 25, 26, 27, 28, 29, 30, 31, 32, 33, 34, 35, 36, 37, 38, 39, 40, 41, 42, 43] (by decide +kernel) (by decide +kernel)
set_option maxRecDepth 20000 in
theorem gX5_lacking_X5_isPair : GoodIn wsX5_lacking (wsV RX5 97 RX5 yX5_isPair wsX5_isPair) := goodIn_app (goodIn_of _ (by decide +kernel)) ggX5_lacking_X5_isPair
theorem dX5_lacking_0 : decode cX5_lacking 0 = .ok (.aload_n 0, 1) := by decide +kernel
theorem dX5_lacking_1 : decode cX5_lacking 1 = .ok (.iload_n 1, 1) := by decide +kernel
theorem dX5_lacking_2 : decode cX5_lacking 2 = .ok (.iload_n 2, 1) := by decide +kernel
theorem dX5_lacking_3 : decode cX5_lacking 3 = .ok (.iconst 1, 1) := by decide +kernel
theorem dX5_lacking_4 : decode cX5_lacking 4 = .ok (.invokevirtual 97, 3) := by decide +kernel
theorem dX5_lacking_7 : decode cX5_lacking 7 = .ok (.ifCond .ne 5, 3) := by decide +kernel
theorem dX5_lacking_10 : decode cX5_lacking 10 = .ok (.iconst 0, 1) := by decide +kernel
theorem dX5_lacking_11 : decode cX5_lacking 11 = .ok (.ireturn, 1) := by decide +kernel
theorem dX5_lacking_12 : decode cX5_lacking 12 = .ok (.iconst 4, 1) := by decide +kernel
theorem dX5_lacking_13 : decode cX5_lacking 13 = .ok (.iload_n 1, 1) := by decide +kernel
theorem dX5_lacking_14 : decode cX5_lacking 14 = .ok (.imul, 1) := by decide +kernel
theorem dX5_lacking_15 : decode cX5_lacking 15 = .ok (.iload_n 2, 1) := by decide +kernel
theorem dX5_lacking_16 : decode cX5_lacking 16 = .ok (.iadd, 1) := by decide +kernel
theorem dX5_lacking_17 : decode cX5_lacking 17 = .ok (.istore_n 3, 1) := by decide +kernel
theorem dX5_lacking_18 : decode cX5_lacking 18 = .ok (.iconst 0, 1) := by decide +kernel
theorem dX5_lacking_19 : decode cX5_lacking 19 = .ok (.istore 4, 2) := by decide +kernel
theorem dX5_lacking_21 : decode cX5_lacking 21 = .ok (.iconst 0, 1) := by decide +kernel
theorem dX5_lacking_22 : decode cX5_lacking 22 = .ok (.istore 5, 2) := by decide +kernel
theorem dX5_lacking_24 : decode cX5_lacking 24 = .ok (.iconst 0, 1) := by decide +kernel
theorem dX5_lacking_25 : decode cX5_lacking 25 = .ok (.istore 6, 2) := by decide +kernel
theorem dX5_lacking_27 : decode cX5_lacking 27 = .ok (.iload 6, 2) := by decide +kernel
theorem dX5_lacking_29 : decode cX5_lacking 29 = .ok (.aload_n 0, 1) := by decide +kernel
theorem dX5_lacking_30 : decode cX5_lacking 30 = .ok (.getfield 86, 3) := by decide +kernel
theorem dX5_lacking_33 : decode cX5_lacking 33 = .ok (.if_icmp .ge 60, 3) := by decide +kernel
theorem dX5_lacking_36 : decode cX5_lacking 36 = .ok (.aload_n 0, 1) := by decide +kernel
theorem dX5_lacking_37 : decode cX5_lacking 37 = .ok (.getfield 28, 3) := by decide +kernel
theorem dX5_lacking_40 : decode cX5_lacking 40 = .ok (.iload 6, 2) := by decide +kernel
theorem dX5_lacking_42 : decode cX5_lacking 42 = .ok (.iaload, 1) := by decide +kernel
theorem dX5_lacking_43 : decode cX5_lacking 43 = .ok (.iconst 2, 1) := by decide +kernel
theorem dX5_lacking_44 : decode cX5_lacking 44 = .ok (.if_icmp .ne 43, 3) := by decide +kernel
theorem dX5_lacking_47 : decode cX5_lacking 47 = .ok (.aload_n 0, 1) := by decide +kernel
theorem dX5_lacking_48 : decode cX5_lacking 48 = .ok (.getfield 22, 3) := by decide +kernel
theorem dX5_lacking_51 : decode cX5_lacking 51 = .ok (.iload 6, 2) := by decide +kernel
theorem dX5_lacking_53 : decode cX5_lacking 53 = .ok (.iaload, 1) := by decide +kernel
theorem dX5_lacking_54 : decode cX5_lacking 54 = .ok (.iload_n 3, 1) := by decide +kernel
theorem dX5_lacking_55 : decode cX5_lacking 55 = .ok (.if_icmp .ne 32, 3) := by decide +kernel
theorem dX5_lacking_58 : decode cX5_lacking 58 = .ok (.aload_n 0, 1) := by decide +kernel
theorem dX5_lacking_59 : decode cX5_lacking 59 = .ok (.getfield 31, 3) := by decide +kernel
theorem dX5_lacking_62 : decode cX5_lacking 62 = .ok (.iload 6, 2) := by decide +kernel
theorem dX5_lacking_64 : decode cX5_lacking 64 = .ok (.iaload, 1) := by decide +kernel
theorem dX5_lacking_65 : decode cX5_lacking 65 = .ok (.iload 4, 2) := by decide +kernel
theorem dX5_lacking_67 : decode cX5_lacking 67 = .ok (.if_icmp .le 13, 3) := by decide +kernel
theorem dX5_lacking_70 : decode cX5_lacking 70 = .ok (.aload_n 0, 1) := by decide +kernel
theorem dX5_lacking_71 : decode cX5_lacking 71 = .ok (.getfield 31, 3) := by decide +kernel
theorem dX5_lacking_74 : decode cX5_lacking 74 = .ok (.iload 6, 2) := by decide +kernel
theorem dX5_lacking_76 : decode cX5_lacking 76 = .ok (.iaload, 1) := by decide +kernel
theorem dX5_lacking_77 : decode cX5_lacking 77 = .ok (.goto 5, 3) := by decide +kernel
theorem dX5_lacking_80 : decode cX5_lacking 80 = .ok (.iload 4, 2) := by decide +kernel
theorem dX5_lacking_82 : decode cX5_lacking 82 = .ok (.istore 4, 2) := by decide +kernel
theorem dX5_lacking_84 : decode cX5_lacking 84 = .ok (.iinc 5 1, 3) := by decide +kernel
theorem dX5_lacking_87 : decode cX5_lacking 87 = .ok (.iinc 6 1, 3) := by decide +kernel
theorem dX5_lacking_90 : decode cX5_lacking 90 = .ok (.goto (-63), 3) := by decide +kernel
theorem dX5_lacking_93 : decode cX5_lacking 93 = .ok (.iload 5, 2) := by decide +kernel
theorem dX5_lacking_95 : decode cX5_lacking 95 = .ok (.ifCond .ne 7, 3) := by decide +kernel
theorem dX5_lacking_98 : decode cX5_lacking 98 = .ok (.iconst 0, 1) := by decide +kernel
theorem dX5_lacking_99 : decode cX5_lacking 99 = .ok (.goto 17, 3) := by decide +kernel
theorem dX5_lacking_102 : decode cX5_lacking 102 = .ok (.iload 4, 2) := by decide +kernel
theorem dX5_lacking_104 : decode cX5_lacking 104 = .ok (.aload_n 0, 1) := by decide +kernel
theorem dX5_lacking_105 : decode cX5_lacking 105 = .ok (.getfield 55, 3) := by decide +kernel
theorem dX5_lacking_108 : decode cX5_lacking 108 = .ok (.iload_n 3, 1) := by decide +kernel
theorem dX5_lacking_109 : decode cX5_lacking 109 = .ok (.iaload, 1) := by decide +kernel
theorem dX5_lacking_110 : decode cX5_lacking 110 = .ok (.isub, 1) := by decide +kernel
theorem dX5_lacking_111 : decode cX5_lacking 111 = .ok (.iconst 1, 1) := by decide +kernel
theorem dX5_lacking_112 : decode cX5_lacking 112 = .ok (.iadd, 1) := by decide +kernel
theorem dX5_lacking_113 : decode cX5_lacking 113 = .ok (.iload 5, 2) := by decide +kernel
theorem dX5_lacking_115 : decode cX5_lacking 115 = .ok (.isub, 1) := by decide +kernel
theorem dX5_lacking_116 : decode cX5_lacking 116 = .ok (.ireturn, 1) := by decide +kernel
theorem dX5_calls_0 : decode cX5_calls 0 = .ok (.aload_n 0, 1) := by decide +kernel
theorem dX5_calls_1 : decode cX5_calls 1 = .ok (.iconst 0, 1) := by decide +kernel
theorem dX5_calls_2 : decode cX5_calls 2 = .ok (.putfield 74, 3) := by decide +kernel
theorem dX5_calls_5 : decode cX5_calls 5 = .ok (.aload_n 0, 1) := by decide +kernel
theorem dX5_calls_6 : decode cX5_calls 6 = .ok (.getfield 89, 3) := by decide +kernel
theorem dX5_calls_9 : decode cX5_calls 9 = .ok (.ireturn, 1) := by decide +kernel
set_option maxRecDepth 20000 in
theorem ggX5_call_X5_isCall : GoodIn wsX5_call wsX5_isCall := goodIn_r _ [7, 8, 9, 10, 6, 11, 12, 13, 14, 15, 16, 17, 18, 19, 20, 21, 22, 23, 24, 25, 26, 27, 28, 29, 30, 31, 32, 33, 34, 35, 36, 37] (by decide +kernel) (by decide +kernel)
set_option maxRecDepth 20000 in
theorem gX5_call_X5_isCall : GoodIn wsX5_call (wsV RX5 125 RX5 yX5_isCall wsX5_isCall) := goodIn_app (goodIn_of _ (by decide +kernel)) ggX5_call_X5_isCall
theorem dX5_call_0 : decode cX5_call 0 = .ok (.aload_n 0, 1) := by decide +kernel
theorem dX5_call_1 : decode cX5_call 1 = .ok (.aload_n 0, 1) := by decide +kernel
theorem dX5_call_2 : decode cX5_call 2 = .ok (.iload_n 1, 1) := by decide +kernel
theorem dX5_call_3 : decode cX5_call 3 = .ok (.invokevirtual 125, 3) := by decide +kernel
theorem dX5_call_6 : decode cX5_call 6 = .ok (.ifCond .eq 7, 3) := by decide +kernel
theorem dX5_call_9 : decode cX5_call 9 = .ok (.iconst 0, 1) := by decide +kernel
theorem dX5_call_10 : decode cX5_call 10 = .ok (.goto 4, 3) := by decide +kernel
theorem dX5_call_13 : decode cX5_call 13 = .ok (.iconst 1, 1) := by decide +kernel
theorem dX5_call_14 : decode cX5_call 14 = .ok (.putfield 74, 3) := by decide +kernel
theorem dX5_call_17 : decode cX5_call 17 = .ok (.aload_n 0, 1) := by decide +kernel
theorem dX5_call_18 : decode cX5_call 18 = .ok (.getfield 74, 3) := by decide +kernel
theorem dX5_call_21 : decode cX5_call 21 = .ok (.ifCond .ne 12, 3) := by decide +kernel
theorem dX5_call_24 : decode cX5_call 24 = .ok (.aload_n 0, 1) := by decide +kernel
theorem dX5_call_25 : decode cX5_call 25 = .ok (.getfield 43, 3) := by decide +kernel
theorem dX5_call_28 : decode cX5_call 28 = .ok (.iload_n 1, 1) := by decide +kernel
theorem dX5_call_29 : decode cX5_call 29 = .ok (.iaload, 1) := by decide +kernel
theorem dX5_call_30 : decode cX5_call 30 = .ok (.goto 4, 3) := by decide +kernel
theorem dX5_call_33 : decode cX5_call 33 = .ok (.iconst 0, 1) := by decide +kernel
theorem dX5_call_34 : decode cX5_call 34 = .ok (.ireturn, 1) := by decide +kernel
set_option maxRecDepth 20000 in
theorem ggX5_monthOf_X5_isCall : GoodIn wsX5_monthOf wsX5_isCall := goodIn_r _ [8, 9, 10, 11, 7, 12, 13, 14, 15, 16, 17, 18, 19, 20, 21, 22, 23, 24, 25, 26, 27, 28, 29, 30, 31, 32, 33, 34, 35, 36, 37, 38] (by decide +kernel) (by decide +kernel)
set_option maxRecDepth 20000 in
theorem gX5_monthOf_X5_isCall : GoodIn wsX5_monthOf (wsV RX5 125 RX5 yX5_isCall wsX5_isCall) := goodIn_app (goodIn_of _ (by decide +kernel)) ggX5_monthOf_X5_isCall
end
section
theorem dX5_monthOf_0 : decode cX5_monthOf 0 = .ok (.aload_n 0, 1) := by decide +kernel
theorem dX5_monthOf_1 : decode cX5_monthOf 1 = .ok (.aload_n 0, 1) := by decide +kernel
theorem dX5_monthOf_2 : decode cX5_monthOf 2 = .ok (.iload_n 1, 1) := by decide +kernel
theorem dX5_monthOf_3 : decode cX5_monthOf 3 = .ok (.invokevirtual 125, 3) := by decide +kernel
theorem dX5_monthOf_6 : decode cX5_monthOf 6 = .ok (.ifCond .eq 7, 3) := by decide +kernel
theorem dX5_monthOf_9 : decode cX5_monthOf 9 = .ok (.iconst 0, 1) := by decide +kernel
theorem dX5_monthOf_10 : decode cX5_monthOf 10 = .ok (.goto 4, 3) := by decide +kernel
theorem dX5_monthOf_13 : decode cX5_monthOf 13 = .ok (.iconst 1, 1) := by decide +kernel
theorem dX5_monthOf_14 : decode cX5_monthOf 14 = .ok (.putfield 74, 3) := by decide +kernel
theorem dX5_monthOf_17 : decode cX5_monthOf 17 = .ok (.aload_n 0, 1) := by decide +kernel
theorem dX5_monthOf_18 : decode cX5_monthOf 18 = .ok (.getfield 74, 3) := by decide +kernel
theorem dX5_monthOf_21 : decode cX5_monthOf 21 = .ok (.ifCond .le 7, 3) := by decide +kernel
theorem dX5_monthOf_24 : decode cX5_monthOf 24 = .ok (.iconst 0, 1) := by decide +kernel
theorem dX5_monthOf_25 : decode cX5_monthOf 25 = .ok (.goto 22, 3) := by decide +kernel
theorem dX5_monthOf_28 : decode cX5_monthOf 28 = .ok (.aload_n 0, 1) := by decide +kernel
theorem dX5_monthOf_29 : decode cX5_monthOf 29 = .ok (.getfield 43, 3) := by decide +kernel
theorem dX5_monthOf_32 : decode cX5_monthOf 32 = .ok (.iload_n 1, 1) := by decide +kernel
theorem dX5_monthOf_33 : decode cX5_monthOf 33 = .ok (.iaload, 1) := by decide +kernel
theorem dX5_monthOf_34 : decode cX5_monthOf 34 = .ok (.ifCond .ne 7, 3) := by decide +kernel
theorem dX5_monthOf_37 : decode cX5_monthOf 37 = .ok (.iconst (-1), 1) := by decide +kernel
theorem dX5_monthOf_38 : decode cX5_monthOf 38 = .ok (.goto 9, 3) := by decide +kernel
theorem dX5_monthOf_41 : decode cX5_monthOf 41 = .ok (.aload_n 0, 1) := by decide +kernel
theorem dX5_monthOf_42 : decode cX5_monthOf 42 = .ok (.getfield 46, 3) := by decide +kernel
theorem dX5_monthOf_45 : decode cX5_monthOf 45 = .ok (.iload_n 1, 1) := by decide +kernel
theorem dX5_monthOf_46 : decode cX5_monthOf 46 = .ok (.iaload, 1) := by decide +kernel
theorem dX5_monthOf_47 : decode cX5_monthOf 47 = .ok (.ireturn, 1) := by decide +kernel
theorem dX5_secondsAhead_0 : decode cX5_secondsAhead 0 = .ok (.iconst 0, 1) := by decide +kernel
theorem dX5_secondsAhead_1 : decode cX5_secondsAhead 1 = .ok (.istore 4, 2) := by decide +kernel
theorem dX5_secondsAhead_3 : decode cX5_secondsAhead 3 = .ok (.iconst 0, 1) := by decide +kernel
theorem dX5_secondsAhead_4 : decode cX5_secondsAhead 4 = .ok (.istore 5, 2) := by decide +kernel
theorem dX5_secondsAhead_6 : decode cX5_secondsAhead 6 = .ok (.iload 5, 2) := by decide +kernel
theorem dX5_secondsAhead_8 : decode cX5_secondsAhead 8 = .ok (.iload_n 3, 1) := by decide +kernel
theorem dX5_secondsAhead_9 : decode cX5_secondsAhead 9 = .ok (.if_icmp .ge 64, 3) := by decide +kernel
theorem dX5_secondsAhead_12 : decode cX5_secondsAhead 12 = .ok (.aload_n 0, 1) := by decide +kernel
theorem dX5_secondsAhead_13 : decode cX5_secondsAhead 13 = .ok (.getfield 52, 3) := by decide +kernel
theorem dX5_secondsAhead_16 : decode cX5_secondsAhead 16 = .ok (.iload 5, 2) := by decide +kernel
theorem dX5_secondsAhead_18 : decode cX5_secondsAhead 18 = .ok (.iaload, 1) := by decide +kernel
theorem dX5_secondsAhead_19 : decode cX5_secondsAhead 19 = .ok (.istore 6, 2) := by decide +kernel
theorem dX5_secondsAhead_21 : decode cX5_secondsAhead 21 = .ok (.iload 4, 2) := by decide +kernel
theorem dX5_secondsAhead_23 : decode cX5_secondsAhead 23 = .ok (.aload_n 0, 1) := by decide +kernel
theorem dX5_secondsAhead_24 : decode cX5_secondsAhead 24 = .ok (.getfield 22, 3) := by decide +kernel
theorem dX5_secondsAhead_27 : decode cX5_secondsAhead 27 = .ok (.aload_n 0, 1) := by decide +kernel
theorem dX5_secondsAhead_28 : decode cX5_secondsAhead 28 = .ok (.getfield 34, 3) := by decide +kernel
theorem dX5_secondsAhead_31 : decode cX5_secondsAhead 31 = .ok (.iload 6, 2) := by decide +kernel
theorem dX5_secondsAhead_33 : decode cX5_secondsAhead 33 = .ok (.iaload, 1) := by decide +kernel
theorem dX5_secondsAhead_34 : decode cX5_secondsAhead 34 = .ok (.iaload, 1) := by decide +kernel
theorem dX5_secondsAhead_35 : decode cX5_secondsAhead 35 = .ok (.iload_n 1, 1) := by decide +kernel
theorem dX5_secondsAhead_36 : decode cX5_secondsAhead 36 = .ok (.if_icmp .ne 27, 3) := by decide +kernel
theorem dX5_secondsAhead_39 : decode cX5_secondsAhead 39 = .ok (.aload_n 0, 1) := by decide +kernel
theorem dX5_secondsAhead_40 : decode cX5_secondsAhead 40 = .ok (.getfield 46, 3) := by decide +kernel
theorem dX5_secondsAhead_43 : decode cX5_secondsAhead 43 = .ok (.iload 6, 2) := by decide +kernel
theorem dX5_secondsAhead_45 : decode cX5_secondsAhead 45 = .ok (.iaload, 1) := by decide +kernel
theorem dX5_secondsAhead_46 : decode cX5_secondsAhead 46 = .ok (.bipush 12, 2) := by decide +kernel
theorem dX5_secondsAhead_48 : decode cX5_secondsAhead 48 = .ok (.idiv, 1) := by decide +kernel
theorem dX5_secondsAhead_49 : decode cX5_secondsAhead 49 = .ok (.iload_n 2, 1) := by decide +kernel
theorem dX5_secondsAhead_50 : decode cX5_secondsAhead 50 = .ok (.if_icmp .ne 13, 3) := by decide +kernel
theorem dX5_secondsAhead_53 : decode cX5_secondsAhead 53 = .ok (.aload_n 0, 1) := by decide +kernel
theorem dX5_secondsAhead_54 : decode cX5_secondsAhead 54 = .ok (.getfield 37, 3) := by decide +kernel
theorem dX5_secondsAhead_57 : decode cX5_secondsAhead 57 = .ok (.iload 6, 2) := by decide +kernel
theorem dX5_secondsAhead_59 : decode cX5_secondsAhead 59 = .ok (.iaload, 1) := by decide +kernel
theorem dX5_secondsAhead_60 : decode cX5_secondsAhead 60 = .ok (.goto 4, 3) := by decide +kernel
theorem dX5_secondsAhead_63 : decode cX5_secondsAhead 63 = .ok (.iconst 0, 1) := by decide +kernel
theorem dX5_secondsAhead_64 : decode cX5_secondsAhead 64 = .ok (.iadd, 1) := by decide +kernel
theorem dX5_secondsAhead_65 : decode cX5_secondsAhead 65 = .ok (.istore 4, 2) := by decide +kernel
theorem dX5_secondsAhead_67 : decode cX5_secondsAhead 67 = .ok (.iinc 5 1, 3) := by decide +kernel
theorem dX5_secondsAhead_70 : decode cX5_secondsAhead 70 = .ok (.goto (-64), 3) := by decide +kernel
theorem dX5_secondsAhead_73 : decode cX5_secondsAhead 73 = .ok (.iload 4, 2) := by decide +kernel
theorem dX5_secondsAhead_75 : decode cX5_secondsAhead 75 = .ok (.ireturn, 1) := by decide +kernel
theorem dX5_placeOf_0 : decode cX5_placeOf 0 = .ok (.iconst 0, 1) := by decide +kernel
theorem dX5_placeOf_1 : decode cX5_placeOf 1 = .ok (.istore_n 2, 1) := by decide +kernel
theorem dX5_placeOf_2 : decode cX5_placeOf 2 = .ok (.aload_n 0, 1) := by decide +kernel
theorem dX5_placeOf_3 : decode cX5_placeOf 3 = .ok (.getfield 52, 3) := by decide +kernel
theorem dX5_placeOf_6 : decode cX5_placeOf 6 = .ok (.iload_n 2, 1) := by decide +kernel
theorem dX5_placeOf_7 : decode cX5_placeOf 7 = .ok (.iaload, 1) := by decide +kernel
theorem dX5_placeOf_8 : decode cX5_placeOf 8 = .ok (.iload_n 1, 1) := by decide +kernel
theorem dX5_placeOf_9 : decode cX5_placeOf 9 = .ok (.if_icmp .eq 9, 3) := by decide +kernel
theorem dX5_placeOf_12 : decode cX5_placeOf 12 = .ok (.iinc 2 1, 3) := by decide +kernel
theorem dX5_placeOf_15 : decode cX5_placeOf 15 = .ok (.goto (-13), 3) := by decide +kernel
theorem dX5_placeOf_18 : decode cX5_placeOf 18 = .ok (.iload_n 2, 1) := by decide +kernel
theorem dX5_placeOf_19 : decode cX5_placeOf 19 = .ok (.ireturn, 1) := by decide +kernel
set_option maxRecDepth 20000 in
theorem ggX5_owedOf_X5_placeOf : GoodIn wsX5_owedOf wsX5_placeOf := goodIn_r _ [16, 17, 23, 24, 25, 26, 27, 28, 29, 30, 31, 32, 33, 34, 35, 36, 37, 38, 39, 40, 41, 42, 43, 44, 45, 46, 47, 48] (by decide +kernel) (by decide +kernel)
set_option maxRecDepth 20000 in
theorem gX5_owedOf_X5_placeOf : GoodIn wsX5_owedOf (wsV RX5 128 RX5 yX5_placeOf wsX5_placeOf) := goodIn_app (goodIn_of _ (by decide +kernel)) ggX5_owedOf_X5_placeOf
set_option maxRecDepth 20000 in
theorem ggX5_owedOf_X5_secondsAhead : GoodIn wsX5_owedOf wsX5_secondsAhead := goodIn_r _ [21, 17, 2, 3, 4, 22, 23, 24, 25, 26, 27, 28, 29, 30, 31, 32, 33, 34, 35, 36, 37, 38, 39, 40, 41, 42, 43, 44, 45, 46, 47, 48] (by decide +kernel) (by decide +kernel)
set_option maxRecDepth 20000 in
theorem gX5_owedOf_X5_secondsAhead : GoodIn wsX5_owedOf (wsV RX5 132 RX5 yX5_secondsAhead wsX5_secondsAhead) := goodIn_app (goodIn_of _ (by decide +kernel)) ggX5_owedOf_X5_secondsAhead
theorem dX5_owedOf_0 : decode cX5_owedOf 0 = .ok (.aload_n 0, 1) := by decide +kernel
theorem dX5_owedOf_1 : decode cX5_owedOf 1 = .ok (.getfield 43, 3) := by decide +kernel
theorem dX5_owedOf_4 : decode cX5_owedOf 4 = .ok (.iload_n 1, 1) := by decide +kernel
theorem dX5_owedOf_5 : decode cX5_owedOf 5 = .ok (.iaload, 1) := by decide +kernel
theorem dX5_owedOf_6 : decode cX5_owedOf 6 = .ok (.ifCond .eq 13, 3) := by decide +kernel
theorem dX5_owedOf_9 : decode cX5_owedOf 9 = .ok (.aload_n 0, 1) := by decide +kernel
theorem dX5_owedOf_10 : decode cX5_owedOf 10 = .ok (.getfield 43, 3) := by decide +kernel
theorem dX5_owedOf_13 : decode cX5_owedOf 13 = .ok (.iload_n 1, 1) := by decide +kernel
theorem dX5_owedOf_14 : decode cX5_owedOf 14 = .ok (.iaload, 1) := by decide +kernel
theorem dX5_owedOf_15 : decode cX5_owedOf 15 = .ok (.iconst 4, 1) := by decide +kernel
theorem dX5_owedOf_16 : decode cX5_owedOf 16 = .ok (.if_icmp .ne 5, 3) := by decide +kernel
theorem dX5_owedOf_19 : decode cX5_owedOf 19 = .ok (.iconst 0, 1) := by decide +kernel
theorem dX5_owedOf_20 : decode cX5_owedOf 20 = .ok (.ireturn, 1) := by decide +kernel
theorem dX5_owedOf_21 : decode cX5_owedOf 21 = .ok (.aload_n 0, 1) := by decide +kernel
theorem dX5_owedOf_22 : decode cX5_owedOf 22 = .ok (.getfield 22, 3) := by decide +kernel
theorem dX5_owedOf_25 : decode cX5_owedOf 25 = .ok (.aload_n 0, 1) := by decide +kernel
theorem dX5_owedOf_26 : decode cX5_owedOf 26 = .ok (.getfield 34, 3) := by decide +kernel
theorem dX5_owedOf_29 : decode cX5_owedOf 29 = .ok (.iload_n 1, 1) := by decide +kernel
theorem dX5_owedOf_30 : decode cX5_owedOf 30 = .ok (.iaload, 1) := by decide +kernel
theorem dX5_owedOf_31 : decode cX5_owedOf 31 = .ok (.iaload, 1) := by decide +kernel
theorem dX5_owedOf_32 : decode cX5_owedOf 32 = .ok (.istore_n 2, 1) := by decide +kernel
theorem dX5_owedOf_33 : decode cX5_owedOf 33 = .ok (.aload_n 0, 1) := by decide +kernel
theorem dX5_owedOf_34 : decode cX5_owedOf 34 = .ok (.iload_n 2, 1) := by decide +kernel
theorem dX5_owedOf_35 : decode cX5_owedOf 35 = .ok (.aload_n 0, 1) := by decide +kernel
theorem dX5_owedOf_36 : decode cX5_owedOf 36 = .ok (.getfield 46, 3) := by decide +kernel
theorem dX5_owedOf_39 : decode cX5_owedOf 39 = .ok (.iload_n 1, 1) := by decide +kernel
theorem dX5_owedOf_40 : decode cX5_owedOf 40 = .ok (.iaload, 1) := by decide +kernel
theorem dX5_owedOf_41 : decode cX5_owedOf 41 = .ok (.bipush 12, 2) := by decide +kernel
theorem dX5_owedOf_43 : decode cX5_owedOf 43 = .ok (.idiv, 1) := by decide +kernel
theorem dX5_owedOf_44 : decode cX5_owedOf 44 = .ok (.aload_n 0, 1) := by decide +kernel
theorem dX5_owedOf_45 : decode cX5_owedOf 45 = .ok (.getfield 68, 3) := by decide +kernel
theorem dX5_owedOf_48 : decode cX5_owedOf 48 = .ok (.iload_n 2, 1) := by decide +kernel
theorem dX5_owedOf_49 : decode cX5_owedOf 49 = .ok (.baload, 1) := by decide +kernel
theorem dX5_owedOf_50 : decode cX5_owedOf 50 = .ok (.ifCond .eq 10, 3) := by decide +kernel
theorem dX5_owedOf_53 : decode cX5_owedOf 53 = .ok (.aload_n 0, 1) := by decide +kernel
theorem dX5_owedOf_54 : decode cX5_owedOf 54 = .ok (.getfield 115, 3) := by decide +kernel
theorem dX5_owedOf_57 : decode cX5_owedOf 57 = .ok (.goto 8, 3) := by decide +kernel
theorem dX5_owedOf_60 : decode cX5_owedOf 60 = .ok (.aload_n 0, 1) := by decide +kernel
theorem dX5_owedOf_61 : decode cX5_owedOf 61 = .ok (.iload_n 1, 1) := by decide +kernel
theorem dX5_owedOf_62 : decode cX5_owedOf 62 = .ok (.invokevirtual 128, 3) := by decide +kernel
theorem dX5_owedOf_65 : decode cX5_owedOf 65 = .ok (.invokevirtual 132, 3) := by decide +kernel
theorem dX5_owedOf_68 : decode cX5_owedOf 68 = .ok (.istore_n 3, 1) := by decide +kernel
theorem dX5_owedOf_69 : decode cX5_owedOf 69 = .ok (.aload_n 0, 1) := by decide +kernel
theorem dX5_owedOf_70 : decode cX5_owedOf 70 = .ok (.getfield 58, 3) := by decide +kernel
theorem dX5_owedOf_73 : decode cX5_owedOf 73 = .ok (.iload_n 2, 1) := by decide +kernel
theorem dX5_owedOf_74 : decode cX5_owedOf 74 = .ok (.baload, 1) := by decide +kernel
theorem dX5_owedOf_75 : decode cX5_owedOf 75 = .ok (.ifCond .eq 17, 3) := by decide +kernel
theorem dX5_owedOf_78 : decode cX5_owedOf 78 = .ok (.iload_n 3, 1) := by decide +kernel
theorem dX5_owedOf_79 : decode cX5_owedOf 79 = .ok (.aload_n 0, 1) := by decide +kernel
theorem dX5_owedOf_80 : decode cX5_owedOf 80 = .ok (.getfield 62, 3) := by decide +kernel
theorem dX5_owedOf_83 : decode cX5_owedOf 83 = .ok (.iload_n 2, 1) := by decide +kernel
theorem dX5_owedOf_84 : decode cX5_owedOf 84 = .ok (.iaload, 1) := by decide +kernel
theorem dX5_owedOf_85 : decode cX5_owedOf 85 = .ok (.if_icmp .lt 7, 3) := by decide +kernel
theorem dX5_owedOf_88 : decode cX5_owedOf 88 = .ok (.iconst 1, 1) := by decide +kernel
theorem dX5_owedOf_89 : decode cX5_owedOf 89 = .ok (.goto 4, 3) := by decide +kernel
theorem dX5_owedOf_92 : decode cX5_owedOf 92 = .ok (.iconst 0, 1) := by decide +kernel
theorem dX5_owedOf_93 : decode cX5_owedOf 93 = .ok (.istore 4, 2) := by decide +kernel
theorem dX5_owedOf_95 : decode cX5_owedOf 95 = .ok (.aload_n 0, 1) := by decide +kernel
theorem dX5_owedOf_96 : decode cX5_owedOf 96 = .ok (.getfield 40, 3) := by decide +kernel
theorem dX5_owedOf_99 : decode cX5_owedOf 99 = .ok (.iload_n 1, 1) := by decide +kernel
theorem dX5_owedOf_100 : decode cX5_owedOf 100 = .ok (.iaload, 1) := by decide +kernel
theorem dX5_owedOf_101 : decode cX5_owedOf 101 = .ok (.iload 4, 2) := by decide +kernel
theorem dX5_owedOf_103 : decode cX5_owedOf 103 = .ok (.ifCond .eq 26, 3) := by decide +kernel
theorem dX5_owedOf_106 : decode cX5_owedOf 106 = .ok (.aload_n 0, 1) := by decide +kernel
theorem dX5_owedOf_107 : decode cX5_owedOf 107 = .ok (.getfield 40, 3) := by decide +kernel
theorem dX5_owedOf_110 : decode cX5_owedOf 110 = .ok (.iload_n 1, 1) := by decide +kernel
theorem dX5_owedOf_111 : decode cX5_owedOf 111 = .ok (.iaload, 1) := by decide +kernel
theorem dX5_owedOf_112 : decode cX5_owedOf 112 = .ok (.i2l, 1) := by decide +kernel
theorem dX5_owedOf_113 : decode cX5_owedOf 113 = .ok (.aload_n 0, 1) := by decide +kernel
theorem dX5_owedOf_114 : decode cX5_owedOf 114 = .ok (.getfield 65, 3) := by decide +kernel
theorem dX5_owedOf_117 : decode cX5_owedOf 117 = .ok (.iload_n 2, 1) := by decide +kernel
theorem dX5_owedOf_118 : decode cX5_owedOf 118 = .ok (.iaload, 1) := by decide +kernel
theorem dX5_owedOf_119 : decode cX5_owedOf 119 = .ok (.i2l, 1) := by decide +kernel
theorem dX5_owedOf_120 : decode cX5_owedOf 120 = .ok (.lmul, 1) := by decide +kernel
theorem dX5_owedOf_121 : decode cX5_owedOf 121 = .ok (.ldc2_w 136, 3) := by decide +kernel
theorem dX5_owedOf_124 : decode cX5_owedOf 124 = .ok (.ldiv, 1) := by decide +kernel
theorem dX5_owedOf_125 : decode cX5_owedOf 125 = .ok (.l2i, 1) := by decide +kernel
theorem dX5_owedOf_126 : decode cX5_owedOf 126 = .ok (.goto 4, 3) := by decide +kernel
theorem dX5_owedOf_129 : decode cX5_owedOf 129 = .ok (.iconst 0, 1) := by decide +kernel
theorem dX5_owedOf_130 : decode cX5_owedOf 130 = .ok (.isub, 1) := by decide +kernel
theorem dX5_owedOf_131 : decode cX5_owedOf 131 = .ok (.ireturn, 1) := by decide +kernel
set_option maxRecDepth 20000 in
theorem ggX5_owedFor_X5_isCall : GoodIn wsX5_owedFor wsX5_isCall := goodIn_r _ [6, 7, 8, 9, 5, 10, 36, 37, 38, 39, 40, 41, 42, 43, 44, 45, 46, 47, 48, 49, 50, 51, 52, 53, 54, 55, 56, 57, 58, 59, 60, 61] (by decide +kernel) (by decide +kernel)
set_option maxRecDepth 20000 in
theorem gX5_owedFor_X5_isCall : GoodIn wsX5_owedFor (wsV RX5 125 RX5 yX5_isCall wsX5_isCall) := goodIn_app (goodIn_of _ (by decide +kernel)) ggX5_owedFor_X5_isCall
set_option maxRecDepth 20000 in
theorem ggX5_owedFor_X5_owedOf : GoodIn wsX5_owedFor wsX5_owedOf := goodIn_r _ [14, 15, 16, 17, 18, 19, 20, 21, 22, 23, 24, 25, 26, 27, 28, 5, 29, 30, 31, 32, 33, 34, 35, 36, 37, 38, 39, 40, 41, 42, 43, 44, 45, 46, 47, 48, 49, 50, 51, 52, 53, 54, 55, 56, 57, 58, 59, 60, 61] (by decide +kernel) (by decide +kernel)
set_option maxRecDepth 20000 in
theorem gX5_owedFor_X5_owedOf : GoodIn wsX5_owedFor (wsV RX5 138 RX5 yX5_owedOf wsX5_owedOf) := goodIn_app (goodIn_of _ (by decide +kernel)) ggX5_owedFor_X5_owedOf
theorem dX5_owedFor_0 : decode cX5_owedFor 0 = .ok (.aload_n 0, 1) := by decide +kernel
theorem dX5_owedFor_1 : decode cX5_owedFor 1 = .ok (.aload_n 0, 1) := by decide +kernel
theorem dX5_owedFor_2 : decode cX5_owedFor 2 = .ok (.iload_n 1, 1) := by decide +kernel
theorem dX5_owedFor_3 : decode cX5_owedFor 3 = .ok (.invokevirtual 125, 3) := by decide +kernel
theorem dX5_owedFor_6 : decode cX5_owedFor 6 = .ok (.ifCond .eq 7, 3) := by decide +kernel
theorem dX5_owedFor_9 : decode cX5_owedFor 9 = .ok (.iconst 0, 1) := by decide +kernel
theorem dX5_owedFor_10 : decode cX5_owedFor 10 = .ok (.goto 4, 3) := by decide +kernel
theorem dX5_owedFor_13 : decode cX5_owedFor 13 = .ok (.iconst 1, 1) := by decide +kernel
theorem dX5_owedFor_14 : decode cX5_owedFor 14 = .ok (.putfield 74, 3) := by decide +kernel
theorem dX5_owedFor_17 : decode cX5_owedFor 17 = .ok (.aload_n 0, 1) := by decide +kernel
theorem dX5_owedFor_18 : decode cX5_owedFor 18 = .ok (.getfield 74, 3) := by decide +kernel
theorem dX5_owedFor_21 : decode cX5_owedFor 21 = .ok (.ifCond .ne 11, 3) := by decide +kernel
theorem dX5_owedFor_24 : decode cX5_owedFor 24 = .ok (.aload_n 0, 1) := by decide +kernel
theorem dX5_owedFor_25 : decode cX5_owedFor 25 = .ok (.iload_n 1, 1) := by decide +kernel
theorem dX5_owedFor_26 : decode cX5_owedFor 26 = .ok (.invokevirtual 138, 3) := by decide +kernel
theorem dX5_owedFor_29 : decode cX5_owedFor 29 = .ok (.goto 4, 3) := by decide +kernel
theorem dX5_owedFor_32 : decode cX5_owedFor 32 = .ok (.iconst 0, 1) := by decide +kernel
theorem dX5_owedFor_33 : decode cX5_owedFor 33 = .ok (.ireturn, 1) := by decide +kernel
set_option maxRecDepth 20000 in
theorem ggX5_dispute_X5_isCall : GoodIn wsX5_dispute wsX5_isCall := goodIn_r _ [10, 11, 12, 13, 9, 14, 15, 16, 17, 18, 19, 20, 21, 22, 23, 24, 25, 26, 27, 28, 29, 30, 31, 32, 33, 34, 35, 36, 37, 38, 39, 40] (by decide +kernel) (by decide +kernel)
set_option maxRecDepth 20000 in
theorem gX5_dispute_X5_isCall : GoodIn wsX5_dispute (wsV RX5 125 RX5 yX5_isCall wsX5_isCall) := goodIn_app (goodIn_of _ (by decide +kernel)) ggX5_dispute_X5_isCall
theorem dX5_dispute_0 : decode cX5_dispute 0 = .ok (.aload_n 0, 1) := by decide +kernel
theorem dX5_dispute_1 : decode cX5_dispute 1 = .ok (.aload_n 0, 1) := by decide +kernel
theorem dX5_dispute_2 : decode cX5_dispute 2 = .ok (.iload_n 1, 1) := by decide +kernel
theorem dX5_dispute_3 : decode cX5_dispute 3 = .ok (.invokevirtual 125, 3) := by decide +kernel
theorem dX5_dispute_6 : decode cX5_dispute 6 = .ok (.ifCond .ne 7, 3) := by decide +kernel
theorem dX5_dispute_9 : decode cX5_dispute 9 = .ok (.iconst 1, 1) := by decide +kernel
theorem dX5_dispute_10 : decode cX5_dispute 10 = .ok (.goto 33, 3) := by decide +kernel
theorem dX5_dispute_13 : decode cX5_dispute 13 = .ok (.aload_n 0, 1) := by decide +kernel
theorem dX5_dispute_14 : decode cX5_dispute 14 = .ok (.getfield 43, 3) := by decide +kernel
theorem dX5_dispute_17 : decode cX5_dispute 17 = .ok (.iload_n 1, 1) := by decide +kernel
theorem dX5_dispute_18 : decode cX5_dispute 18 = .ok (.iaload, 1) := by decide +kernel
theorem dX5_dispute_19 : decode cX5_dispute 19 = .ok (.iconst 1, 1) := by decide +kernel
theorem dX5_dispute_20 : decode cX5_dispute 20 = .ok (.if_icmp .ne 18, 3) := by decide +kernel
theorem dX5_dispute_23 : decode cX5_dispute 23 = .ok (.aload_n 0, 1) := by decide +kernel
theorem dX5_dispute_24 : decode cX5_dispute 24 = .ok (.getfield 101, 3) := by decide +kernel
theorem dX5_dispute_27 : decode cX5_dispute 27 = .ok (.aload_n 0, 1) := by decide +kernel
theorem dX5_dispute_28 : decode cX5_dispute 28 = .ok (.getfield 46, 3) := by decide +kernel
theorem dX5_dispute_31 : decode cX5_dispute 31 = .ok (.iload_n 1, 1) := by decide +kernel
theorem dX5_dispute_32 : decode cX5_dispute 32 = .ok (.iaload, 1) := by decide +kernel
theorem dX5_dispute_33 : decode cX5_dispute 33 = .ok (.isub, 1) := by decide +kernel
theorem dX5_dispute_34 : decode cX5_dispute 34 = .ok (.iconst 1, 1) := by decide +kernel
theorem dX5_dispute_35 : decode cX5_dispute 35 = .ok (.if_icmp .le 7, 3) := by decide +kernel
theorem dX5_dispute_38 : decode cX5_dispute 38 = .ok (.iconst 2, 1) := by decide +kernel
theorem dX5_dispute_39 : decode cX5_dispute 39 = .ok (.goto 4, 3) := by decide +kernel
theorem dX5_dispute_42 : decode cX5_dispute 42 = .ok (.iconst 0, 1) := by decide +kernel
theorem dX5_dispute_43 : decode cX5_dispute 43 = .ok (.putfield 74, 3) := by decide +kernel
theorem dX5_dispute_46 : decode cX5_dispute 46 = .ok (.aload_n 0, 1) := by decide +kernel
theorem dX5_dispute_47 : decode cX5_dispute 47 = .ok (.getfield 74, 3) := by decide +kernel
theorem dX5_dispute_50 : decode cX5_dispute 50 = .ok (.ifCond .ne 20, 3) := by decide +kernel
theorem dX5_dispute_53 : decode cX5_dispute 53 = .ok (.aload_n 0, 1) := by decide +kernel
theorem dX5_dispute_54 : decode cX5_dispute 54 = .ok (.getfield 43, 3) := by decide +kernel
theorem dX5_dispute_57 : decode cX5_dispute 57 = .ok (.iload_n 1, 1) := by decide +kernel
theorem dX5_dispute_58 : decode cX5_dispute 58 = .ok (.iconst 2, 1) := by decide +kernel
theorem dX5_dispute_59 : decode cX5_dispute 59 = .ok (.iastore, 1) := by decide +kernel
theorem dX5_dispute_60 : decode cX5_dispute 60 = .ok (.aload_n 0, 1) := by decide +kernel
theorem dX5_dispute_61 : decode cX5_dispute 61 = .ok (.getfield 49, 3) := by decide +kernel
theorem dX5_dispute_64 : decode cX5_dispute 64 = .ok (.iload_n 1, 1) := by decide +kernel
theorem dX5_dispute_65 : decode cX5_dispute 65 = .ok (.aload_n 0, 1) := by decide +kernel
theorem dX5_dispute_66 : decode cX5_dispute 66 = .ok (.getfield 101, 3) := by decide +kernel
theorem dX5_dispute_69 : decode cX5_dispute 69 = .ok (.iastore, 1) := by decide +kernel
theorem dX5_dispute_70 : decode cX5_dispute 70 = .ok (.return_, 1) := by decide +kernel
set_option maxRecDepth 20000 in
theorem ggX5_answer_X5_isCall : GoodIn wsX5_answer wsX5_isCall := goodIn_r _ [7, 8, 9, 10, 6, 11, 12, 13, 14, 15, 16, 17, 18, 19, 20, 21, 22, 23, 24, 25, 26, 27, 28, 29, 30, 31, 32, 33, 34, 35, 36, 37] (by decide +kernel) (by decide +kernel)
set_option maxRecDepth 20000 in
theorem gX5_answer_X5_isCall : GoodIn wsX5_answer (wsV RX5 125 RX5 yX5_isCall wsX5_isCall) := goodIn_app (goodIn_of _ (by decide +kernel)) ggX5_answer_X5_isCall
theorem dX5_answer_0 : decode cX5_answer 0 = .ok (.aload_n 0, 1) := by decide +kernel
theorem dX5_answer_1 : decode cX5_answer 1 = .ok (.aload_n 0, 1) := by decide +kernel
theorem dX5_answer_2 : decode cX5_answer 2 = .ok (.iload_n 1, 1) := by decide +kernel
theorem dX5_answer_3 : decode cX5_answer 3 = .ok (.invokevirtual 125, 3) := by decide +kernel
theorem dX5_answer_6 : decode cX5_answer 6 = .ok (.ifCond .ne 7, 3) := by decide +kernel
theorem dX5_answer_9 : decode cX5_answer 9 = .ok (.iconst 1, 1) := by decide +kernel
theorem dX5_answer_10 : decode cX5_answer 10 = .ok (.goto 18, 3) := by decide +kernel
theorem dX5_answer_13 : decode cX5_answer 13 = .ok (.aload_n 0, 1) := by decide +kernel
theorem dX5_answer_14 : decode cX5_answer 14 = .ok (.getfield 43, 3) := by decide +kernel
theorem dX5_answer_17 : decode cX5_answer 17 = .ok (.iload_n 1, 1) := by decide +kernel
theorem dX5_answer_18 : decode cX5_answer 18 = .ok (.iaload, 1) := by decide +kernel
theorem dX5_answer_19 : decode cX5_answer 19 = .ok (.iconst 2, 1) := by decide +kernel
theorem dX5_answer_20 : decode cX5_answer 20 = .ok (.if_icmp .eq 7, 3) := by decide +kernel
theorem dX5_answer_23 : decode cX5_answer 23 = .ok (.iconst 2, 1) := by decide +kernel
theorem dX5_answer_24 : decode cX5_answer 24 = .ok (.goto 4, 3) := by decide +kernel
theorem dX5_answer_27 : decode cX5_answer 27 = .ok (.iconst 0, 1) := by decide +kernel
theorem dX5_answer_28 : decode cX5_answer 28 = .ok (.putfield 74, 3) := by decide +kernel
theorem dX5_answer_31 : decode cX5_answer 31 = .ok (.aload_n 0, 1) := by decide +kernel
theorem dX5_answer_32 : decode cX5_answer 32 = .ok (.getfield 74, 3) := by decide +kernel
theorem dX5_answer_35 : decode cX5_answer 35 = .ok (.ifCond .ne 18, 3) := by decide +kernel
theorem dX5_answer_38 : decode cX5_answer 38 = .ok (.aload_n 0, 1) := by decide +kernel
theorem dX5_answer_39 : decode cX5_answer 39 = .ok (.getfield 43, 3) := by decide +kernel
theorem dX5_answer_42 : decode cX5_answer 42 = .ok (.iload_n 1, 1) := by decide +kernel
theorem dX5_answer_43 : decode cX5_answer 43 = .ok (.iload_n 2, 1) := by decide +kernel
theorem dX5_answer_44 : decode cX5_answer 44 = .ok (.ifCond .eq 7, 3) := by decide +kernel
theorem dX5_answer_47 : decode cX5_answer 47 = .ok (.iconst 3, 1) := by decide +kernel
theorem dX5_answer_48 : decode cX5_answer 48 = .ok (.goto 4, 3) := by decide +kernel
theorem dX5_answer_51 : decode cX5_answer 51 = .ok (.iconst 4, 1) := by decide +kernel
theorem dX5_answer_52 : decode cX5_answer 52 = .ok (.iastore, 1) := by decide +kernel
theorem dX5_answer_53 : decode cX5_answer 53 = .ok (.return_, 1) := by decide +kernel
set_option maxRecDepth 20000 in
theorem ggX5_agree_X5_in : GoodIn wsX5_agree wsX5_in := goodIn_r _ [9] (by decide +kernel) (by decide +kernel)
set_option maxRecDepth 20000 in
theorem gX5_agree_X5_in : GoodIn wsX5_agree (va_wsS RX5 78 yX5_in wsX5_in) := goodIn_app (goodIn_of _ (by decide +kernel)) ggX5_agree_X5_in
set_option maxRecDepth 20000 in
theorem ggX5_agree_X5_isPair : GoodIn wsX5_agree wsX5_isPair := goodIn_r _ [13, 14, 15, 16, 8, 17, 6, 7, 9, 18, 19, 20, 21, 22, 23, 24, 25, 26, 27, 28, 29, 30, 31, 32, 33, 34, 35, 36, 37, 38, 39, 40, 41, 42, 43] (by decide +kernel) (by decide +kernel)
set_option maxRecDepth 20000 in
theorem gX5_agree_X5_isPair : GoodIn wsX5_agree (wsV RX5 97 RX5 yX5_isPair wsX5_isPair) := goodIn_app (goodIn_of _ (by decide +kernel)) ggX5_agree_X5_isPair
theorem dX5_agree_0 : decode cX5_agree 0 = .ok (.aload_n 0, 1) := by decide +kernel
theorem dX5_agree_1 : decode cX5_agree 1 = .ok (.iload_n 1, 1) := by decide +kernel
theorem dX5_agree_2 : decode cX5_agree 2 = .ok (.iload_n 2, 1) := by decide +kernel
theorem dX5_agree_3 : decode cX5_agree 3 = .ok (.iload_n 3, 1) := by decide +kernel
theorem dX5_agree_4 : decode cX5_agree 4 = .ok (.iconst 0, 1) := by decide +kernel
theorem dX5_agree_5 : decode cX5_agree 5 = .ok (.ldc 141, 2) := by decide +kernel
theorem dX5_agree_7 : decode cX5_agree 7 = .ok (.invokestatic 78, 3) := by decide +kernel
theorem dX5_agree_10 : decode cX5_agree 10 = .ok (.ifCond .eq 19, 3) := by decide +kernel
theorem dX5_agree_13 : decode cX5_agree 13 = .ok (.iload 4, 2) := by decide +kernel
theorem dX5_agree_15 : decode cX5_agree 15 = .ok (.iconst 0, 1) := by decide +kernel
theorem dX5_agree_16 : decode cX5_agree 16 = .ok (.sipush 10000, 3) := by decide +kernel
theorem dX5_agree_19 : decode cX5_agree 19 = .ok (.invokestatic 78, 3) := by decide +kernel
theorem dX5_agree_22 : decode cX5_agree 22 = .ok (.ifCond .eq 7, 3) := by decide +kernel
theorem dX5_agree_25 : decode cX5_agree 25 = .ok (.iconst 1, 1) := by decide +kernel
theorem dX5_agree_26 : decode cX5_agree 26 = .ok (.goto 4, 3) := by decide +kernel
theorem dX5_agree_29 : decode cX5_agree 29 = .ok (.iconst 0, 1) := by decide +kernel
theorem dX5_agree_30 : decode cX5_agree 30 = .ok (.invokevirtual 97, 3) := by decide +kernel
theorem dX5_agree_33 : decode cX5_agree 33 = .ok (.ifCond .eq 44, 3) := by decide +kernel
theorem dX5_agree_36 : decode cX5_agree 36 = .ok (.iconst 4, 1) := by decide +kernel
theorem dX5_agree_37 : decode cX5_agree 37 = .ok (.iload_n 1, 1) := by decide +kernel
theorem dX5_agree_38 : decode cX5_agree 38 = .ok (.imul, 1) := by decide +kernel
theorem dX5_agree_39 : decode cX5_agree 39 = .ok (.iload_n 2, 1) := by decide +kernel
theorem dX5_agree_40 : decode cX5_agree 40 = .ok (.iadd, 1) := by decide +kernel
theorem dX5_agree_41 : decode cX5_agree 41 = .ok (.istore 6, 2) := by decide +kernel
theorem dX5_agree_43 : decode cX5_agree 43 = .ok (.aload_n 0, 1) := by decide +kernel
theorem dX5_agree_44 : decode cX5_agree 44 = .ok (.getfield 58, 3) := by decide +kernel
theorem dX5_agree_47 : decode cX5_agree 47 = .ok (.iload 6, 2) := by decide +kernel
theorem dX5_agree_49 : decode cX5_agree 49 = .ok (.iconst 1, 1) := by decide +kernel
theorem dX5_agree_50 : decode cX5_agree 50 = .ok (.bastore, 1) := by decide +kernel
theorem dX5_agree_51 : decode cX5_agree 51 = .ok (.aload_n 0, 1) := by decide +kernel
theorem dX5_agree_52 : decode cX5_agree 52 = .ok (.getfield 62, 3) := by decide +kernel
theorem dX5_agree_55 : decode cX5_agree 55 = .ok (.iload 6, 2) := by decide +kernel
theorem dX5_agree_57 : decode cX5_agree 57 = .ok (.iload_n 3, 1) := by decide +kernel
theorem dX5_agree_58 : decode cX5_agree 58 = .ok (.iastore, 1) := by decide +kernel
theorem dX5_agree_59 : decode cX5_agree 59 = .ok (.aload_n 0, 1) := by decide +kernel
theorem dX5_agree_60 : decode cX5_agree 60 = .ok (.getfield 65, 3) := by decide +kernel
theorem dX5_agree_63 : decode cX5_agree 63 = .ok (.iload 6, 2) := by decide +kernel
theorem dX5_agree_65 : decode cX5_agree 65 = .ok (.iload 4, 2) := by decide +kernel
theorem dX5_agree_67 : decode cX5_agree 67 = .ok (.iastore, 1) := by decide +kernel
theorem dX5_agree_68 : decode cX5_agree 68 = .ok (.aload_n 0, 1) := by decide +kernel
theorem dX5_agree_69 : decode cX5_agree 69 = .ok (.getfield 68, 3) := by decide +kernel
theorem dX5_agree_72 : decode cX5_agree 72 = .ok (.iload 6, 2) := by decide +kernel
theorem dX5_agree_74 : decode cX5_agree 74 = .ok (.iload 5, 2) := by decide +kernel
theorem dX5_agree_76 : decode cX5_agree 76 = .ok (.bastore, 1) := by decide +kernel
theorem dX5_agree_77 : decode cX5_agree 77 = .ok (.return_, 1) := by decide +kernel
set_option maxRecDepth 20000 in
theorem ggX5_promise_X5_in : GoodIn wsX5_promise wsX5_in := goodIn_r _ [6] (by decide +kernel) (by decide +kernel)
set_option maxRecDepth 20000 in
theorem gX5_promise_X5_in : GoodIn wsX5_promise (va_wsS RX5 78 yX5_in wsX5_in) := goodIn_app (goodIn_of _ (by decide +kernel)) ggX5_promise_X5_in
set_option maxRecDepth 20000 in
theorem ggX5_promise_X5_isPair : GoodIn wsX5_promise wsX5_isPair := goodIn_r _ [10, 11, 12, 13, 5, 14, 3, 4, 6, 15, 16, 17, 18, 19, 20, 21, 22, 23, 24, 25, 26, 27, 28, 29, 30, 31, 32, 33, 34, 35, 36, 37, 38, 39, 40] (by decide +kernel) (by decide +kernel)
set_option maxRecDepth 20000 in
theorem gX5_promise_X5_isPair : GoodIn wsX5_promise (wsV RX5 97 RX5 yX5_isPair wsX5_isPair) := goodIn_app (goodIn_of _ (by decide +kernel)) ggX5_promise_X5_isPair
theorem dX5_promise_0 : decode cX5_promise 0 = .ok (.aload_n 0, 1) := by decide +kernel
theorem dX5_promise_1 : decode cX5_promise 1 = .ok (.iload_n 1, 1) := by decide +kernel
theorem dX5_promise_2 : decode cX5_promise 2 = .ok (.iload_n 2, 1) := by decide +kernel
theorem dX5_promise_3 : decode cX5_promise 3 = .ok (.iload_n 3, 1) := by decide +kernel
theorem dX5_promise_4 : decode cX5_promise 4 = .ok (.iconst 0, 1) := by decide +kernel
theorem dX5_promise_5 : decode cX5_promise 5 = .ok (.ldc 142, 2) := by decide +kernel
theorem dX5_promise_7 : decode cX5_promise 7 = .ok (.invokestatic 78, 3) := by decide +kernel
theorem dX5_promise_10 : decode cX5_promise 10 = .ok (.invokevirtual 97, 3) := by decide +kernel
theorem dX5_promise_13 : decode cX5_promise 13 = .ok (.ifCond .ne 5, 3) := by decide +kernel
theorem dX5_promise_16 : decode cX5_promise 16 = .ok (.iconst 0, 1) := by decide +kernel
theorem dX5_promise_17 : decode cX5_promise 17 = .ok (.ireturn, 1) := by decide +kernel
theorem dX5_promise_18 : decode cX5_promise 18 = .ok (.aload_n 0, 1) := by decide +kernel
theorem dX5_promise_19 : decode cX5_promise 19 = .ok (.getfield 71, 3) := by decide +kernel
theorem dX5_promise_22 : decode cX5_promise 22 = .ok (.iconst 4, 1) := by decide +kernel
theorem dX5_promise_23 : decode cX5_promise 23 = .ok (.iload_n 1, 1) := by decide +kernel
theorem dX5_promise_24 : decode cX5_promise 24 = .ok (.imul, 1) := by decide +kernel
theorem dX5_promise_25 : decode cX5_promise 25 = .ok (.iload_n 2, 1) := by decide +kernel
theorem dX5_promise_26 : decode cX5_promise 26 = .ok (.iadd, 1) := by decide +kernel
theorem dX5_promise_27 : decode cX5_promise 27 = .ok (.iaload, 1) := by decide +kernel
theorem dX5_promise_28 : decode cX5_promise 28 = .ok (.istore 4, 2) := by decide +kernel
theorem dX5_promise_30 : decode cX5_promise 30 = .ok (.aload_n 0, 1) := by decide +kernel
theorem dX5_promise_31 : decode cX5_promise 31 = .ok (.getfield 71, 3) := by decide +kernel
theorem dX5_promise_34 : decode cX5_promise 34 = .ok (.iconst 4, 1) := by decide +kernel
theorem dX5_promise_35 : decode cX5_promise 35 = .ok (.iload_n 1, 1) := by decide +kernel
theorem dX5_promise_36 : decode cX5_promise 36 = .ok (.imul, 1) := by decide +kernel
theorem dX5_promise_37 : decode cX5_promise 37 = .ok (.iload_n 2, 1) := by decide +kernel
theorem dX5_promise_38 : decode cX5_promise 38 = .ok (.iadd, 1) := by decide +kernel
theorem dX5_promise_39 : decode cX5_promise 39 = .ok (.iload_n 3, 1) := by decide +kernel
theorem dX5_promise_40 : decode cX5_promise 40 = .ok (.iastore, 1) := by decide +kernel
theorem dX5_promise_41 : decode cX5_promise 41 = .ok (.iload 4, 2) := by decide +kernel
theorem dX5_promise_43 : decode cX5_promise 43 = .ok (.ireturn, 1) := by decide +kernel
set_option maxRecDepth 20000 in
theorem ggX5_setRate_X5_isOperator : GoodIn wsX5_setRate wsX5_isOperator := goodIn_r _ [7, 8, 9, 6, 10] (by decide +kernel) (by decide +kernel)
set_option maxRecDepth 20000 in
theorem gX5_setRate_X5_isOperator : GoodIn wsX5_setRate (va_wsS RX5 82 yX5_isOperator wsX5_isOperator) := goodIn_app (goodIn_of _ (by decide +kernel)) ggX5_setRate_X5_isOperator
set_option maxRecDepth 20000 in
theorem ggX5_setRate_X5_in : GoodIn wsX5_setRate wsX5_in := goodIn_r _ [10] (by decide +kernel) (by decide +kernel)
set_option maxRecDepth 20000 in
theorem gX5_setRate_X5_in : GoodIn wsX5_setRate (va_wsS RX5 78 yX5_in wsX5_in) := goodIn_app (goodIn_of _ (by decide +kernel)) ggX5_setRate_X5_in
theorem dX5_setRate_0 : decode cX5_setRate 0 = .ok (.aload_n 0, 1) := by decide +kernel
theorem dX5_setRate_1 : decode cX5_setRate 1 = .ok (.iload_n 1, 1) := by decide +kernel
theorem dX5_setRate_2 : decode cX5_setRate 2 = .ok (.invokestatic 82, 3) := by decide +kernel
theorem dX5_setRate_5 : decode cX5_setRate 5 = .ok (.ifCond .ne 7, 3) := by decide +kernel
theorem dX5_setRate_8 : decode cX5_setRate 8 = .ok (.iconst 1, 1) := by decide +kernel
theorem dX5_setRate_9 : decode cX5_setRate 9 = .ok (.goto 18, 3) := by decide +kernel
theorem dX5_setRate_12 : decode cX5_setRate 12 = .ok (.iload_n 2, 1) := by decide +kernel
theorem dX5_setRate_13 : decode cX5_setRate 13 = .ok (.iconst 1, 1) := by decide +kernel
theorem dX5_setRate_14 : decode cX5_setRate 14 = .ok (.ldc 143, 2) := by decide +kernel
theorem dX5_setRate_16 : decode cX5_setRate 16 = .ok (.invokestatic 78, 3) := by decide +kernel
theorem dX5_setRate_19 : decode cX5_setRate 19 = .ok (.ifCond .ne 7, 3) := by decide +kernel
theorem dX5_setRate_22 : decode cX5_setRate 22 = .ok (.iconst 2, 1) := by decide +kernel
theorem dX5_setRate_23 : decode cX5_setRate 23 = .ok (.goto 4, 3) := by decide +kernel
theorem dX5_setRate_26 : decode cX5_setRate 26 = .ok (.iconst 0, 1) := by decide +kernel
theorem dX5_setRate_27 : decode cX5_setRate 27 = .ok (.putfield 74, 3) := by decide +kernel
theorem dX5_setRate_30 : decode cX5_setRate 30 = .ok (.aload_n 0, 1) := by decide +kernel
theorem dX5_setRate_31 : decode cX5_setRate 31 = .ok (.getfield 74, 3) := by decide +kernel
theorem dX5_setRate_34 : decode cX5_setRate 34 = .ok (.ifCond .le 5, 3) := by decide +kernel
theorem dX5_setRate_37 : decode cX5_setRate 37 = .ok (.iconst 0, 1) := by decide +kernel
theorem dX5_setRate_38 : decode cX5_setRate 38 = .ok (.ireturn, 1) := by decide +kernel
theorem dX5_setRate_39 : decode cX5_setRate 39 = .ok (.aload_n 0, 1) := by decide +kernel
theorem dX5_setRate_40 : decode cX5_setRate 40 = .ok (.getfield 19, 3) := by decide +kernel
theorem dX5_setRate_43 : decode cX5_setRate 43 = .ok (.iload_n 1, 1) := by decide +kernel
theorem dX5_setRate_44 : decode cX5_setRate 44 = .ok (.iaload, 1) := by decide +kernel
theorem dX5_setRate_45 : decode cX5_setRate 45 = .ok (.istore_n 3, 1) := by decide +kernel
theorem dX5_setRate_46 : decode cX5_setRate 46 = .ok (.aload_n 0, 1) := by decide +kernel
theorem dX5_setRate_47 : decode cX5_setRate 47 = .ok (.getfield 19, 3) := by decide +kernel
theorem dX5_setRate_50 : decode cX5_setRate 50 = .ok (.iload_n 1, 1) := by decide +kernel
theorem dX5_setRate_51 : decode cX5_setRate 51 = .ok (.iload_n 2, 1) := by decide +kernel
theorem dX5_setRate_52 : decode cX5_setRate 52 = .ok (.iastore, 1) := by decide +kernel
theorem dX5_setRate_53 : decode cX5_setRate 53 = .ok (.iload_n 3, 1) := by decide +kernel
theorem dX5_setRate_54 : decode cX5_setRate 54 = .ok (.ireturn, 1) := by decide +kernel
theorem dX5_nextMonth_0 : decode cX5_nextMonth 0 = .ok (.aload_n 0, 1) := by decide +kernel
theorem dX5_nextMonth_1 : decode cX5_nextMonth 1 = .ok (.aload_n 0, 1) := by decide +kernel
theorem dX5_nextMonth_2 : decode cX5_nextMonth 2 = .ok (.getfield 101, 3) := by decide +kernel
theorem dX5_nextMonth_5 : decode cX5_nextMonth 5 = .ok (.bipush 35, 2) := by decide +kernel
theorem dX5_nextMonth_7 : decode cX5_nextMonth 7 = .ok (.if_icmp .ne 7, 3) := by decide +kernel
theorem dX5_nextMonth_10 : decode cX5_nextMonth 10 = .ok (.iconst 1, 1) := by decide +kernel
theorem dX5_nextMonth_11 : decode cX5_nextMonth 11 = .ok (.goto 4, 3) := by decide +kernel
theorem dX5_nextMonth_14 : decode cX5_nextMonth 14 = .ok (.iconst 0, 1) := by decide +kernel
theorem dX5_nextMonth_15 : decode cX5_nextMonth 15 = .ok (.putfield 74, 3) := by decide +kernel
theorem dX5_nextMonth_18 : decode cX5_nextMonth 18 = .ok (.aload_n 0, 1) := by decide +kernel
theorem dX5_nextMonth_19 : decode cX5_nextMonth 19 = .ok (.getfield 74, 3) := by decide +kernel
theorem dX5_nextMonth_22 : decode cX5_nextMonth 22 = .ok (.ifCond .le 5, 3) := by decide +kernel
theorem dX5_nextMonth_25 : decode cX5_nextMonth 25 = .ok (.iconst 0, 1) := by decide +kernel
theorem dX5_nextMonth_26 : decode cX5_nextMonth 26 = .ok (.ireturn, 1) := by decide +kernel
theorem dX5_nextMonth_27 : decode cX5_nextMonth 27 = .ok (.aload_n 0, 1) := by decide +kernel
theorem dX5_nextMonth_28 : decode cX5_nextMonth 28 = .ok (.dup, 1) := by decide +kernel
theorem dX5_nextMonth_29 : decode cX5_nextMonth 29 = .ok (.getfield 101, 3) := by decide +kernel
theorem dX5_nextMonth_32 : decode cX5_nextMonth 32 = .ok (.iconst 1, 1) := by decide +kernel
theorem dX5_nextMonth_33 : decode cX5_nextMonth 33 = .ok (.iadd, 1) := by decide +kernel
theorem dX5_nextMonth_34 : decode cX5_nextMonth 34 = .ok (.putfield 101, 3) := by decide +kernel
theorem dX5_nextMonth_37 : decode cX5_nextMonth 37 = .ok (.iconst 0, 1) := by decide +kernel
theorem dX5_nextMonth_38 : decode cX5_nextMonth 38 = .ok (.istore_n 1, 1) := by decide +kernel
theorem dX5_nextMonth_39 : decode cX5_nextMonth 39 = .ok (.iload_n 1, 1) := by decide +kernel
theorem dX5_nextMonth_40 : decode cX5_nextMonth 40 = .ok (.aload_n 0, 1) := by decide +kernel
theorem dX5_nextMonth_41 : decode cX5_nextMonth 41 = .ok (.getfield 89, 3) := by decide +kernel
theorem dX5_nextMonth_44 : decode cX5_nextMonth 44 = .ok (.if_icmp .ge 60, 3) := by decide +kernel
theorem dX5_nextMonth_47 : decode cX5_nextMonth 47 = .ok (.aload_n 0, 1) := by decide +kernel
theorem dX5_nextMonth_48 : decode cX5_nextMonth 48 = .ok (.getfield 43, 3) := by decide +kernel
theorem dX5_nextMonth_51 : decode cX5_nextMonth 51 = .ok (.iload_n 1, 1) := by decide +kernel
theorem dX5_nextMonth_52 : decode cX5_nextMonth 52 = .ok (.iaload, 1) := by decide +kernel
theorem dX5_nextMonth_53 : decode cX5_nextMonth 53 = .ok (.iconst 2, 1) := by decide +kernel
theorem dX5_nextMonth_54 : decode cX5_nextMonth 54 = .ok (.if_icmp .ne 22, 3) := by decide +kernel
theorem dX5_nextMonth_57 : decode cX5_nextMonth 57 = .ok (.aload_n 0, 1) := by decide +kernel
theorem dX5_nextMonth_58 : decode cX5_nextMonth 58 = .ok (.getfield 101, 3) := by decide +kernel
theorem dX5_nextMonth_61 : decode cX5_nextMonth 61 = .ok (.aload_n 0, 1) := by decide +kernel
theorem dX5_nextMonth_62 : decode cX5_nextMonth 62 = .ok (.getfield 49, 3) := by decide +kernel
theorem dX5_nextMonth_65 : decode cX5_nextMonth 65 = .ok (.iload_n 1, 1) := by decide +kernel
theorem dX5_nextMonth_66 : decode cX5_nextMonth 66 = .ok (.iaload, 1) := by decide +kernel
theorem dX5_nextMonth_67 : decode cX5_nextMonth 67 = .ok (.iconst 2, 1) := by decide +kernel
theorem dX5_nextMonth_68 : decode cX5_nextMonth 68 = .ok (.iadd, 1) := by decide +kernel
theorem dX5_nextMonth_69 : decode cX5_nextMonth 69 = .ok (.if_icmp .ne 7, 3) := by decide +kernel
theorem dX5_nextMonth_72 : decode cX5_nextMonth 72 = .ok (.iconst 1, 1) := by decide +kernel
theorem dX5_nextMonth_73 : decode cX5_nextMonth 73 = .ok (.goto 4, 3) := by decide +kernel
theorem dX5_nextMonth_76 : decode cX5_nextMonth 76 = .ok (.iconst 0, 1) := by decide +kernel
theorem dX5_nextMonth_77 : decode cX5_nextMonth 77 = .ok (.istore_n 2, 1) := by decide +kernel
theorem dX5_nextMonth_78 : decode cX5_nextMonth 78 = .ok (.aload_n 0, 1) := by decide +kernel
theorem dX5_nextMonth_79 : decode cX5_nextMonth 79 = .ok (.getfield 43, 3) := by decide +kernel
theorem dX5_nextMonth_82 : decode cX5_nextMonth 82 = .ok (.iload_n 1, 1) := by decide +kernel
theorem dX5_nextMonth_83 : decode cX5_nextMonth 83 = .ok (.iload_n 2, 1) := by decide +kernel
theorem dX5_nextMonth_84 : decode cX5_nextMonth 84 = .ok (.ifCond .eq 7, 3) := by decide +kernel
theorem dX5_nextMonth_87 : decode cX5_nextMonth 87 = .ok (.iconst 4, 1) := by decide +kernel
theorem dX5_nextMonth_88 : decode cX5_nextMonth 88 = .ok (.goto 9, 3) := by decide +kernel
theorem dX5_nextMonth_91 : decode cX5_nextMonth 91 = .ok (.aload_n 0, 1) := by decide +kernel
theorem dX5_nextMonth_92 : decode cX5_nextMonth 92 = .ok (.getfield 43, 3) := by decide +kernel
theorem dX5_nextMonth_95 : decode cX5_nextMonth 95 = .ok (.iload_n 1, 1) := by decide +kernel
theorem dX5_nextMonth_96 : decode cX5_nextMonth 96 = .ok (.iaload, 1) := by decide +kernel
theorem dX5_nextMonth_97 : decode cX5_nextMonth 97 = .ok (.iastore, 1) := by decide +kernel
theorem dX5_nextMonth_98 : decode cX5_nextMonth 98 = .ok (.iinc 1 1, 3) := by decide +kernel
theorem dX5_nextMonth_101 : decode cX5_nextMonth 101 = .ok (.goto (-62), 3) := by decide +kernel
theorem dX5_nextMonth_104 : decode cX5_nextMonth 104 = .ok (.aload_n 0, 1) := by decide +kernel
theorem dX5_nextMonth_105 : decode cX5_nextMonth 105 = .ok (.getfield 101, 3) := by decide +kernel
theorem dX5_nextMonth_108 : decode cX5_nextMonth 108 = .ok (.ireturn, 1) := by decide +kernel
theorem dX5_month_0 : decode cX5_month 0 = .ok (.aload_n 0, 1) := by decide +kernel
theorem dX5_month_1 : decode cX5_month 1 = .ok (.iconst 0, 1) := by decide +kernel
theorem dX5_month_2 : decode cX5_month 2 = .ok (.putfield 74, 3) := by decide +kernel
theorem dX5_month_5 : decode cX5_month 5 = .ok (.aload_n 0, 1) := by decide +kernel
theorem dX5_month_6 : decode cX5_month 6 = .ok (.getfield 101, 3) := by decide +kernel
theorem dX5_month_9 : decode cX5_month 9 = .ok (.ireturn, 1) := by decide +kernel
set_option maxRecDepth 20000 in
theorem ggX5_owedIn_X5_in : GoodIn wsX5_owedIn wsX5_in := goodIn_r _ [9] (by decide +kernel) (by decide +kernel)
set_option maxRecDepth 20000 in
theorem gX5_owedIn_X5_in : GoodIn wsX5_owedIn (va_wsS RX5 78 yX5_in wsX5_in) := goodIn_app (goodIn_of _ (by decide +kernel)) ggX5_owedIn_X5_in
set_option maxRecDepth 20000 in
theorem ggX5_owedIn_X5_owedOf : GoodIn wsX5_owedIn wsX5_owedOf := goodIn_r _ [13, 2, 3, 4, 5, 14, 15, 16, 17, 18, 19, 20, 21, 22, 23, 8, 24, 25, 26, 27, 28, 29, 30, 31, 32, 33, 34, 35, 36, 37, 38, 39, 40, 41, 42, 43, 44, 45, 46, 47, 48, 49, 50, 51, 52, 53, 54, 55, 56] (by decide +kernel) (by decide +kernel)
set_option maxRecDepth 20000 in
theorem gX5_owedIn_X5_owedOf : GoodIn wsX5_owedIn (wsV RX5 138 RX5 yX5_owedOf wsX5_owedOf) := goodIn_app (goodIn_of _ (by decide +kernel)) ggX5_owedIn_X5_owedOf
theorem dX5_owedIn_0 : decode cX5_owedIn 0 = .ok (.lconst 0, 1) := by decide +kernel
theorem dX5_owedIn_1 : decode cX5_owedIn 1 = .ok (.lstore 4, 2) := by decide +kernel
theorem dX5_owedIn_3 : decode cX5_owedIn 3 = .ok (.iconst 0, 1) := by decide +kernel
theorem dX5_owedIn_4 : decode cX5_owedIn 4 = .ok (.istore 6, 2) := by decide +kernel
theorem dX5_owedIn_6 : decode cX5_owedIn 6 = .ok (.iload 6, 2) := by decide +kernel
theorem dX5_owedIn_8 : decode cX5_owedIn 8 = .ok (.aload_n 0, 1) := by decide +kernel
theorem dX5_owedIn_9 : decode cX5_owedIn 9 = .ok (.getfield 89, 3) := by decide +kernel
theorem dX5_owedIn_12 : decode cX5_owedIn 12 = .ok (.if_icmp .ge 78, 3) := by decide +kernel
theorem dX5_owedIn_15 : decode cX5_owedIn 15 = .ok (.aload_n 0, 1) := by decide +kernel
theorem dX5_owedIn_16 : decode cX5_owedIn 16 = .ok (.getfield 43, 3) := by decide +kernel
theorem dX5_owedIn_19 : decode cX5_owedIn 19 = .ok (.iload 6, 2) := by decide +kernel
theorem dX5_owedIn_21 : decode cX5_owedIn 21 = .ok (.iaload, 1) := by decide +kernel
theorem dX5_owedIn_22 : decode cX5_owedIn 22 = .ok (.ifCond .eq 38, 3) := by decide +kernel
theorem dX5_owedIn_25 : decode cX5_owedIn 25 = .ok (.aload_n 0, 1) := by decide +kernel
theorem dX5_owedIn_26 : decode cX5_owedIn 26 = .ok (.getfield 22, 3) := by decide +kernel
theorem dX5_owedIn_29 : decode cX5_owedIn 29 = .ok (.aload_n 0, 1) := by decide +kernel
theorem dX5_owedIn_30 : decode cX5_owedIn 30 = .ok (.getfield 34, 3) := by decide +kernel
theorem dX5_owedIn_33 : decode cX5_owedIn 33 = .ok (.iload 6, 2) := by decide +kernel
theorem dX5_owedIn_35 : decode cX5_owedIn 35 = .ok (.iaload, 1) := by decide +kernel
theorem dX5_owedIn_36 : decode cX5_owedIn 36 = .ok (.iaload, 1) := by decide +kernel
theorem dX5_owedIn_37 : decode cX5_owedIn 37 = .ok (.iload_n 1, 1) := by decide +kernel
theorem dX5_owedIn_38 : decode cX5_owedIn 38 = .ok (.if_icmp .ne 22, 3) := by decide +kernel
theorem dX5_owedIn_41 : decode cX5_owedIn 41 = .ok (.aload_n 0, 1) := by decide +kernel
theorem dX5_owedIn_42 : decode cX5_owedIn 42 = .ok (.getfield 46, 3) := by decide +kernel
theorem dX5_owedIn_45 : decode cX5_owedIn 45 = .ok (.iload 6, 2) := by decide +kernel
theorem dX5_owedIn_47 : decode cX5_owedIn 47 = .ok (.iaload, 1) := by decide +kernel
theorem dX5_owedIn_48 : decode cX5_owedIn 48 = .ok (.iload_n 2, 1) := by decide +kernel
theorem dX5_owedIn_49 : decode cX5_owedIn 49 = .ok (.iload_n 3, 1) := by decide +kernel
theorem dX5_owedIn_50 : decode cX5_owedIn 50 = .ok (.invokestatic 78, 3) := by decide +kernel
theorem dX5_owedIn_53 : decode cX5_owedIn 53 = .ok (.ifCond .eq 7, 3) := by decide +kernel
theorem dX5_owedIn_56 : decode cX5_owedIn 56 = .ok (.iconst 1, 1) := by decide +kernel
theorem dX5_owedIn_57 : decode cX5_owedIn 57 = .ok (.goto 4, 3) := by decide +kernel
theorem dX5_owedIn_60 : decode cX5_owedIn 60 = .ok (.iconst 0, 1) := by decide +kernel
theorem dX5_owedIn_61 : decode cX5_owedIn 61 = .ok (.istore 7, 2) := by decide +kernel
theorem dX5_owedIn_63 : decode cX5_owedIn 63 = .ok (.lload 4, 2) := by decide +kernel
theorem dX5_owedIn_65 : decode cX5_owedIn 65 = .ok (.iload 7, 2) := by decide +kernel
theorem dX5_owedIn_67 : decode cX5_owedIn 67 = .ok (.ifCond .eq 13, 3) := by decide +kernel
theorem dX5_owedIn_70 : decode cX5_owedIn 70 = .ok (.aload_n 0, 1) := by decide +kernel
theorem dX5_owedIn_71 : decode cX5_owedIn 71 = .ok (.iload 6, 2) := by decide +kernel
theorem dX5_owedIn_73 : decode cX5_owedIn 73 = .ok (.invokevirtual 138, 3) := by decide +kernel
theorem dX5_owedIn_76 : decode cX5_owedIn 76 = .ok (.i2l, 1) := by decide +kernel
theorem dX5_owedIn_77 : decode cX5_owedIn 77 = .ok (.goto 4, 3) := by decide +kernel
theorem dX5_owedIn_80 : decode cX5_owedIn 80 = .ok (.lconst 0, 1) := by decide +kernel
theorem dX5_owedIn_81 : decode cX5_owedIn 81 = .ok (.ladd, 1) := by decide +kernel
theorem dX5_owedIn_82 : decode cX5_owedIn 82 = .ok (.lstore 4, 2) := by decide +kernel
theorem dX5_owedIn_84 : decode cX5_owedIn 84 = .ok (.iinc 6 1, 3) := by decide +kernel
theorem dX5_owedIn_87 : decode cX5_owedIn 87 = .ok (.goto (-81), 3) := by decide +kernel
theorem dX5_owedIn_90 : decode cX5_owedIn 90 = .ok (.lload 4, 2) := by decide +kernel
theorem dX5_owedIn_92 : decode cX5_owedIn 92 = .ok (.lreturn, 1) := by decide +kernel
set_option maxRecDepth 20000 in
theorem ggX5_owed_X5_in : GoodIn wsX5_owed wsX5_in := goodIn_r _ [5] (by decide +kernel) (by decide +kernel)
set_option maxRecDepth 20000 in
theorem gX5_owed_X5_in : GoodIn wsX5_owed (va_wsS RX5 78 yX5_in wsX5_in) := goodIn_app (goodIn_of _ (by decide +kernel)) ggX5_owed_X5_in
set_option maxRecDepth 20000 in
theorem ggX5_owed_X5_isPair : GoodIn wsX5_owed wsX5_isPair := goodIn_r _ [9, 10, 11, 12, 4, 13, 2, 3, 5, 44, 45, 46, 47, 48, 49, 50, 51, 52, 53, 54, 55, 56, 57, 58, 59, 60, 61, 62, 63, 64, 65, 66, 67, 68, 69] (by decide +kernel) (by decide +kernel)
set_option maxRecDepth 20000 in
theorem gX5_owed_X5_isPair : GoodIn wsX5_owed (wsV RX5 97 RX5 yX5_isPair wsX5_isPair) := goodIn_app (goodIn_of _ (by decide +kernel)) ggX5_owed_X5_isPair
set_option maxRecDepth 20000 in
theorem ggX5_owed_X5_owedIn : GoodIn wsX5_owed wsX5_owedIn := goodIn_r _ [17, 18, 19, 20, 21, 22, 2, 3, 4, 5, 23, 24, 25, 26, 27, 28, 29, 30, 31, 32, 33, 34, 35, 36, 37, 38, 39, 40, 41, 42, 43, 44, 45, 46, 47, 48, 49, 50, 51, 52, 53, 54, 55, 56, 57, 58, 59, 60, 61, 62, 63, 64, 65, 66, 67, 68, 69] (by decide +kernel) (by decide +kernel)
set_option maxRecDepth 20000 in
theorem gX5_owed_X5_owedIn : GoodIn wsX5_owed (wsV RX5 144 RX5 yX5_owedIn wsX5_owedIn) := goodIn_app (goodIn_of _ (by decide +kernel)) ggX5_owed_X5_owedIn
theorem dX5_owed_0 : decode cX5_owed 0 = .ok (.aload_n 0, 1) := by decide +kernel
theorem dX5_owed_1 : decode cX5_owed 1 = .ok (.iload_n 1, 1) := by decide +kernel
theorem dX5_owed_2 : decode cX5_owed 2 = .ok (.iload_n 2, 1) := by decide +kernel
theorem dX5_owed_3 : decode cX5_owed 3 = .ok (.iload_n 3, 1) := by decide +kernel
theorem dX5_owed_4 : decode cX5_owed 4 = .ok (.iconst 0, 1) := by decide +kernel
theorem dX5_owed_5 : decode cX5_owed 5 = .ok (.aload_n 0, 1) := by decide +kernel
theorem dX5_owed_6 : decode cX5_owed 6 = .ok (.getfield 101, 3) := by decide +kernel
theorem dX5_owed_9 : decode cX5_owed 9 = .ok (.invokestatic 78, 3) := by decide +kernel
theorem dX5_owed_12 : decode cX5_owed 12 = .ok (.invokevirtual 97, 3) := by decide +kernel
theorem dX5_owed_15 : decode cX5_owed 15 = .ok (.ifCond .eq 17, 3) := by decide +kernel
theorem dX5_owed_18 : decode cX5_owed 18 = .ok (.aload_n 0, 1) := by decide +kernel
theorem dX5_owed_19 : decode cX5_owed 19 = .ok (.iconst 4, 1) := by decide +kernel
theorem dX5_owed_20 : decode cX5_owed 20 = .ok (.iload_n 1, 1) := by decide +kernel
theorem dX5_owed_21 : decode cX5_owed 21 = .ok (.imul, 1) := by decide +kernel
theorem dX5_owed_22 : decode cX5_owed 22 = .ok (.iload_n 2, 1) := by decide +kernel
theorem dX5_owed_23 : decode cX5_owed 23 = .ok (.iadd, 1) := by decide +kernel
theorem dX5_owed_24 : decode cX5_owed 24 = .ok (.iload_n 3, 1) := by decide +kernel
theorem dX5_owed_25 : decode cX5_owed 25 = .ok (.iload_n 3, 1) := by decide +kernel
theorem dX5_owed_26 : decode cX5_owed 26 = .ok (.invokevirtual 144, 3) := by decide +kernel
theorem dX5_owed_29 : decode cX5_owed 29 = .ok (.goto 4, 3) := by decide +kernel
theorem dX5_owed_32 : decode cX5_owed 32 = .ok (.lconst 0, 1) := by decide +kernel
theorem dX5_owed_33 : decode cX5_owed 33 = .ok (.lreturn, 1) := by decide +kernel
set_option maxRecDepth 20000 in
theorem ggX5_shortfall_X5_in : GoodIn wsX5_shortfall wsX5_in := goodIn_r _ [7] (by decide +kernel) (by decide +kernel)
set_option maxRecDepth 20000 in
theorem gX5_shortfall_X5_in : GoodIn wsX5_shortfall (va_wsS RX5 78 yX5_in wsX5_in) := goodIn_app (goodIn_of _ (by decide +kernel)) ggX5_shortfall_X5_in
set_option maxRecDepth 20000 in
theorem ggX5_shortfall_X5_isPair : GoodIn wsX5_shortfall wsX5_isPair := goodIn_r _ [11, 2, 12, 13, 6, 14, 4, 5, 7, 45, 46, 47, 48, 49, 50, 51, 52, 53, 54, 55, 56, 57, 58, 59, 60, 61, 62, 63, 64, 65, 66, 67, 68, 69, 70] (by decide +kernel) (by decide +kernel)
set_option maxRecDepth 20000 in
theorem gX5_shortfall_X5_isPair : GoodIn wsX5_shortfall (wsV RX5 97 RX5 yX5_isPair wsX5_isPair) := goodIn_app (goodIn_of _ (by decide +kernel)) ggX5_shortfall_X5_isPair
set_option maxRecDepth 20000 in
theorem ggX5_shortfall_X5_owedIn : GoodIn wsX5_shortfall wsX5_owedIn := goodIn_r _ [18, 19, 20, 21, 22, 23, 4, 5, 6, 7, 24, 25, 26, 27, 28, 29, 30, 31, 32, 33, 34, 35, 36, 37, 38, 39, 40, 41, 42, 43, 44, 45, 46, 47, 48, 49, 50, 51, 52, 53, 54, 55, 56, 57, 58, 59, 60, 61, 62, 63, 64, 65, 66, 67, 68, 69, 70] (by decide +kernel) (by decide +kernel)
set_option maxRecDepth 20000 in
theorem gX5_shortfall_X5_owedIn : GoodIn wsX5_shortfall (wsV RX5 144 RX5 yX5_owedIn wsX5_owedIn) := goodIn_app (goodIn_of _ (by decide +kernel)) ggX5_shortfall_X5_owedIn
theorem dX5_shortfall_0 : decode cX5_shortfall 0 = .ok (.aload_n 0, 1) := by decide +kernel
theorem dX5_shortfall_1 : decode cX5_shortfall 1 = .ok (.iload_n 1, 1) := by decide +kernel
theorem dX5_shortfall_2 : decode cX5_shortfall 2 = .ok (.iload_n 2, 1) := by decide +kernel
theorem dX5_shortfall_3 : decode cX5_shortfall 3 = .ok (.iload_n 3, 1) := by decide +kernel
theorem dX5_shortfall_4 : decode cX5_shortfall 4 = .ok (.iconst 0, 1) := by decide +kernel
theorem dX5_shortfall_5 : decode cX5_shortfall 5 = .ok (.iconst 1, 1) := by decide +kernel
theorem dX5_shortfall_6 : decode cX5_shortfall 6 = .ok (.invokestatic 78, 3) := by decide +kernel
theorem dX5_shortfall_9 : decode cX5_shortfall 9 = .ok (.invokevirtual 97, 3) := by decide +kernel
theorem dX5_shortfall_12 : decode cX5_shortfall 12 = .ok (.ifCond .eq 26, 3) := by decide +kernel
theorem dX5_shortfall_15 : decode cX5_shortfall 15 = .ok (.aload_n 0, 1) := by decide +kernel
theorem dX5_shortfall_16 : decode cX5_shortfall 16 = .ok (.aload_n 0, 1) := by decide +kernel
theorem dX5_shortfall_17 : decode cX5_shortfall 17 = .ok (.getfield 101, 3) := by decide +kernel
theorem dX5_shortfall_20 : decode cX5_shortfall 20 = .ok (.bipush 12, 2) := by decide +kernel
theorem dX5_shortfall_22 : decode cX5_shortfall 22 = .ok (.iload_n 3, 1) := by decide +kernel
theorem dX5_shortfall_23 : decode cX5_shortfall 23 = .ok (.imul, 1) := by decide +kernel
theorem dX5_shortfall_24 : decode cX5_shortfall 24 = .ok (.bipush 12, 2) := by decide +kernel
theorem dX5_shortfall_26 : decode cX5_shortfall 26 = .ok (.iadd, 1) := by decide +kernel
theorem dX5_shortfall_27 : decode cX5_shortfall 27 = .ok (.if_icmp .ge 7, 3) := by decide +kernel
theorem dX5_shortfall_30 : decode cX5_shortfall 30 = .ok (.iconst 3, 1) := by decide +kernel
theorem dX5_shortfall_31 : decode cX5_shortfall 31 = .ok (.goto 4, 3) := by decide +kernel
theorem dX5_shortfall_34 : decode cX5_shortfall 34 = .ok (.iconst 0, 1) := by decide +kernel
theorem dX5_shortfall_35 : decode cX5_shortfall 35 = .ok (.putfield 74, 3) := by decide +kernel
theorem dX5_shortfall_38 : decode cX5_shortfall 38 = .ok (.aload_n 0, 1) := by decide +kernel
theorem dX5_shortfall_39 : decode cX5_shortfall 39 = .ok (.getfield 74, 3) := by decide +kernel
theorem dX5_shortfall_42 : decode cX5_shortfall 42 = .ok (.ifCond .le 5, 3) := by decide +kernel
theorem dX5_shortfall_45 : decode cX5_shortfall 45 = .ok (.lconst 0, 1) := by decide +kernel
theorem dX5_shortfall_46 : decode cX5_shortfall 46 = .ok (.lreturn, 1) := by decide +kernel
theorem dX5_shortfall_47 : decode cX5_shortfall 47 = .ok (.iconst 4, 1) := by decide +kernel
theorem dX5_shortfall_48 : decode cX5_shortfall 48 = .ok (.iload_n 1, 1) := by decide +kernel
theorem dX5_shortfall_49 : decode cX5_shortfall 49 = .ok (.imul, 1) := by decide +kernel
theorem dX5_shortfall_50 : decode cX5_shortfall 50 = .ok (.iload_n 2, 1) := by decide +kernel
theorem dX5_shortfall_51 : decode cX5_shortfall 51 = .ok (.iadd, 1) := by decide +kernel
theorem dX5_shortfall_52 : decode cX5_shortfall 52 = .ok (.istore 4, 2) := by decide +kernel
theorem dX5_shortfall_54 : decode cX5_shortfall 54 = .ok (.aload_n 0, 1) := by decide +kernel
theorem dX5_shortfall_55 : decode cX5_shortfall 55 = .ok (.getfield 71, 3) := by decide +kernel
theorem dX5_shortfall_58 : decode cX5_shortfall 58 = .ok (.iload 4, 2) := by decide +kernel
theorem dX5_shortfall_60 : decode cX5_shortfall 60 = .ok (.iaload, 1) := by decide +kernel
theorem dX5_shortfall_61 : decode cX5_shortfall 61 = .ok (.i2l, 1) := by decide +kernel
theorem dX5_shortfall_62 : decode cX5_shortfall 62 = .ok (.aload_n 0, 1) := by decide +kernel
theorem dX5_shortfall_63 : decode cX5_shortfall 63 = .ok (.iload 4, 2) := by decide +kernel
theorem dX5_shortfall_65 : decode cX5_shortfall 65 = .ok (.bipush 12, 2) := by decide +kernel
theorem dX5_shortfall_67 : decode cX5_shortfall 67 = .ok (.iload_n 3, 1) := by decide +kernel
theorem dX5_shortfall_68 : decode cX5_shortfall 68 = .ok (.imul, 1) := by decide +kernel
theorem dX5_shortfall_69 : decode cX5_shortfall 69 = .ok (.bipush 12, 2) := by decide +kernel
theorem dX5_shortfall_71 : decode cX5_shortfall 71 = .ok (.iload_n 3, 1) := by decide +kernel
theorem dX5_shortfall_72 : decode cX5_shortfall 72 = .ok (.imul, 1) := by decide +kernel
theorem dX5_shortfall_73 : decode cX5_shortfall 73 = .ok (.bipush 11, 2) := by decide +kernel
theorem dX5_shortfall_75 : decode cX5_shortfall 75 = .ok (.iadd, 1) := by decide +kernel
theorem dX5_shortfall_76 : decode cX5_shortfall 76 = .ok (.invokevirtual 144, 3) := by decide +kernel
theorem dX5_shortfall_79 : decode cX5_shortfall 79 = .ok (.lsub, 1) := by decide +kernel
theorem dX5_shortfall_80 : decode cX5_shortfall 80 = .ok (.lstore 5, 2) := by decide +kernel
theorem dX5_shortfall_82 : decode cX5_shortfall 82 = .ok (.lload 5, 2) := by decide +kernel
theorem dX5_shortfall_84 : decode cX5_shortfall 84 = .ok (.lconst 0, 1) := by decide +kernel
theorem dX5_shortfall_85 : decode cX5_shortfall 85 = .ok (.lcmp, 1) := by decide +kernel
theorem dX5_shortfall_86 : decode cX5_shortfall 86 = .ok (.ifCond .le 8, 3) := by decide +kernel
theorem dX5_shortfall_89 : decode cX5_shortfall 89 = .ok (.lload 5, 2) := by decide +kernel
theorem dX5_shortfall_91 : decode cX5_shortfall 91 = .ok (.goto 4, 3) := by decide +kernel
theorem dX5_shortfall_94 : decode cX5_shortfall 94 = .ok (.lconst 0, 1) := by decide +kernel
theorem dX5_shortfall_95 : decode cX5_shortfall 95 = .ok (.lreturn, 1) := by decide +kernel
set_option maxRecDepth 20000 in
theorem ggX5_unitsOf_X5_owedIn : GoodIn wsX5_unitsOf wsX5_owedIn := goodIn_r _ [7, 8, 9, 10, 11, 12, 13, 14, 6, 15, 16, 17, 18, 19, 20, 21, 22, 23, 24, 25, 26, 27, 28, 29, 30, 31, 32, 33, 34, 35, 36, 37, 38, 39, 40, 41, 42, 43, 44, 45, 46, 47, 48, 49, 50, 51, 52, 53, 54, 55, 56, 57, 58, 59, 60, 61, 62] (by decide +kernel) (by decide +kernel)
set_option maxRecDepth 20000 in
theorem gX5_unitsOf_X5_owedIn : GoodIn wsX5_unitsOf (wsV RX5 144 RX5 yX5_owedIn wsX5_owedIn) := goodIn_app (goodIn_of _ (by decide +kernel)) ggX5_unitsOf_X5_owedIn
theorem dX5_unitsOf_0 : decode cX5_unitsOf 0 = .ok (.aload_n 0, 1) := by decide +kernel
theorem dX5_unitsOf_1 : decode cX5_unitsOf 1 = .ok (.iconst 4, 1) := by decide +kernel
theorem dX5_unitsOf_2 : decode cX5_unitsOf 2 = .ok (.iload_n 1, 1) := by decide +kernel
theorem dX5_unitsOf_3 : decode cX5_unitsOf 3 = .ok (.imul, 1) := by decide +kernel
theorem dX5_unitsOf_4 : decode cX5_unitsOf 4 = .ok (.iload_n 2, 1) := by decide +kernel
theorem dX5_unitsOf_5 : decode cX5_unitsOf 5 = .ok (.iadd, 1) := by decide +kernel
theorem dX5_unitsOf_6 : decode cX5_unitsOf 6 = .ok (.iload_n 3, 1) := by decide +kernel
theorem dX5_unitsOf_7 : decode cX5_unitsOf 7 = .ok (.iload_n 3, 1) := by decide +kernel
theorem dX5_unitsOf_8 : decode cX5_unitsOf 8 = .ok (.invokevirtual 144, 3) := by decide +kernel
theorem dX5_unitsOf_11 : decode cX5_unitsOf 11 = .ok (.aload_n 0, 1) := by decide +kernel
theorem dX5_unitsOf_12 : decode cX5_unitsOf 12 = .ok (.getfield 19, 3) := by decide +kernel
theorem dX5_unitsOf_15 : decode cX5_unitsOf 15 = .ok (.iload_n 1, 1) := by decide +kernel
theorem dX5_unitsOf_16 : decode cX5_unitsOf 16 = .ok (.iaload, 1) := by decide +kernel
theorem dX5_unitsOf_17 : decode cX5_unitsOf 17 = .ok (.i2l, 1) := by decide +kernel
theorem dX5_unitsOf_18 : decode cX5_unitsOf 18 = .ok (.lmul, 1) := by decide +kernel
theorem dX5_unitsOf_19 : decode cX5_unitsOf 19 = .ok (.ldc2_w 148, 3) := by decide +kernel
theorem dX5_unitsOf_22 : decode cX5_unitsOf 22 = .ok (.ldiv, 1) := by decide +kernel
theorem dX5_unitsOf_23 : decode cX5_unitsOf 23 = .ok (.lreturn, 1) := by decide +kernel
set_option maxRecDepth 20000 in
theorem ggX5_net_X5_isOperator : GoodIn wsX5_net wsX5_isOperator := goodIn_r _ [6, 7, 8, 5, 9] (by decide +kernel) (by decide +kernel)
set_option maxRecDepth 20000 in
theorem gX5_net_X5_isOperator : GoodIn wsX5_net (va_wsS RX5 82 yX5_isOperator wsX5_isOperator) := goodIn_app (goodIn_of _ (by decide +kernel)) ggX5_net_X5_isOperator
set_option maxRecDepth 20000 in
theorem ggX5_net_X5_in : GoodIn wsX5_net wsX5_in := goodIn_r _ [9] (by decide +kernel) (by decide +kernel)
set_option maxRecDepth 20000 in
theorem gX5_net_X5_in : GoodIn wsX5_net (va_wsS RX5 78 yX5_in wsX5_in) := goodIn_app (goodIn_of _ (by decide +kernel)) ggX5_net_X5_in
set_option maxRecDepth 20000 in
theorem ggX5_net_X5_unitsOf : GoodIn wsX5_net wsX5_unitsOf := goodIn_r _ [13, 14, 15, 16, 17, 18, 5, 19, 20, 21, 22, 23, 24, 7, 8, 9, 25, 26, 27, 28, 29, 30, 31, 32, 33, 34, 35, 36, 37, 38, 39, 40, 41, 42, 43, 44, 45, 46, 47, 48, 49, 50, 51, 52, 53, 54, 55, 56, 57, 58, 59, 60, 61, 62, 63, 64, 65, 66, 67, 68, 69, 70, 71] (by decide +kernel) (by decide +kernel)
set_option maxRecDepth 20000 in
theorem gX5_net_X5_unitsOf : GoodIn wsX5_net (wsV RX5 150 RX5 yX5_unitsOf wsX5_unitsOf) := goodIn_app (goodIn_of _ (by decide +kernel)) ggX5_net_X5_unitsOf
theorem dX5_net_0 : decode cX5_net 0 = .ok (.aload_n 0, 1) := by decide +kernel
theorem dX5_net_1 : decode cX5_net 1 = .ok (.iload_n 1, 1) := by decide +kernel
theorem dX5_net_2 : decode cX5_net 2 = .ok (.invokestatic 82, 3) := by decide +kernel
theorem dX5_net_5 : decode cX5_net 5 = .ok (.ifCond .ne 7, 3) := by decide +kernel
theorem dX5_net_8 : decode cX5_net 8 = .ok (.iconst 1, 1) := by decide +kernel
theorem dX5_net_9 : decode cX5_net 9 = .ok (.goto 20, 3) := by decide +kernel
theorem dX5_net_12 : decode cX5_net 12 = .ok (.iload_n 2, 1) := by decide +kernel
theorem dX5_net_13 : decode cX5_net 13 = .ok (.iconst 0, 1) := by decide +kernel
theorem dX5_net_14 : decode cX5_net 14 = .ok (.aload_n 0, 1) := by decide +kernel
theorem dX5_net_15 : decode cX5_net 15 = .ok (.getfield 101, 3) := by decide +kernel
theorem dX5_net_18 : decode cX5_net 18 = .ok (.invokestatic 78, 3) := by decide +kernel
theorem dX5_net_21 : decode cX5_net 21 = .ok (.ifCond .ne 7, 3) := by decide +kernel
theorem dX5_net_24 : decode cX5_net 24 = .ok (.iconst 2, 1) := by decide +kernel
theorem dX5_net_25 : decode cX5_net 25 = .ok (.goto 4, 3) := by decide +kernel
theorem dX5_net_28 : decode cX5_net 28 = .ok (.iconst 0, 1) := by decide +kernel
theorem dX5_net_29 : decode cX5_net 29 = .ok (.putfield 74, 3) := by decide +kernel
theorem dX5_net_32 : decode cX5_net 32 = .ok (.lconst 0, 1) := by decide +kernel
theorem dX5_net_33 : decode cX5_net 33 = .ok (.lstore_n 3, 1) := by decide +kernel
theorem dX5_net_34 : decode cX5_net 34 = .ok (.iconst 0, 1) := by decide +kernel
theorem dX5_net_35 : decode cX5_net 35 = .ok (.istore 5, 2) := by decide +kernel
theorem dX5_net_37 : decode cX5_net 37 = .ok (.iload 5, 2) := by decide +kernel
theorem dX5_net_39 : decode cX5_net 39 = .ok (.iconst 4, 1) := by decide +kernel
theorem dX5_net_40 : decode cX5_net 40 = .ok (.if_icmp .ge 46, 3) := by decide +kernel
theorem dX5_net_43 : decode cX5_net 43 = .ok (.aload_n 0, 1) := by decide +kernel
theorem dX5_net_44 : decode cX5_net 44 = .ok (.getfield 74, 3) := by decide +kernel
theorem dX5_net_47 : decode cX5_net 47 = .ok (.ifCond .ne 39, 3) := by decide +kernel
theorem dX5_net_50 : decode cX5_net 50 = .ok (.lload_n 3, 1) := by decide +kernel
theorem dX5_net_51 : decode cX5_net 51 = .ok (.iload 5, 2) := by decide +kernel
theorem dX5_net_53 : decode cX5_net 53 = .ok (.iload_n 1, 1) := by decide +kernel
theorem dX5_net_54 : decode cX5_net 54 = .ok (.if_icmp .ne 7, 3) := by decide +kernel
theorem dX5_net_57 : decode cX5_net 57 = .ok (.lconst 0, 1) := by decide +kernel
theorem dX5_net_58 : decode cX5_net 58 = .ok (.goto 20, 3) := by decide +kernel
theorem dX5_net_61 : decode cX5_net 61 = .ok (.aload_n 0, 1) := by decide +kernel
theorem dX5_net_62 : decode cX5_net 62 = .ok (.iload_n 1, 1) := by decide +kernel
theorem dX5_net_63 : decode cX5_net 63 = .ok (.iload 5, 2) := by decide +kernel
theorem dX5_net_65 : decode cX5_net 65 = .ok (.iload_n 2, 1) := by decide +kernel
theorem dX5_net_66 : decode cX5_net 66 = .ok (.invokevirtual 150, 3) := by decide +kernel
theorem dX5_net_69 : decode cX5_net 69 = .ok (.aload_n 0, 1) := by decide +kernel
theorem dX5_net_70 : decode cX5_net 70 = .ok (.iload 5, 2) := by decide +kernel
theorem dX5_net_72 : decode cX5_net 72 = .ok (.iload_n 1, 1) := by decide +kernel
theorem dX5_net_73 : decode cX5_net 73 = .ok (.iload_n 2, 1) := by decide +kernel
theorem dX5_net_74 : decode cX5_net 74 = .ok (.invokevirtual 150, 3) := by decide +kernel
theorem dX5_net_77 : decode cX5_net 77 = .ok (.lsub, 1) := by decide +kernel
theorem dX5_net_78 : decode cX5_net 78 = .ok (.ladd, 1) := by decide +kernel
theorem dX5_net_79 : decode cX5_net 79 = .ok (.lstore_n 3, 1) := by decide +kernel
theorem dX5_net_80 : decode cX5_net 80 = .ok (.iinc 5 1, 3) := by decide +kernel
theorem dX5_net_83 : decode cX5_net 83 = .ok (.goto (-46), 3) := by decide +kernel
theorem dX5_net_86 : decode cX5_net 86 = .ok (.lload_n 3, 1) := by decide +kernel
theorem dX5_net_87 : decode cX5_net 87 = .ok (.lreturn, 1) := by decide +kernel
theorem dJ9_max_7cf53_0 : decode cJ9_max_7cf53 0 = .ok (.iload_n 0, 1) := by decide +kernel
theorem dJ9_max_7cf53_1 : decode cJ9_max_7cf53 1 = .ok (.iload_n 1, 1) := by decide +kernel
theorem dJ9_max_7cf53_2 : decode cJ9_max_7cf53 2 = .ok (.if_icmp .lt 7, 3) := by decide +kernel
theorem dJ9_max_7cf53_5 : decode cJ9_max_7cf53 5 = .ok (.iload_n 0, 1) := by decide +kernel
theorem dJ9_max_7cf53_6 : decode cJ9_max_7cf53 6 = .ok (.goto 4, 3) := by decide +kernel
theorem dJ9_max_7cf53_9 : decode cJ9_max_7cf53 9 = .ok (.iload_n 1, 1) := by decide +kernel
theorem dJ9_max_7cf53_10 : decode cJ9_max_7cf53 10 = .ok (.ireturn, 1) := by decide +kernel
theorem dJ9_max_f86c9_0 : decode cJ9_max_f86c9 0 = .ok (.lload_n 0, 1) := by decide +kernel
theorem dJ9_max_f86c9_1 : decode cJ9_max_f86c9 1 = .ok (.lload_n 2, 1) := by decide +kernel
theorem dJ9_max_f86c9_2 : decode cJ9_max_f86c9 2 = .ok (.lcmp, 1) := by decide +kernel
theorem dJ9_max_f86c9_3 : decode cJ9_max_f86c9 3 = .ok (.ifCond .lt 7, 3) := by decide +kernel
theorem dJ9_max_f86c9_6 : decode cJ9_max_f86c9 6 = .ok (.lload_n 0, 1) := by decide +kernel
theorem dJ9_max_f86c9_7 : decode cJ9_max_f86c9 7 = .ok (.goto 4, 3) := by decide +kernel
theorem dJ9_max_f86c9_10 : decode cJ9_max_f86c9 10 = .ok (.lload_n 2, 1) := by decide +kernel
theorem dJ9_max_f86c9_11 : decode cJ9_max_f86c9 11 = .ok (.lreturn, 1) := by decide +kernel
set_option maxRecDepth 20000 in
theorem ggL_setTariff_X4_setTariff : GoodIn wsL_setTariff wsX4_setTariff := goodIn_ca (goodIn_ca (goodIn_r _ [7, 8, 9, 10, 11, 12, 13, 6, 14, 15, 16, 17, 18, 19, 20, 21, 22, 23, 24, 25, 26, 27, 28, 29, 30, 31, 32, 33, 34, 35, 36] (by decide +kernel) (by decide +kernel)) (goodIn_sub (fun _ h => List.mem_cons_of_mem _ (List.mem_append_left _ (List.mem_append_right _ h))) (by decide +kernel))) (goodIn_sub (fun _ h => List.mem_cons_of_mem _ (List.mem_append_right _ h)) (by decide +kernel))
set_option maxRecDepth 20000 in
theorem gL_setTariff_X4_setTariff : GoodIn wsL_setTariff (wsV RL 7 RX4 yX4_setTariff wsX4_setTariff) := goodIn_app (goodIn_of _ (by decide +kernel)) ggL_setTariff_X4_setTariff
theorem dL_setTariff_0 : decode cL_setTariff 0 = .ok (.aload 5, 2) := by decide +kernel
theorem dL_setTariff_2 : decode cL_setTariff 2 = .ok (.iconst 0, 1) := by decide +kernel
theorem dL_setTariff_3 : decode cL_setTariff 3 = .ok (.aload_n 0, 1) := by decide +kernel
theorem dL_setTariff_4 : decode cL_setTariff 4 = .ok (.iload_n 1, 1) := by decide +kernel
theorem dL_setTariff_5 : decode cL_setTariff 5 = .ok (.iload_n 2, 1) := by decide +kernel
theorem dL_setTariff_6 : decode cL_setTariff 6 = .ok (.iload_n 3, 1) := by decide +kernel
theorem dL_setTariff_7 : decode cL_setTariff 7 = .ok (.iload 4, 2) := by decide +kernel
theorem dL_setTariff_9 : decode cL_setTariff 9 = .ok (.invokevirtual 7, 3) := by decide +kernel
theorem dL_setTariff_12 : decode cL_setTariff 12 = .ok (.i2l, 1) := by decide +kernel
theorem dL_setTariff_13 : decode cL_setTariff 13 = .ok (.lastore, 1) := by decide +kernel
theorem dL_setTariff_14 : decode cL_setTariff 14 = .ok (.goto 11, 3) := by decide +kernel
theorem dL_setTariff_17 : decode cL_setTariff 17 = .ok (.astore 6, 2) := by decide +kernel
theorem dL_setTariff_19 : decode cL_setTariff 19 = .ok (.iconst 1, 1) := by decide +kernel
theorem dL_setTariff_20 : decode cL_setTariff 20 = .ok (.ireturn, 1) := by decide +kernel
theorem dL_setTariff_21 : decode cL_setTariff 21 = .ok (.astore 6, 2) := by decide +kernel
theorem dL_setTariff_23 : decode cL_setTariff 23 = .ok (.iconst 2, 1) := by decide +kernel
theorem dL_setTariff_24 : decode cL_setTariff 24 = .ok (.ireturn, 1) := by decide +kernel
theorem dL_setTariff_25 : decode cL_setTariff 25 = .ok (.iconst 0, 1) := by decide +kernel
theorem dL_setTariff_26 : decode cL_setTariff 26 = .ok (.ireturn, 1) := by decide +kernel
set_option maxRecDepth 20000 in
theorem ggL_charge_X4_charge : GoodIn wsL_charge wsX4_charge := goodIn_ca (goodIn_ca (goodIn_r _ [7, 8, 9, 10, 11, 6, 12, 13, 14, 15, 16, 17, 18, 19, 20, 21, 22, 23, 24, 25, 26, 27, 28, 29, 30, 31, 32, 33, 34, 35, 36, 37, 38, 39, 40, 41, 42] (by decide +kernel) (by decide +kernel)) (goodIn_sub (fun _ h => List.mem_cons_of_mem _ (List.mem_append_left _ (List.mem_append_right _ h))) (by decide +kernel))) (goodIn_sub (fun _ h => List.mem_cons_of_mem _ (List.mem_append_right _ h)) (by decide +kernel))
set_option maxRecDepth 20000 in
theorem gL_charge_X4_charge : GoodIn wsL_charge (wsV RL 17 RX4 yX4_charge wsX4_charge) := goodIn_app (goodIn_of _ (by decide +kernel)) ggL_charge_X4_charge
theorem dL_charge_0 : decode cL_charge 0 = .ok (.aload_n 3, 1) := by decide +kernel
theorem dL_charge_1 : decode cL_charge 1 = .ok (.iconst 0, 1) := by decide +kernel
theorem dL_charge_2 : decode cL_charge 2 = .ok (.aload_n 0, 1) := by decide +kernel
theorem dL_charge_3 : decode cL_charge 3 = .ok (.iload_n 1, 1) := by decide +kernel
theorem dL_charge_4 : decode cL_charge 4 = .ok (.iload_n 2, 1) := by decide +kernel
theorem dL_charge_5 : decode cL_charge 5 = .ok (.invokevirtual 17, 3) := by decide +kernel
theorem dL_charge_8 : decode cL_charge 8 = .ok (.i2l, 1) := by decide +kernel
theorem dL_charge_9 : decode cL_charge 9 = .ok (.lastore, 1) := by decide +kernel
theorem dL_charge_10 : decode cL_charge 10 = .ok (.goto 11, 3) := by decide +kernel
theorem dL_charge_13 : decode cL_charge 13 = .ok (.astore 4, 2) := by decide +kernel
theorem dL_charge_15 : decode cL_charge 15 = .ok (.iconst 1, 1) := by decide +kernel
theorem dL_charge_16 : decode cL_charge 16 = .ok (.ireturn, 1) := by decide +kernel
theorem dL_charge_17 : decode cL_charge 17 = .ok (.astore 4, 2) := by decide +kernel
theorem dL_charge_19 : decode cL_charge 19 = .ok (.iconst 2, 1) := by decide +kernel
theorem dL_charge_20 : decode cL_charge 20 = .ok (.ireturn, 1) := by decide +kernel
theorem dL_charge_21 : decode cL_charge 21 = .ok (.iconst 0, 1) := by decide +kernel
theorem dL_charge_22 : decode cL_charge 22 = .ok (.ireturn, 1) := by decide +kernel
set_option maxRecDepth 20000 in
theorem ggL_begin_X4_begin : GoodIn wsL_begin wsX4_begin := goodIn_ca (goodIn_ca (goodIn_ca (goodIn_r _ [8, 9, 10, 11, 12, 13, 14, 15, 16, 17, 18, 19, 7, 20, 21, 22, 23, 24, 25, 26, 27, 28, 29, 30, 31, 32, 33, 34, 35, 36, 37, 38, 39, 40, 41, 42, 43, 44, 45, 46, 47, 48, 49, 50, 51] (by decide +kernel) (by decide +kernel)) (goodIn_sub (fun _ h => List.mem_cons_of_mem _ (List.mem_append_left _ (List.mem_append_left _ (List.mem_append_right _ h)))) (by decide +kernel))) (goodIn_sub (fun _ h => List.mem_cons_of_mem _ (List.mem_append_left _ (List.mem_append_right _ h))) (by decide +kernel))) (goodIn_sub (fun _ h => List.mem_cons_of_mem _ (List.mem_append_right _ h)) (by decide +kernel))
set_option maxRecDepth 20000 in
theorem gL_begin_X4_begin : GoodIn wsL_begin (wsV RL 21 RX4 yX4_begin wsX4_begin) := goodIn_app (goodIn_of _ (by decide +kernel)) ggL_begin_X4_begin
theorem dL_begin_0 : decode cL_begin 0 = .ok (.aload_n 3, 1) := by decide +kernel
theorem dL_begin_1 : decode cL_begin 1 = .ok (.iconst 0, 1) := by decide +kernel
theorem dL_begin_2 : decode cL_begin 2 = .ok (.aload_n 0, 1) := by decide +kernel
theorem dL_begin_3 : decode cL_begin 3 = .ok (.iload_n 1, 1) := by decide +kernel
theorem dL_begin_4 : decode cL_begin 4 = .ok (.iload_n 2, 1) := by decide +kernel
theorem dL_begin_5 : decode cL_begin 5 = .ok (.invokevirtual 21, 3) := by decide +kernel
theorem dL_begin_8 : decode cL_begin 8 = .ok (.i2l, 1) := by decide +kernel
theorem dL_begin_9 : decode cL_begin 9 = .ok (.lastore, 1) := by decide +kernel
theorem dL_begin_10 : decode cL_begin 10 = .ok (.goto 15, 3) := by decide +kernel
theorem dL_begin_13 : decode cL_begin 13 = .ok (.astore 4, 2) := by decide +kernel
theorem dL_begin_15 : decode cL_begin 15 = .ok (.iconst 1, 1) := by decide +kernel
theorem dL_begin_16 : decode cL_begin 16 = .ok (.ireturn, 1) := by decide +kernel
theorem dL_begin_17 : decode cL_begin 17 = .ok (.astore 4, 2) := by decide +kernel
theorem dL_begin_19 : decode cL_begin 19 = .ok (.iconst 2, 1) := by decide +kernel
theorem dL_begin_20 : decode cL_begin 20 = .ok (.ireturn, 1) := by decide +kernel
theorem dL_begin_21 : decode cL_begin 21 = .ok (.astore 4, 2) := by decide +kernel
theorem dL_begin_23 : decode cL_begin 23 = .ok (.iconst 3, 1) := by decide +kernel
theorem dL_begin_24 : decode cL_begin 24 = .ok (.ireturn, 1) := by decide +kernel
theorem dL_begin_25 : decode cL_begin 25 = .ok (.iconst 0, 1) := by decide +kernel
theorem dL_begin_26 : decode cL_begin 26 = .ok (.ireturn, 1) := by decide +kernel
set_option maxRecDepth 20000 in
theorem ggL_enter_X4_enter : GoodIn wsL_enter wsX4_enter := goodIn_ca (goodIn_ca (goodIn_ca (goodIn_r _ [8, 9, 10, 11, 12, 13, 14, 15, 16, 17, 18, 19, 20, 21, 22, 7, 23, 24, 25, 26, 27, 28, 29, 30, 31, 32, 33, 34, 35, 36, 37, 38, 39, 40, 41, 42, 43, 44, 45, 46, 47, 48, 49, 50, 51, 52, 53, 54, 55, 56, 57, 58, 59, 60, 61, 62, 63, 64] (by decide +kernel) (by decide +kernel)) (goodIn_sub (fun _ h => List.mem_cons_of_mem _ (List.mem_append_left _ (List.mem_append_left _ (List.mem_append_right _ h)))) (by decide +kernel))) (goodIn_sub (fun _ h => List.mem_cons_of_mem _ (List.mem_append_left _ (List.mem_append_right _ h))) (by decide +kernel))) (goodIn_sub (fun _ h => List.mem_cons_of_mem _ (List.mem_append_right _ h)) (by decide +kernel))
set_option maxRecDepth 20000 in
theorem gL_enter_X4_enter : GoodIn wsL_enter (wsV RL 26 RX4 yX4_enter wsX4_enter) := goodIn_app (goodIn_of _ (by decide +kernel)) ggL_enter_X4_enter
theorem dL_enter_0 : decode cL_enter 0 = .ok (.aload 4, 2) := by decide +kernel
theorem dL_enter_2 : decode cL_enter 2 = .ok (.iconst 0, 1) := by decide +kernel
theorem dL_enter_3 : decode cL_enter 3 = .ok (.aload_n 0, 1) := by decide +kernel
theorem dL_enter_4 : decode cL_enter 4 = .ok (.iload_n 1, 1) := by decide +kernel
theorem dL_enter_5 : decode cL_enter 5 = .ok (.iload_n 2, 1) := by decide +kernel
theorem dL_enter_6 : decode cL_enter 6 = .ok (.iload_n 3, 1) := by decide +kernel
theorem dL_enter_7 : decode cL_enter 7 = .ok (.invokevirtual 26, 3) := by decide +kernel
theorem dL_enter_10 : decode cL_enter 10 = .ok (.i2l, 1) := by decide +kernel
theorem dL_enter_11 : decode cL_enter 11 = .ok (.lastore, 1) := by decide +kernel
theorem dL_enter_12 : decode cL_enter 12 = .ok (.goto 15, 3) := by decide +kernel
theorem dL_enter_15 : decode cL_enter 15 = .ok (.astore 5, 2) := by decide +kernel
theorem dL_enter_17 : decode cL_enter 17 = .ok (.iconst 1, 1) := by decide +kernel
theorem dL_enter_18 : decode cL_enter 18 = .ok (.ireturn, 1) := by decide +kernel
theorem dL_enter_19 : decode cL_enter 19 = .ok (.astore 5, 2) := by decide +kernel
theorem dL_enter_21 : decode cL_enter 21 = .ok (.iconst 2, 1) := by decide +kernel
theorem dL_enter_22 : decode cL_enter 22 = .ok (.ireturn, 1) := by decide +kernel
theorem dL_enter_23 : decode cL_enter 23 = .ok (.astore 5, 2) := by decide +kernel
theorem dL_enter_25 : decode cL_enter 25 = .ok (.iconst 3, 1) := by decide +kernel
theorem dL_enter_26 : decode cL_enter 26 = .ok (.ireturn, 1) := by decide +kernel
theorem dL_enter_27 : decode cL_enter 27 = .ok (.iconst 0, 1) := by decide +kernel
theorem dL_enter_28 : decode cL_enter 28 = .ok (.ireturn, 1) := by decide +kernel
set_option maxRecDepth 20000 in
theorem ggL_send_X4_send : GoodIn wsL_send wsX4_send := goodIn_ca (goodIn_ca (goodIn_ca (goodIn_r _ [8, 9, 10, 11, 12, 13, 14, 15, 16, 17, 18, 7, 19, 20, 21, 22, 23, 24, 25, 26, 27, 28, 29, 30, 31, 32, 33, 34, 35, 36, 37, 38, 39, 40, 41, 42, 43, 44, 45, 46, 47, 48, 49, 50, 51, 52, 53, 54, 55, 56, 57, 58, 59, 60, 61, 62, 63, 64, 65, 66, 67, 68, 69, 70, 71, 72, 73, 74, 75, 76, 77, 78, 79, 80, 81, 82, 83, 84, 85, 86, 87, 88, 89, 90, 91, 92, 93, 94, 95, 96, 97, 98, 99, 100, 101, 102, 103, 104, 105, 106, 107, 108, 109, 110, 111] (by decide +kernel) (by decide +kernel)) (goodIn_sub (fun _ h => List.mem_cons_of_mem _ (List.mem_append_left _ (List.mem_append_left _ (List.mem_append_right _ h)))) (by decide +kernel))) (goodIn_sub (fun _ h => List.mem_cons_of_mem _ (List.mem_append_left _ (List.mem_append_right _ h))) (by decide +kernel))) (goodIn_sub (fun _ h => List.mem_cons_of_mem _ (List.mem_append_right _ h)) (by decide +kernel))
set_option maxRecDepth 20000 in
theorem gL_send_X4_send : GoodIn wsL_send (wsV RL 30 RX4 yX4_send wsX4_send) := goodIn_app (goodIn_of _ (by decide +kernel)) ggL_send_X4_send
theorem dL_send_0 : decode cL_send 0 = .ok (.aload_n 3, 1) := by decide +kernel
theorem dL_send_1 : decode cL_send 1 = .ok (.iconst 0, 1) := by decide +kernel
theorem dL_send_2 : decode cL_send 2 = .ok (.aload_n 0, 1) := by decide +kernel
theorem dL_send_3 : decode cL_send 3 = .ok (.iload_n 1, 1) := by decide +kernel
theorem dL_send_4 : decode cL_send 4 = .ok (.iload_n 2, 1) := by decide +kernel
theorem dL_send_5 : decode cL_send 5 = .ok (.invokevirtual 30, 3) := by decide +kernel
theorem dL_send_8 : decode cL_send 8 = .ok (.i2l, 1) := by decide +kernel
theorem dL_send_9 : decode cL_send 9 = .ok (.lastore, 1) := by decide +kernel
theorem dL_send_10 : decode cL_send 10 = .ok (.goto 15, 3) := by decide +kernel
theorem dL_send_13 : decode cL_send 13 = .ok (.astore 4, 2) := by decide +kernel
theorem dL_send_15 : decode cL_send 15 = .ok (.iconst 1, 1) := by decide +kernel
theorem dL_send_16 : decode cL_send 16 = .ok (.ireturn, 1) := by decide +kernel
theorem dL_send_17 : decode cL_send 17 = .ok (.astore 4, 2) := by decide +kernel
theorem dL_send_19 : decode cL_send 19 = .ok (.iconst 2, 1) := by decide +kernel
theorem dL_send_20 : decode cL_send 20 = .ok (.ireturn, 1) := by decide +kernel
theorem dL_send_21 : decode cL_send 21 = .ok (.astore 4, 2) := by decide +kernel
theorem dL_send_23 : decode cL_send 23 = .ok (.iconst 3, 1) := by decide +kernel
theorem dL_send_24 : decode cL_send 24 = .ok (.ireturn, 1) := by decide +kernel
theorem dL_send_25 : decode cL_send 25 = .ok (.iconst 0, 1) := by decide +kernel
theorem dL_send_26 : decode cL_send 26 = .ok (.ireturn, 1) := by decide +kernel
set_option maxRecDepth 20000 in
theorem ggL_stateOf_X4_stateOf : GoodIn wsL_stateOf wsX4_stateOf := goodIn_ca (goodIn_r _ [6, 7, 8, 9, 10, 5, 11, 12, 13, 14, 15, 16, 17, 18, 19, 20, 21, 22, 23, 24, 25, 26, 27] (by decide +kernel) (by decide +kernel)) (goodIn_sub (fun _ h => List.mem_cons_of_mem _ (List.mem_append_right _ h)) (by decide +kernel))
set_option maxRecDepth 20000 in
theorem gL_stateOf_X4_stateOf : GoodIn wsL_stateOf (wsV RL 33 RX4 yX4_stateOf wsX4_stateOf) := goodIn_app (goodIn_of _ (by decide +kernel)) ggL_stateOf_X4_stateOf
theorem dL_stateOf_0 : decode cL_stateOf 0 = .ok (.aload_n 2, 1) := by decide +kernel
theorem dL_stateOf_1 : decode cL_stateOf 1 = .ok (.iconst 0, 1) := by decide +kernel
theorem dL_stateOf_2 : decode cL_stateOf 2 = .ok (.aload_n 0, 1) := by decide +kernel
theorem dL_stateOf_3 : decode cL_stateOf 3 = .ok (.iload_n 1, 1) := by decide +kernel
theorem dL_stateOf_4 : decode cL_stateOf 4 = .ok (.invokevirtual 33, 3) := by decide +kernel
theorem dL_stateOf_7 : decode cL_stateOf 7 = .ok (.i2l, 1) := by decide +kernel
theorem dL_stateOf_8 : decode cL_stateOf 8 = .ok (.lastore, 1) := by decide +kernel
theorem dL_stateOf_9 : decode cL_stateOf 9 = .ok (.goto 6, 3) := by decide +kernel
theorem dL_stateOf_12 : decode cL_stateOf 12 = .ok (.astore_n 3, 1) := by decide +kernel
theorem dL_stateOf_13 : decode cL_stateOf 13 = .ok (.iconst 1, 1) := by decide +kernel
theorem dL_stateOf_14 : decode cL_stateOf 14 = .ok (.ireturn, 1) := by decide +kernel
theorem dL_stateOf_15 : decode cL_stateOf 15 = .ok (.iconst 0, 1) := by decide +kernel
theorem dL_stateOf_16 : decode cL_stateOf 16 = .ok (.ireturn, 1) := by decide +kernel
set_option maxRecDepth 20000 in
theorem ggL_expected_X4_expected : GoodIn wsL_expected wsX4_expected := goodIn_ca (goodIn_ca (goodIn_r _ [7, 8, 9, 10, 11, 6, 12, 13, 14, 15, 16, 17, 18, 19, 20, 21, 22, 23, 24, 25, 26, 27, 28, 29, 30, 31, 32, 33, 34] (by decide +kernel) (by decide +kernel)) (goodIn_sub (fun _ h => List.mem_cons_of_mem _ (List.mem_append_left _ (List.mem_append_right _ h))) (by decide +kernel))) (goodIn_sub (fun _ h => List.mem_cons_of_mem _ (List.mem_append_right _ h)) (by decide +kernel))
set_option maxRecDepth 20000 in
theorem gL_expected_X4_expected : GoodIn wsL_expected (wsV RL 37 RX4 yX4_expected wsX4_expected) := goodIn_app (goodIn_of _ (by decide +kernel)) ggL_expected_X4_expected
theorem dL_expected_0 : decode cL_expected 0 = .ok (.aload_n 3, 1) := by decide +kernel
theorem dL_expected_1 : decode cL_expected 1 = .ok (.iconst 0, 1) := by decide +kernel
theorem dL_expected_2 : decode cL_expected 2 = .ok (.aload_n 0, 1) := by decide +kernel
theorem dL_expected_3 : decode cL_expected 3 = .ok (.iload_n 1, 1) := by decide +kernel
theorem dL_expected_4 : decode cL_expected 4 = .ok (.iload_n 2, 1) := by decide +kernel
theorem dL_expected_5 : decode cL_expected 5 = .ok (.invokevirtual 37, 3) := by decide +kernel
theorem dL_expected_8 : decode cL_expected 8 = .ok (.i2l, 1) := by decide +kernel
theorem dL_expected_9 : decode cL_expected 9 = .ok (.lastore, 1) := by decide +kernel
theorem dL_expected_10 : decode cL_expected 10 = .ok (.goto 11, 3) := by decide +kernel
theorem dL_expected_13 : decode cL_expected 13 = .ok (.astore 4, 2) := by decide +kernel
theorem dL_expected_15 : decode cL_expected 15 = .ok (.iconst 1, 1) := by decide +kernel
theorem dL_expected_16 : decode cL_expected 16 = .ok (.ireturn, 1) := by decide +kernel
theorem dL_expected_17 : decode cL_expected 17 = .ok (.astore 4, 2) := by decide +kernel
theorem dL_expected_19 : decode cL_expected 19 = .ok (.iconst 2, 1) := by decide +kernel
theorem dL_expected_20 : decode cL_expected 20 = .ok (.ireturn, 1) := by decide +kernel
theorem dL_expected_21 : decode cL_expected 21 = .ok (.iconst 0, 1) := by decide +kernel
theorem dL_expected_22 : decode cL_expected 22 = .ok (.ireturn, 1) := by decide +kernel
set_option maxRecDepth 20000 in
theorem ggL_lacking_X4_lacking : GoodIn wsL_lacking wsX4_lacking := goodIn_ca (goodIn_ca (goodIn_r _ [7, 8, 9, 10, 11, 12, 13, 14, 15, 16, 17, 18, 19, 20, 6, 21, 22, 23, 24, 25, 26, 27, 28, 29, 30, 31, 32, 33, 34, 35, 36, 37, 38, 39, 40, 41, 42, 43, 44, 45, 46, 47, 48] (by decide +kernel) (by decide +kernel)) (goodIn_sub (fun _ h => List.mem_cons_of_mem _ (List.mem_append_left _ (List.mem_append_right _ h))) (by decide +kernel))) (goodIn_sub (fun _ h => List.mem_cons_of_mem _ (List.mem_append_right _ h)) (by decide +kernel))
set_option maxRecDepth 20000 in
theorem gL_lacking_X4_lacking : GoodIn wsL_lacking (wsV RL 40 RX4 yX4_lacking wsX4_lacking) := goodIn_app (goodIn_of _ (by decide +kernel)) ggL_lacking_X4_lacking
theorem dL_lacking_0 : decode cL_lacking 0 = .ok (.aload_n 3, 1) := by decide +kernel
theorem dL_lacking_1 : decode cL_lacking 1 = .ok (.iconst 0, 1) := by decide +kernel
theorem dL_lacking_2 : decode cL_lacking 2 = .ok (.aload_n 0, 1) := by decide +kernel
theorem dL_lacking_3 : decode cL_lacking 3 = .ok (.iload_n 1, 1) := by decide +kernel
theorem dL_lacking_4 : decode cL_lacking 4 = .ok (.iload_n 2, 1) := by decide +kernel
theorem dL_lacking_5 : decode cL_lacking 5 = .ok (.invokevirtual 40, 3) := by decide +kernel
theorem dL_lacking_8 : decode cL_lacking 8 = .ok (.i2l, 1) := by decide +kernel
theorem dL_lacking_9 : decode cL_lacking 9 = .ok (.lastore, 1) := by decide +kernel
theorem dL_lacking_10 : decode cL_lacking 10 = .ok (.goto 11, 3) := by decide +kernel
theorem dL_lacking_13 : decode cL_lacking 13 = .ok (.astore 4, 2) := by decide +kernel
theorem dL_lacking_15 : decode cL_lacking 15 = .ok (.iconst 1, 1) := by decide +kernel
theorem dL_lacking_16 : decode cL_lacking 16 = .ok (.ireturn, 1) := by decide +kernel
theorem dL_lacking_17 : decode cL_lacking 17 = .ok (.astore 4, 2) := by decide +kernel
theorem dL_lacking_19 : decode cL_lacking 19 = .ok (.iconst 2, 1) := by decide +kernel
theorem dL_lacking_20 : decode cL_lacking 20 = .ok (.ireturn, 1) := by decide +kernel
theorem dL_lacking_21 : decode cL_lacking 21 = .ok (.iconst 0, 1) := by decide +kernel
theorem dL_lacking_22 : decode cL_lacking 22 = .ok (.ireturn, 1) := by decide +kernel
set_option maxRecDepth 20000 in
theorem ggL_call_X4_call : GoodIn wsL_call wsX4_call := goodIn_ca (goodIn_r _ [6, 7, 8, 9, 10, 5, 11, 12, 13, 14, 15, 16, 17, 18, 19, 20, 21, 22, 23, 24, 25, 26, 27, 28, 29] (by decide +kernel) (by decide +kernel)) (goodIn_sub (fun _ h => List.mem_cons_of_mem _ (List.mem_append_right _ h)) (by decide +kernel))
set_option maxRecDepth 20000 in
theorem gL_call_X4_call : GoodIn wsL_call (wsV RL 43 RX4 yX4_call wsX4_call) := goodIn_app (goodIn_of _ (by decide +kernel)) ggL_call_X4_call
theorem dL_call_0 : decode cL_call 0 = .ok (.aload_n 2, 1) := by decide +kernel
theorem dL_call_1 : decode cL_call 1 = .ok (.iconst 0, 1) := by decide +kernel
theorem dL_call_2 : decode cL_call 2 = .ok (.aload_n 0, 1) := by decide +kernel
theorem dL_call_3 : decode cL_call 3 = .ok (.iload_n 1, 1) := by decide +kernel
theorem dL_call_4 : decode cL_call 4 = .ok (.invokevirtual 43, 3) := by decide +kernel
theorem dL_call_7 : decode cL_call 7 = .ok (.i2l, 1) := by decide +kernel
theorem dL_call_8 : decode cL_call 8 = .ok (.lastore, 1) := by decide +kernel
theorem dL_call_9 : decode cL_call 9 = .ok (.goto 6, 3) := by decide +kernel
theorem dL_call_12 : decode cL_call 12 = .ok (.astore_n 3, 1) := by decide +kernel
theorem dL_call_13 : decode cL_call 13 = .ok (.iconst 1, 1) := by decide +kernel
theorem dL_call_14 : decode cL_call 14 = .ok (.ireturn, 1) := by decide +kernel
theorem dL_call_15 : decode cL_call 15 = .ok (.iconst 0, 1) := by decide +kernel
theorem dL_call_16 : decode cL_call 16 = .ok (.ireturn, 1) := by decide +kernel
set_option maxRecDepth 20000 in
theorem ggL_monthOf_X4_monthOf : GoodIn wsL_monthOf wsX4_monthOf := goodIn_ca (goodIn_r _ [6, 7, 8, 9, 10, 5, 11, 12, 13, 14, 15, 16, 17, 18, 19, 20, 21, 22, 23, 24, 25, 26, 27, 28, 29] (by decide +kernel) (by decide +kernel)) (goodIn_sub (fun _ h => List.mem_cons_of_mem _ (List.mem_append_right _ h)) (by decide +kernel))
set_option maxRecDepth 20000 in
theorem gL_monthOf_X4_monthOf : GoodIn wsL_monthOf (wsV RL 46 RX4 yX4_monthOf wsX4_monthOf) := goodIn_app (goodIn_of _ (by decide +kernel)) ggL_monthOf_X4_monthOf
theorem dL_monthOf_0 : decode cL_monthOf 0 = .ok (.aload_n 2, 1) := by decide +kernel
theorem dL_monthOf_1 : decode cL_monthOf 1 = .ok (.iconst 0, 1) := by decide +kernel
theorem dL_monthOf_2 : decode cL_monthOf 2 = .ok (.aload_n 0, 1) := by decide +kernel
theorem dL_monthOf_3 : decode cL_monthOf 3 = .ok (.iload_n 1, 1) := by decide +kernel
theorem dL_monthOf_4 : decode cL_monthOf 4 = .ok (.invokevirtual 46, 3) := by decide +kernel
theorem dL_monthOf_7 : decode cL_monthOf 7 = .ok (.i2l, 1) := by decide +kernel
theorem dL_monthOf_8 : decode cL_monthOf 8 = .ok (.lastore, 1) := by decide +kernel
theorem dL_monthOf_9 : decode cL_monthOf 9 = .ok (.goto 6, 3) := by decide +kernel
theorem dL_monthOf_12 : decode cL_monthOf 12 = .ok (.astore_n 3, 1) := by decide +kernel
theorem dL_monthOf_13 : decode cL_monthOf 13 = .ok (.iconst 1, 1) := by decide +kernel
theorem dL_monthOf_14 : decode cL_monthOf 14 = .ok (.ireturn, 1) := by decide +kernel
theorem dL_monthOf_15 : decode cL_monthOf 15 = .ok (.iconst 0, 1) := by decide +kernel
theorem dL_monthOf_16 : decode cL_monthOf 16 = .ok (.ireturn, 1) := by decide +kernel
set_option maxRecDepth 20000 in
theorem ggL_owedFor_X4_owedFor : GoodIn wsL_owedFor wsX4_owedFor := goodIn_ca (goodIn_r _ [6, 7, 8, 9, 5, 10, 11, 12, 13, 14, 15, 16, 17, 18, 19, 20, 21, 22, 23, 24, 25, 26, 27, 28, 29, 30, 31, 32, 33, 34, 35, 36, 37, 38, 39, 40, 41, 42, 43, 44, 45, 46, 47, 48, 49, 50, 51, 52, 53, 54, 55, 56, 57, 58, 59, 60, 61, 62, 63] (by decide +kernel) (by decide +kernel)) (goodIn_sub (fun _ h => List.mem_cons_of_mem _ (List.mem_append_right _ h)) (by decide +kernel))
set_option maxRecDepth 20000 in
theorem gL_owedFor_X4_owedFor : GoodIn wsL_owedFor (wsV RL 49 RX4 yX4_owedFor wsX4_owedFor) := goodIn_app (goodIn_of _ (by decide +kernel)) ggL_owedFor_X4_owedFor
theorem dL_owedFor_0 : decode cL_owedFor 0 = .ok (.aload_n 2, 1) := by decide +kernel
theorem dL_owedFor_1 : decode cL_owedFor 1 = .ok (.iconst 0, 1) := by decide +kernel
theorem dL_owedFor_2 : decode cL_owedFor 2 = .ok (.aload_n 0, 1) := by decide +kernel
theorem dL_owedFor_3 : decode cL_owedFor 3 = .ok (.iload_n 1, 1) := by decide +kernel
theorem dL_owedFor_4 : decode cL_owedFor 4 = .ok (.invokevirtual 49, 3) := by decide +kernel
theorem dL_owedFor_7 : decode cL_owedFor 7 = .ok (.i2l, 1) := by decide +kernel
theorem dL_owedFor_8 : decode cL_owedFor 8 = .ok (.lastore, 1) := by decide +kernel
theorem dL_owedFor_9 : decode cL_owedFor 9 = .ok (.goto 6, 3) := by decide +kernel
theorem dL_owedFor_12 : decode cL_owedFor 12 = .ok (.astore_n 3, 1) := by decide +kernel
theorem dL_owedFor_13 : decode cL_owedFor 13 = .ok (.iconst 1, 1) := by decide +kernel
theorem dL_owedFor_14 : decode cL_owedFor 14 = .ok (.ireturn, 1) := by decide +kernel
theorem dL_owedFor_15 : decode cL_owedFor 15 = .ok (.iconst 0, 1) := by decide +kernel
theorem dL_owedFor_16 : decode cL_owedFor 16 = .ok (.ireturn, 1) := by decide +kernel
set_option maxRecDepth 20000 in
theorem ggL_dispute_X4_dispute : GoodIn wsL_dispute wsX4_dispute := goodIn_ca (goodIn_ca (goodIn_r _ [7, 8, 9, 10, 11, 12, 13, 14, 15, 16, 6, 17, 18, 19, 20, 21, 22, 23, 24, 25, 26, 27, 28, 29, 30, 31, 32, 33, 34, 35] (by decide +kernel) (by decide +kernel)) (goodIn_sub (fun _ h => List.mem_cons_of_mem _ (List.mem_append_left _ (List.mem_append_right _ h))) (by decide +kernel))) (goodIn_sub (fun _ h => List.mem_cons_of_mem _ (List.mem_append_right _ h)) (by decide +kernel))
set_option maxRecDepth 20000 in
theorem gL_dispute_X4_dispute : GoodIn wsL_dispute (wsV RL 52 RX4 yX4_dispute wsX4_dispute) := goodIn_app (goodIn_of _ (by decide +kernel)) ggL_dispute_X4_dispute
theorem dL_dispute_0 : decode cL_dispute 0 = .ok (.aload_n 0, 1) := by decide +kernel
theorem dL_dispute_1 : decode cL_dispute 1 = .ok (.iload_n 1, 1) := by decide +kernel
theorem dL_dispute_2 : decode cL_dispute 2 = .ok (.invokevirtual 52, 3) := by decide +kernel
theorem dL_dispute_5 : decode cL_dispute 5 = .ok (.goto 9, 3) := by decide +kernel
theorem dL_dispute_8 : decode cL_dispute 8 = .ok (.astore_n 2, 1) := by decide +kernel
theorem dL_dispute_9 : decode cL_dispute 9 = .ok (.iconst 1, 1) := by decide +kernel
theorem dL_dispute_10 : decode cL_dispute 10 = .ok (.ireturn, 1) := by decide +kernel
theorem dL_dispute_11 : decode cL_dispute 11 = .ok (.astore_n 2, 1) := by decide +kernel
theorem dL_dispute_12 : decode cL_dispute 12 = .ok (.iconst 2, 1) := by decide +kernel
theorem dL_dispute_13 : decode cL_dispute 13 = .ok (.ireturn, 1) := by decide +kernel
theorem dL_dispute_14 : decode cL_dispute 14 = .ok (.iconst 0, 1) := by decide +kernel
theorem dL_dispute_15 : decode cL_dispute 15 = .ok (.ireturn, 1) := by decide +kernel
set_option maxRecDepth 20000 in
theorem ggL_answer_X4_answer : GoodIn wsL_answer wsX4_answer := goodIn_ca (goodIn_ca (goodIn_r _ [7, 8, 9, 10, 11, 12, 13, 6, 14, 15, 16, 17, 18, 19, 20, 21, 22, 23, 24, 25, 26, 27, 28, 29, 30, 31, 32] (by decide +kernel) (by decide +kernel)) (goodIn_sub (fun _ h => List.mem_cons_of_mem _ (List.mem_append_left _ (List.mem_append_right _ h))) (by decide +kernel))) (goodIn_sub (fun _ h => List.mem_cons_of_mem _ (List.mem_append_right _ h)) (by decide +kernel))
set_option maxRecDepth 20000 in
theorem gL_answer_X4_answer : GoodIn wsL_answer (wsV RL 56 RX4 yX4_answer wsX4_answer) := goodIn_app (goodIn_of _ (by decide +kernel)) ggL_answer_X4_answer
theorem dL_answer_0 : decode cL_answer 0 = .ok (.aload_n 0, 1) := by decide +kernel
theorem dL_answer_1 : decode cL_answer 1 = .ok (.iload_n 1, 1) := by decide +kernel
theorem dL_answer_2 : decode cL_answer 2 = .ok (.iload_n 2, 1) := by decide +kernel
theorem dL_answer_3 : decode cL_answer 3 = .ok (.invokevirtual 56, 3) := by decide +kernel
theorem dL_answer_6 : decode cL_answer 6 = .ok (.goto 9, 3) := by decide +kernel
theorem dL_answer_9 : decode cL_answer 9 = .ok (.astore_n 3, 1) := by decide +kernel
theorem dL_answer_10 : decode cL_answer 10 = .ok (.iconst 1, 1) := by decide +kernel
theorem dL_answer_11 : decode cL_answer 11 = .ok (.ireturn, 1) := by decide +kernel
theorem dL_answer_12 : decode cL_answer 12 = .ok (.astore_n 3, 1) := by decide +kernel
theorem dL_answer_13 : decode cL_answer 13 = .ok (.iconst 2, 1) := by decide +kernel
theorem dL_answer_14 : decode cL_answer 14 = .ok (.ireturn, 1) := by decide +kernel
theorem dL_answer_15 : decode cL_answer 15 = .ok (.iconst 0, 1) := by decide +kernel
theorem dL_answer_16 : decode cL_answer 16 = .ok (.ireturn, 1) := by decide +kernel
set_option maxRecDepth 20000 in
theorem ggL_agree_X4_agree : GoodIn wsL_agree wsX4_agree := goodIn_ca (goodIn_ca (goodIn_r _ [7, 8, 9, 10, 11, 12, 13, 14, 6, 15, 16, 17, 18, 19, 20, 21, 22, 23, 24, 25, 26, 27, 28, 29, 30, 31, 32, 33, 34, 35, 36, 37, 38, 39, 40] (by decide +kernel) (by decide +kernel)) (goodIn_sub (fun _ h => List.mem_cons_of_mem _ (List.mem_append_left _ (List.mem_append_right _ h))) (by decide +kernel))) (goodIn_sub (fun _ h => List.mem_cons_of_mem _ (List.mem_append_right _ h)) (by decide +kernel))
set_option maxRecDepth 20000 in
theorem gL_agree_X4_agree : GoodIn wsL_agree (wsV RL 60 RX4 yX4_agree wsX4_agree) := goodIn_app (goodIn_of _ (by decide +kernel)) ggL_agree_X4_agree
theorem dL_agree_0 : decode cL_agree 0 = .ok (.aload_n 0, 1) := by decide +kernel
theorem dL_agree_1 : decode cL_agree 1 = .ok (.iload_n 1, 1) := by decide +kernel
theorem dL_agree_2 : decode cL_agree 2 = .ok (.iload_n 2, 1) := by decide +kernel
theorem dL_agree_3 : decode cL_agree 3 = .ok (.iload_n 3, 1) := by decide +kernel
theorem dL_agree_4 : decode cL_agree 4 = .ok (.iload 4, 2) := by decide +kernel
theorem dL_agree_6 : decode cL_agree 6 = .ok (.iload 5, 2) := by decide +kernel
theorem dL_agree_8 : decode cL_agree 8 = .ok (.invokevirtual 60, 3) := by decide +kernel
theorem dL_agree_11 : decode cL_agree 11 = .ok (.goto 11, 3) := by decide +kernel
theorem dL_agree_14 : decode cL_agree 14 = .ok (.astore 6, 2) := by decide +kernel
theorem dL_agree_16 : decode cL_agree 16 = .ok (.iconst 1, 1) := by decide +kernel
theorem dL_agree_17 : decode cL_agree 17 = .ok (.ireturn, 1) := by decide +kernel
theorem dL_agree_18 : decode cL_agree 18 = .ok (.astore 6, 2) := by decide +kernel
theorem dL_agree_20 : decode cL_agree 20 = .ok (.iconst 2, 1) := by decide +kernel
theorem dL_agree_21 : decode cL_agree 21 = .ok (.ireturn, 1) := by decide +kernel
theorem dL_agree_22 : decode cL_agree 22 = .ok (.iconst 0, 1) := by decide +kernel
theorem dL_agree_23 : decode cL_agree 23 = .ok (.ireturn, 1) := by decide +kernel
set_option maxRecDepth 20000 in
theorem ggL_promise_X4_promise : GoodIn wsL_promise wsX4_promise := goodIn_ca (goodIn_ca (goodIn_r _ [7, 8, 9, 10, 11, 12, 6, 13, 14, 15, 16, 17, 18, 19, 20, 21, 22, 23, 24, 25, 26, 27, 28, 29, 30, 31, 32, 33, 34, 35, 36, 37, 38] (by decide +kernel) (by decide +kernel)) (goodIn_sub (fun _ h => List.mem_cons_of_mem _ (List.mem_append_left _ (List.mem_append_right _ h))) (by decide +kernel))) (goodIn_sub (fun _ h => List.mem_cons_of_mem _ (List.mem_append_right _ h)) (by decide +kernel))
set_option maxRecDepth 20000 in
theorem gL_promise_X4_promise : GoodIn wsL_promise (wsV RL 64 RX4 yX4_promise wsX4_promise) := goodIn_app (goodIn_of _ (by decide +kernel)) ggL_promise_X4_promise
theorem dL_promise_0 : decode cL_promise 0 = .ok (.aload 4, 2) := by decide +kernel
theorem dL_promise_2 : decode cL_promise 2 = .ok (.iconst 0, 1) := by decide +kernel
theorem dL_promise_3 : decode cL_promise 3 = .ok (.aload_n 0, 1) := by decide +kernel
theorem dL_promise_4 : decode cL_promise 4 = .ok (.iload_n 1, 1) := by decide +kernel
theorem dL_promise_5 : decode cL_promise 5 = .ok (.iload_n 2, 1) := by decide +kernel
theorem dL_promise_6 : decode cL_promise 6 = .ok (.iload_n 3, 1) := by decide +kernel
theorem dL_promise_7 : decode cL_promise 7 = .ok (.invokevirtual 64, 3) := by decide +kernel
theorem dL_promise_10 : decode cL_promise 10 = .ok (.i2l, 1) := by decide +kernel
theorem dL_promise_11 : decode cL_promise 11 = .ok (.lastore, 1) := by decide +kernel
theorem dL_promise_12 : decode cL_promise 12 = .ok (.goto 11, 3) := by decide +kernel
theorem dL_promise_15 : decode cL_promise 15 = .ok (.astore 5, 2) := by decide +kernel
theorem dL_promise_17 : decode cL_promise 17 = .ok (.iconst 1, 1) := by decide +kernel
theorem dL_promise_18 : decode cL_promise 18 = .ok (.ireturn, 1) := by decide +kernel
theorem dL_promise_19 : decode cL_promise 19 = .ok (.astore 5, 2) := by decide +kernel
theorem dL_promise_21 : decode cL_promise 21 = .ok (.iconst 2, 1) := by decide +kernel
theorem dL_promise_22 : decode cL_promise 22 = .ok (.ireturn, 1) := by decide +kernel
theorem dL_promise_23 : decode cL_promise 23 = .ok (.iconst 0, 1) := by decide +kernel
theorem dL_promise_24 : decode cL_promise 24 = .ok (.ireturn, 1) := by decide +kernel
set_option maxRecDepth 20000 in
theorem ggL_setRate_X4_setRate : GoodIn wsL_setRate wsX4_setRate := goodIn_ca (goodIn_ca (goodIn_r _ [7, 8, 9, 10, 11, 12, 6, 13, 14, 15, 16, 17, 18, 19, 20, 21, 22, 23, 24, 25, 26, 27, 28, 29, 30, 31, 32, 33, 34, 35] (by decide +kernel) (by decide +kernel)) (goodIn_sub (fun _ h => List.mem_cons_of_mem _ (List.mem_append_left _ (List.mem_append_right _ h))) (by decide +kernel))) (goodIn_sub (fun _ h => List.mem_cons_of_mem _ (List.mem_append_right _ h)) (by decide +kernel))
set_option maxRecDepth 20000 in
theorem gL_setRate_X4_setRate : GoodIn wsL_setRate (wsV RL 67 RX4 yX4_setRate wsX4_setRate) := goodIn_app (goodIn_of _ (by decide +kernel)) ggL_setRate_X4_setRate
theorem dL_setRate_0 : decode cL_setRate 0 = .ok (.aload_n 3, 1) := by decide +kernel
theorem dL_setRate_1 : decode cL_setRate 1 = .ok (.iconst 0, 1) := by decide +kernel
theorem dL_setRate_2 : decode cL_setRate 2 = .ok (.aload_n 0, 1) := by decide +kernel
theorem dL_setRate_3 : decode cL_setRate 3 = .ok (.iload_n 1, 1) := by decide +kernel
theorem dL_setRate_4 : decode cL_setRate 4 = .ok (.iload_n 2, 1) := by decide +kernel
theorem dL_setRate_5 : decode cL_setRate 5 = .ok (.invokevirtual 67, 3) := by decide +kernel
theorem dL_setRate_8 : decode cL_setRate 8 = .ok (.i2l, 1) := by decide +kernel
theorem dL_setRate_9 : decode cL_setRate 9 = .ok (.lastore, 1) := by decide +kernel
theorem dL_setRate_10 : decode cL_setRate 10 = .ok (.goto 11, 3) := by decide +kernel
theorem dL_setRate_13 : decode cL_setRate 13 = .ok (.astore 4, 2) := by decide +kernel
theorem dL_setRate_15 : decode cL_setRate 15 = .ok (.iconst 1, 1) := by decide +kernel
theorem dL_setRate_16 : decode cL_setRate 16 = .ok (.ireturn, 1) := by decide +kernel
theorem dL_setRate_17 : decode cL_setRate 17 = .ok (.astore 4, 2) := by decide +kernel
theorem dL_setRate_19 : decode cL_setRate 19 = .ok (.iconst 2, 1) := by decide +kernel
theorem dL_setRate_20 : decode cL_setRate 20 = .ok (.ireturn, 1) := by decide +kernel
theorem dL_setRate_21 : decode cL_setRate 21 = .ok (.iconst 0, 1) := by decide +kernel
theorem dL_setRate_22 : decode cL_setRate 22 = .ok (.ireturn, 1) := by decide +kernel
set_option maxRecDepth 20000 in
theorem ggL_nextMonth_X4_nextMonth : GoodIn wsL_nextMonth wsX4_nextMonth := goodIn_ca (goodIn_r _ [6, 7, 8, 9, 10, 11, 12, 5, 13, 14, 15, 16, 17, 18, 19, 20, 21, 22, 23, 24, 25, 26, 27, 28, 29, 30, 31] (by decide +kernel) (by decide +kernel)) (goodIn_sub (fun _ h => List.mem_cons_of_mem _ (List.mem_append_right _ h)) (by decide +kernel))
set_option maxRecDepth 20000 in
theorem gL_nextMonth_X4_nextMonth : GoodIn wsL_nextMonth (wsV RL 70 RX4 yX4_nextMonth wsX4_nextMonth) := goodIn_app (goodIn_of _ (by decide +kernel)) ggL_nextMonth_X4_nextMonth
theorem dL_nextMonth_0 : decode cL_nextMonth 0 = .ok (.aload_n 1, 1) := by decide +kernel
theorem dL_nextMonth_1 : decode cL_nextMonth 1 = .ok (.iconst 0, 1) := by decide +kernel
theorem dL_nextMonth_2 : decode cL_nextMonth 2 = .ok (.aload_n 0, 1) := by decide +kernel
theorem dL_nextMonth_3 : decode cL_nextMonth 3 = .ok (.invokevirtual 70, 3) := by decide +kernel
theorem dL_nextMonth_6 : decode cL_nextMonth 6 = .ok (.i2l, 1) := by decide +kernel
theorem dL_nextMonth_7 : decode cL_nextMonth 7 = .ok (.lastore, 1) := by decide +kernel
theorem dL_nextMonth_8 : decode cL_nextMonth 8 = .ok (.goto 6, 3) := by decide +kernel
theorem dL_nextMonth_11 : decode cL_nextMonth 11 = .ok (.astore_n 2, 1) := by decide +kernel
theorem dL_nextMonth_12 : decode cL_nextMonth 12 = .ok (.iconst 1, 1) := by decide +kernel
theorem dL_nextMonth_13 : decode cL_nextMonth 13 = .ok (.ireturn, 1) := by decide +kernel
theorem dL_nextMonth_14 : decode cL_nextMonth 14 = .ok (.iconst 0, 1) := by decide +kernel
theorem dL_nextMonth_15 : decode cL_nextMonth 15 = .ok (.ireturn, 1) := by decide +kernel
set_option maxRecDepth 20000 in
theorem ggL_owed_X4_owed : GoodIn wsL_owed wsX4_owed := goodIn_ca (goodIn_ca (goodIn_r _ [7, 8, 9, 10, 11, 6, 12, 13, 14, 15, 16, 17, 18, 19, 20, 21, 22, 23, 24, 25, 26, 27, 28, 29, 30, 31, 32, 33, 34, 35, 36, 37, 38, 39, 40, 41, 42, 43, 44, 45, 46, 47, 48, 49, 50, 51, 52, 53, 54, 55, 56, 57, 58, 59, 60, 61, 62, 63, 64, 65, 66, 67, 68, 69, 70, 71, 72, 73, 74, 75, 76, 77, 78, 79, 80, 81] (by decide +kernel) (by decide +kernel)) (goodIn_sub (fun _ h => List.mem_cons_of_mem _ (List.mem_append_left _ (List.mem_append_right _ h))) (by decide +kernel))) (goodIn_sub (fun _ h => List.mem_cons_of_mem _ (List.mem_append_right _ h)) (by decide +kernel))
set_option maxRecDepth 20000 in
theorem gL_owed_X4_owed : GoodIn wsL_owed (wsV RL 74 RX4 yX4_owed wsX4_owed) := goodIn_app (goodIn_of _ (by decide +kernel)) ggL_owed_X4_owed
theorem dL_owed_0 : decode cL_owed 0 = .ok (.aload 4, 2) := by decide +kernel
theorem dL_owed_2 : decode cL_owed 2 = .ok (.iconst 0, 1) := by decide +kernel
theorem dL_owed_3 : decode cL_owed 3 = .ok (.aload_n 0, 1) := by decide +kernel
theorem dL_owed_4 : decode cL_owed 4 = .ok (.iload_n 1, 1) := by decide +kernel
theorem dL_owed_5 : decode cL_owed 5 = .ok (.iload_n 2, 1) := by decide +kernel
theorem dL_owed_6 : decode cL_owed 6 = .ok (.iload_n 3, 1) := by decide +kernel
theorem dL_owed_7 : decode cL_owed 7 = .ok (.invokevirtual 74, 3) := by decide +kernel
theorem dL_owed_10 : decode cL_owed 10 = .ok (.lastore, 1) := by decide +kernel
theorem dL_owed_11 : decode cL_owed 11 = .ok (.goto 11, 3) := by decide +kernel
theorem dL_owed_14 : decode cL_owed 14 = .ok (.astore 5, 2) := by decide +kernel
theorem dL_owed_16 : decode cL_owed 16 = .ok (.iconst 1, 1) := by decide +kernel
theorem dL_owed_17 : decode cL_owed 17 = .ok (.ireturn, 1) := by decide +kernel
theorem dL_owed_18 : decode cL_owed 18 = .ok (.astore 5, 2) := by decide +kernel
theorem dL_owed_20 : decode cL_owed 20 = .ok (.iconst 2, 1) := by decide +kernel
theorem dL_owed_21 : decode cL_owed 21 = .ok (.ireturn, 1) := by decide +kernel
theorem dL_owed_22 : decode cL_owed 22 = .ok (.iconst 0, 1) := by decide +kernel
theorem dL_owed_23 : decode cL_owed 23 = .ok (.ireturn, 1) := by decide +kernel
set_option maxRecDepth 20000 in
theorem ggL_shortfall_X4_shortfall : GoodIn wsL_shortfall wsX4_shortfall := goodIn_ca (goodIn_ca (goodIn_ca (goodIn_r _ [8, 9, 10, 11, 12, 13, 14, 15, 16, 17, 18, 19, 7, 20, 21, 22, 23, 24, 25, 26, 27, 28, 29, 30, 31, 32, 33, 34, 35, 36, 37, 38, 39, 40, 41, 42, 43, 44, 45, 46, 47, 48, 49, 50, 51, 52, 53, 54, 55, 56, 57, 58, 59, 60, 61, 62, 63, 64, 65, 66, 67, 68, 69, 70, 71, 72, 73, 74, 75, 76, 77, 78, 79, 80, 81, 82, 83, 84, 85, 86, 87, 88, 89, 90] (by decide +kernel) (by decide +kernel)) (goodIn_sub (fun _ h => List.mem_cons_of_mem _ (List.mem_append_left _ (List.mem_append_left _ (List.mem_append_right _ h)))) (by decide +kernel))) (goodIn_sub (fun _ h => List.mem_cons_of_mem _ (List.mem_append_left _ (List.mem_append_right _ h))) (by decide +kernel))) (goodIn_sub (fun _ h => List.mem_cons_of_mem _ (List.mem_append_right _ h)) (by decide +kernel))
set_option maxRecDepth 20000 in
theorem gL_shortfall_X4_shortfall : GoodIn wsL_shortfall (wsV RL 78 RX4 yX4_shortfall wsX4_shortfall) := goodIn_app (goodIn_of _ (by decide +kernel)) ggL_shortfall_X4_shortfall
theorem dL_shortfall_0 : decode cL_shortfall 0 = .ok (.aload 4, 2) := by decide +kernel
theorem dL_shortfall_2 : decode cL_shortfall 2 = .ok (.iconst 0, 1) := by decide +kernel
theorem dL_shortfall_3 : decode cL_shortfall 3 = .ok (.aload_n 0, 1) := by decide +kernel
theorem dL_shortfall_4 : decode cL_shortfall 4 = .ok (.iload_n 1, 1) := by decide +kernel
theorem dL_shortfall_5 : decode cL_shortfall 5 = .ok (.iload_n 2, 1) := by decide +kernel
theorem dL_shortfall_6 : decode cL_shortfall 6 = .ok (.iload_n 3, 1) := by decide +kernel
theorem dL_shortfall_7 : decode cL_shortfall 7 = .ok (.invokevirtual 78, 3) := by decide +kernel
theorem dL_shortfall_10 : decode cL_shortfall 10 = .ok (.lastore, 1) := by decide +kernel
theorem dL_shortfall_11 : decode cL_shortfall 11 = .ok (.goto 15, 3) := by decide +kernel
theorem dL_shortfall_14 : decode cL_shortfall 14 = .ok (.astore 5, 2) := by decide +kernel
theorem dL_shortfall_16 : decode cL_shortfall 16 = .ok (.iconst 1, 1) := by decide +kernel
theorem dL_shortfall_17 : decode cL_shortfall 17 = .ok (.ireturn, 1) := by decide +kernel
theorem dL_shortfall_18 : decode cL_shortfall 18 = .ok (.astore 5, 2) := by decide +kernel
theorem dL_shortfall_20 : decode cL_shortfall 20 = .ok (.iconst 2, 1) := by decide +kernel
theorem dL_shortfall_21 : decode cL_shortfall 21 = .ok (.ireturn, 1) := by decide +kernel
theorem dL_shortfall_22 : decode cL_shortfall 22 = .ok (.astore 5, 2) := by decide +kernel
theorem dL_shortfall_24 : decode cL_shortfall 24 = .ok (.iconst 3, 1) := by decide +kernel
theorem dL_shortfall_25 : decode cL_shortfall 25 = .ok (.ireturn, 1) := by decide +kernel
theorem dL_shortfall_26 : decode cL_shortfall 26 = .ok (.iconst 0, 1) := by decide +kernel
theorem dL_shortfall_27 : decode cL_shortfall 27 = .ok (.ireturn, 1) := by decide +kernel
set_option maxRecDepth 20000 in
theorem ggL_net_X4_net : GoodIn wsL_net wsX4_net := goodIn_ca (goodIn_ca (goodIn_r _ [7, 8, 9, 10, 11, 12, 6, 13, 14, 15, 16, 17, 18, 19, 20, 21, 22, 23, 24, 25, 26, 27, 28, 29, 30, 31, 32, 33, 34, 35, 36, 37, 38, 39, 40, 41, 42, 43, 44, 45, 46, 47, 48, 49, 50, 51, 52, 53, 54, 55, 56, 57, 58, 59, 60, 61, 62, 63, 64, 65, 66, 67, 68, 69, 70, 71, 72, 73, 74, 75, 76, 77, 78, 79, 80, 81, 82, 83, 84, 85, 86, 87, 88, 89, 90, 91, 92, 93] (by decide +kernel) (by decide +kernel)) (goodIn_sub (fun _ h => List.mem_cons_of_mem _ (List.mem_append_left _ (List.mem_append_right _ h))) (by decide +kernel))) (goodIn_sub (fun _ h => List.mem_cons_of_mem _ (List.mem_append_right _ h)) (by decide +kernel))
set_option maxRecDepth 20000 in
theorem gL_net_X4_net : GoodIn wsL_net (wsV RL 81 RX4 yX4_net wsX4_net) := goodIn_app (goodIn_of _ (by decide +kernel)) ggL_net_X4_net
end
section
theorem dL_net_0 : decode cL_net 0 = .ok (.aload_n 3, 1) := by decide +kernel
theorem dL_net_1 : decode cL_net 1 = .ok (.iconst 0, 1) := by decide +kernel
theorem dL_net_2 : decode cL_net 2 = .ok (.aload_n 0, 1) := by decide +kernel
theorem dL_net_3 : decode cL_net 3 = .ok (.iload_n 1, 1) := by decide +kernel
theorem dL_net_4 : decode cL_net 4 = .ok (.iload_n 2, 1) := by decide +kernel
theorem dL_net_5 : decode cL_net 5 = .ok (.invokevirtual 81, 3) := by decide +kernel
theorem dL_net_8 : decode cL_net 8 = .ok (.lastore, 1) := by decide +kernel
theorem dL_net_9 : decode cL_net 9 = .ok (.goto 11, 3) := by decide +kernel
theorem dL_net_12 : decode cL_net 12 = .ok (.astore 4, 2) := by decide +kernel
theorem dL_net_14 : decode cL_net 14 = .ok (.iconst 1, 1) := by decide +kernel
theorem dL_net_15 : decode cL_net 15 = .ok (.ireturn, 1) := by decide +kernel
theorem dL_net_16 : decode cL_net 16 = .ok (.astore 4, 2) := by decide +kernel
theorem dL_net_18 : decode cL_net 18 = .ok (.iconst 2, 1) := by decide +kernel
theorem dL_net_19 : decode cL_net 19 = .ok (.ireturn, 1) := by decide +kernel
theorem dL_net_20 : decode cL_net 20 = .ok (.iconst 0, 1) := by decide +kernel
theorem dL_net_21 : decode cL_net 21 = .ok (.ireturn, 1) := by decide +kernel
set_option maxRecDepth 20000 in
theorem ggL_law_X4_init : GoodIn wsL_law wsX4_init := goodIn_r _ [9, 10, 11, 12, 13, 14, 15, 16, 17, 18, 19, 20, 21, 22, 23, 24, 25, 26, 27, 28, 29, 30, 31, 32, 33, 34, 35, 36, 37, 38, 39, 40, 41, 42, 43, 44, 45, 46, 532, 533, 534, 535, 536, 537, 538, 565, 566, 567, 568, 569, 570, 571, 572, 573, 574, 575] (by decide +kernel) (by decide +kernel)
set_option maxRecDepth 20000 in
theorem gL_law_X4_init : GoodIn wsL_law (wsX4_init) := ggL_law_X4_init
set_option maxRecDepth 20000 in
theorem ggL_law_X5_init : GoodIn wsL_law wsX5_init := goodIn_r _ [49, 50, 11, 12, 44, 51, 52, 53, 54, 55, 56, 57, 58, 59, 60, 61, 62, 63, 64, 65, 66, 67, 68, 69, 70, 71, 72, 539, 540, 541, 542, 543, 544, 545, 546, 547, 548, 549, 550, 551, 552, 553, 554, 555, 556, 557, 558, 559, 560, 561, 562, 563, 564] (by decide +kernel) (by decide +kernel)
set_option maxRecDepth 20000 in
theorem gL_law_X5_init : GoodIn wsL_law (wsX5_init) := ggL_law_X5_init
set_option maxRecDepth 20000 in
theorem ggL_law_L_setTariff : GoodIn wsL_law wsL_setTariff := goodIn_ca (goodIn_ca (goodIn_r _ [76, 77, 78, 79, 80, 81, 2, 82, 83, 84, 85, 86, 87, 88, 89, 90, 91, 14, 92, 93, 94, 95, 96, 97, 98, 99, 565, 566, 567, 568, 532, 533, 534, 535, 536, 537, 538] (by decide +kernel) (by decide +kernel)) (goodIn_sub (fun _ h => List.mem_append_left _ (List.mem_append_left _ (List.mem_append_right _ h))) (by decide +kernel))) (goodIn_sub (fun _ h => List.mem_append_left _ (List.mem_append_right _ h)) (by decide +kernel))
set_option maxRecDepth 20000 in
theorem gL_law_L_setTariff : GoodIn wsL_law (va_wsS RL 89 yL_setTariff wsL_setTariff) := goodIn_app (goodIn_of _ (by decide +kernel)) ggL_law_L_setTariff
set_option maxRecDepth 20000 in
theorem ggL_law_X5_setTariff : GoodIn wsL_law wsX5_setTariff := goodIn_r _ [103, 104, 52, 51, 53, 105, 106, 5, 107, 108, 109, 110, 539, 540, 541, 542, 543, 544, 545, 546, 547, 548, 549, 550, 551, 552, 553, 554, 555, 556, 557, 558, 559, 560, 561, 562, 563, 564] (by decide +kernel) (by decide +kernel)
set_option maxRecDepth 20000 in
theorem gL_law_X5_setTariff : GoodIn wsL_law (wsV RL 94 RX5 yX5_setTariff wsX5_setTariff) := goodIn_app (goodIn_of _ (by decide +kernel)) ggL_law_X5_setTariff
set_option maxRecDepth 20000 in
theorem ggL_law_X5_thrown : GoodIn wsL_law wsX5_thrown := goodIn_r _ [114, 104, 539, 540, 541, 542, 543, 544, 545, 546, 547, 548, 549, 550, 551, 552, 553, 554, 555, 556, 557, 558, 559, 560, 561, 562, 563, 564] (by decide +kernel) (by decide +kernel)
set_option maxRecDepth 20000 in
theorem gL_law_X5_thrown : GoodIn wsL_law (wsV RL 95 RX5 yX5_thrown wsX5_thrown) := goodIn_app (goodIn_of _ (by decide +kernel)) ggL_law_X5_thrown
set_option maxRecDepth 20000 in
theorem ggL_law_L_charge : GoodIn wsL_law wsL_charge := goodIn_ca (goodIn_ca (goodIn_r _ [117, 77, 78, 118, 119, 120, 2, 121, 122, 86, 87, 88, 89, 90, 91, 14, 92, 93, 94, 95, 96, 97, 98, 99, 123, 124, 125, 25, 126, 31, 33, 32, 532, 533, 534, 535, 536, 537, 538, 565, 566, 567, 568] (by decide +kernel) (by decide +kernel)) (goodIn_sub (fun _ h => List.mem_append_left _ (List.mem_append_left _ (List.mem_append_right _ h))) (by decide +kernel))) (goodIn_sub (fun _ h => List.mem_append_left _ (List.mem_append_right _ h)) (by decide +kernel))
set_option maxRecDepth 20000 in
theorem gL_law_L_charge : GoodIn wsL_law (va_wsS RL 98 yL_charge wsL_charge) := goodIn_app (goodIn_of _ (by decide +kernel)) ggL_law_L_charge
set_option maxRecDepth 20000 in
theorem ggL_law_X5_charge : GoodIn wsL_law wsX5_charge := goodIn_r _ [130, 131, 104, 105, 106, 5, 107, 108, 109, 110, 132, 133, 134, 135, 53, 52, 51, 539, 540, 541, 542, 543, 544, 545, 546, 547, 548, 549, 550, 551, 552, 553, 554, 555, 556, 557, 558, 559, 560, 561, 562, 563, 564] (by decide +kernel) (by decide +kernel)
set_option maxRecDepth 20000 in
theorem gL_law_X5_charge : GoodIn wsL_law (wsV RL 101 RX5 yX5_charge wsX5_charge) := goodIn_app (goodIn_of _ (by decide +kernel)) ggL_law_X5_charge
set_option maxRecDepth 20000 in
theorem ggL_law_L_begin : GoodIn wsL_law wsL_begin := goodIn_ca (goodIn_ca (goodIn_ca (goodIn_r _ [138, 77, 78, 139, 140, 141, 142, 2, 143, 144, 145, 19, 18, 17, 146, 147, 23, 148, 149, 150, 151, 90, 91, 98, 99, 16, 92, 93, 94, 152, 153, 154, 155, 11, 12, 156, 157, 158, 159, 160, 532, 533, 534, 535, 536, 537, 538, 576, 577, 578, 579, 580] (by decide +kernel) (by decide +kernel)) (goodIn_sub (fun _ h => List.mem_append_right _ h) (by decide +kernel))) (goodIn_sub (fun _ h => List.mem_append_left _ (List.mem_append_left _ (List.mem_append_right _ h))) (by decide +kernel))) (goodIn_sub (fun _ h => List.mem_append_left _ (List.mem_append_right _ h)) (by decide +kernel))
set_option maxRecDepth 20000 in
theorem gL_law_L_begin : GoodIn wsL_law (va_wsS RL 102 yL_begin wsL_begin) := goodIn_app (goodIn_of _ (by decide +kernel)) ggL_law_L_begin
set_option maxRecDepth 20000 in
theorem ggL_law_X5_begin : GoodIn wsL_law wsX5_begin := goodIn_r _ [164, 165, 104, 55, 56, 166, 57, 167, 168, 169, 5, 170, 105, 106, 107, 108, 109, 110, 539, 540, 541, 542, 543, 544, 545, 546, 547, 548, 549, 550, 551, 552, 553, 554, 555, 556, 557, 558, 559, 560, 561, 562, 563, 564] (by decide +kernel) (by decide +kernel)
set_option maxRecDepth 20000 in
theorem gL_law_X5_begin : GoodIn wsL_law (wsV RL 104 RX5 yX5_begin wsX5_begin) := goodIn_app (goodIn_of _ (by decide +kernel)) ggL_law_X5_begin
set_option maxRecDepth 20000 in
theorem ggL_law_L_enter : GoodIn wsL_law wsL_enter := goodIn_ca (goodIn_ca (goodIn_ca (goodIn_r _ [173, 77, 78, 139, 174, 175, 176, 2, 177, 144, 145, 122, 178, 179, 22, 21, 20, 180, 181, 182, 183, 184, 185, 186, 90, 91, 19, 18, 95, 96, 97, 98, 99, 187, 188, 189, 190, 11, 12, 191, 192, 193, 194, 195, 196, 197, 576, 577, 578, 579, 580, 532, 533, 534, 535, 536, 537, 538, 581, 582, 583, 584, 585, 586, 587] (by decide +kernel) (by decide +kernel)) (goodIn_sub (fun _ h => List.mem_append_right _ h) (by decide +kernel))) (goodIn_sub (fun _ h => List.mem_append_left _ (List.mem_append_left _ (List.mem_append_right _ h))) (by decide +kernel))) (goodIn_sub (fun _ h => List.mem_append_left _ (List.mem_append_right _ h)) (by decide +kernel))
set_option maxRecDepth 20000 in
theorem gL_law_L_enter : GoodIn wsL_law (va_wsS RL 105 yL_enter wsL_enter) := goodIn_app (goodIn_of _ (by decide +kernel)) ggL_law_L_enter
set_option maxRecDepth 20000 in
theorem ggL_law_X5_enter : GoodIn wsL_law wsX5_enter := goodIn_r _ [201, 131, 202, 57, 203, 104, 59, 60, 61, 62, 204, 205, 206, 5, 207, 165, 108, 109, 110, 539, 540, 541, 542, 543, 544, 545, 546, 547, 548, 549, 550, 551, 552, 553, 554, 555, 556, 557, 558, 559, 560, 561, 562, 563, 564] (by decide +kernel) (by decide +kernel)
set_option maxRecDepth 20000 in
theorem gL_law_X5_enter : GoodIn wsL_law (wsV RL 108 RX5 yX5_enter wsX5_enter) := goodIn_app (goodIn_of _ (by decide +kernel)) ggL_law_X5_enter
set_option maxRecDepth 20000 in
theorem ggL_law_L_send : GoodIn wsL_law wsL_send := goodIn_ca (goodIn_ca (goodIn_ca (goodIn_r _ [210, 77, 78, 139, 211, 212, 213, 2, 214, 144, 145, 179, 182, 215, 216, 217, 183, 184, 185, 186, 90, 91, 19, 18, 95, 96, 97, 98, 99, 218, 219, 220, 221, 222, 223, 224, 225, 226, 227, 228, 229, 23, 230, 231, 232, 233, 234, 22, 21, 235, 236, 237, 238, 181, 239, 197, 195, 240, 241, 196, 242, 124, 125, 25, 126, 31, 33, 32, 243, 244, 245, 246, 247, 248, 249, 250, 191, 192, 251, 194, 252, 253, 576, 577, 578, 579, 580, 569, 570, 571, 572, 573, 574, 575, 532, 533, 534, 535, 536, 537, 538, 581, 582, 583, 584, 585, 586, 587, 565, 566, 567, 568] (by decide +kernel) (by decide +kernel)) (goodIn_sub (fun _ h => List.mem_append_right _ h) (by decide +kernel))) (goodIn_sub (fun _ h => List.mem_append_left _ (List.mem_append_left _ (List.mem_append_right _ h))) (by decide +kernel))) (goodIn_sub (fun _ h => List.mem_append_left _ (List.mem_append_right _ h)) (by decide +kernel))
set_option maxRecDepth 20000 in
theorem gL_law_L_send : GoodIn wsL_law (va_wsS RL 109 yL_send wsL_send) := goodIn_app (goodIn_of _ (by decide +kernel)) ggL_law_L_send
set_option maxRecDepth 20000 in
theorem ggL_law_X5_send : GoodIn wsL_law wsX5_send := goodIn_r _ [257, 57, 104, 55, 66, 58, 204, 205, 206, 5, 207, 165, 108, 109, 110, 258, 259, 260, 261, 203, 59, 262, 263, 264, 265, 60, 61, 132, 133, 134, 135, 53, 52, 51, 266, 267, 268, 269, 270, 271, 272, 273, 166, 56, 62, 63, 65, 274, 539, 540, 541, 542, 543, 544, 545, 546, 547, 548, 549, 550, 551, 552, 553, 554, 555, 556, 557, 558, 559, 560, 561, 562, 563, 564] (by decide +kernel) (by decide +kernel)
set_option maxRecDepth 20000 in
theorem gL_law_X5_send : GoodIn wsL_law (wsV RL 111 RX5 yX5_send wsX5_send) := goodIn_app (goodIn_of _ (by decide +kernel)) ggL_law_X5_send
set_option maxRecDepth 20000 in
theorem ggL_law_L_stateOf : GoodIn wsL_law wsL_stateOf := goodIn_ca (goodIn_r _ [277, 77, 278, 279, 280, 2, 281, 179, 183, 184, 185, 186, 90, 91, 19, 18, 576, 577, 578, 579, 580, 532, 533, 534, 535, 536, 537, 538] (by decide +kernel) (by decide +kernel)) (goodIn_sub (fun _ h => List.mem_append_left _ (List.mem_append_left _ (List.mem_append_right _ h))) (by decide +kernel))
set_option maxRecDepth 20000 in
theorem gL_law_L_stateOf : GoodIn wsL_law (va_wsS RL 112 yL_stateOf wsL_stateOf) := goodIn_app (goodIn_of _ (by decide +kernel)) ggL_law_L_stateOf
set_option maxRecDepth 20000 in
theorem ggL_law_X5_stateOf : GoodIn wsL_law wsX5_stateOf := goodIn_r _ [285, 104, 57, 204, 205, 206, 5, 207, 165, 108, 109, 110, 539, 540, 541, 542, 543, 544, 545, 546, 547, 548, 549, 550, 551, 552, 553, 554, 555, 556, 557, 558, 559, 560, 561, 562, 563, 564] (by decide +kernel) (by decide +kernel)
set_option maxRecDepth 20000 in
theorem gL_law_X5_stateOf : GoodIn wsL_law (wsV RL 115 RX5 yX5_stateOf wsX5_stateOf) := goodIn_app (goodIn_of _ (by decide +kernel)) ggL_law_X5_stateOf
set_option maxRecDepth 20000 in
theorem ggL_law_L_expected : GoodIn wsL_law wsL_expected := goodIn_ca (goodIn_ca (goodIn_r _ [288, 77, 78, 289, 290, 291, 2, 292, 216, 148, 149, 150, 151, 90, 91, 98, 99, 16, 92, 93, 94, 569, 570, 571, 572, 573, 574, 575, 532, 533, 534, 535, 536, 537, 538] (by decide +kernel) (by decide +kernel)) (goodIn_sub (fun _ h => List.mem_append_left _ (List.mem_append_left _ (List.mem_append_right _ h))) (by decide +kernel))) (goodIn_sub (fun _ h => List.mem_append_left _ (List.mem_append_right _ h)) (by decide +kernel))
set_option maxRecDepth 20000 in
theorem gL_law_L_expected : GoodIn wsL_law (va_wsS RL 116 yL_expected wsL_expected) := goodIn_app (goodIn_of _ (by decide +kernel)) ggL_law_L_expected
set_option maxRecDepth 20000 in
theorem ggL_law_X5_expected : GoodIn wsL_law wsX5_expected := goodIn_r _ [296, 66, 167, 168, 169, 5, 170, 104, 105, 106, 107, 108, 109, 110, 539, 540, 541, 542, 543, 544, 545, 546, 547, 548, 549, 550, 551, 552, 553, 554, 555, 556, 557, 558, 559, 560, 561, 562, 563, 564] (by decide +kernel) (by decide +kernel)
set_option maxRecDepth 20000 in
theorem gL_law_X5_expected : GoodIn wsL_law (wsV RL 118 RX5 yX5_expected wsX5_expected) := goodIn_app (goodIn_of _ (by decide +kernel)) ggL_law_X5_expected
set_option maxRecDepth 20000 in
theorem ggL_law_L_lacking : GoodIn wsL_law wsL_lacking := goodIn_ca (goodIn_ca (goodIn_r _ [299, 77, 78, 300, 301, 302, 2, 303, 19, 18, 215, 179, 217, 304, 305, 306, 307, 216, 148, 149, 150, 151, 90, 91, 98, 99, 16, 92, 93, 94, 532, 533, 534, 535, 536, 537, 538, 576, 577, 578, 579, 580, 569, 570, 571, 572, 573, 574, 575] (by decide +kernel) (by decide +kernel)) (goodIn_sub (fun _ h => List.mem_append_left _ (List.mem_append_left _ (List.mem_append_right _ h))) (by decide +kernel))) (goodIn_sub (fun _ h => List.mem_append_left _ (List.mem_append_right _ h)) (by decide +kernel))
set_option maxRecDepth 20000 in
theorem gL_law_L_lacking : GoodIn wsL_law (va_wsS RL 119 yL_lacking wsL_lacking) := goodIn_app (goodIn_of _ (by decide +kernel)) ggL_law_L_lacking
set_option maxRecDepth 20000 in
theorem ggL_law_X5_lacking : GoodIn wsL_law wsX5_lacking := goodIn_r _ [311, 165, 57, 55, 58, 66, 167, 168, 169, 5, 170, 104, 105, 106, 107, 108, 109, 110, 539, 540, 541, 542, 543, 544, 545, 546, 547, 548, 549, 550, 551, 552, 553, 554, 555, 556, 557, 558, 559, 560, 561, 562, 563, 564] (by decide +kernel) (by decide +kernel)
set_option maxRecDepth 20000 in
theorem gL_law_X5_lacking : GoodIn wsL_law (wsV RL 121 RX5 yX5_lacking wsX5_lacking) := goodIn_app (goodIn_of _ (by decide +kernel)) ggL_law_X5_lacking
set_option maxRecDepth 20000 in
theorem ggL_law_X4_calls : GoodIn wsL_law wsX4_calls := goodIn_r _ [315, 22, 532, 533, 534, 535, 536, 537, 538] (by decide +kernel) (by decide +kernel)
set_option maxRecDepth 20000 in
theorem gL_law_X4_calls : GoodIn wsL_law (wsV RL 122 RX4 yX4_calls wsX4_calls) := goodIn_app (goodIn_of _ (by decide +kernel)) ggL_law_X4_calls
set_option maxRecDepth 20000 in
theorem ggL_law_X5_calls : GoodIn wsL_law wsX5_calls := goodIn_r _ [319, 104, 203, 539, 540, 541, 542, 543, 544, 545, 546, 547, 548, 549, 550, 551, 552, 553, 554, 555, 556, 557, 558, 559, 560, 561, 562, 563, 564] (by decide +kernel) (by decide +kernel)
set_option maxRecDepth 20000 in
theorem gL_law_X5_calls : GoodIn wsL_law (wsV RL 125 RX5 yX5_calls wsX5_calls) := goodIn_app (goodIn_of _ (by decide +kernel)) ggL_law_X5_calls
set_option maxRecDepth 20000 in
theorem ggL_law_L_call : GoodIn wsL_law wsL_call := goodIn_ca (goodIn_r _ [322, 77, 323, 324, 325, 2, 326, 327, 328, 329, 330, 331, 90, 91, 22, 21, 581, 582, 583, 584, 585, 586, 587, 532, 533, 534, 535, 536, 537, 538] (by decide +kernel) (by decide +kernel)) (goodIn_sub (fun _ h => List.mem_append_left _ (List.mem_append_left _ (List.mem_append_right _ h))) (by decide +kernel))
set_option maxRecDepth 20000 in
theorem gL_law_L_call : GoodIn wsL_law (va_wsS RL 126 yL_call wsL_call) := goodIn_app (goodIn_of _ (by decide +kernel)) ggL_law_L_call
set_option maxRecDepth 20000 in
theorem ggL_law_X5_call : GoodIn wsL_law wsX5_call := goodIn_r _ [335, 104, 62, 336, 337, 338, 5, 339, 203, 108, 109, 110, 539, 540, 541, 542, 543, 544, 545, 546, 547, 548, 549, 550, 551, 552, 553, 554, 555, 556, 557, 558, 559, 560, 561, 562, 563, 564] (by decide +kernel) (by decide +kernel)
set_option maxRecDepth 20000 in
theorem gL_law_X5_call : GoodIn wsL_law (wsV RL 128 RX5 yX5_call wsX5_call) := goodIn_app (goodIn_of _ (by decide +kernel)) ggL_law_X5_call
set_option maxRecDepth 20000 in
theorem ggL_law_L_monthOf : GoodIn wsL_law wsL_monthOf := goodIn_ca (goodIn_r _ [342, 77, 343, 344, 345, 2, 346, 347, 328, 329, 330, 331, 90, 91, 22, 21, 581, 582, 583, 584, 585, 586, 587, 532, 533, 534, 535, 536, 537, 538] (by decide +kernel) (by decide +kernel)) (goodIn_sub (fun _ h => List.mem_append_left _ (List.mem_append_left _ (List.mem_append_right _ h))) (by decide +kernel))
set_option maxRecDepth 20000 in
theorem gL_law_L_monthOf : GoodIn wsL_law (va_wsS RL 129 yL_monthOf wsL_monthOf) := goodIn_app (goodIn_of _ (by decide +kernel)) ggL_law_L_monthOf
set_option maxRecDepth 20000 in
theorem ggL_law_X5_monthOf : GoodIn wsL_law wsX5_monthOf := goodIn_r _ [351, 104, 62, 63, 336, 337, 338, 5, 339, 203, 108, 109, 110, 539, 540, 541, 542, 543, 544, 545, 546, 547, 548, 549, 550, 551, 552, 553, 554, 555, 556, 557, 558, 559, 560, 561, 562, 563, 564] (by decide +kernel) (by decide +kernel)
set_option maxRecDepth 20000 in
theorem gL_law_X5_monthOf : GoodIn wsL_law (wsV RL 131 RX5 yX5_monthOf wsX5_monthOf) := goodIn_app (goodIn_of _ (by decide +kernel)) ggL_law_X5_monthOf
set_option maxRecDepth 20000 in
theorem ggL_law_L_owedFor : GoodIn wsL_law wsL_owedFor := goodIn_ca (goodIn_r _ [354, 77, 355, 356, 357, 2, 358, 328, 329, 330, 331, 90, 91, 22, 21, 359, 360, 361, 181, 362, 191, 195, 240, 192, 194, 197, 363, 364, 252, 253, 365, 366, 367, 27, 368, 43, 45, 41, 532, 533, 534, 535, 536, 537, 538, 581, 582, 583, 584, 585, 586, 587, 576, 577, 578, 579, 580, 569, 570, 571, 572, 573, 574, 575] (by decide +kernel) (by decide +kernel)) (goodIn_sub (fun _ h => List.mem_append_left _ (List.mem_append_left _ (List.mem_append_right _ h))) (by decide +kernel))
set_option maxRecDepth 20000 in
theorem gL_law_L_owedFor : GoodIn wsL_law (va_wsS RL 132 yL_owedFor wsL_owedFor) := goodIn_app (goodIn_of _ (by decide +kernel)) ggL_law_L_owedFor
set_option maxRecDepth 20000 in
theorem ggL_law_X5_owedFor : GoodIn wsL_law wsX5_owedFor := goodIn_r _ [372, 104, 336, 337, 338, 5, 339, 203, 108, 109, 110, 373, 374, 375, 376, 62, 55, 59, 63, 71, 274, 68, 69, 61, 70, 377, 378, 379, 380, 381, 65, 382, 383, 384, 385, 60, 539, 540, 541, 542, 543, 544, 545, 546, 547, 548, 549, 550, 551, 552, 553, 554, 555, 556, 557, 558, 559, 560, 561, 562, 563, 564] (by decide +kernel) (by decide +kernel)
set_option maxRecDepth 20000 in
theorem gL_law_X5_owedFor : GoodIn wsL_law (wsV RL 134 RX5 yX5_owedFor wsX5_owedFor) := goodIn_app (goodIn_of _ (by decide +kernel)) ggL_law_X5_owedFor
set_option maxRecDepth 20000 in
theorem ggL_law_L_dispute : GoodIn wsL_law wsL_dispute := goodIn_ca (goodIn_ca (goodIn_r _ [388, 77, 139, 389, 390, 391, 2, 392, 144, 145, 327, 23, 347, 393, 328, 329, 330, 331, 90, 91, 22, 21, 581, 582, 583, 584, 585, 586, 587, 532, 533, 534, 535, 536, 537, 538] (by decide +kernel) (by decide +kernel)) (goodIn_sub (fun _ h => List.mem_append_right _ h) (by decide +kernel))) (goodIn_sub (fun _ h => List.mem_append_left _ (List.mem_append_left _ (List.mem_append_right _ h))) (by decide +kernel))
set_option maxRecDepth 20000 in
theorem gL_law_L_dispute : GoodIn wsL_law (va_wsS RL 135 yL_dispute wsL_dispute) := goodIn_app (goodIn_of _ (by decide +kernel)) ggL_law_L_dispute
set_option maxRecDepth 20000 in
theorem ggL_law_X5_dispute : GoodIn wsL_law wsX5_dispute := goodIn_r _ [397, 62, 166, 63, 104, 64, 336, 337, 338, 5, 339, 203, 108, 109, 110, 539, 540, 541, 542, 543, 544, 545, 546, 547, 548, 549, 550, 551, 552, 553, 554, 555, 556, 557, 558, 559, 560, 561, 562, 563, 564] (by decide +kernel) (by decide +kernel)
set_option maxRecDepth 20000 in
theorem gL_law_X5_dispute : GoodIn wsL_law (wsV RL 138 RX5 yX5_dispute wsX5_dispute) := goodIn_app (goodIn_of _ (by decide +kernel)) ggL_law_X5_dispute
set_option maxRecDepth 20000 in
theorem ggL_law_L_answer : GoodIn wsL_law wsL_answer := goodIn_ca (goodIn_ca (goodIn_r _ [400, 77, 139, 401, 402, 403, 2, 404, 144, 145, 327, 328, 329, 330, 331, 90, 91, 22, 21, 581, 582, 583, 584, 585, 586, 587, 532, 533, 534, 535, 536, 537, 538] (by decide +kernel) (by decide +kernel)) (goodIn_sub (fun _ h => List.mem_append_right _ h) (by decide +kernel))) (goodIn_sub (fun _ h => List.mem_append_left _ (List.mem_append_left _ (List.mem_append_right _ h))) (by decide +kernel))
set_option maxRecDepth 20000 in
theorem gL_law_L_answer : GoodIn wsL_law (va_wsS RL 139 yL_answer wsL_answer) := goodIn_app (goodIn_of _ (by decide +kernel)) ggL_law_L_answer
set_option maxRecDepth 20000 in
theorem ggL_law_X5_answer : GoodIn wsL_law wsX5_answer := goodIn_r _ [408, 62, 104, 336, 337, 338, 5, 339, 203, 108, 109, 110, 539, 540, 541, 542, 543, 544, 545, 546, 547, 548, 549, 550, 551, 552, 553, 554, 555, 556, 557, 558, 559, 560, 561, 562, 563, 564] (by decide +kernel) (by decide +kernel)
set_option maxRecDepth 20000 in
theorem gL_law_X5_answer : GoodIn wsL_law (wsV RL 142 RX5 yX5_answer wsX5_answer) := goodIn_app (goodIn_of _ (by decide +kernel)) ggL_law_X5_answer
set_option maxRecDepth 20000 in
theorem ggL_law_L_agree : GoodIn wsL_law wsL_agree := goodIn_ca (goodIn_ca (goodIn_r _ [411, 77, 78, 412, 413, 414, 2, 415, 416, 417, 418, 419, 148, 149, 150, 151, 90, 91, 98, 99, 16, 92, 93, 94, 95, 96, 97, 569, 570, 571, 572, 573, 574, 575, 532, 533, 534, 535, 536, 537, 538] (by decide +kernel) (by decide +kernel)) (goodIn_sub (fun _ h => List.mem_append_left _ (List.mem_append_left _ (List.mem_append_right _ h))) (by decide +kernel))) (goodIn_sub (fun _ h => List.mem_append_left _ (List.mem_append_right _ h)) (by decide +kernel))
set_option maxRecDepth 20000 in
theorem gL_law_L_agree : GoodIn wsL_law (va_wsS RL 143 yL_agree wsL_agree) := goodIn_app (goodIn_of _ (by decide +kernel)) ggL_law_L_agree
set_option maxRecDepth 20000 in
theorem ggL_law_X5_agree : GoodIn wsL_law wsX5_agree := goodIn_r _ [423, 424, 68, 69, 70, 71, 108, 109, 5, 110, 167, 168, 169, 170, 104, 105, 106, 107, 539, 540, 541, 542, 543, 544, 545, 546, 547, 548, 549, 550, 551, 552, 553, 554, 555, 556, 557, 558, 559, 560, 561, 562, 563, 564] (by decide +kernel) (by decide +kernel)
set_option maxRecDepth 20000 in
theorem gL_law_X5_agree : GoodIn wsL_law (wsV RL 146 RX5 yX5_agree wsX5_agree) := goodIn_app (goodIn_of _ (by decide +kernel)) ggL_law_X5_agree
set_option maxRecDepth 20000 in
theorem ggL_law_L_promise : GoodIn wsL_law wsL_promise := goodIn_ca (goodIn_ca (goodIn_r _ [427, 77, 78, 428, 429, 430, 2, 431, 432, 433, 148, 149, 150, 151, 90, 91, 98, 99, 16, 92, 93, 94, 95, 96, 97, 569, 570, 571, 572, 573, 574, 575, 532, 533, 534, 535, 536, 537, 538] (by decide +kernel) (by decide +kernel)) (goodIn_sub (fun _ h => List.mem_append_left _ (List.mem_append_left _ (List.mem_append_right _ h))) (by decide +kernel))) (goodIn_sub (fun _ h => List.mem_append_left _ (List.mem_append_right _ h)) (by decide +kernel))
set_option maxRecDepth 20000 in
theorem gL_law_L_promise : GoodIn wsL_law (va_wsS RL 147 yL_promise wsL_promise) := goodIn_app (goodIn_of _ (by decide +kernel)) ggL_law_L_promise
set_option maxRecDepth 20000 in
theorem ggL_law_X5_promise : GoodIn wsL_law wsX5_promise := goodIn_r _ [437, 438, 72, 108, 109, 5, 110, 167, 168, 169, 170, 104, 105, 106, 107, 539, 540, 541, 542, 543, 544, 545, 546, 547, 548, 549, 550, 551, 552, 553, 554, 555, 556, 557, 558, 559, 560, 561, 562, 563, 564] (by decide +kernel) (by decide +kernel)
set_option maxRecDepth 20000 in
theorem gL_law_X5_promise : GoodIn wsL_law (wsV RL 149 RX5 yX5_promise wsX5_promise) := goodIn_app (goodIn_of _ (by decide +kernel)) ggL_law_X5_promise
set_option maxRecDepth 20000 in
theorem ggL_law_L_setRate : GoodIn wsL_law wsL_setRate := goodIn_ca (goodIn_ca (goodIn_r _ [441, 77, 78, 442, 443, 444, 2, 445, 446, 447, 86, 87, 88, 89, 90, 91, 14, 92, 93, 94, 95, 96, 97, 98, 99, 565, 566, 567, 568, 532, 533, 534, 535, 536, 537, 538] (by decide +kernel) (by decide +kernel)) (goodIn_sub (fun _ h => List.mem_append_left _ (List.mem_append_left _ (List.mem_append_right _ h))) (by decide +kernel))) (goodIn_sub (fun _ h => List.mem_append_left _ (List.mem_append_right _ h)) (by decide +kernel))
set_option maxRecDepth 20000 in
theorem gL_law_L_setRate : GoodIn wsL_law (va_wsS RL 150 yL_setRate wsL_setRate) := goodIn_app (goodIn_of _ (by decide +kernel)) ggL_law_L_setRate
set_option maxRecDepth 20000 in
theorem ggL_law_X5_setRate : GoodIn wsL_law wsX5_setRate := goodIn_r _ [451, 452, 104, 54, 105, 106, 5, 107, 108, 109, 110, 539, 540, 541, 542, 543, 544, 545, 546, 547, 548, 549, 550, 551, 552, 553, 554, 555, 556, 557, 558, 559, 560, 561, 562, 563, 564] (by decide +kernel) (by decide +kernel)
set_option maxRecDepth 20000 in
theorem gL_law_X5_setRate : GoodIn wsL_law (wsV RL 152 RX5 yX5_setRate wsX5_setRate) := goodIn_app (goodIn_of _ (by decide +kernel)) ggL_law_X5_setRate
set_option maxRecDepth 20000 in
theorem ggL_law_L_nextMonth : GoodIn wsL_law wsL_nextMonth := goodIn_ca (goodIn_r _ [455, 139, 456, 457, 458, 2, 459, 144, 145, 23, 460, 461, 462, 463, 22, 21, 327, 393, 532, 533, 534, 535, 536, 537, 538, 581, 582, 583, 584, 585, 586, 587] (by decide +kernel) (by decide +kernel)) (goodIn_sub (fun _ h => List.mem_append_right _ h) (by decide +kernel))
set_option maxRecDepth 20000 in
theorem gL_law_L_nextMonth : GoodIn wsL_law (va_wsS RL 153 yL_nextMonth wsL_nextMonth) := goodIn_app (goodIn_of _ (by decide +kernel)) ggL_law_L_nextMonth
set_option maxRecDepth 20000 in
theorem ggL_law_X5_nextMonth : GoodIn wsL_law wsX5_nextMonth := goodIn_r _ [467, 166, 104, 203, 62, 64, 539, 540, 541, 542, 543, 544, 545, 546, 547, 548, 549, 550, 551, 552, 553, 554, 555, 556, 557, 558, 559, 560, 561, 562, 563, 564] (by decide +kernel) (by decide +kernel)
set_option maxRecDepth 20000 in
theorem gL_law_X5_nextMonth : GoodIn wsL_law (wsV RL 156 RX5 yX5_nextMonth wsX5_nextMonth) := goodIn_app (goodIn_of _ (by decide +kernel)) ggL_law_X5_nextMonth
set_option maxRecDepth 20000 in
theorem ggL_law_X4_month : GoodIn wsL_law wsX4_month := goodIn_r _ [471, 23, 532, 533, 534, 535, 536, 537, 538] (by decide +kernel) (by decide +kernel)
set_option maxRecDepth 20000 in
theorem gL_law_X4_month : GoodIn wsL_law (wsV RL 157 RX4 yX4_month wsX4_month) := goodIn_app (goodIn_of _ (by decide +kernel)) ggL_law_X4_month
set_option maxRecDepth 20000 in
theorem ggL_law_X5_month : GoodIn wsL_law wsX5_month := goodIn_r _ [475, 104, 166, 539, 540, 541, 542, 543, 544, 545, 546, 547, 548, 549, 550, 551, 552, 553, 554, 555, 556, 557, 558, 559, 560, 561, 562, 563, 564] (by decide +kernel) (by decide +kernel)
set_option maxRecDepth 20000 in
theorem gL_law_X5_month : GoodIn wsL_law (wsV RL 160 RX5 yX5_month wsX5_month) := goodIn_app (goodIn_of _ (by decide +kernel)) ggL_law_X5_month
set_option maxRecDepth 20000 in
theorem ggL_law_L_owed : GoodIn wsL_law wsL_owed := goodIn_ca (goodIn_ca (goodIn_r _ [478, 77, 78, 479, 480, 481, 2, 482, 23, 148, 149, 150, 151, 90, 91, 98, 99, 16, 92, 93, 94, 95, 96, 97, 483, 484, 485, 486, 22, 21, 235, 215, 347, 359, 360, 361, 181, 362, 191, 195, 240, 192, 194, 197, 363, 364, 252, 253, 365, 366, 367, 27, 368, 43, 45, 41, 532, 533, 534, 535, 536, 537, 538, 581, 582, 583, 584, 585, 586, 587, 576, 577, 578, 579, 580, 569, 570, 571, 572, 573, 574, 575] (by decide +kernel) (by decide +kernel)) (goodIn_sub (fun _ h => List.mem_append_left _ (List.mem_append_left _ (List.mem_append_right _ h))) (by decide +kernel))) (goodIn_sub (fun _ h => List.mem_append_left _ (List.mem_append_right _ h)) (by decide +kernel))
set_option maxRecDepth 20000 in
theorem gL_law_L_owed : GoodIn wsL_law (va_wsS RL 161 yL_owed wsL_owed) := goodIn_app (goodIn_of _ (by decide +kernel)) ggL_law_L_owed
set_option maxRecDepth 20000 in
theorem ggL_law_X5_owed : GoodIn wsL_law wsX5_owed := goodIn_r _ [490, 166, 108, 109, 5, 110, 167, 168, 169, 170, 104, 105, 106, 107, 491, 492, 493, 494, 203, 62, 55, 59, 63, 373, 374, 375, 376, 71, 274, 68, 69, 61, 70, 377, 378, 379, 380, 381, 65, 382, 383, 384, 385, 60, 539, 540, 541, 542, 543, 544, 545, 546, 547, 548, 549, 550, 551, 552, 553, 554, 555, 556, 557, 558, 559, 560, 561, 562, 563, 564] (by decide +kernel) (by decide +kernel)
set_option maxRecDepth 20000 in
theorem gL_law_X5_owed : GoodIn wsL_law (wsV RL 163 RX5 yX5_owed wsX5_owed) := goodIn_app (goodIn_of _ (by decide +kernel)) ggL_law_X5_owed
set_option maxRecDepth 20000 in
theorem ggL_law_L_shortfall : GoodIn wsL_law wsL_shortfall := goodIn_ca (goodIn_ca (goodIn_ca (goodIn_r _ [497, 77, 78, 139, 498, 499, 500, 2, 501, 144, 145, 23, 433, 502, 503, 306, 504, 148, 149, 150, 151, 90, 91, 98, 99, 16, 92, 93, 94, 95, 96, 97, 505, 252, 253, 483, 484, 485, 486, 22, 21, 235, 215, 347, 359, 360, 361, 181, 362, 191, 195, 240, 192, 194, 197, 363, 364, 365, 366, 367, 27, 368, 43, 45, 41, 532, 533, 534, 535, 536, 537, 538, 569, 570, 571, 572, 573, 574, 575, 581, 582, 583, 584, 585, 586, 587, 576, 577, 578, 579, 580] (by decide +kernel) (by decide +kernel)) (goodIn_sub (fun _ h => List.mem_append_right _ h) (by decide +kernel))) (goodIn_sub (fun _ h => List.mem_append_left _ (List.mem_append_left _ (List.mem_append_right _ h))) (by decide +kernel))) (goodIn_sub (fun _ h => List.mem_append_left _ (List.mem_append_right _ h)) (by decide +kernel))
set_option maxRecDepth 20000 in
theorem gL_law_L_shortfall : GoodIn wsL_law (va_wsS RL 164 yL_shortfall wsL_shortfall) := goodIn_app (goodIn_of _ (by decide +kernel)) ggL_law_L_shortfall
set_option maxRecDepth 20000 in
theorem ggL_law_X5_shortfall : GoodIn wsL_law wsX5_shortfall := goodIn_r _ [509, 166, 104, 72, 108, 109, 5, 110, 167, 168, 169, 170, 105, 106, 107, 491, 492, 493, 494, 203, 62, 55, 59, 63, 373, 374, 375, 376, 71, 274, 68, 69, 61, 70, 377, 378, 379, 380, 381, 65, 382, 383, 384, 385, 60, 539, 540, 541, 542, 543, 544, 545, 546, 547, 548, 549, 550, 551, 552, 553, 554, 555, 556, 557, 558, 559, 560, 561, 562, 563, 564] (by decide +kernel) (by decide +kernel)
set_option maxRecDepth 20000 in
theorem gL_law_X5_shortfall : GoodIn wsL_law (wsV RL 166 RX5 yX5_shortfall wsX5_shortfall) := goodIn_app (goodIn_of _ (by decide +kernel)) ggL_law_X5_shortfall
set_option maxRecDepth 20000 in
theorem ggL_law_L_net : GoodIn wsL_law wsL_net := goodIn_ca (goodIn_ca (goodIn_r _ [512, 77, 78, 513, 514, 515, 2, 516, 23, 16, 86, 87, 88, 89, 90, 91, 14, 92, 93, 94, 95, 96, 97, 98, 99, 517, 518, 519, 520, 521, 447, 522, 483, 484, 485, 486, 22, 21, 235, 215, 347, 359, 360, 361, 181, 362, 191, 195, 240, 192, 194, 197, 363, 364, 252, 253, 365, 366, 367, 27, 368, 43, 45, 41, 532, 533, 534, 535, 536, 537, 538, 569, 570, 571, 572, 573, 574, 575, 565, 566, 567, 568, 581, 582, 583, 584, 585, 586, 587, 576, 577, 578, 579, 580] (by decide +kernel) (by decide +kernel)) (goodIn_sub (fun _ h => List.mem_append_left _ (List.mem_append_left _ (List.mem_append_right _ h))) (by decide +kernel))) (goodIn_sub (fun _ h => List.mem_append_left _ (List.mem_append_right _ h)) (by decide +kernel))
set_option maxRecDepth 20000 in
theorem gL_law_L_net : GoodIn wsL_law (va_wsS RL 167 yL_net wsL_net) := goodIn_app (goodIn_of _ (by decide +kernel)) ggL_law_L_net
set_option maxRecDepth 20000 in
theorem ggL_law_X5_net : GoodIn wsL_law wsX5_net := goodIn_r _ [526, 166, 104, 105, 106, 5, 107, 108, 109, 110, 527, 528, 529, 530, 54, 531, 491, 492, 493, 494, 203, 62, 55, 59, 63, 373, 374, 375, 376, 71, 274, 68, 69, 61, 70, 377, 378, 379, 380, 381, 65, 382, 383, 384, 385, 60, 539, 540, 541, 542, 543, 544, 545, 546, 547, 548, 549, 550, 551, 552, 553, 554, 555, 556, 557, 558, 559, 560, 561, 562, 563, 564] (by decide +kernel) (by decide +kernel)
set_option maxRecDepth 20000 in
theorem gL_law_X5_net : GoodIn wsL_law (wsV RL 169 RX5 yX5_net wsX5_net) := goodIn_app (goodIn_of _ (by decide +kernel)) ggL_law_X5_net
theorem dL_law_0 : decode cL_law 0 = .ok (.new 8, 3) := by decide +kernel
theorem dL_law_3 : decode cL_law 3 = .ok (.dup, 1) := by decide +kernel
theorem dL_law_4 : decode cL_law 4 = .ok (.invokespecial 85, 3) := by decide +kernel
theorem dL_law_7 : decode cL_law 7 = .ok (.astore_n 1, 1) := by decide +kernel
theorem dL_law_8 : decode cL_law 8 = .ok (.new 86, 3) := by decide +kernel
theorem dL_law_11 : decode cL_law 11 = .ok (.dup, 1) := by decide +kernel
theorem dL_law_12 : decode cL_law 12 = .ok (.invokespecial 88, 3) := by decide +kernel
theorem dL_law_15 : decode cL_law 15 = .ok (.astore_n 2, 1) := by decide +kernel
theorem dL_law_16 : decode cL_law 16 = .ok (.iconst 1, 1) := by decide +kernel
theorem dL_law_17 : decode cL_law 17 = .ok (.newarray .long, 2) := by decide +kernel
theorem dL_law_19 : decode cL_law 19 = .ok (.astore_n 3, 1) := by decide +kernel
theorem dL_law_20 : decode cL_law 20 = .ok (.iconst 0, 1) := by decide +kernel
theorem dL_law_21 : decode cL_law 21 = .ok (.istore 4, 2) := by decide +kernel
theorem dL_law_23 : decode cL_law 23 = .ok (.iload 4, 2) := by decide +kernel
theorem dL_law_25 : decode cL_law 25 = .ok (.aload_n 0, 1) := by decide +kernel
theorem dL_law_26 : decode cL_law 26 = .ok (.arraylength, 1) := by decide +kernel
theorem dL_law_27 : decode cL_law 27 = .ok (.bipush 6, 2) := by decide +kernel
theorem dL_law_29 : decode cL_law 29 = .ok (.isub, 1) := by decide +kernel
theorem dL_law_30 : decode cL_law 30 = .ok (.if_icmp .gt 1499, 3) := by decide +kernel
theorem dL_law_33 : decode cL_law 33 = .ok (.aload_n 0, 1) := by decide +kernel
theorem dL_law_34 : decode cL_law 34 = .ok (.iload 4, 2) := by decide +kernel
theorem dL_law_36 : decode cL_law 36 = .ok (.iaload, 1) := by decide +kernel
theorem dL_law_37 : decode cL_law 37 = .ok (.bipush 31, 2) := by decide +kernel
theorem dL_law_39 : decode cL_law 39 = .ok (.iand, 1) := by decide +kernel
theorem dL_law_40 : decode cL_law 40 = .ok (.tableswitch 1483 0 21 #[104, 196, 264, 332, 412, 480, 536, 604, 672, 685, 741, 797, 853, 889, 953, 1053, 1133, 1201, 1245, 1258, 1337, 1416], 104) := by decide +kernel
theorem dL_law_144 : decode cL_law 144 = .ok (.aload_n 1, 1) := by decide +kernel
theorem dL_law_145 : decode cL_law 145 = .ok (.aload_n 0, 1) := by decide +kernel
theorem dL_law_146 : decode cL_law 146 = .ok (.iload 4, 2) := by decide +kernel
theorem dL_law_148 : decode cL_law 148 = .ok (.iconst 1, 1) := by decide +kernel
theorem dL_law_149 : decode cL_law 149 = .ok (.iadd, 1) := by decide +kernel
theorem dL_law_150 : decode cL_law 150 = .ok (.iaload, 1) := by decide +kernel
theorem dL_law_151 : decode cL_law 151 = .ok (.aload_n 0, 1) := by decide +kernel
theorem dL_law_152 : decode cL_law 152 = .ok (.iload 4, 2) := by decide +kernel
theorem dL_law_154 : decode cL_law 154 = .ok (.iconst 2, 1) := by decide +kernel
theorem dL_law_155 : decode cL_law 155 = .ok (.iadd, 1) := by decide +kernel
theorem dL_law_156 : decode cL_law 156 = .ok (.iaload, 1) := by decide +kernel
theorem dL_law_157 : decode cL_law 157 = .ok (.aload_n 0, 1) := by decide +kernel
theorem dL_law_158 : decode cL_law 158 = .ok (.iload 4, 2) := by decide +kernel
theorem dL_law_160 : decode cL_law 160 = .ok (.iconst 3, 1) := by decide +kernel
theorem dL_law_161 : decode cL_law 161 = .ok (.iadd, 1) := by decide +kernel
theorem dL_law_162 : decode cL_law 162 = .ok (.iaload, 1) := by decide +kernel
theorem dL_law_163 : decode cL_law 163 = .ok (.aload_n 0, 1) := by decide +kernel
theorem dL_law_164 : decode cL_law 164 = .ok (.iload 4, 2) := by decide +kernel
theorem dL_law_166 : decode cL_law 166 = .ok (.iconst 4, 1) := by decide +kernel
theorem dL_law_167 : decode cL_law 167 = .ok (.iadd, 1) := by decide +kernel
theorem dL_law_168 : decode cL_law 168 = .ok (.iaload, 1) := by decide +kernel
theorem dL_law_169 : decode cL_law 169 = .ok (.aload_n 3, 1) := by decide +kernel
theorem dL_law_170 : decode cL_law 170 = .ok (.invokestatic 89, 3) := by decide +kernel
theorem dL_law_173 : decode cL_law 173 = .ok (.istore 5, 2) := by decide +kernel
theorem dL_law_175 : decode cL_law 175 = .ok (.aload_n 2, 1) := by decide +kernel
theorem dL_law_176 : decode cL_law 176 = .ok (.aload_n 0, 1) := by decide +kernel
theorem dL_law_177 : decode cL_law 177 = .ok (.iload 4, 2) := by decide +kernel
theorem dL_law_179 : decode cL_law 179 = .ok (.iconst 1, 1) := by decide +kernel
theorem dL_law_180 : decode cL_law 180 = .ok (.iadd, 1) := by decide +kernel
theorem dL_law_181 : decode cL_law 181 = .ok (.iaload, 1) := by decide +kernel
theorem dL_law_182 : decode cL_law 182 = .ok (.aload_n 0, 1) := by decide +kernel
theorem dL_law_183 : decode cL_law 183 = .ok (.iload 4, 2) := by decide +kernel
theorem dL_law_185 : decode cL_law 185 = .ok (.iconst 2, 1) := by decide +kernel
theorem dL_law_186 : decode cL_law 186 = .ok (.iadd, 1) := by decide +kernel
theorem dL_law_187 : decode cL_law 187 = .ok (.iaload, 1) := by decide +kernel
theorem dL_law_188 : decode cL_law 188 = .ok (.aload_n 0, 1) := by decide +kernel
theorem dL_law_189 : decode cL_law 189 = .ok (.iload 4, 2) := by decide +kernel
theorem dL_law_191 : decode cL_law 191 = .ok (.iconst 3, 1) := by decide +kernel
theorem dL_law_192 : decode cL_law 192 = .ok (.iadd, 1) := by decide +kernel
theorem dL_law_193 : decode cL_law 193 = .ok (.iaload, 1) := by decide +kernel
theorem dL_law_194 : decode cL_law 194 = .ok (.aload_n 0, 1) := by decide +kernel
theorem dL_law_195 : decode cL_law 195 = .ok (.iload 4, 2) := by decide +kernel
theorem dL_law_197 : decode cL_law 197 = .ok (.iconst 4, 1) := by decide +kernel
theorem dL_law_198 : decode cL_law 198 = .ok (.iadd, 1) := by decide +kernel
theorem dL_law_199 : decode cL_law 199 = .ok (.iaload, 1) := by decide +kernel
theorem dL_law_200 : decode cL_law 200 = .ok (.invokevirtual 94, 3) := by decide +kernel
theorem dL_law_203 : decode cL_law 203 = .ok (.istore 6, 2) := by decide +kernel
theorem dL_law_205 : decode cL_law 205 = .ok (.aload_n 2, 1) := by decide +kernel
theorem dL_law_206 : decode cL_law 206 = .ok (.invokevirtual 95, 3) := by decide +kernel
theorem dL_law_209 : decode cL_law 209 = .ok (.iload 5, 2) := by decide +kernel
theorem dL_law_211 : decode cL_law 211 = .ok (.if_icmp .eq 5, 3) := by decide +kernel
theorem dL_law_214 : decode cL_law 214 = .ok (.iconst 0, 1) := by decide +kernel
theorem dL_law_215 : decode cL_law 215 = .ok (.ireturn, 1) := by decide +kernel
theorem dL_law_216 : decode cL_law 216 = .ok (.iload 5, 2) := by decide +kernel
theorem dL_law_218 : decode cL_law 218 = .ok (.ifCond .ne 15, 3) := by decide +kernel
theorem dL_law_221 : decode cL_law 221 = .ok (.aload_n 3, 1) := by decide +kernel
theorem dL_law_222 : decode cL_law 222 = .ok (.iconst 0, 1) := by decide +kernel
theorem dL_law_223 : decode cL_law 223 = .ok (.laload, 1) := by decide +kernel
theorem dL_law_224 : decode cL_law 224 = .ok (.iload 6, 2) := by decide +kernel
theorem dL_law_226 : decode cL_law 226 = .ok (.i2l, 1) := by decide +kernel
theorem dL_law_227 : decode cL_law 227 = .ok (.lcmp, 1) := by decide +kernel
theorem dL_law_228 : decode cL_law 228 = .ok (.ifCond .eq 5, 3) := by decide +kernel
theorem dL_law_231 : decode cL_law 231 = .ok (.iconst 0, 1) := by decide +kernel
theorem dL_law_232 : decode cL_law 232 = .ok (.ireturn, 1) := by decide +kernel
theorem dL_law_233 : decode cL_law 233 = .ok (.goto 1290, 3) := by decide +kernel
theorem dL_law_236 : decode cL_law 236 = .ok (.aload_n 1, 1) := by decide +kernel
theorem dL_law_237 : decode cL_law 237 = .ok (.aload_n 0, 1) := by decide +kernel
theorem dL_law_238 : decode cL_law 238 = .ok (.iload 4, 2) := by decide +kernel
theorem dL_law_240 : decode cL_law 240 = .ok (.iconst 1, 1) := by decide +kernel
theorem dL_law_241 : decode cL_law 241 = .ok (.iadd, 1) := by decide +kernel
theorem dL_law_242 : decode cL_law 242 = .ok (.iaload, 1) := by decide +kernel
theorem dL_law_243 : decode cL_law 243 = .ok (.aload_n 0, 1) := by decide +kernel
theorem dL_law_244 : decode cL_law 244 = .ok (.iload 4, 2) := by decide +kernel
theorem dL_law_246 : decode cL_law 246 = .ok (.iconst 2, 1) := by decide +kernel
theorem dL_law_247 : decode cL_law 247 = .ok (.iadd, 1) := by decide +kernel
theorem dL_law_248 : decode cL_law 248 = .ok (.iaload, 1) := by decide +kernel
theorem dL_law_249 : decode cL_law 249 = .ok (.aload_n 3, 1) := by decide +kernel
theorem dL_law_250 : decode cL_law 250 = .ok (.invokestatic 98, 3) := by decide +kernel
theorem dL_law_253 : decode cL_law 253 = .ok (.istore 5, 2) := by decide +kernel
theorem dL_law_255 : decode cL_law 255 = .ok (.aload_n 2, 1) := by decide +kernel
theorem dL_law_256 : decode cL_law 256 = .ok (.aload_n 0, 1) := by decide +kernel
theorem dL_law_257 : decode cL_law 257 = .ok (.iload 4, 2) := by decide +kernel
theorem dL_law_259 : decode cL_law 259 = .ok (.iconst 1, 1) := by decide +kernel
theorem dL_law_260 : decode cL_law 260 = .ok (.iadd, 1) := by decide +kernel
theorem dL_law_261 : decode cL_law 261 = .ok (.iaload, 1) := by decide +kernel
theorem dL_law_262 : decode cL_law 262 = .ok (.aload_n 0, 1) := by decide +kernel
theorem dL_law_263 : decode cL_law 263 = .ok (.iload 4, 2) := by decide +kernel
theorem dL_law_265 : decode cL_law 265 = .ok (.iconst 2, 1) := by decide +kernel
theorem dL_law_266 : decode cL_law 266 = .ok (.iadd, 1) := by decide +kernel
theorem dL_law_267 : decode cL_law 267 = .ok (.iaload, 1) := by decide +kernel
theorem dL_law_268 : decode cL_law 268 = .ok (.invokevirtual 101, 3) := by decide +kernel
theorem dL_law_271 : decode cL_law 271 = .ok (.istore 6, 2) := by decide +kernel
theorem dL_law_273 : decode cL_law 273 = .ok (.aload_n 2, 1) := by decide +kernel
theorem dL_law_274 : decode cL_law 274 = .ok (.invokevirtual 95, 3) := by decide +kernel
theorem dL_law_277 : decode cL_law 277 = .ok (.iload 5, 2) := by decide +kernel
theorem dL_law_279 : decode cL_law 279 = .ok (.if_icmp .eq 5, 3) := by decide +kernel
theorem dL_law_282 : decode cL_law 282 = .ok (.iconst 0, 1) := by decide +kernel
theorem dL_law_283 : decode cL_law 283 = .ok (.ireturn, 1) := by decide +kernel
theorem dL_law_284 : decode cL_law 284 = .ok (.iload 5, 2) := by decide +kernel
theorem dL_law_286 : decode cL_law 286 = .ok (.ifCond .ne 15, 3) := by decide +kernel
theorem dL_law_289 : decode cL_law 289 = .ok (.aload_n 3, 1) := by decide +kernel
theorem dL_law_290 : decode cL_law 290 = .ok (.iconst 0, 1) := by decide +kernel
theorem dL_law_291 : decode cL_law 291 = .ok (.laload, 1) := by decide +kernel
theorem dL_law_292 : decode cL_law 292 = .ok (.iload 6, 2) := by decide +kernel
theorem dL_law_294 : decode cL_law 294 = .ok (.i2l, 1) := by decide +kernel
theorem dL_law_295 : decode cL_law 295 = .ok (.lcmp, 1) := by decide +kernel
theorem dL_law_296 : decode cL_law 296 = .ok (.ifCond .eq 5, 3) := by decide +kernel
theorem dL_law_299 : decode cL_law 299 = .ok (.iconst 0, 1) := by decide +kernel
theorem dL_law_300 : decode cL_law 300 = .ok (.ireturn, 1) := by decide +kernel
theorem dL_law_301 : decode cL_law 301 = .ok (.goto 1222, 3) := by decide +kernel
theorem dL_law_304 : decode cL_law 304 = .ok (.aload_n 1, 1) := by decide +kernel
theorem dL_law_305 : decode cL_law 305 = .ok (.aload_n 0, 1) := by decide +kernel
theorem dL_law_306 : decode cL_law 306 = .ok (.iload 4, 2) := by decide +kernel
theorem dL_law_308 : decode cL_law 308 = .ok (.iconst 1, 1) := by decide +kernel
theorem dL_law_309 : decode cL_law 309 = .ok (.iadd, 1) := by decide +kernel
theorem dL_law_310 : decode cL_law 310 = .ok (.iaload, 1) := by decide +kernel
theorem dL_law_311 : decode cL_law 311 = .ok (.aload_n 0, 1) := by decide +kernel
theorem dL_law_312 : decode cL_law 312 = .ok (.iload 4, 2) := by decide +kernel
theorem dL_law_314 : decode cL_law 314 = .ok (.iconst 2, 1) := by decide +kernel
theorem dL_law_315 : decode cL_law 315 = .ok (.iadd, 1) := by decide +kernel
theorem dL_law_316 : decode cL_law 316 = .ok (.iaload, 1) := by decide +kernel
theorem dL_law_317 : decode cL_law 317 = .ok (.aload_n 3, 1) := by decide +kernel
theorem dL_law_318 : decode cL_law 318 = .ok (.invokestatic 102, 3) := by decide +kernel
theorem dL_law_321 : decode cL_law 321 = .ok (.istore 5, 2) := by decide +kernel
theorem dL_law_323 : decode cL_law 323 = .ok (.aload_n 2, 1) := by decide +kernel
theorem dL_law_324 : decode cL_law 324 = .ok (.aload_n 0, 1) := by decide +kernel
theorem dL_law_325 : decode cL_law 325 = .ok (.iload 4, 2) := by decide +kernel
theorem dL_law_327 : decode cL_law 327 = .ok (.iconst 1, 1) := by decide +kernel
theorem dL_law_328 : decode cL_law 328 = .ok (.iadd, 1) := by decide +kernel
theorem dL_law_329 : decode cL_law 329 = .ok (.iaload, 1) := by decide +kernel
theorem dL_law_330 : decode cL_law 330 = .ok (.aload_n 0, 1) := by decide +kernel
theorem dL_law_331 : decode cL_law 331 = .ok (.iload 4, 2) := by decide +kernel
theorem dL_law_333 : decode cL_law 333 = .ok (.iconst 2, 1) := by decide +kernel
theorem dL_law_334 : decode cL_law 334 = .ok (.iadd, 1) := by decide +kernel
theorem dL_law_335 : decode cL_law 335 = .ok (.iaload, 1) := by decide +kernel
theorem dL_law_336 : decode cL_law 336 = .ok (.invokevirtual 104, 3) := by decide +kernel
theorem dL_law_339 : decode cL_law 339 = .ok (.istore 6, 2) := by decide +kernel
theorem dL_law_341 : decode cL_law 341 = .ok (.aload_n 2, 1) := by decide +kernel
theorem dL_law_342 : decode cL_law 342 = .ok (.invokevirtual 95, 3) := by decide +kernel
theorem dL_law_345 : decode cL_law 345 = .ok (.iload 5, 2) := by decide +kernel
theorem dL_law_347 : decode cL_law 347 = .ok (.if_icmp .eq 5, 3) := by decide +kernel
theorem dL_law_350 : decode cL_law 350 = .ok (.iconst 0, 1) := by decide +kernel
theorem dL_law_351 : decode cL_law 351 = .ok (.ireturn, 1) := by decide +kernel
theorem dL_law_352 : decode cL_law 352 = .ok (.iload 5, 2) := by decide +kernel
theorem dL_law_354 : decode cL_law 354 = .ok (.ifCond .ne 15, 3) := by decide +kernel
theorem dL_law_357 : decode cL_law 357 = .ok (.aload_n 3, 1) := by decide +kernel
theorem dL_law_358 : decode cL_law 358 = .ok (.iconst 0, 1) := by decide +kernel
theorem dL_law_359 : decode cL_law 359 = .ok (.laload, 1) := by decide +kernel
theorem dL_law_360 : decode cL_law 360 = .ok (.iload 6, 2) := by decide +kernel
theorem dL_law_362 : decode cL_law 362 = .ok (.i2l, 1) := by decide +kernel
theorem dL_law_363 : decode cL_law 363 = .ok (.lcmp, 1) := by decide +kernel
theorem dL_law_364 : decode cL_law 364 = .ok (.ifCond .eq 5, 3) := by decide +kernel
theorem dL_law_367 : decode cL_law 367 = .ok (.iconst 0, 1) := by decide +kernel
theorem dL_law_368 : decode cL_law 368 = .ok (.ireturn, 1) := by decide +kernel
theorem dL_law_369 : decode cL_law 369 = .ok (.goto 1154, 3) := by decide +kernel
theorem dL_law_372 : decode cL_law 372 = .ok (.aload_n 1, 1) := by decide +kernel
theorem dL_law_373 : decode cL_law 373 = .ok (.aload_n 0, 1) := by decide +kernel
theorem dL_law_374 : decode cL_law 374 = .ok (.iload 4, 2) := by decide +kernel
theorem dL_law_376 : decode cL_law 376 = .ok (.iconst 1, 1) := by decide +kernel
theorem dL_law_377 : decode cL_law 377 = .ok (.iadd, 1) := by decide +kernel
theorem dL_law_378 : decode cL_law 378 = .ok (.iaload, 1) := by decide +kernel
theorem dL_law_379 : decode cL_law 379 = .ok (.aload_n 0, 1) := by decide +kernel
theorem dL_law_380 : decode cL_law 380 = .ok (.iload 4, 2) := by decide +kernel
theorem dL_law_382 : decode cL_law 382 = .ok (.iconst 2, 1) := by decide +kernel
theorem dL_law_383 : decode cL_law 383 = .ok (.iadd, 1) := by decide +kernel
theorem dL_law_384 : decode cL_law 384 = .ok (.iaload, 1) := by decide +kernel
theorem dL_law_385 : decode cL_law 385 = .ok (.aload_n 0, 1) := by decide +kernel
theorem dL_law_386 : decode cL_law 386 = .ok (.iload 4, 2) := by decide +kernel
theorem dL_law_388 : decode cL_law 388 = .ok (.iconst 3, 1) := by decide +kernel
theorem dL_law_389 : decode cL_law 389 = .ok (.iadd, 1) := by decide +kernel
theorem dL_law_390 : decode cL_law 390 = .ok (.iaload, 1) := by decide +kernel
theorem dL_law_391 : decode cL_law 391 = .ok (.aload_n 3, 1) := by decide +kernel
theorem dL_law_392 : decode cL_law 392 = .ok (.invokestatic 105, 3) := by decide +kernel
theorem dL_law_395 : decode cL_law 395 = .ok (.istore 5, 2) := by decide +kernel
theorem dL_law_397 : decode cL_law 397 = .ok (.aload_n 2, 1) := by decide +kernel
theorem dL_law_398 : decode cL_law 398 = .ok (.aload_n 0, 1) := by decide +kernel
theorem dL_law_399 : decode cL_law 399 = .ok (.iload 4, 2) := by decide +kernel
theorem dL_law_401 : decode cL_law 401 = .ok (.iconst 1, 1) := by decide +kernel
theorem dL_law_402 : decode cL_law 402 = .ok (.iadd, 1) := by decide +kernel
theorem dL_law_403 : decode cL_law 403 = .ok (.iaload, 1) := by decide +kernel
theorem dL_law_404 : decode cL_law 404 = .ok (.aload_n 0, 1) := by decide +kernel
theorem dL_law_405 : decode cL_law 405 = .ok (.iload 4, 2) := by decide +kernel
theorem dL_law_407 : decode cL_law 407 = .ok (.iconst 2, 1) := by decide +kernel
theorem dL_law_408 : decode cL_law 408 = .ok (.iadd, 1) := by decide +kernel
theorem dL_law_409 : decode cL_law 409 = .ok (.iaload, 1) := by decide +kernel
theorem dL_law_410 : decode cL_law 410 = .ok (.aload_n 0, 1) := by decide +kernel
theorem dL_law_411 : decode cL_law 411 = .ok (.iload 4, 2) := by decide +kernel
theorem dL_law_413 : decode cL_law 413 = .ok (.iconst 3, 1) := by decide +kernel
theorem dL_law_414 : decode cL_law 414 = .ok (.iadd, 1) := by decide +kernel
theorem dL_law_415 : decode cL_law 415 = .ok (.iaload, 1) := by decide +kernel
theorem dL_law_416 : decode cL_law 416 = .ok (.invokevirtual 108, 3) := by decide +kernel
theorem dL_law_419 : decode cL_law 419 = .ok (.istore 6, 2) := by decide +kernel
theorem dL_law_421 : decode cL_law 421 = .ok (.aload_n 2, 1) := by decide +kernel
theorem dL_law_422 : decode cL_law 422 = .ok (.invokevirtual 95, 3) := by decide +kernel
theorem dL_law_425 : decode cL_law 425 = .ok (.iload 5, 2) := by decide +kernel
theorem dL_law_427 : decode cL_law 427 = .ok (.if_icmp .eq 5, 3) := by decide +kernel
theorem dL_law_430 : decode cL_law 430 = .ok (.iconst 0, 1) := by decide +kernel
theorem dL_law_431 : decode cL_law 431 = .ok (.ireturn, 1) := by decide +kernel
theorem dL_law_432 : decode cL_law 432 = .ok (.iload 5, 2) := by decide +kernel
theorem dL_law_434 : decode cL_law 434 = .ok (.ifCond .ne 15, 3) := by decide +kernel
theorem dL_law_437 : decode cL_law 437 = .ok (.aload_n 3, 1) := by decide +kernel
theorem dL_law_438 : decode cL_law 438 = .ok (.iconst 0, 1) := by decide +kernel
theorem dL_law_439 : decode cL_law 439 = .ok (.laload, 1) := by decide +kernel
theorem dL_law_440 : decode cL_law 440 = .ok (.iload 6, 2) := by decide +kernel
theorem dL_law_442 : decode cL_law 442 = .ok (.i2l, 1) := by decide +kernel
theorem dL_law_443 : decode cL_law 443 = .ok (.lcmp, 1) := by decide +kernel
theorem dL_law_444 : decode cL_law 444 = .ok (.ifCond .eq 5, 3) := by decide +kernel
theorem dL_law_447 : decode cL_law 447 = .ok (.iconst 0, 1) := by decide +kernel
theorem dL_law_448 : decode cL_law 448 = .ok (.ireturn, 1) := by decide +kernel
theorem dL_law_449 : decode cL_law 449 = .ok (.goto 1074, 3) := by decide +kernel
theorem dL_law_452 : decode cL_law 452 = .ok (.aload_n 1, 1) := by decide +kernel
theorem dL_law_453 : decode cL_law 453 = .ok (.aload_n 0, 1) := by decide +kernel
theorem dL_law_454 : decode cL_law 454 = .ok (.iload 4, 2) := by decide +kernel
theorem dL_law_456 : decode cL_law 456 = .ok (.iconst 1, 1) := by decide +kernel
theorem dL_law_457 : decode cL_law 457 = .ok (.iadd, 1) := by decide +kernel
theorem dL_law_458 : decode cL_law 458 = .ok (.iaload, 1) := by decide +kernel
theorem dL_law_459 : decode cL_law 459 = .ok (.aload_n 0, 1) := by decide +kernel
theorem dL_law_460 : decode cL_law 460 = .ok (.iload 4, 2) := by decide +kernel
theorem dL_law_462 : decode cL_law 462 = .ok (.iconst 2, 1) := by decide +kernel
theorem dL_law_463 : decode cL_law 463 = .ok (.iadd, 1) := by decide +kernel
theorem dL_law_464 : decode cL_law 464 = .ok (.iaload, 1) := by decide +kernel
theorem dL_law_465 : decode cL_law 465 = .ok (.aload_n 3, 1) := by decide +kernel
theorem dL_law_466 : decode cL_law 466 = .ok (.invokestatic 109, 3) := by decide +kernel
theorem dL_law_469 : decode cL_law 469 = .ok (.istore 5, 2) := by decide +kernel
theorem dL_law_471 : decode cL_law 471 = .ok (.aload_n 2, 1) := by decide +kernel
theorem dL_law_472 : decode cL_law 472 = .ok (.aload_n 0, 1) := by decide +kernel
theorem dL_law_473 : decode cL_law 473 = .ok (.iload 4, 2) := by decide +kernel
theorem dL_law_475 : decode cL_law 475 = .ok (.iconst 1, 1) := by decide +kernel
theorem dL_law_476 : decode cL_law 476 = .ok (.iadd, 1) := by decide +kernel
theorem dL_law_477 : decode cL_law 477 = .ok (.iaload, 1) := by decide +kernel
theorem dL_law_478 : decode cL_law 478 = .ok (.aload_n 0, 1) := by decide +kernel
theorem dL_law_479 : decode cL_law 479 = .ok (.iload 4, 2) := by decide +kernel
theorem dL_law_481 : decode cL_law 481 = .ok (.iconst 2, 1) := by decide +kernel
theorem dL_law_482 : decode cL_law 482 = .ok (.iadd, 1) := by decide +kernel
theorem dL_law_483 : decode cL_law 483 = .ok (.iaload, 1) := by decide +kernel
theorem dL_law_484 : decode cL_law 484 = .ok (.invokevirtual 111, 3) := by decide +kernel
theorem dL_law_487 : decode cL_law 487 = .ok (.istore 6, 2) := by decide +kernel
theorem dL_law_489 : decode cL_law 489 = .ok (.aload_n 2, 1) := by decide +kernel
theorem dL_law_490 : decode cL_law 490 = .ok (.invokevirtual 95, 3) := by decide +kernel
theorem dL_law_493 : decode cL_law 493 = .ok (.iload 5, 2) := by decide +kernel
theorem dL_law_495 : decode cL_law 495 = .ok (.if_icmp .eq 5, 3) := by decide +kernel
theorem dL_law_498 : decode cL_law 498 = .ok (.iconst 0, 1) := by decide +kernel
theorem dL_law_499 : decode cL_law 499 = .ok (.ireturn, 1) := by decide +kernel
theorem dL_law_500 : decode cL_law 500 = .ok (.iload 5, 2) := by decide +kernel
theorem dL_law_502 : decode cL_law 502 = .ok (.ifCond .ne 15, 3) := by decide +kernel
theorem dL_law_505 : decode cL_law 505 = .ok (.aload_n 3, 1) := by decide +kernel
theorem dL_law_506 : decode cL_law 506 = .ok (.iconst 0, 1) := by decide +kernel
theorem dL_law_507 : decode cL_law 507 = .ok (.laload, 1) := by decide +kernel
theorem dL_law_508 : decode cL_law 508 = .ok (.iload 6, 2) := by decide +kernel
theorem dL_law_510 : decode cL_law 510 = .ok (.i2l, 1) := by decide +kernel
theorem dL_law_511 : decode cL_law 511 = .ok (.lcmp, 1) := by decide +kernel
theorem dL_law_512 : decode cL_law 512 = .ok (.ifCond .eq 5, 3) := by decide +kernel
theorem dL_law_515 : decode cL_law 515 = .ok (.iconst 0, 1) := by decide +kernel
theorem dL_law_516 : decode cL_law 516 = .ok (.ireturn, 1) := by decide +kernel
theorem dL_law_517 : decode cL_law 517 = .ok (.goto 1006, 3) := by decide +kernel
theorem dL_law_520 : decode cL_law 520 = .ok (.aload_n 1, 1) := by decide +kernel
theorem dL_law_521 : decode cL_law 521 = .ok (.aload_n 0, 1) := by decide +kernel
theorem dL_law_522 : decode cL_law 522 = .ok (.iload 4, 2) := by decide +kernel
theorem dL_law_524 : decode cL_law 524 = .ok (.iconst 1, 1) := by decide +kernel
theorem dL_law_525 : decode cL_law 525 = .ok (.iadd, 1) := by decide +kernel
theorem dL_law_526 : decode cL_law 526 = .ok (.iaload, 1) := by decide +kernel
theorem dL_law_527 : decode cL_law 527 = .ok (.aload_n 3, 1) := by decide +kernel
theorem dL_law_528 : decode cL_law 528 = .ok (.invokestatic 112, 3) := by decide +kernel
theorem dL_law_531 : decode cL_law 531 = .ok (.istore 5, 2) := by decide +kernel
theorem dL_law_533 : decode cL_law 533 = .ok (.aload_n 2, 1) := by decide +kernel
theorem dL_law_534 : decode cL_law 534 = .ok (.aload_n 0, 1) := by decide +kernel
theorem dL_law_535 : decode cL_law 535 = .ok (.iload 4, 2) := by decide +kernel
theorem dL_law_537 : decode cL_law 537 = .ok (.iconst 1, 1) := by decide +kernel
theorem dL_law_538 : decode cL_law 538 = .ok (.iadd, 1) := by decide +kernel
theorem dL_law_539 : decode cL_law 539 = .ok (.iaload, 1) := by decide +kernel
theorem dL_law_540 : decode cL_law 540 = .ok (.invokevirtual 115, 3) := by decide +kernel
theorem dL_law_543 : decode cL_law 543 = .ok (.istore 6, 2) := by decide +kernel
theorem dL_law_545 : decode cL_law 545 = .ok (.aload_n 2, 1) := by decide +kernel
theorem dL_law_546 : decode cL_law 546 = .ok (.invokevirtual 95, 3) := by decide +kernel
theorem dL_law_549 : decode cL_law 549 = .ok (.iload 5, 2) := by decide +kernel
theorem dL_law_551 : decode cL_law 551 = .ok (.if_icmp .eq 5, 3) := by decide +kernel
theorem dL_law_554 : decode cL_law 554 = .ok (.iconst 0, 1) := by decide +kernel
theorem dL_law_555 : decode cL_law 555 = .ok (.ireturn, 1) := by decide +kernel
theorem dL_law_556 : decode cL_law 556 = .ok (.iload 5, 2) := by decide +kernel
theorem dL_law_558 : decode cL_law 558 = .ok (.ifCond .ne 15, 3) := by decide +kernel
theorem dL_law_561 : decode cL_law 561 = .ok (.aload_n 3, 1) := by decide +kernel
theorem dL_law_562 : decode cL_law 562 = .ok (.iconst 0, 1) := by decide +kernel
theorem dL_law_563 : decode cL_law 563 = .ok (.laload, 1) := by decide +kernel
theorem dL_law_564 : decode cL_law 564 = .ok (.iload 6, 2) := by decide +kernel
theorem dL_law_566 : decode cL_law 566 = .ok (.i2l, 1) := by decide +kernel
theorem dL_law_567 : decode cL_law 567 = .ok (.lcmp, 1) := by decide +kernel
theorem dL_law_568 : decode cL_law 568 = .ok (.ifCond .eq 5, 3) := by decide +kernel
theorem dL_law_571 : decode cL_law 571 = .ok (.iconst 0, 1) := by decide +kernel
theorem dL_law_572 : decode cL_law 572 = .ok (.ireturn, 1) := by decide +kernel
theorem dL_law_573 : decode cL_law 573 = .ok (.goto 950, 3) := by decide +kernel
theorem dL_law_576 : decode cL_law 576 = .ok (.aload_n 1, 1) := by decide +kernel
theorem dL_law_577 : decode cL_law 577 = .ok (.aload_n 0, 1) := by decide +kernel
theorem dL_law_578 : decode cL_law 578 = .ok (.iload 4, 2) := by decide +kernel
theorem dL_law_580 : decode cL_law 580 = .ok (.iconst 1, 1) := by decide +kernel
theorem dL_law_581 : decode cL_law 581 = .ok (.iadd, 1) := by decide +kernel
theorem dL_law_582 : decode cL_law 582 = .ok (.iaload, 1) := by decide +kernel
theorem dL_law_583 : decode cL_law 583 = .ok (.aload_n 0, 1) := by decide +kernel
theorem dL_law_584 : decode cL_law 584 = .ok (.iload 4, 2) := by decide +kernel
theorem dL_law_586 : decode cL_law 586 = .ok (.iconst 2, 1) := by decide +kernel
theorem dL_law_587 : decode cL_law 587 = .ok (.iadd, 1) := by decide +kernel
theorem dL_law_588 : decode cL_law 588 = .ok (.iaload, 1) := by decide +kernel
theorem dL_law_589 : decode cL_law 589 = .ok (.aload_n 3, 1) := by decide +kernel
theorem dL_law_590 : decode cL_law 590 = .ok (.invokestatic 116, 3) := by decide +kernel
theorem dL_law_593 : decode cL_law 593 = .ok (.istore 5, 2) := by decide +kernel
theorem dL_law_595 : decode cL_law 595 = .ok (.aload_n 2, 1) := by decide +kernel
theorem dL_law_596 : decode cL_law 596 = .ok (.aload_n 0, 1) := by decide +kernel
theorem dL_law_597 : decode cL_law 597 = .ok (.iload 4, 2) := by decide +kernel
theorem dL_law_599 : decode cL_law 599 = .ok (.iconst 1, 1) := by decide +kernel
theorem dL_law_600 : decode cL_law 600 = .ok (.iadd, 1) := by decide +kernel
theorem dL_law_601 : decode cL_law 601 = .ok (.iaload, 1) := by decide +kernel
theorem dL_law_602 : decode cL_law 602 = .ok (.aload_n 0, 1) := by decide +kernel
theorem dL_law_603 : decode cL_law 603 = .ok (.iload 4, 2) := by decide +kernel
theorem dL_law_605 : decode cL_law 605 = .ok (.iconst 2, 1) := by decide +kernel
theorem dL_law_606 : decode cL_law 606 = .ok (.iadd, 1) := by decide +kernel
theorem dL_law_607 : decode cL_law 607 = .ok (.iaload, 1) := by decide +kernel
theorem dL_law_608 : decode cL_law 608 = .ok (.invokevirtual 118, 3) := by decide +kernel
theorem dL_law_611 : decode cL_law 611 = .ok (.istore 6, 2) := by decide +kernel
theorem dL_law_613 : decode cL_law 613 = .ok (.aload_n 2, 1) := by decide +kernel
theorem dL_law_614 : decode cL_law 614 = .ok (.invokevirtual 95, 3) := by decide +kernel
theorem dL_law_617 : decode cL_law 617 = .ok (.iload 5, 2) := by decide +kernel
theorem dL_law_619 : decode cL_law 619 = .ok (.if_icmp .eq 5, 3) := by decide +kernel
theorem dL_law_622 : decode cL_law 622 = .ok (.iconst 0, 1) := by decide +kernel
theorem dL_law_623 : decode cL_law 623 = .ok (.ireturn, 1) := by decide +kernel
theorem dL_law_624 : decode cL_law 624 = .ok (.iload 5, 2) := by decide +kernel
theorem dL_law_626 : decode cL_law 626 = .ok (.ifCond .ne 15, 3) := by decide +kernel
theorem dL_law_629 : decode cL_law 629 = .ok (.aload_n 3, 1) := by decide +kernel
theorem dL_law_630 : decode cL_law 630 = .ok (.iconst 0, 1) := by decide +kernel
theorem dL_law_631 : decode cL_law 631 = .ok (.laload, 1) := by decide +kernel
theorem dL_law_632 : decode cL_law 632 = .ok (.iload 6, 2) := by decide +kernel
theorem dL_law_634 : decode cL_law 634 = .ok (.i2l, 1) := by decide +kernel
theorem dL_law_635 : decode cL_law 635 = .ok (.lcmp, 1) := by decide +kernel
theorem dL_law_636 : decode cL_law 636 = .ok (.ifCond .eq 5, 3) := by decide +kernel
theorem dL_law_639 : decode cL_law 639 = .ok (.iconst 0, 1) := by decide +kernel
theorem dL_law_640 : decode cL_law 640 = .ok (.ireturn, 1) := by decide +kernel
theorem dL_law_641 : decode cL_law 641 = .ok (.goto 882, 3) := by decide +kernel
theorem dL_law_644 : decode cL_law 644 = .ok (.aload_n 1, 1) := by decide +kernel
theorem dL_law_645 : decode cL_law 645 = .ok (.aload_n 0, 1) := by decide +kernel
theorem dL_law_646 : decode cL_law 646 = .ok (.iload 4, 2) := by decide +kernel
theorem dL_law_648 : decode cL_law 648 = .ok (.iconst 1, 1) := by decide +kernel
theorem dL_law_649 : decode cL_law 649 = .ok (.iadd, 1) := by decide +kernel
theorem dL_law_650 : decode cL_law 650 = .ok (.iaload, 1) := by decide +kernel
theorem dL_law_651 : decode cL_law 651 = .ok (.aload_n 0, 1) := by decide +kernel
theorem dL_law_652 : decode cL_law 652 = .ok (.iload 4, 2) := by decide +kernel
theorem dL_law_654 : decode cL_law 654 = .ok (.iconst 2, 1) := by decide +kernel
theorem dL_law_655 : decode cL_law 655 = .ok (.iadd, 1) := by decide +kernel
theorem dL_law_656 : decode cL_law 656 = .ok (.iaload, 1) := by decide +kernel
theorem dL_law_657 : decode cL_law 657 = .ok (.aload_n 3, 1) := by decide +kernel
theorem dL_law_658 : decode cL_law 658 = .ok (.invokestatic 119, 3) := by decide +kernel
theorem dL_law_661 : decode cL_law 661 = .ok (.istore 5, 2) := by decide +kernel
theorem dL_law_663 : decode cL_law 663 = .ok (.aload_n 2, 1) := by decide +kernel
theorem dL_law_664 : decode cL_law 664 = .ok (.aload_n 0, 1) := by decide +kernel
theorem dL_law_665 : decode cL_law 665 = .ok (.iload 4, 2) := by decide +kernel
theorem dL_law_667 : decode cL_law 667 = .ok (.iconst 1, 1) := by decide +kernel
theorem dL_law_668 : decode cL_law 668 = .ok (.iadd, 1) := by decide +kernel
theorem dL_law_669 : decode cL_law 669 = .ok (.iaload, 1) := by decide +kernel
theorem dL_law_670 : decode cL_law 670 = .ok (.aload_n 0, 1) := by decide +kernel
theorem dL_law_671 : decode cL_law 671 = .ok (.iload 4, 2) := by decide +kernel
theorem dL_law_673 : decode cL_law 673 = .ok (.iconst 2, 1) := by decide +kernel
theorem dL_law_674 : decode cL_law 674 = .ok (.iadd, 1) := by decide +kernel
theorem dL_law_675 : decode cL_law 675 = .ok (.iaload, 1) := by decide +kernel
theorem dL_law_676 : decode cL_law 676 = .ok (.invokevirtual 121, 3) := by decide +kernel
theorem dL_law_679 : decode cL_law 679 = .ok (.istore 6, 2) := by decide +kernel
theorem dL_law_681 : decode cL_law 681 = .ok (.aload_n 2, 1) := by decide +kernel
theorem dL_law_682 : decode cL_law 682 = .ok (.invokevirtual 95, 3) := by decide +kernel
theorem dL_law_685 : decode cL_law 685 = .ok (.iload 5, 2) := by decide +kernel
theorem dL_law_687 : decode cL_law 687 = .ok (.if_icmp .eq 5, 3) := by decide +kernel
theorem dL_law_690 : decode cL_law 690 = .ok (.iconst 0, 1) := by decide +kernel
theorem dL_law_691 : decode cL_law 691 = .ok (.ireturn, 1) := by decide +kernel
theorem dL_law_692 : decode cL_law 692 = .ok (.iload 5, 2) := by decide +kernel
theorem dL_law_694 : decode cL_law 694 = .ok (.ifCond .ne 15, 3) := by decide +kernel
theorem dL_law_697 : decode cL_law 697 = .ok (.aload_n 3, 1) := by decide +kernel
theorem dL_law_698 : decode cL_law 698 = .ok (.iconst 0, 1) := by decide +kernel
theorem dL_law_699 : decode cL_law 699 = .ok (.laload, 1) := by decide +kernel
theorem dL_law_700 : decode cL_law 700 = .ok (.iload 6, 2) := by decide +kernel
theorem dL_law_702 : decode cL_law 702 = .ok (.i2l, 1) := by decide +kernel
theorem dL_law_703 : decode cL_law 703 = .ok (.lcmp, 1) := by decide +kernel
theorem dL_law_704 : decode cL_law 704 = .ok (.ifCond .eq 5, 3) := by decide +kernel
theorem dL_law_707 : decode cL_law 707 = .ok (.iconst 0, 1) := by decide +kernel
theorem dL_law_708 : decode cL_law 708 = .ok (.ireturn, 1) := by decide +kernel
theorem dL_law_709 : decode cL_law 709 = .ok (.goto 814, 3) := by decide +kernel
theorem dL_law_712 : decode cL_law 712 = .ok (.aload_n 1, 1) := by decide +kernel
theorem dL_law_713 : decode cL_law 713 = .ok (.invokevirtual 122, 3) := by decide +kernel
theorem dL_law_716 : decode cL_law 716 = .ok (.aload_n 2, 1) := by decide +kernel
theorem dL_law_717 : decode cL_law 717 = .ok (.invokevirtual 125, 3) := by decide +kernel
theorem dL_law_720 : decode cL_law 720 = .ok (.if_icmp .eq 803, 3) := by decide +kernel
theorem dL_law_723 : decode cL_law 723 = .ok (.iconst 0, 1) := by decide +kernel
theorem dL_law_724 : decode cL_law 724 = .ok (.ireturn, 1) := by decide +kernel
theorem dL_law_725 : decode cL_law 725 = .ok (.aload_n 1, 1) := by decide +kernel
theorem dL_law_726 : decode cL_law 726 = .ok (.aload_n 0, 1) := by decide +kernel
theorem dL_law_727 : decode cL_law 727 = .ok (.iload 4, 2) := by decide +kernel
theorem dL_law_729 : decode cL_law 729 = .ok (.iconst 1, 1) := by decide +kernel
theorem dL_law_730 : decode cL_law 730 = .ok (.iadd, 1) := by decide +kernel
theorem dL_law_731 : decode cL_law 731 = .ok (.iaload, 1) := by decide +kernel
theorem dL_law_732 : decode cL_law 732 = .ok (.aload_n 3, 1) := by decide +kernel
theorem dL_law_733 : decode cL_law 733 = .ok (.invokestatic 126, 3) := by decide +kernel
theorem dL_law_736 : decode cL_law 736 = .ok (.istore 5, 2) := by decide +kernel
theorem dL_law_738 : decode cL_law 738 = .ok (.aload_n 2, 1) := by decide +kernel
theorem dL_law_739 : decode cL_law 739 = .ok (.aload_n 0, 1) := by decide +kernel
theorem dL_law_740 : decode cL_law 740 = .ok (.iload 4, 2) := by decide +kernel
theorem dL_law_742 : decode cL_law 742 = .ok (.iconst 1, 1) := by decide +kernel
theorem dL_law_743 : decode cL_law 743 = .ok (.iadd, 1) := by decide +kernel
theorem dL_law_744 : decode cL_law 744 = .ok (.iaload, 1) := by decide +kernel
theorem dL_law_745 : decode cL_law 745 = .ok (.invokevirtual 128, 3) := by decide +kernel
theorem dL_law_748 : decode cL_law 748 = .ok (.istore 6, 2) := by decide +kernel
theorem dL_law_750 : decode cL_law 750 = .ok (.aload_n 2, 1) := by decide +kernel
theorem dL_law_751 : decode cL_law 751 = .ok (.invokevirtual 95, 3) := by decide +kernel
theorem dL_law_754 : decode cL_law 754 = .ok (.iload 5, 2) := by decide +kernel
theorem dL_law_756 : decode cL_law 756 = .ok (.if_icmp .eq 5, 3) := by decide +kernel
theorem dL_law_759 : decode cL_law 759 = .ok (.iconst 0, 1) := by decide +kernel
theorem dL_law_760 : decode cL_law 760 = .ok (.ireturn, 1) := by decide +kernel
theorem dL_law_761 : decode cL_law 761 = .ok (.iload 5, 2) := by decide +kernel
theorem dL_law_763 : decode cL_law 763 = .ok (.ifCond .ne 15, 3) := by decide +kernel
theorem dL_law_766 : decode cL_law 766 = .ok (.aload_n 3, 1) := by decide +kernel
theorem dL_law_767 : decode cL_law 767 = .ok (.iconst 0, 1) := by decide +kernel
theorem dL_law_768 : decode cL_law 768 = .ok (.laload, 1) := by decide +kernel
theorem dL_law_769 : decode cL_law 769 = .ok (.iload 6, 2) := by decide +kernel
theorem dL_law_771 : decode cL_law 771 = .ok (.i2l, 1) := by decide +kernel
theorem dL_law_772 : decode cL_law 772 = .ok (.lcmp, 1) := by decide +kernel
theorem dL_law_773 : decode cL_law 773 = .ok (.ifCond .eq 5, 3) := by decide +kernel
theorem dL_law_776 : decode cL_law 776 = .ok (.iconst 0, 1) := by decide +kernel
theorem dL_law_777 : decode cL_law 777 = .ok (.ireturn, 1) := by decide +kernel
theorem dL_law_778 : decode cL_law 778 = .ok (.goto 745, 3) := by decide +kernel
theorem dL_law_781 : decode cL_law 781 = .ok (.aload_n 1, 1) := by decide +kernel
theorem dL_law_782 : decode cL_law 782 = .ok (.aload_n 0, 1) := by decide +kernel
theorem dL_law_783 : decode cL_law 783 = .ok (.iload 4, 2) := by decide +kernel
theorem dL_law_785 : decode cL_law 785 = .ok (.iconst 1, 1) := by decide +kernel
theorem dL_law_786 : decode cL_law 786 = .ok (.iadd, 1) := by decide +kernel
theorem dL_law_787 : decode cL_law 787 = .ok (.iaload, 1) := by decide +kernel
theorem dL_law_788 : decode cL_law 788 = .ok (.aload_n 3, 1) := by decide +kernel
theorem dL_law_789 : decode cL_law 789 = .ok (.invokestatic 129, 3) := by decide +kernel
theorem dL_law_792 : decode cL_law 792 = .ok (.istore 5, 2) := by decide +kernel
theorem dL_law_794 : decode cL_law 794 = .ok (.aload_n 2, 1) := by decide +kernel
theorem dL_law_795 : decode cL_law 795 = .ok (.aload_n 0, 1) := by decide +kernel
theorem dL_law_796 : decode cL_law 796 = .ok (.iload 4, 2) := by decide +kernel
theorem dL_law_798 : decode cL_law 798 = .ok (.iconst 1, 1) := by decide +kernel
theorem dL_law_799 : decode cL_law 799 = .ok (.iadd, 1) := by decide +kernel
theorem dL_law_800 : decode cL_law 800 = .ok (.iaload, 1) := by decide +kernel
theorem dL_law_801 : decode cL_law 801 = .ok (.invokevirtual 131, 3) := by decide +kernel
theorem dL_law_804 : decode cL_law 804 = .ok (.istore 6, 2) := by decide +kernel
theorem dL_law_806 : decode cL_law 806 = .ok (.aload_n 2, 1) := by decide +kernel
theorem dL_law_807 : decode cL_law 807 = .ok (.invokevirtual 95, 3) := by decide +kernel
theorem dL_law_810 : decode cL_law 810 = .ok (.iload 5, 2) := by decide +kernel
theorem dL_law_812 : decode cL_law 812 = .ok (.if_icmp .eq 5, 3) := by decide +kernel
theorem dL_law_815 : decode cL_law 815 = .ok (.iconst 0, 1) := by decide +kernel
theorem dL_law_816 : decode cL_law 816 = .ok (.ireturn, 1) := by decide +kernel
theorem dL_law_817 : decode cL_law 817 = .ok (.iload 5, 2) := by decide +kernel
theorem dL_law_819 : decode cL_law 819 = .ok (.ifCond .ne 15, 3) := by decide +kernel
theorem dL_law_822 : decode cL_law 822 = .ok (.aload_n 3, 1) := by decide +kernel
theorem dL_law_823 : decode cL_law 823 = .ok (.iconst 0, 1) := by decide +kernel
theorem dL_law_824 : decode cL_law 824 = .ok (.laload, 1) := by decide +kernel
theorem dL_law_825 : decode cL_law 825 = .ok (.iload 6, 2) := by decide +kernel
theorem dL_law_827 : decode cL_law 827 = .ok (.i2l, 1) := by decide +kernel
theorem dL_law_828 : decode cL_law 828 = .ok (.lcmp, 1) := by decide +kernel
theorem dL_law_829 : decode cL_law 829 = .ok (.ifCond .eq 5, 3) := by decide +kernel
theorem dL_law_832 : decode cL_law 832 = .ok (.iconst 0, 1) := by decide +kernel
theorem dL_law_833 : decode cL_law 833 = .ok (.ireturn, 1) := by decide +kernel
theorem dL_law_834 : decode cL_law 834 = .ok (.goto 689, 3) := by decide +kernel
theorem dL_law_837 : decode cL_law 837 = .ok (.aload_n 1, 1) := by decide +kernel
theorem dL_law_838 : decode cL_law 838 = .ok (.aload_n 0, 1) := by decide +kernel
theorem dL_law_839 : decode cL_law 839 = .ok (.iload 4, 2) := by decide +kernel
theorem dL_law_841 : decode cL_law 841 = .ok (.iconst 1, 1) := by decide +kernel
theorem dL_law_842 : decode cL_law 842 = .ok (.iadd, 1) := by decide +kernel
theorem dL_law_843 : decode cL_law 843 = .ok (.iaload, 1) := by decide +kernel
theorem dL_law_844 : decode cL_law 844 = .ok (.aload_n 3, 1) := by decide +kernel
theorem dL_law_845 : decode cL_law 845 = .ok (.invokestatic 132, 3) := by decide +kernel
theorem dL_law_848 : decode cL_law 848 = .ok (.istore 5, 2) := by decide +kernel
theorem dL_law_850 : decode cL_law 850 = .ok (.aload_n 2, 1) := by decide +kernel
theorem dL_law_851 : decode cL_law 851 = .ok (.aload_n 0, 1) := by decide +kernel
theorem dL_law_852 : decode cL_law 852 = .ok (.iload 4, 2) := by decide +kernel
theorem dL_law_854 : decode cL_law 854 = .ok (.iconst 1, 1) := by decide +kernel
theorem dL_law_855 : decode cL_law 855 = .ok (.iadd, 1) := by decide +kernel
theorem dL_law_856 : decode cL_law 856 = .ok (.iaload, 1) := by decide +kernel
theorem dL_law_857 : decode cL_law 857 = .ok (.invokevirtual 134, 3) := by decide +kernel
theorem dL_law_860 : decode cL_law 860 = .ok (.istore 6, 2) := by decide +kernel
theorem dL_law_862 : decode cL_law 862 = .ok (.aload_n 2, 1) := by decide +kernel
theorem dL_law_863 : decode cL_law 863 = .ok (.invokevirtual 95, 3) := by decide +kernel
theorem dL_law_866 : decode cL_law 866 = .ok (.iload 5, 2) := by decide +kernel
theorem dL_law_868 : decode cL_law 868 = .ok (.if_icmp .eq 5, 3) := by decide +kernel
theorem dL_law_871 : decode cL_law 871 = .ok (.iconst 0, 1) := by decide +kernel
theorem dL_law_872 : decode cL_law 872 = .ok (.ireturn, 1) := by decide +kernel
theorem dL_law_873 : decode cL_law 873 = .ok (.iload 5, 2) := by decide +kernel
theorem dL_law_875 : decode cL_law 875 = .ok (.ifCond .ne 15, 3) := by decide +kernel
theorem dL_law_878 : decode cL_law 878 = .ok (.aload_n 3, 1) := by decide +kernel
theorem dL_law_879 : decode cL_law 879 = .ok (.iconst 0, 1) := by decide +kernel
theorem dL_law_880 : decode cL_law 880 = .ok (.laload, 1) := by decide +kernel
theorem dL_law_881 : decode cL_law 881 = .ok (.iload 6, 2) := by decide +kernel
theorem dL_law_883 : decode cL_law 883 = .ok (.i2l, 1) := by decide +kernel
theorem dL_law_884 : decode cL_law 884 = .ok (.lcmp, 1) := by decide +kernel
theorem dL_law_885 : decode cL_law 885 = .ok (.ifCond .eq 5, 3) := by decide +kernel
theorem dL_law_888 : decode cL_law 888 = .ok (.iconst 0, 1) := by decide +kernel
theorem dL_law_889 : decode cL_law 889 = .ok (.ireturn, 1) := by decide +kernel
theorem dL_law_890 : decode cL_law 890 = .ok (.goto 633, 3) := by decide +kernel
theorem dL_law_893 : decode cL_law 893 = .ok (.aload_n 1, 1) := by decide +kernel
theorem dL_law_894 : decode cL_law 894 = .ok (.aload_n 0, 1) := by decide +kernel
theorem dL_law_895 : decode cL_law 895 = .ok (.iload 4, 2) := by decide +kernel
theorem dL_law_897 : decode cL_law 897 = .ok (.iconst 1, 1) := by decide +kernel
theorem dL_law_898 : decode cL_law 898 = .ok (.iadd, 1) := by decide +kernel
theorem dL_law_899 : decode cL_law 899 = .ok (.iaload, 1) := by decide +kernel
theorem dL_law_900 : decode cL_law 900 = .ok (.invokestatic 135, 3) := by decide +kernel
theorem dL_law_903 : decode cL_law 903 = .ok (.istore 5, 2) := by decide +kernel
theorem dL_law_905 : decode cL_law 905 = .ok (.aload_n 2, 1) := by decide +kernel
theorem dL_law_906 : decode cL_law 906 = .ok (.aload_n 0, 1) := by decide +kernel
theorem dL_law_907 : decode cL_law 907 = .ok (.iload 4, 2) := by decide +kernel
theorem dL_law_909 : decode cL_law 909 = .ok (.iconst 1, 1) := by decide +kernel
theorem dL_law_910 : decode cL_law 910 = .ok (.iadd, 1) := by decide +kernel
theorem dL_law_911 : decode cL_law 911 = .ok (.iaload, 1) := by decide +kernel
theorem dL_law_912 : decode cL_law 912 = .ok (.invokevirtual 138, 3) := by decide +kernel
theorem dL_law_915 : decode cL_law 915 = .ok (.aload_n 2, 1) := by decide +kernel
theorem dL_law_916 : decode cL_law 916 = .ok (.invokevirtual 95, 3) := by decide +kernel
theorem dL_law_919 : decode cL_law 919 = .ok (.iload 5, 2) := by decide +kernel
theorem dL_law_921 : decode cL_law 921 = .ok (.if_icmp .eq 5, 3) := by decide +kernel
theorem dL_law_924 : decode cL_law 924 = .ok (.iconst 0, 1) := by decide +kernel
theorem dL_law_925 : decode cL_law 925 = .ok (.ireturn, 1) := by decide +kernel
theorem dL_law_926 : decode cL_law 926 = .ok (.goto 597, 3) := by decide +kernel
theorem dL_law_929 : decode cL_law 929 = .ok (.aload_n 1, 1) := by decide +kernel
theorem dL_law_930 : decode cL_law 930 = .ok (.aload_n 0, 1) := by decide +kernel
theorem dL_law_931 : decode cL_law 931 = .ok (.iload 4, 2) := by decide +kernel
theorem dL_law_933 : decode cL_law 933 = .ok (.iconst 1, 1) := by decide +kernel
theorem dL_law_934 : decode cL_law 934 = .ok (.iadd, 1) := by decide +kernel
theorem dL_law_935 : decode cL_law 935 = .ok (.iaload, 1) := by decide +kernel
theorem dL_law_936 : decode cL_law 936 = .ok (.aload_n 0, 1) := by decide +kernel
theorem dL_law_937 : decode cL_law 937 = .ok (.iload 4, 2) := by decide +kernel
theorem dL_law_939 : decode cL_law 939 = .ok (.iconst 2, 1) := by decide +kernel
theorem dL_law_940 : decode cL_law 940 = .ok (.iadd, 1) := by decide +kernel
theorem dL_law_941 : decode cL_law 941 = .ok (.iaload, 1) := by decide +kernel
theorem dL_law_942 : decode cL_law 942 = .ok (.ifCond .eq 7, 3) := by decide +kernel
theorem dL_law_945 : decode cL_law 945 = .ok (.iconst 1, 1) := by decide +kernel
theorem dL_law_946 : decode cL_law 946 = .ok (.goto 4, 3) := by decide +kernel
theorem dL_law_949 : decode cL_law 949 = .ok (.iconst 0, 1) := by decide +kernel
theorem dL_law_950 : decode cL_law 950 = .ok (.invokestatic 139, 3) := by decide +kernel
theorem dL_law_953 : decode cL_law 953 = .ok (.istore 5, 2) := by decide +kernel
theorem dL_law_955 : decode cL_law 955 = .ok (.aload_n 2, 1) := by decide +kernel
theorem dL_law_956 : decode cL_law 956 = .ok (.aload_n 0, 1) := by decide +kernel
theorem dL_law_957 : decode cL_law 957 = .ok (.iload 4, 2) := by decide +kernel
theorem dL_law_959 : decode cL_law 959 = .ok (.iconst 1, 1) := by decide +kernel
theorem dL_law_960 : decode cL_law 960 = .ok (.iadd, 1) := by decide +kernel
theorem dL_law_961 : decode cL_law 961 = .ok (.iaload, 1) := by decide +kernel
theorem dL_law_962 : decode cL_law 962 = .ok (.aload_n 0, 1) := by decide +kernel
theorem dL_law_963 : decode cL_law 963 = .ok (.iload 4, 2) := by decide +kernel
theorem dL_law_965 : decode cL_law 965 = .ok (.iconst 2, 1) := by decide +kernel
theorem dL_law_966 : decode cL_law 966 = .ok (.iadd, 1) := by decide +kernel
theorem dL_law_967 : decode cL_law 967 = .ok (.iaload, 1) := by decide +kernel
theorem dL_law_968 : decode cL_law 968 = .ok (.ifCond .eq 7, 3) := by decide +kernel
theorem dL_law_971 : decode cL_law 971 = .ok (.iconst 1, 1) := by decide +kernel
theorem dL_law_972 : decode cL_law 972 = .ok (.goto 4, 3) := by decide +kernel
theorem dL_law_975 : decode cL_law 975 = .ok (.iconst 0, 1) := by decide +kernel
theorem dL_law_976 : decode cL_law 976 = .ok (.invokevirtual 142, 3) := by decide +kernel
theorem dL_law_979 : decode cL_law 979 = .ok (.aload_n 2, 1) := by decide +kernel
theorem dL_law_980 : decode cL_law 980 = .ok (.invokevirtual 95, 3) := by decide +kernel
theorem dL_law_983 : decode cL_law 983 = .ok (.iload 5, 2) := by decide +kernel
theorem dL_law_985 : decode cL_law 985 = .ok (.if_icmp .eq 5, 3) := by decide +kernel
theorem dL_law_988 : decode cL_law 988 = .ok (.iconst 0, 1) := by decide +kernel
theorem dL_law_989 : decode cL_law 989 = .ok (.ireturn, 1) := by decide +kernel
theorem dL_law_990 : decode cL_law 990 = .ok (.goto 533, 3) := by decide +kernel
theorem dL_law_993 : decode cL_law 993 = .ok (.aload_n 1, 1) := by decide +kernel
theorem dL_law_994 : decode cL_law 994 = .ok (.aload_n 0, 1) := by decide +kernel
theorem dL_law_995 : decode cL_law 995 = .ok (.iload 4, 2) := by decide +kernel
theorem dL_law_997 : decode cL_law 997 = .ok (.iconst 1, 1) := by decide +kernel
theorem dL_law_998 : decode cL_law 998 = .ok (.iadd, 1) := by decide +kernel
theorem dL_law_999 : decode cL_law 999 = .ok (.iaload, 1) := by decide +kernel
theorem dL_law_1000 : decode cL_law 1000 = .ok (.aload_n 0, 1) := by decide +kernel
theorem dL_law_1001 : decode cL_law 1001 = .ok (.iload 4, 2) := by decide +kernel
theorem dL_law_1003 : decode cL_law 1003 = .ok (.iconst 2, 1) := by decide +kernel
theorem dL_law_1004 : decode cL_law 1004 = .ok (.iadd, 1) := by decide +kernel
theorem dL_law_1005 : decode cL_law 1005 = .ok (.iaload, 1) := by decide +kernel
theorem dL_law_1006 : decode cL_law 1006 = .ok (.aload_n 0, 1) := by decide +kernel
theorem dL_law_1007 : decode cL_law 1007 = .ok (.iload 4, 2) := by decide +kernel
theorem dL_law_1009 : decode cL_law 1009 = .ok (.iconst 3, 1) := by decide +kernel
theorem dL_law_1010 : decode cL_law 1010 = .ok (.iadd, 1) := by decide +kernel
theorem dL_law_1011 : decode cL_law 1011 = .ok (.iaload, 1) := by decide +kernel
theorem dL_law_1012 : decode cL_law 1012 = .ok (.aload_n 0, 1) := by decide +kernel
theorem dL_law_1013 : decode cL_law 1013 = .ok (.iload 4, 2) := by decide +kernel
theorem dL_law_1015 : decode cL_law 1015 = .ok (.iconst 4, 1) := by decide +kernel
theorem dL_law_1016 : decode cL_law 1016 = .ok (.iadd, 1) := by decide +kernel
theorem dL_law_1017 : decode cL_law 1017 = .ok (.iaload, 1) := by decide +kernel
theorem dL_law_1018 : decode cL_law 1018 = .ok (.aload_n 0, 1) := by decide +kernel
theorem dL_law_1019 : decode cL_law 1019 = .ok (.iload 4, 2) := by decide +kernel
theorem dL_law_1021 : decode cL_law 1021 = .ok (.iconst 5, 1) := by decide +kernel
theorem dL_law_1022 : decode cL_law 1022 = .ok (.iadd, 1) := by decide +kernel
theorem dL_law_1023 : decode cL_law 1023 = .ok (.iaload, 1) := by decide +kernel
theorem dL_law_1024 : decode cL_law 1024 = .ok (.ifCond .eq 7, 3) := by decide +kernel
theorem dL_law_1027 : decode cL_law 1027 = .ok (.iconst 1, 1) := by decide +kernel
theorem dL_law_1028 : decode cL_law 1028 = .ok (.goto 4, 3) := by decide +kernel
theorem dL_law_1031 : decode cL_law 1031 = .ok (.iconst 0, 1) := by decide +kernel
theorem dL_law_1032 : decode cL_law 1032 = .ok (.invokestatic 143, 3) := by decide +kernel
theorem dL_law_1035 : decode cL_law 1035 = .ok (.istore 5, 2) := by decide +kernel
theorem dL_law_1037 : decode cL_law 1037 = .ok (.aload_n 2, 1) := by decide +kernel
theorem dL_law_1038 : decode cL_law 1038 = .ok (.aload_n 0, 1) := by decide +kernel
theorem dL_law_1039 : decode cL_law 1039 = .ok (.iload 4, 2) := by decide +kernel
theorem dL_law_1041 : decode cL_law 1041 = .ok (.iconst 1, 1) := by decide +kernel
theorem dL_law_1042 : decode cL_law 1042 = .ok (.iadd, 1) := by decide +kernel
theorem dL_law_1043 : decode cL_law 1043 = .ok (.iaload, 1) := by decide +kernel
theorem dL_law_1044 : decode cL_law 1044 = .ok (.aload_n 0, 1) := by decide +kernel
theorem dL_law_1045 : decode cL_law 1045 = .ok (.iload 4, 2) := by decide +kernel
theorem dL_law_1047 : decode cL_law 1047 = .ok (.iconst 2, 1) := by decide +kernel
theorem dL_law_1048 : decode cL_law 1048 = .ok (.iadd, 1) := by decide +kernel
theorem dL_law_1049 : decode cL_law 1049 = .ok (.iaload, 1) := by decide +kernel
theorem dL_law_1050 : decode cL_law 1050 = .ok (.aload_n 0, 1) := by decide +kernel
theorem dL_law_1051 : decode cL_law 1051 = .ok (.iload 4, 2) := by decide +kernel
theorem dL_law_1053 : decode cL_law 1053 = .ok (.iconst 3, 1) := by decide +kernel
theorem dL_law_1054 : decode cL_law 1054 = .ok (.iadd, 1) := by decide +kernel
theorem dL_law_1055 : decode cL_law 1055 = .ok (.iaload, 1) := by decide +kernel
theorem dL_law_1056 : decode cL_law 1056 = .ok (.aload_n 0, 1) := by decide +kernel
theorem dL_law_1057 : decode cL_law 1057 = .ok (.iload 4, 2) := by decide +kernel
theorem dL_law_1059 : decode cL_law 1059 = .ok (.iconst 4, 1) := by decide +kernel
theorem dL_law_1060 : decode cL_law 1060 = .ok (.iadd, 1) := by decide +kernel
theorem dL_law_1061 : decode cL_law 1061 = .ok (.iaload, 1) := by decide +kernel
theorem dL_law_1062 : decode cL_law 1062 = .ok (.aload_n 0, 1) := by decide +kernel
theorem dL_law_1063 : decode cL_law 1063 = .ok (.iload 4, 2) := by decide +kernel
theorem dL_law_1065 : decode cL_law 1065 = .ok (.iconst 5, 1) := by decide +kernel
theorem dL_law_1066 : decode cL_law 1066 = .ok (.iadd, 1) := by decide +kernel
theorem dL_law_1067 : decode cL_law 1067 = .ok (.iaload, 1) := by decide +kernel
theorem dL_law_1068 : decode cL_law 1068 = .ok (.ifCond .eq 7, 3) := by decide +kernel
theorem dL_law_1071 : decode cL_law 1071 = .ok (.iconst 1, 1) := by decide +kernel
theorem dL_law_1072 : decode cL_law 1072 = .ok (.goto 4, 3) := by decide +kernel
theorem dL_law_1075 : decode cL_law 1075 = .ok (.iconst 0, 1) := by decide +kernel
theorem dL_law_1076 : decode cL_law 1076 = .ok (.invokevirtual 146, 3) := by decide +kernel
theorem dL_law_1079 : decode cL_law 1079 = .ok (.aload_n 2, 1) := by decide +kernel
theorem dL_law_1080 : decode cL_law 1080 = .ok (.invokevirtual 95, 3) := by decide +kernel
theorem dL_law_1083 : decode cL_law 1083 = .ok (.iload 5, 2) := by decide +kernel
theorem dL_law_1085 : decode cL_law 1085 = .ok (.if_icmp .eq 5, 3) := by decide +kernel
theorem dL_law_1088 : decode cL_law 1088 = .ok (.iconst 0, 1) := by decide +kernel
theorem dL_law_1089 : decode cL_law 1089 = .ok (.ireturn, 1) := by decide +kernel
theorem dL_law_1090 : decode cL_law 1090 = .ok (.goto 433, 3) := by decide +kernel
theorem dL_law_1093 : decode cL_law 1093 = .ok (.aload_n 1, 1) := by decide +kernel
theorem dL_law_1094 : decode cL_law 1094 = .ok (.aload_n 0, 1) := by decide +kernel
theorem dL_law_1095 : decode cL_law 1095 = .ok (.iload 4, 2) := by decide +kernel
theorem dL_law_1097 : decode cL_law 1097 = .ok (.iconst 1, 1) := by decide +kernel
theorem dL_law_1098 : decode cL_law 1098 = .ok (.iadd, 1) := by decide +kernel
theorem dL_law_1099 : decode cL_law 1099 = .ok (.iaload, 1) := by decide +kernel
theorem dL_law_1100 : decode cL_law 1100 = .ok (.aload_n 0, 1) := by decide +kernel
theorem dL_law_1101 : decode cL_law 1101 = .ok (.iload 4, 2) := by decide +kernel
theorem dL_law_1103 : decode cL_law 1103 = .ok (.iconst 2, 1) := by decide +kernel
theorem dL_law_1104 : decode cL_law 1104 = .ok (.iadd, 1) := by decide +kernel
theorem dL_law_1105 : decode cL_law 1105 = .ok (.iaload, 1) := by decide +kernel
theorem dL_law_1106 : decode cL_law 1106 = .ok (.aload_n 0, 1) := by decide +kernel
theorem dL_law_1107 : decode cL_law 1107 = .ok (.iload 4, 2) := by decide +kernel
theorem dL_law_1109 : decode cL_law 1109 = .ok (.iconst 3, 1) := by decide +kernel
theorem dL_law_1110 : decode cL_law 1110 = .ok (.iadd, 1) := by decide +kernel
theorem dL_law_1111 : decode cL_law 1111 = .ok (.iaload, 1) := by decide +kernel
theorem dL_law_1112 : decode cL_law 1112 = .ok (.aload_n 3, 1) := by decide +kernel
theorem dL_law_1113 : decode cL_law 1113 = .ok (.invokestatic 147, 3) := by decide +kernel
theorem dL_law_1116 : decode cL_law 1116 = .ok (.istore 5, 2) := by decide +kernel
theorem dL_law_1118 : decode cL_law 1118 = .ok (.aload_n 2, 1) := by decide +kernel
theorem dL_law_1119 : decode cL_law 1119 = .ok (.aload_n 0, 1) := by decide +kernel
theorem dL_law_1120 : decode cL_law 1120 = .ok (.iload 4, 2) := by decide +kernel
theorem dL_law_1122 : decode cL_law 1122 = .ok (.iconst 1, 1) := by decide +kernel
theorem dL_law_1123 : decode cL_law 1123 = .ok (.iadd, 1) := by decide +kernel
theorem dL_law_1124 : decode cL_law 1124 = .ok (.iaload, 1) := by decide +kernel
theorem dL_law_1125 : decode cL_law 1125 = .ok (.aload_n 0, 1) := by decide +kernel
theorem dL_law_1126 : decode cL_law 1126 = .ok (.iload 4, 2) := by decide +kernel
theorem dL_law_1128 : decode cL_law 1128 = .ok (.iconst 2, 1) := by decide +kernel
theorem dL_law_1129 : decode cL_law 1129 = .ok (.iadd, 1) := by decide +kernel
theorem dL_law_1130 : decode cL_law 1130 = .ok (.iaload, 1) := by decide +kernel
theorem dL_law_1131 : decode cL_law 1131 = .ok (.aload_n 0, 1) := by decide +kernel
theorem dL_law_1132 : decode cL_law 1132 = .ok (.iload 4, 2) := by decide +kernel
theorem dL_law_1134 : decode cL_law 1134 = .ok (.iconst 3, 1) := by decide +kernel
theorem dL_law_1135 : decode cL_law 1135 = .ok (.iadd, 1) := by decide +kernel
theorem dL_law_1136 : decode cL_law 1136 = .ok (.iaload, 1) := by decide +kernel
theorem dL_law_1137 : decode cL_law 1137 = .ok (.invokevirtual 149, 3) := by decide +kernel
theorem dL_law_1140 : decode cL_law 1140 = .ok (.istore 6, 2) := by decide +kernel
theorem dL_law_1142 : decode cL_law 1142 = .ok (.aload_n 2, 1) := by decide +kernel
theorem dL_law_1143 : decode cL_law 1143 = .ok (.invokevirtual 95, 3) := by decide +kernel
theorem dL_law_1146 : decode cL_law 1146 = .ok (.iload 5, 2) := by decide +kernel
theorem dL_law_1148 : decode cL_law 1148 = .ok (.if_icmp .eq 5, 3) := by decide +kernel
theorem dL_law_1151 : decode cL_law 1151 = .ok (.iconst 0, 1) := by decide +kernel
theorem dL_law_1152 : decode cL_law 1152 = .ok (.ireturn, 1) := by decide +kernel
theorem dL_law_1153 : decode cL_law 1153 = .ok (.iload 5, 2) := by decide +kernel
theorem dL_law_1155 : decode cL_law 1155 = .ok (.ifCond .ne 15, 3) := by decide +kernel
theorem dL_law_1158 : decode cL_law 1158 = .ok (.aload_n 3, 1) := by decide +kernel
theorem dL_law_1159 : decode cL_law 1159 = .ok (.iconst 0, 1) := by decide +kernel
theorem dL_law_1160 : decode cL_law 1160 = .ok (.laload, 1) := by decide +kernel
theorem dL_law_1161 : decode cL_law 1161 = .ok (.iload 6, 2) := by decide +kernel
theorem dL_law_1163 : decode cL_law 1163 = .ok (.i2l, 1) := by decide +kernel
theorem dL_law_1164 : decode cL_law 1164 = .ok (.lcmp, 1) := by decide +kernel
theorem dL_law_1165 : decode cL_law 1165 = .ok (.ifCond .eq 5, 3) := by decide +kernel
theorem dL_law_1168 : decode cL_law 1168 = .ok (.iconst 0, 1) := by decide +kernel
theorem dL_law_1169 : decode cL_law 1169 = .ok (.ireturn, 1) := by decide +kernel
theorem dL_law_1170 : decode cL_law 1170 = .ok (.goto 353, 3) := by decide +kernel
theorem dL_law_1173 : decode cL_law 1173 = .ok (.aload_n 1, 1) := by decide +kernel
theorem dL_law_1174 : decode cL_law 1174 = .ok (.aload_n 0, 1) := by decide +kernel
theorem dL_law_1175 : decode cL_law 1175 = .ok (.iload 4, 2) := by decide +kernel
theorem dL_law_1177 : decode cL_law 1177 = .ok (.iconst 1, 1) := by decide +kernel
theorem dL_law_1178 : decode cL_law 1178 = .ok (.iadd, 1) := by decide +kernel
theorem dL_law_1179 : decode cL_law 1179 = .ok (.iaload, 1) := by decide +kernel
theorem dL_law_1180 : decode cL_law 1180 = .ok (.aload_n 0, 1) := by decide +kernel
theorem dL_law_1181 : decode cL_law 1181 = .ok (.iload 4, 2) := by decide +kernel
theorem dL_law_1183 : decode cL_law 1183 = .ok (.iconst 2, 1) := by decide +kernel
theorem dL_law_1184 : decode cL_law 1184 = .ok (.iadd, 1) := by decide +kernel
theorem dL_law_1185 : decode cL_law 1185 = .ok (.iaload, 1) := by decide +kernel
theorem dL_law_1186 : decode cL_law 1186 = .ok (.aload_n 3, 1) := by decide +kernel
theorem dL_law_1187 : decode cL_law 1187 = .ok (.invokestatic 150, 3) := by decide +kernel
theorem dL_law_1190 : decode cL_law 1190 = .ok (.istore 5, 2) := by decide +kernel
theorem dL_law_1192 : decode cL_law 1192 = .ok (.aload_n 2, 1) := by decide +kernel
theorem dL_law_1193 : decode cL_law 1193 = .ok (.aload_n 0, 1) := by decide +kernel
theorem dL_law_1194 : decode cL_law 1194 = .ok (.iload 4, 2) := by decide +kernel
theorem dL_law_1196 : decode cL_law 1196 = .ok (.iconst 1, 1) := by decide +kernel
theorem dL_law_1197 : decode cL_law 1197 = .ok (.iadd, 1) := by decide +kernel
theorem dL_law_1198 : decode cL_law 1198 = .ok (.iaload, 1) := by decide +kernel
theorem dL_law_1199 : decode cL_law 1199 = .ok (.aload_n 0, 1) := by decide +kernel
theorem dL_law_1200 : decode cL_law 1200 = .ok (.iload 4, 2) := by decide +kernel
theorem dL_law_1202 : decode cL_law 1202 = .ok (.iconst 2, 1) := by decide +kernel
theorem dL_law_1203 : decode cL_law 1203 = .ok (.iadd, 1) := by decide +kernel
theorem dL_law_1204 : decode cL_law 1204 = .ok (.iaload, 1) := by decide +kernel
theorem dL_law_1205 : decode cL_law 1205 = .ok (.invokevirtual 152, 3) := by decide +kernel
theorem dL_law_1208 : decode cL_law 1208 = .ok (.istore 6, 2) := by decide +kernel
theorem dL_law_1210 : decode cL_law 1210 = .ok (.aload_n 2, 1) := by decide +kernel
theorem dL_law_1211 : decode cL_law 1211 = .ok (.invokevirtual 95, 3) := by decide +kernel
theorem dL_law_1214 : decode cL_law 1214 = .ok (.iload 5, 2) := by decide +kernel
theorem dL_law_1216 : decode cL_law 1216 = .ok (.if_icmp .eq 5, 3) := by decide +kernel
theorem dL_law_1219 : decode cL_law 1219 = .ok (.iconst 0, 1) := by decide +kernel
theorem dL_law_1220 : decode cL_law 1220 = .ok (.ireturn, 1) := by decide +kernel
theorem dL_law_1221 : decode cL_law 1221 = .ok (.iload 5, 2) := by decide +kernel
theorem dL_law_1223 : decode cL_law 1223 = .ok (.ifCond .ne 15, 3) := by decide +kernel
theorem dL_law_1226 : decode cL_law 1226 = .ok (.aload_n 3, 1) := by decide +kernel
theorem dL_law_1227 : decode cL_law 1227 = .ok (.iconst 0, 1) := by decide +kernel
theorem dL_law_1228 : decode cL_law 1228 = .ok (.laload, 1) := by decide +kernel
theorem dL_law_1229 : decode cL_law 1229 = .ok (.iload 6, 2) := by decide +kernel
theorem dL_law_1231 : decode cL_law 1231 = .ok (.i2l, 1) := by decide +kernel
theorem dL_law_1232 : decode cL_law 1232 = .ok (.lcmp, 1) := by decide +kernel
theorem dL_law_1233 : decode cL_law 1233 = .ok (.ifCond .eq 5, 3) := by decide +kernel
theorem dL_law_1236 : decode cL_law 1236 = .ok (.iconst 0, 1) := by decide +kernel
theorem dL_law_1237 : decode cL_law 1237 = .ok (.ireturn, 1) := by decide +kernel
theorem dL_law_1238 : decode cL_law 1238 = .ok (.goto 285, 3) := by decide +kernel
theorem dL_law_1241 : decode cL_law 1241 = .ok (.aload_n 1, 1) := by decide +kernel
theorem dL_law_1242 : decode cL_law 1242 = .ok (.aload_n 3, 1) := by decide +kernel
theorem dL_law_1243 : decode cL_law 1243 = .ok (.invokestatic 153, 3) := by decide +kernel
theorem dL_law_1246 : decode cL_law 1246 = .ok (.istore 5, 2) := by decide +kernel
theorem dL_law_1248 : decode cL_law 1248 = .ok (.aload_n 2, 1) := by decide +kernel
theorem dL_law_1249 : decode cL_law 1249 = .ok (.invokevirtual 156, 3) := by decide +kernel
theorem dL_law_1252 : decode cL_law 1252 = .ok (.istore 6, 2) := by decide +kernel
theorem dL_law_1254 : decode cL_law 1254 = .ok (.aload_n 2, 1) := by decide +kernel
theorem dL_law_1255 : decode cL_law 1255 = .ok (.invokevirtual 95, 3) := by decide +kernel
theorem dL_law_1258 : decode cL_law 1258 = .ok (.iload 5, 2) := by decide +kernel
theorem dL_law_1260 : decode cL_law 1260 = .ok (.if_icmp .eq 5, 3) := by decide +kernel
theorem dL_law_1263 : decode cL_law 1263 = .ok (.iconst 0, 1) := by decide +kernel
theorem dL_law_1264 : decode cL_law 1264 = .ok (.ireturn, 1) := by decide +kernel
theorem dL_law_1265 : decode cL_law 1265 = .ok (.iload 5, 2) := by decide +kernel
theorem dL_law_1267 : decode cL_law 1267 = .ok (.ifCond .ne 15, 3) := by decide +kernel
theorem dL_law_1270 : decode cL_law 1270 = .ok (.aload_n 3, 1) := by decide +kernel
theorem dL_law_1271 : decode cL_law 1271 = .ok (.iconst 0, 1) := by decide +kernel
theorem dL_law_1272 : decode cL_law 1272 = .ok (.laload, 1) := by decide +kernel
theorem dL_law_1273 : decode cL_law 1273 = .ok (.iload 6, 2) := by decide +kernel
theorem dL_law_1275 : decode cL_law 1275 = .ok (.i2l, 1) := by decide +kernel
theorem dL_law_1276 : decode cL_law 1276 = .ok (.lcmp, 1) := by decide +kernel
theorem dL_law_1277 : decode cL_law 1277 = .ok (.ifCond .eq 5, 3) := by decide +kernel
theorem dL_law_1280 : decode cL_law 1280 = .ok (.iconst 0, 1) := by decide +kernel
theorem dL_law_1281 : decode cL_law 1281 = .ok (.ireturn, 1) := by decide +kernel
theorem dL_law_1282 : decode cL_law 1282 = .ok (.goto 241, 3) := by decide +kernel
theorem dL_law_1285 : decode cL_law 1285 = .ok (.aload_n 1, 1) := by decide +kernel
theorem dL_law_1286 : decode cL_law 1286 = .ok (.invokevirtual 157, 3) := by decide +kernel
theorem dL_law_1289 : decode cL_law 1289 = .ok (.aload_n 2, 1) := by decide +kernel
theorem dL_law_1290 : decode cL_law 1290 = .ok (.invokevirtual 160, 3) := by decide +kernel
theorem dL_law_1293 : decode cL_law 1293 = .ok (.if_icmp .eq 230, 3) := by decide +kernel
theorem dL_law_1296 : decode cL_law 1296 = .ok (.iconst 0, 1) := by decide +kernel
theorem dL_law_1297 : decode cL_law 1297 = .ok (.ireturn, 1) := by decide +kernel
theorem dL_law_1298 : decode cL_law 1298 = .ok (.aload_n 1, 1) := by decide +kernel
theorem dL_law_1299 : decode cL_law 1299 = .ok (.aload_n 0, 1) := by decide +kernel
theorem dL_law_1300 : decode cL_law 1300 = .ok (.iload 4, 2) := by decide +kernel
theorem dL_law_1302 : decode cL_law 1302 = .ok (.iconst 1, 1) := by decide +kernel
theorem dL_law_1303 : decode cL_law 1303 = .ok (.iadd, 1) := by decide +kernel
theorem dL_law_1304 : decode cL_law 1304 = .ok (.iaload, 1) := by decide +kernel
theorem dL_law_1305 : decode cL_law 1305 = .ok (.aload_n 0, 1) := by decide +kernel
theorem dL_law_1306 : decode cL_law 1306 = .ok (.iload 4, 2) := by decide +kernel
theorem dL_law_1308 : decode cL_law 1308 = .ok (.iconst 2, 1) := by decide +kernel
theorem dL_law_1309 : decode cL_law 1309 = .ok (.iadd, 1) := by decide +kernel
theorem dL_law_1310 : decode cL_law 1310 = .ok (.iaload, 1) := by decide +kernel
theorem dL_law_1311 : decode cL_law 1311 = .ok (.aload_n 0, 1) := by decide +kernel
theorem dL_law_1312 : decode cL_law 1312 = .ok (.iload 4, 2) := by decide +kernel
theorem dL_law_1314 : decode cL_law 1314 = .ok (.iconst 3, 1) := by decide +kernel
theorem dL_law_1315 : decode cL_law 1315 = .ok (.iadd, 1) := by decide +kernel
theorem dL_law_1316 : decode cL_law 1316 = .ok (.iaload, 1) := by decide +kernel
theorem dL_law_1317 : decode cL_law 1317 = .ok (.aload_n 3, 1) := by decide +kernel
theorem dL_law_1318 : decode cL_law 1318 = .ok (.invokestatic 161, 3) := by decide +kernel
theorem dL_law_1321 : decode cL_law 1321 = .ok (.istore 5, 2) := by decide +kernel
theorem dL_law_1323 : decode cL_law 1323 = .ok (.aload_n 2, 1) := by decide +kernel
theorem dL_law_1324 : decode cL_law 1324 = .ok (.aload_n 0, 1) := by decide +kernel
theorem dL_law_1325 : decode cL_law 1325 = .ok (.iload 4, 2) := by decide +kernel
theorem dL_law_1327 : decode cL_law 1327 = .ok (.iconst 1, 1) := by decide +kernel
theorem dL_law_1328 : decode cL_law 1328 = .ok (.iadd, 1) := by decide +kernel
theorem dL_law_1329 : decode cL_law 1329 = .ok (.iaload, 1) := by decide +kernel
theorem dL_law_1330 : decode cL_law 1330 = .ok (.aload_n 0, 1) := by decide +kernel
theorem dL_law_1331 : decode cL_law 1331 = .ok (.iload 4, 2) := by decide +kernel
theorem dL_law_1333 : decode cL_law 1333 = .ok (.iconst 2, 1) := by decide +kernel
theorem dL_law_1334 : decode cL_law 1334 = .ok (.iadd, 1) := by decide +kernel
theorem dL_law_1335 : decode cL_law 1335 = .ok (.iaload, 1) := by decide +kernel
theorem dL_law_1336 : decode cL_law 1336 = .ok (.aload_n 0, 1) := by decide +kernel
theorem dL_law_1337 : decode cL_law 1337 = .ok (.iload 4, 2) := by decide +kernel
theorem dL_law_1339 : decode cL_law 1339 = .ok (.iconst 3, 1) := by decide +kernel
theorem dL_law_1340 : decode cL_law 1340 = .ok (.iadd, 1) := by decide +kernel
theorem dL_law_1341 : decode cL_law 1341 = .ok (.iaload, 1) := by decide +kernel
theorem dL_law_1342 : decode cL_law 1342 = .ok (.invokevirtual 163, 3) := by decide +kernel
theorem dL_law_1345 : decode cL_law 1345 = .ok (.lstore 6, 2) := by decide +kernel
theorem dL_law_1347 : decode cL_law 1347 = .ok (.aload_n 2, 1) := by decide +kernel
theorem dL_law_1348 : decode cL_law 1348 = .ok (.invokevirtual 95, 3) := by decide +kernel
theorem dL_law_1351 : decode cL_law 1351 = .ok (.iload 5, 2) := by decide +kernel
theorem dL_law_1353 : decode cL_law 1353 = .ok (.if_icmp .eq 5, 3) := by decide +kernel
theorem dL_law_1356 : decode cL_law 1356 = .ok (.iconst 0, 1) := by decide +kernel
theorem dL_law_1357 : decode cL_law 1357 = .ok (.ireturn, 1) := by decide +kernel
theorem dL_law_1358 : decode cL_law 1358 = .ok (.iload 5, 2) := by decide +kernel
theorem dL_law_1360 : decode cL_law 1360 = .ok (.ifCond .ne 14, 3) := by decide +kernel
theorem dL_law_1363 : decode cL_law 1363 = .ok (.aload_n 3, 1) := by decide +kernel
theorem dL_law_1364 : decode cL_law 1364 = .ok (.iconst 0, 1) := by decide +kernel
theorem dL_law_1365 : decode cL_law 1365 = .ok (.laload, 1) := by decide +kernel
theorem dL_law_1366 : decode cL_law 1366 = .ok (.lload 6, 2) := by decide +kernel
theorem dL_law_1368 : decode cL_law 1368 = .ok (.lcmp, 1) := by decide +kernel
theorem dL_law_1369 : decode cL_law 1369 = .ok (.ifCond .eq 5, 3) := by decide +kernel
theorem dL_law_1372 : decode cL_law 1372 = .ok (.iconst 0, 1) := by decide +kernel
theorem dL_law_1373 : decode cL_law 1373 = .ok (.ireturn, 1) := by decide +kernel
theorem dL_law_1374 : decode cL_law 1374 = .ok (.goto 149, 3) := by decide +kernel
theorem dL_law_1377 : decode cL_law 1377 = .ok (.aload_n 1, 1) := by decide +kernel
theorem dL_law_1378 : decode cL_law 1378 = .ok (.aload_n 0, 1) := by decide +kernel
theorem dL_law_1379 : decode cL_law 1379 = .ok (.iload 4, 2) := by decide +kernel
theorem dL_law_1381 : decode cL_law 1381 = .ok (.iconst 1, 1) := by decide +kernel
theorem dL_law_1382 : decode cL_law 1382 = .ok (.iadd, 1) := by decide +kernel
theorem dL_law_1383 : decode cL_law 1383 = .ok (.iaload, 1) := by decide +kernel
theorem dL_law_1384 : decode cL_law 1384 = .ok (.aload_n 0, 1) := by decide +kernel
theorem dL_law_1385 : decode cL_law 1385 = .ok (.iload 4, 2) := by decide +kernel
theorem dL_law_1387 : decode cL_law 1387 = .ok (.iconst 2, 1) := by decide +kernel
theorem dL_law_1388 : decode cL_law 1388 = .ok (.iadd, 1) := by decide +kernel
theorem dL_law_1389 : decode cL_law 1389 = .ok (.iaload, 1) := by decide +kernel
theorem dL_law_1390 : decode cL_law 1390 = .ok (.aload_n 0, 1) := by decide +kernel
theorem dL_law_1391 : decode cL_law 1391 = .ok (.iload 4, 2) := by decide +kernel
theorem dL_law_1393 : decode cL_law 1393 = .ok (.iconst 3, 1) := by decide +kernel
theorem dL_law_1394 : decode cL_law 1394 = .ok (.iadd, 1) := by decide +kernel
theorem dL_law_1395 : decode cL_law 1395 = .ok (.iaload, 1) := by decide +kernel
theorem dL_law_1396 : decode cL_law 1396 = .ok (.aload_n 3, 1) := by decide +kernel
theorem dL_law_1397 : decode cL_law 1397 = .ok (.invokestatic 164, 3) := by decide +kernel
theorem dL_law_1400 : decode cL_law 1400 = .ok (.istore 5, 2) := by decide +kernel
theorem dL_law_1402 : decode cL_law 1402 = .ok (.aload_n 2, 1) := by decide +kernel
theorem dL_law_1403 : decode cL_law 1403 = .ok (.aload_n 0, 1) := by decide +kernel
theorem dL_law_1404 : decode cL_law 1404 = .ok (.iload 4, 2) := by decide +kernel
theorem dL_law_1406 : decode cL_law 1406 = .ok (.iconst 1, 1) := by decide +kernel
theorem dL_law_1407 : decode cL_law 1407 = .ok (.iadd, 1) := by decide +kernel
theorem dL_law_1408 : decode cL_law 1408 = .ok (.iaload, 1) := by decide +kernel
theorem dL_law_1409 : decode cL_law 1409 = .ok (.aload_n 0, 1) := by decide +kernel
theorem dL_law_1410 : decode cL_law 1410 = .ok (.iload 4, 2) := by decide +kernel
theorem dL_law_1412 : decode cL_law 1412 = .ok (.iconst 2, 1) := by decide +kernel
theorem dL_law_1413 : decode cL_law 1413 = .ok (.iadd, 1) := by decide +kernel
theorem dL_law_1414 : decode cL_law 1414 = .ok (.iaload, 1) := by decide +kernel
theorem dL_law_1415 : decode cL_law 1415 = .ok (.aload_n 0, 1) := by decide +kernel
theorem dL_law_1416 : decode cL_law 1416 = .ok (.iload 4, 2) := by decide +kernel
theorem dL_law_1418 : decode cL_law 1418 = .ok (.iconst 3, 1) := by decide +kernel
theorem dL_law_1419 : decode cL_law 1419 = .ok (.iadd, 1) := by decide +kernel
theorem dL_law_1420 : decode cL_law 1420 = .ok (.iaload, 1) := by decide +kernel
theorem dL_law_1421 : decode cL_law 1421 = .ok (.invokevirtual 166, 3) := by decide +kernel
theorem dL_law_1424 : decode cL_law 1424 = .ok (.lstore 6, 2) := by decide +kernel
theorem dL_law_1426 : decode cL_law 1426 = .ok (.aload_n 2, 1) := by decide +kernel
theorem dL_law_1427 : decode cL_law 1427 = .ok (.invokevirtual 95, 3) := by decide +kernel
theorem dL_law_1430 : decode cL_law 1430 = .ok (.iload 5, 2) := by decide +kernel
theorem dL_law_1432 : decode cL_law 1432 = .ok (.if_icmp .eq 5, 3) := by decide +kernel
theorem dL_law_1435 : decode cL_law 1435 = .ok (.iconst 0, 1) := by decide +kernel
theorem dL_law_1436 : decode cL_law 1436 = .ok (.ireturn, 1) := by decide +kernel
theorem dL_law_1437 : decode cL_law 1437 = .ok (.iload 5, 2) := by decide +kernel
theorem dL_law_1439 : decode cL_law 1439 = .ok (.ifCond .ne 14, 3) := by decide +kernel
theorem dL_law_1442 : decode cL_law 1442 = .ok (.aload_n 3, 1) := by decide +kernel
theorem dL_law_1443 : decode cL_law 1443 = .ok (.iconst 0, 1) := by decide +kernel
theorem dL_law_1444 : decode cL_law 1444 = .ok (.laload, 1) := by decide +kernel
theorem dL_law_1445 : decode cL_law 1445 = .ok (.lload 6, 2) := by decide +kernel
theorem dL_law_1447 : decode cL_law 1447 = .ok (.lcmp, 1) := by decide +kernel
theorem dL_law_1448 : decode cL_law 1448 = .ok (.ifCond .eq 5, 3) := by decide +kernel
theorem dL_law_1451 : decode cL_law 1451 = .ok (.iconst 0, 1) := by decide +kernel
theorem dL_law_1452 : decode cL_law 1452 = .ok (.ireturn, 1) := by decide +kernel
theorem dL_law_1453 : decode cL_law 1453 = .ok (.goto 70, 3) := by decide +kernel
theorem dL_law_1456 : decode cL_law 1456 = .ok (.aload_n 1, 1) := by decide +kernel
theorem dL_law_1457 : decode cL_law 1457 = .ok (.aload_n 0, 1) := by decide +kernel
theorem dL_law_1458 : decode cL_law 1458 = .ok (.iload 4, 2) := by decide +kernel
theorem dL_law_1460 : decode cL_law 1460 = .ok (.iconst 1, 1) := by decide +kernel
theorem dL_law_1461 : decode cL_law 1461 = .ok (.iadd, 1) := by decide +kernel
theorem dL_law_1462 : decode cL_law 1462 = .ok (.iaload, 1) := by decide +kernel
theorem dL_law_1463 : decode cL_law 1463 = .ok (.aload_n 0, 1) := by decide +kernel
theorem dL_law_1464 : decode cL_law 1464 = .ok (.iload 4, 2) := by decide +kernel
theorem dL_law_1466 : decode cL_law 1466 = .ok (.iconst 2, 1) := by decide +kernel
theorem dL_law_1467 : decode cL_law 1467 = .ok (.iadd, 1) := by decide +kernel
theorem dL_law_1468 : decode cL_law 1468 = .ok (.iaload, 1) := by decide +kernel
theorem dL_law_1469 : decode cL_law 1469 = .ok (.aload_n 3, 1) := by decide +kernel
theorem dL_law_1470 : decode cL_law 1470 = .ok (.invokestatic 167, 3) := by decide +kernel
theorem dL_law_1473 : decode cL_law 1473 = .ok (.istore 5, 2) := by decide +kernel
theorem dL_law_1475 : decode cL_law 1475 = .ok (.aload_n 2, 1) := by decide +kernel
theorem dL_law_1476 : decode cL_law 1476 = .ok (.aload_n 0, 1) := by decide +kernel
theorem dL_law_1477 : decode cL_law 1477 = .ok (.iload 4, 2) := by decide +kernel
theorem dL_law_1479 : decode cL_law 1479 = .ok (.iconst 1, 1) := by decide +kernel
theorem dL_law_1480 : decode cL_law 1480 = .ok (.iadd, 1) := by decide +kernel
theorem dL_law_1481 : decode cL_law 1481 = .ok (.iaload, 1) := by decide +kernel
theorem dL_law_1482 : decode cL_law 1482 = .ok (.aload_n 0, 1) := by decide +kernel
theorem dL_law_1483 : decode cL_law 1483 = .ok (.iload 4, 2) := by decide +kernel
theorem dL_law_1485 : decode cL_law 1485 = .ok (.iconst 2, 1) := by decide +kernel
theorem dL_law_1486 : decode cL_law 1486 = .ok (.iadd, 1) := by decide +kernel
theorem dL_law_1487 : decode cL_law 1487 = .ok (.iaload, 1) := by decide +kernel
theorem dL_law_1488 : decode cL_law 1488 = .ok (.invokevirtual 169, 3) := by decide +kernel
theorem dL_law_1491 : decode cL_law 1491 = .ok (.lstore 6, 2) := by decide +kernel
theorem dL_law_1493 : decode cL_law 1493 = .ok (.aload_n 2, 1) := by decide +kernel
theorem dL_law_1494 : decode cL_law 1494 = .ok (.invokevirtual 95, 3) := by decide +kernel
theorem dL_law_1497 : decode cL_law 1497 = .ok (.iload 5, 2) := by decide +kernel
theorem dL_law_1499 : decode cL_law 1499 = .ok (.if_icmp .eq 5, 3) := by decide +kernel
theorem dL_law_1502 : decode cL_law 1502 = .ok (.iconst 0, 1) := by decide +kernel
theorem dL_law_1503 : decode cL_law 1503 = .ok (.ireturn, 1) := by decide +kernel
theorem dL_law_1504 : decode cL_law 1504 = .ok (.iload 5, 2) := by decide +kernel
theorem dL_law_1506 : decode cL_law 1506 = .ok (.ifCond .ne 14, 3) := by decide +kernel
theorem dL_law_1509 : decode cL_law 1509 = .ok (.aload_n 3, 1) := by decide +kernel
theorem dL_law_1510 : decode cL_law 1510 = .ok (.iconst 0, 1) := by decide +kernel
theorem dL_law_1511 : decode cL_law 1511 = .ok (.laload, 1) := by decide +kernel
theorem dL_law_1512 : decode cL_law 1512 = .ok (.lload 6, 2) := by decide +kernel
theorem dL_law_1514 : decode cL_law 1514 = .ok (.lcmp, 1) := by decide +kernel
theorem dL_law_1515 : decode cL_law 1515 = .ok (.ifCond .eq 5, 3) := by decide +kernel
theorem dL_law_1518 : decode cL_law 1518 = .ok (.iconst 0, 1) := by decide +kernel
theorem dL_law_1519 : decode cL_law 1519 = .ok (.ireturn, 1) := by decide +kernel
theorem dL_law_1520 : decode cL_law 1520 = .ok (.goto 3, 3) := by decide +kernel
theorem dL_law_1523 : decode cL_law 1523 = .ok (.iinc 4 6, 3) := by decide +kernel
theorem dL_law_1526 : decode cL_law 1526 = .ok (.goto (-1503), 3) := by decide +kernel
theorem dL_law_1529 : decode cL_law 1529 = .ok (.iconst 1, 1) := by decide +kernel
theorem dL_law_1530 : decode cL_law 1530 = .ok (.ireturn, 1) := by decide +kernel
abbrev vwCl : List vw_C := [(RX0, TX0, 7), (RX1, TX1, 5), (RX2, TX2, 4), (RX3, TX3, 7), (RX4, TX4, 7), (RX5, TX5, 26)]
end
section
/-! ===== the frame of this proof: a world by kinds and places; contracts over the whole world ===== -/
section RHA
/-! cells by kind and place; addresses by kind and place -/
def rh_P (G : va_G) (ad : Nat → Nat → Nat) (ce : Nat → Nat → Option va_E) (H : Heap) : Prop := ∀ (k i : Nat) (e : va_E), ce k i = some e → va_at G vwCl (ad k i, e) H
/-- apart, and of a kind -/
def rh_D (A : Nat → Prop) (ad : Nat → Nat → Nat) (ok : Nat → Nat → Prop) : Prop := (∀ k i k' i' : Nat, ok k i → ok k' i' → ad k i = ad k' i' → k = k' ∧ i = i') ∧ ∀ k i : Nat, ok k i → A (ad k i)
def rh_up (ce : Nat → Nat → Option va_E) (k i : Nat) (e : va_E) : Nat → Nat → Option va_E := fun a b => if a = k ∧ b = i then some e else ce a b
theorem rh_P.set {G : va_G} {ad : Nat → Nat → Nat} {ce : Nat → Nat → Option va_E} {A : Nat → Prop} {H H1 : Heap} (h : rh_P G ad ce H) {ok : Nat → Nat → Prop} (hok : ∀ k i e, ce k i = some e → ok k i) (hD : rh_D A ad ok) {k i : Nat} (hki : ok k i) {e : va_E} (he : va_at G vwCl (ad k i, e) H1) (oq : ∀ q : Nat, q ≠ ad k i → H1[q]? = H[q]?) : rh_P G ad (rh_up ce k i e) H1 := by
  intro a b e' h'
  by_cases hab : a = k ∧ b = i
  · obtain ⟨rfl, rfl⟩ := hab
    simp [rh_up] at h'
    rw [← h']
    exact he
  · simp [rh_up, hab] at h'
    exact (h a b e' h').kept (oq _ (fun z => hab (hD.1 a b k i (hok a b e' h') hki z)))
theorem rh_P.kept {G : va_G} {ad : Nat → Nat → Nat} {ce : Nat → Nat → Option va_E} {H H1 : Heap} (h : rh_P G ad ce H) (hq : ∀ k i e, ce k i = some e → H1[ad k i]? = H[ad k i]?) : rh_P G ad ce H1 := fun k i e he => (h k i e he).kept (hq k i e he)
theorem rh_P.to {G : va_G} {ad : Nat → Nat → Nat} {ce ce' : Nat → Nat → Option va_E} {H : Heap} (h : rh_P G ad ce H) (hc : ∀ k i e, ce' k i = some e → ce k i = some e) : rh_P G ad ce' H := fun k i e he => h k i e (hc k i e he)
theorem rh_one {G : va_G} {a : Nat} {e : va_E} {H : Heap} (h : va_at G vwCl (a, e) H) : va_P G vwCl [(a, e)] H := by
  intro k q hk
  have hz : k < 1 := (List.getElem?_eq_some_iff.mp hk).1
  rw [show k = 0 by omega] at hk
  cases hk
  exact h
/-! what the house throws -/
def rh_e1 : String := "java/lang/IndexOutOfBoundsException"
def rh_e2 : String := "java/lang/IllegalArgumentException"
def rh_e3 : String := "java/lang/IllegalStateException"
def rh_ex : List String := ["java/lang/IndexOutOfBoundsException", "java/lang/IllegalArgumentException", "java/lang/IllegalStateException"]
def rh_sup : List String := ["java/lang/RuntimeException", "java/lang/Exception", "java/lang/Throwable"]
def rh_tx : List (Nat × String) := [(75, "there are 30 files"), (91, "the file is not a draft"), (93, "there are 60 calls"), (101, "the file is not a draft, or has no calls"), (139, "the call is not owed"), (141, "the call was accepted more than a month ago"), (146, "the call is not in dispute"), (167, "it is the last month"), (179, "the year is not over"), (190, "an argument is out of its range"), (199, "there is no such operator"), (202, "host and home are the same"), (204, "there is no such file"), (206, "there is no such call")]
/-- the array kinds: int, boolean, long, and the four of the house's own -/
def rh_ty (ca : Nat → ClassId) : List (ClassId × FieldType) := [(ca 0, .int), (ca 1, .boolean), (ca 2, .long), (ca 3, .object "RoamingHouse$Operator"), (ca 4, .object "RoamingHouse$Pair"), (ca 5, .object "RoamingHouse$CallFile"), (ca 6, .object "RoamingHouse$Call")]
/-- what a method knows of the machine at its start; cells of A may change -/
def rh_E (G : va_G) (ca : Nat → ClassId) (A : Nat → Prop) (U : State) : Prop :=
  va_K G vwCl (rh_ty ca) U ∧ vx_Zq Bundle.tN "UNASSIGNED_STACK" Bundle.steD A U U.heap ∧ vx_Zq Bundle.tN "SUPPRESSED_SENTINEL" Bundle.listD A U U.heap ∧
    (∀ E ∈ rh_ex, va_Nw (.castable E E) U) ∧ (∀ q ∈ rh_tx, ∃ a : Nat, vk_R RX4 q.1 q.2 a U) ∧ va_Nw (.methodLinkNest RX0 52 yX4_yearOf RX4) U ∧ va_Nw (.methodLinkNest RX4 43 yX2_init RX4) U ∧ (∀ Y ∈ rh_sup, va_Nw (.declares (Bundle.initS Y)) U)
theorem rh_E.warm {G : va_G} {ca : Nat → ClassId} {A : Nat → Prop} {s U : State} {locs : List Loc} (h : rh_E G ca A s) (hS : va_S A s.heap U.heap locs) (hW : s.WarmedH U.vm) : rh_E G ca A U := by
  obtain ⟨h1, h2, h3, h4, h5, h6, h7, h8⟩ := h
  refine ⟨va_K.moved hW.alike h1, ?_, ?_, fun E hE => va_Nw.warmC hW (h4 E hE), fun q hq => ?_, va_Nw.warmM hW h6, va_Nw.warmM hW h7, fun Y hY => va_Nw.warmD hW (h8 Y hY)⟩
  · exact vx_Zq.moved hW.alike (vx_Zq.kept h2 (fun a ha hn => hS.2.1 a ha hn))
  · exact vx_Zq.moved hW.alike (vx_Zq.kept h3 (fun a ha hn => hS.2.1 a ha hn))
  · obtain ⟨a, ha⟩ := h5 q hq
    exact ⟨a, vk_R.warm hW ha⟩
/-! contracts -/
def rh_Pc (G : va_G) (ca : Nat → ClassId) (A : Nat → Prop) (av : List Value) (Φ : Heap → Prop) : Array Value → State → Prop := va_Pc av (fun U => rh_E G ca A U ∧ (∀ q : Nat, U.heap.size ≤ q → A q) ∧ Φ U.heap)
def rh_Q (A : Nat → Prop) (N : Option Value → Heap → Prop) : Array Value → State → Outcome → State → Prop := fun _ st oc t => (∃ v : Option Value, oc = .returned v ∧ N v t.heap) ∧ va_F A st t
def rh_XC (A : Nat → Prop) (X : String → Heap → Prop) : String → State → State → Prop := fun E st t => X E t.heap ∧ va_F A st t
def rh_M (l : Launch) (y : MethodName) (ws : List Cond) (rm : Room) (G : va_G) (ca : Nat → ClassId) (A : Nat → Prop) (av : List Value) (Φ : Heap → Prop) (N : Option Value → Heap → Prop) (X : String → Heap → Prop) (mc ms : Nat) : Prop :=
  vx_Met l y ws rm (rh_Pc G ca A av Φ) (rh_Q A N) (rh_XC A X) mc ms A
/-- nothing is thrown -/
def rh_no : String → Heap → Prop := fun _ _ => False
theorem rh_blind {G : va_G} {ca : Nat → ClassId} {A : Nat → Prop} {av : List Value} {Φ : Heap → Prop} : FrameBlind (rh_Pc G ca A av Φ) := by
  intro a U g mk h
  obtain ⟨h1, ⟨e1, e2, e3, e4, e5, e6, e7, e8⟩, h3, h4⟩ := h
  have hvm : (U.calling g mk a).vm = U.vm := rfl
  refine ⟨h1, ⟨va_K.moved (u := U) (U := U.calling g mk a) (Vm.Alike.refl U.vm) e1, vx_Zq.moved (u := U) (U := U.calling g mk a) (Vm.Alike.refl U.vm) e2, vx_Zq.moved (u := U) (U := U.calling g mk a) (Vm.Alike.refl U.vm) e3, fun E hE => va_Nw.same rfl hvm.symm (e4 E hE), fun q hq => ?_, va_Nw.same rfl hvm.symm e6, va_Nw.same rfl hvm.symm e7, fun Y hY => va_Nw.same rfl hvm.symm (e8 Y hY)⟩, h3, h4⟩
  obtain ⟨b, hb⟩ := e5 q hq
  exact ⟨b, vk_R.same hvm hb⟩
theorem rh_pre {G : va_G} {ca : Nat → ClassId} {A : Nat → Prop} {s : State} {H : Heap} {locs : List Loc} {av : List Value} {Φ : Heap → Prop} (hE : rh_E G ca A s) (hS : va_S A s.heap H locs) (hB : (∀ q : Nat, s.heap.size ≤ q → A q)) (hΦ : Φ H) : PreS s H (rh_Pc G ca A av Φ) av :=
  ⟨rh_blind, fun U hU hW => ⟨rfl, hE.warm (by rw [hU]; exact hS) hW, by rw [hU]; exact fun q hq => hB q (Nat.le_trans hS.1 hq), by rw [hU]; exact hΦ⟩⟩
theorem rh_preV {G : va_G} {ca : Nat → ClassId} {A : Nat → Prop} {s : State} {H : Heap} {locs : List Loc} {b : Nat} {As : List Value} {Φ : Heap → Prop} {ci : Nat} {fs : List Value} {r : vw_C} (hE : rh_E G ca A s) (hS : va_S A s.heap H locs) (hB : (∀ q : Nat, s.heap.size ≤ q → A q)) (hat : va_at G vwCl (b, .inr (ci, fs)) H) (hc : vwCl[ci]? = some r) (hΦ : Φ H) : PreV s H r.1 b (rh_Pc G ca A (.ref b :: As) Φ) As :=
  ⟨rh_blind, va_recv hE.1 (rh_one hat) hc (q0 := 0) rfl, (rh_pre hE hS hB hΦ).2⟩
end RHA
section RHB
variable {p : Program} {l : Launch} {e : Env} {R : Room} {s : State} {m : MethodId} {args : Array Value} {below : List Frame} {meth : Method} {c : Code} {H : Heap} {locs : List Loc} {cells slots : Nat} {Q : State → Prop}
variable {pc : Nat} {ls : Array Slot} {rest st0 : List Value} {a : Array Value} {H0 : Heap} {mc ms : Nat} {A : Nat → Prop} {N : Option Value → Heap → Prop} {X : String → Heap → Prop}
/-- a call of a method that may throw -/
theorem rh_call (hr : vx_Run p l e R s m args below meth c H locs cells slots mc ms (F0 m pc ls st0) rest (rh_Q A N a) (rh_XC A X) A) (hS : va_S A H0 H locs)
    (kx : ∀ (E : String) (ce : Cell) (q9 : Addr) (H1 : Heap) (locs1 : List Loc), X E H1 → va_S A H0 H1 locs1 → H1[q9]? = some ce → ce.vm = .none → s.vm.findClass E = some ce.cls → vx_W p l e R s m args below meth c H1 locs1 (cells + mc) (slots + ms) Q (F0 m pc ls rest) q9)
    (kk : ∀ (v : Option Value) (H1 : Heap) (locs1 : List Loc), N v H1 → va_S A H0 H1 locs1 → W p l e R s m args below meth c H1 locs1 (cells + mc) (slots + ms) Q (F0 m (pc + 3) ls (v.toList ++ rest))) : W p l e R s m args below meth c H locs cells slots Q (F0 m pc ls st0) := by
  intro T hT X'
  rcases hr T hT X' with ⟨v, st₀, t, T', L, h0, Y, hL, e1, e2, ⟨⟨v', hv, hn⟩, hF⟩, st⟩ | ⟨q, st₀, t, T', L, E, ce, h0, Y, hL, e1, e2, ⟨hn, hF⟩, hce, hcv, hcl, st⟩
  · cases hv
    obtain ⟨k1, k2, k3⟩ := vx_keep h0 e1 hS (fun _ _ h => h) (fun _ h => h) hL hF
    obtain ⟨t2, a1, b1⟩ := kk v T'.heap (locs ++ L) (by rw [e1]; exact hn) k3 T' rfl Y
    exact ⟨t2, st t2 a1, b1⟩
  · obtain ⟨k1, k2, k3⟩ := vx_keep h0 e1 hS (fun _ _ h => h) (fun _ h => h) hL hF
    obtain ⟨t2, a1, b1⟩ := kx E ce q T'.heap (locs ++ L) (by rw [e1]; exact hn) k3 (by rw [e1]; exact hce) hcv hcl T' rfl Y
    exact ⟨t2, st.trans a1, b1⟩
/-- .. that does not -/
theorem rh_calln (hr : vx_Run p l e R s m args below meth c H locs cells slots mc ms (F0 m pc ls st0) rest (rh_Q A N a) (rh_XC A rh_no) A) (hS : va_S A H0 H locs)
    (kk : ∀ (v : Option Value) (H1 : Heap) (locs1 : List Loc), N v H1 → va_S A H0 H1 locs1 → W p l e R s m args below meth c H1 locs1 (cells + mc) (slots + ms) Q (F0 m (pc + 3) ls (v.toList ++ rest))) : W p l e R s m args below meth c H locs cells slots Q (F0 m pc ls st0) :=
  rh_call hr hS (fun _ _ _ _ _ h => h.elim) kk
/-- .. by a contract that speaks of answers alone -/
theorem rh_callm (hr : va_Run p l e R s m args below meth c H locs cells slots mc ms (F0 m pc ls st0) rest (rh_Q A N a) A) (hS : va_S A H0 H locs)
    (kk : ∀ (v : Option Value) (H1 : Heap) (locs1 : List Loc), N v H1 → va_S A H0 H1 locs1 → W p l e R s m args below meth c H1 locs1 (cells + mc) (slots + ms) Q (F0 m (pc + 3) ls (v.toList ++ rest))) : W p l e R s m args below meth c H locs cells slots Q (F0 m pc ls st0) := by
  intro T hT X'
  obtain ⟨v, st₀, t, T', L, h0, Y, hL, e1, e2, ⟨⟨v', hv, hn⟩, hF⟩, st⟩ := hr T hT X'
  cases hv
  obtain ⟨k1, k2, k3⟩ := vx_keep h0 e1 hS (fun _ _ h => h) (fun _ h => h) hL hF
  obtain ⟨t2, a1, b1⟩ := kk v T'.heap (locs ++ L) (by rw [e1]; exact hn) k3 T' rfl Y
  exact ⟨t2, st t2 a1, b1⟩
/-! ends -/
theorem rh_iretm {cc : ByteArray} {v : Int32} (hexec : p.tables.exec = Jvm.exec) (hb : c.code = cc) (hr : meth.sig.returnType = some .int) (hlocks : meth.locks = false) (hN : N (some (.int v)) H) (hS : va_S A s.heap H locs) (h1 : cells ≤ mc) (h2 : slots ≤ ms) (hdg : decode cc pc = .ok (.ireturn, 1)) :
    W p l e R s m args below meth c H locs cells slots (MQ below (rh_Q A N) args s mc ms A) (F0 m pc ls [.int v]) :=
  W.widen h1 h2 (W.iret hexec hb hr (fun t ht _ => ⟨⟨_, rfl, by rw [ht]; exact hN⟩, hS.F ht⟩) hS.2.2 hdg)
theorem rh_vretm {cc : ByteArray} (hexec : p.tables.exec = Jvm.exec) (hb : c.code = cc) (hr : meth.sig.returnType = none) (hlocks : meth.locks = false) (hN : N none H) (hS : va_S A s.heap H locs) (h1 : cells ≤ mc) (h2 : slots ≤ ms) (hdg : decode cc pc = .ok (.return_, 1)) :
    W p l e R s m args below meth c H locs cells slots (MQ below (rh_Q A N) args s mc ms A) (F0 m pc ls []) :=
  W.widen h1 h2 (W.vret hexec hb hr (fun t ht _ => ⟨⟨_, rfl, by rw [ht]; exact hN⟩, hS.F ht⟩) hS.2.2 hdg)
theorem rh_iret {cc : ByteArray} {v : Int32} (hexec : p.tables.exec = Jvm.exec) (hb : c.code = cc) (hr : meth.sig.returnType = some .int) (hlocks : meth.locks = false) (hN : N (some (.int v)) H) (hS : va_S A s.heap H locs) (h1 : cells ≤ mc) (h2 : slots ≤ ms) (hdg : decode cc pc = .ok (.ireturn, 1)) :
    W p l e R s m args below meth c H locs cells slots (vx_MQ below (rh_Q A N) (rh_XC A X) args s mc ms A) (F0 m pc ls [.int v]) :=
  W.widen h1 h2 (vx_ret (W.iret hexec hb hr (fun t ht _ => ⟨⟨_, rfl, by rw [ht]; exact hN⟩, hS.F ht⟩) hS.2.2 hdg))
theorem rh_zret {cc : ByteArray} {v : Int32} {ty : FieldType} (hexec : p.tables.exec = Jvm.exec) (hb : c.code = cc) (hr : meth.sig.returnType = some ty) (hlocks : meth.locks = false) (hn : narrow ty (.int v) = .int v) (hN : N (some (.int v)) H) (hS : va_S A s.heap H locs) (h1 : cells ≤ mc) (h2 : slots ≤ ms) (hdg : decode cc pc = .ok (.ireturn, 1)) :
    W p l e R s m args below meth c H locs cells slots (vx_MQ below (rh_Q A N) (rh_XC A X) args s mc ms A) (F0 m pc ls [.int v]) :=
  W.widen h1 h2 (vx_ret (W.zret hexec hb hr hn (fun t ht _ => ⟨⟨_, rfl, by rw [ht]; exact hN⟩, hS.F ht⟩) hS.2.2 hdg))
theorem rh_lret {cc : ByteArray} {v : Int64} (hexec : p.tables.exec = Jvm.exec) (hb : c.code = cc) (hr : meth.sig.returnType = some .long) (hlocks : meth.locks = false) (hN : N (some (.long v)) H) (hS : va_S A s.heap H locs) (h1 : cells ≤ mc) (h2 : slots ≤ ms) (hdg : decode cc pc = .ok (.lreturn, 1)) :
    W p l e R s m args below meth c H locs cells slots (vx_MQ below (rh_Q A N) (rh_XC A X) args s mc ms A) (F0 m pc ls [.long v]) :=
  W.widen h1 h2 (vx_ret (W.lret hexec hb hr (fun t ht _ => ⟨⟨_, rfl, by rw [ht]; exact hN⟩, hS.F ht⟩) hS.2.2 hdg))
theorem rh_vret {cc : ByteArray} (hexec : p.tables.exec = Jvm.exec) (hb : c.code = cc) (hr : meth.sig.returnType = none) (hlocks : meth.locks = false) (hN : N none H) (hS : va_S A s.heap H locs) (h1 : cells ≤ mc) (h2 : slots ≤ ms) (hdg : decode cc pc = .ok (.return_, 1)) :
    W p l e R s m args below meth c H locs cells slots (vx_MQ below (rh_Q A N) (rh_XC A X) args s mc ms A) (F0 m pc ls []) :=
  W.widen h1 h2 (vx_ret (W.vret hexec hb hr (fun t ht _ => ⟨⟨_, rfl, by rw [ht]; exact hN⟩, hS.F ht⟩) hS.2.2 hdg))
theorem rh_aret {cc : ByteArray} {v : Value} {C : String} (hexec : p.tables.exec = Jvm.exec) (hb : c.code = cc) (hr : meth.sig.returnType = some (.object C)) (hlocks : meth.locks = false) (hv : v = .null ∨ ∃ a, v = .ref a) (hN : N (some v) H) (hS : va_S A s.heap H locs) (h1 : cells ≤ mc) (h2 : slots ≤ ms) (hdg : decode cc pc = .ok (.areturn, 1)) :
    W p l e R s m args below meth c H locs cells slots (vx_MQ below (rh_Q A N) (rh_XC A X) args s mc ms A) (F0 m pc ls [v]) :=
  W.widen h1 h2 (vx_ret (W.aret hexec hb hr (Or.inl ⟨C, rfl⟩) hv (fun t ht _ => ⟨⟨_, rfl, by rw [ht]; exact hN⟩, hS.F ht⟩) hS.2.2 hdg))
/-- what was thrown goes on to the caller -/
theorem rh_out {E : String} {ce : Cell} {q : Addr} (hex : ∀ x ∈ c.exceptionTable.toList, False) (hlocks : meth.locks = false) (hcell : H[q]? = some ce) (hv : ce.vm = .none) (hcl : s.vm.findClass E = some ce.cls) (hX : X E H) (hS : va_S A s.heap H locs) (h1 : cells ≤ mc) (h2 : slots ≤ ms) :
    vx_W p l e R s m args below meth c H locs cells slots (vx_MQ below (rh_Q A N) (rh_XC A X) args s mc ms A) (F0 m pc ls rest) q :=
  vx_out (fun x hx => (hex x hx).elim) hlocks hcell hv hcl (fun t ht _ => ⟨by rw [ht]; exact hX, hS.F ht⟩) hS.2.2 h1 h2
end RHB
/-- a method's start -/
theorem rh_enter {l : Launch} {y : MethodName} {ws ws' : List Cond} {rm : Room} {G : va_G} {ca : Nat → ClassId} {A : Nat → Prop} {av : List Value} {Φ : Heap → Prop} {N : Option Value → Heap → Prop} {X : String → Heap → Prop} {mc ms : Nat} {cc : ByteArray} {maxL : Nat} {ret : Option FieldType}
    (hy : plainName y.cls = true) (hw : ws = Cond.code y cc maxL ret :: ws') (hlen : (lg_sl av).length ≤ maxL)
    (body : ∀ (p : Program) (e : Env) (s : State) (m : MethodId) (below : List Frame) (meth : Method) (c : Code) (ls : Array Slot), p.tables.exec = Jvm.exec → c.code = cc → meth.sig.returnType = ret → c.maxLocals = maxL → s.vm.findClass y.cls = some m.cls → (∀ w ∈ ws, w.before av.toArray s = true) → meth.locks = false → (∀ x ∈ c.exceptionTable.toList, False) → meth.name = y.name →
      rh_E G ca A s → (∀ q : Nat, s.heap.size ≤ q → A q) → Φ s.heap → lv_has ls maxL (lv_args 0 av) →
      W p l e rm s m av.toArray below meth c s.heap [] 0 0 (vx_MQ below (rh_Q A N) (rh_XC A X) av.toArray s mc ms A) (F0 m 0 ls [])) : rh_M l y ws rm G ca A av Φ N X mc ms := by
  refine vx_ofW hy hw ?_
  intro p e s m args below meth c s₁ Bd hml hex hv
  obtain ⟨rfl, hE, hB, hΦ⟩ := hv
  rw [lg_entry_eq]
  exact body p e s m below meth c _ Bd.exec Bd.bytes Bd.returns hml (findClass_of_methodNamed Bd.named) (atoms_spec (ws := ws) Bd.pre) Bd.notSynchronized hex (name_of_methodNamed Bd.named Bd.method).1 hE hB hΦ (lv_entry av hlen)
/-- .. of a contract that speaks of answers alone -/
theorem rh_enterm {l : Launch} {y : MethodName} {ws ws' : List Cond} {rm : Room} {G : va_G} {ca : Nat → ClassId} {A : Nat → Prop} {av : List Value} {Φ : Heap → Prop} {N : Option Value → Heap → Prop} {mc ms : Nat} {cc : ByteArray} {maxL : Nat} {ret : Option FieldType}
    (hy : plainName y.cls = true) (hw : ws = Cond.code y cc maxL ret :: ws') (hlen : (lg_sl av).length ≤ maxL)
    (body : ∀ (p : Program) (e : Env) (s : State) (m : MethodId) (below : List Frame) (meth : Method) (c : Code) (ls : Array Slot), p.tables.exec = Jvm.exec → c.code = cc → meth.sig.returnType = ret → c.maxLocals = maxL → s.vm.findClass y.cls = some m.cls → (∀ w ∈ ws, w.before av.toArray s = true) → meth.locks = false → meth.name = y.name →
      rh_E G ca A s → (∀ q : Nat, s.heap.size ≤ q → A q) → Φ s.heap → lv_has ls maxL (lv_args 0 av) →
      W p l e rm s m av.toArray below meth c s.heap [] 0 0 (MQ below (rh_Q A N) av.toArray s mc ms A) (F0 m 0 ls [])) : Met l y ws rm (rh_Pc G ca A av Φ) (rh_Q A N) mc ms A := by
  refine Met.ofW hy hw ?_
  intro p e s m args below meth c s₁ Bd hml hv
  obtain ⟨rfl, hE, hB, hΦ⟩ := hv
  rw [lg_entry_eq]
  exact body p e s m below meth c _ Bd.exec Bd.bytes Bd.returns hml (findClass_of_methodNamed Bd.named) (atoms_spec (ws := ws) Bd.pre) Bd.notSynchronized (name_of_methodNamed Bd.named Bd.method).1 hE hB hΦ (lv_entry av hlen)
end
section
/-! ===== rows over a world by kinds ===== -/
section RHC
variable {p : Program} {l : Launch} {e : Env} {R : Room} {s : State} {m : MethodId} {args : Array Value} {below : List Frame} {meth : Method} {c : Code} {H : Heap} {locs : List Loc} {cells slots : Nat} {Q : State → Prop}
variable {cc : ByteArray} {pc : Nat} {ls : Array Slot} {rest : List Value} {G : va_G} {a : Nat} {tys : List (ClassId × FieldType)} {H0 : Heap} {A : Nat → Prop} {ca : Nat → ClassId}
/-- a field is read -/
theorem rh_get (hexec : p.tables.exec = Jvm.exec) (hb : c.code = cc) {own C : String} {T : u_T} {N ci index : Nat} {Ts : List Cond} (hts : ∀ w ∈ Ts, w.before args s = true) (hin : ∀ w ∈ u_ws C T N, w ∈ Ts) (hown : s.vm.findClass own = some m.cls) (hE : rh_E G ca A s) {fs : List Value} (hat : va_at G vwCl (a, .inr (ci, fs)) H) (hc : vwCl[ci]? = some (C, T, N)) (k : Nat) (hk : k < N) (hlink : (Cond.fieldLink own index (T k).1 (T k).2.1 (T k).2.2.1).before args s = true) {v : Value} (hv : fs[k]? = some v) (hdg : decode cc pc = .ok (.getfield index, 3))
    (kk : W p l e R s m args below meth c H locs cells slots Q (F0 m (pc + 3) ls (v :: rest))) : W p l e R s m args below meth c H locs cells slots Q (F0 m pc ls (.ref a :: rest)) :=
  va_get hexec hb hts hin hown hE.1 (rh_one hat) 0 rfl hc k hk hlink (fun _ h => h) hv hdg kk
/-- an int array is read -/
theorem rh_iald (hexec : p.tables.exec = Jvm.exec) (hb : c.code = cc) (hE : rh_E G ca A s) {n : Nat} {f : Nat → Int32} (hat : va_at G vwCl (a, .inl (ca 0, n, .inl f)) H) (j : Nat) (hj : j < n) (hn : n < 2 ^ 31) {i : Int32} (hi : i = nI j) (hdg : decode cc pc = .ok (.iaload, 1))
    (kk : W p l e R s m args below meth c H locs cells slots Q (F0 m (pc + 1) ls (.int (f j) :: rest))) : W p l e R s m args below meth c H locs cells slots Q (F0 m pc ls (.int i :: .ref a :: rest)) := by
  subst hi
  refine va_iald hexec hb hE.1 (rh_one hat) 0 0 rfl rfl (vp_in_nI hj hn) hdg ?_
  rw [nI_clamp (by omega)]
  exact kk
theorem rh_zald (hexec : p.tables.exec = Jvm.exec) (hb : c.code = cc) (hE : rh_E G ca A s) {n : Nat} {f : Nat → Int32} (hat : va_at G vwCl (a, .inl (ca 1, n, .inl f)) H) (j : Nat) (hj : j < n) (hn : n < 2 ^ 31) {i : Int32} (hi : i = nI j) (hdg : decode cc pc = .ok (.baload, 1))
    (kk : W p l e R s m args below meth c H locs cells slots Q (F0 m (pc + 1) ls (.int (f j) :: rest))) : W p l e R s m args below meth c H locs cells slots Q (F0 m pc ls (.int i :: .ref a :: rest)) := by
  subst hi
  refine va_zald hexec hb hE.1 (rh_one hat) 0 1 rfl rfl (vp_in_nI hj hn) hdg ?_
  rw [nI_clamp (by omega)]
  exact kk
theorem rh_lald (hexec : p.tables.exec = Jvm.exec) (hb : c.code = cc) (hE : rh_E G ca A s) {n : Nat} {f : Nat → Int64} (hat : va_at G vwCl (a, .inl (ca 2, n, .inr (.inl f))) H) (j : Nat) (hj : j < n) (hn : n < 2 ^ 31) {i : Int32} (hi : i = nI j) (hdg : decode cc pc = .ok (.laload, 1))
    (kk : W p l e R s m args below meth c H locs cells slots Q (F0 m (pc + 1) ls (.long (f j) :: rest))) : W p l e R s m args below meth c H locs cells slots Q (F0 m pc ls (.int i :: .ref a :: rest)) := by
  subst hi
  refine va_lald hexec hb hE.1 (rh_one hat) 0 2 rfl rfl (vp_in_nI hj hn) hdg ?_
  rw [nI_clamp (by omega)]
  exact kk
/-- an array of references is read -/
theorem rh_qald (hexec : p.tables.exec = Jvm.exec) (hb : c.code = cc) (hE : rh_E G ca A s) {n : Nat} {f : Nat → Option Nat} (t0 : Nat) {cA : ClassId} {C : String} (ht : (rh_ty ca)[t0]? = some (cA, .object C)) (hat : va_at G vwCl (a, .inl (cA, n, .inr (.inr (.inr (.inr f))))) H) (j : Nat) (hj : j < n) (hn : n < 2 ^ 31) {i : Int32} (hi : i = nI j) {q : Nat} (hq : f j = some q) (hdg : decode cc pc = .ok (.aaload, 1))
    (kk : W p l e R s m args below meth c H locs cells slots Q (F0 m (pc + 1) ls (.ref q :: rest))) : W p l e R s m args below meth c H locs cells slots Q (F0 m pc ls (.int i :: .ref a :: rest)) := by
  subst hi
  refine va_aldq hexec hb hE.1 (rh_one hat) 0 t0 rfl ht (vp_in_nI hj hn) hdg ?_
  rw [nI_clamp (by omega), hq]
  exact kk
theorem rh_alen (hexec : p.tables.exec = Jvm.exec) (hb : c.code = cc) (hE : rh_E G ca A s) (t0 : Nat) {cA : ClassId} {x : vp_A} {ty : FieldType} (ht : (rh_ty ca)[t0]? = some (cA, ty)) (hat : va_at G vwCl (a, .inl (cA, x)) H) (hdg : decode cc pc = .ok (.arraylength, 1))
    (kk : W p l e R s m args below meth c H locs cells slots Q (F0 m (pc + 1) ls (.int (nI x.1) :: rest))) : W p l e R s m args below meth c H locs cells slots Q (F0 m pc ls (.ref a :: rest)) :=
  va_alen hexec hb hE.1 (rh_one hat) 0 t0 rfl ht rfl hdg kk
/-- stores: the heap behind them -/
theorem rh_put0 (hexec : p.tables.exec = Jvm.exec) (hb : c.code = cc) {own C : String} {T : u_T} {N ci index : Nat} {Ts : List Cond} (hts : ∀ w ∈ Ts, w.before args s = true) (hin : ∀ w ∈ u_ws C T N, w ∈ Ts) (ty0 : Nat → FieldType) (hty : ∀ k, k < N → parseFieldDescriptor (T k).2.2.1 = some (ty0 k)) (hnm : ∀ a, a < N → ∀ b, b < N → a ≠ b → (T a).2.1 ≠ (T b).2.1) (hown : s.vm.findClass own = some m.cls) (hE : rh_E G ca A s) {fs : List Value} (hat : va_at G vwCl (a, .inr (ci, fs)) H) (hc : vwCl[ci]? = some (C, T, N)) (hS0 : va_S A H0 H locs) (ha : A a) (k : Nat) (hk : k < N) (hlink : (Cond.fieldLink own index (T k).1 (T k).2.1 (T k).2.2.1).before args s = true) (hfin : (T k).2.2.2 = false) {v : Value} (hn : narrow (ty0 k) v = v) (hfit : fits (ty0 k) v = true) (hl : k < fs.length) (hdg : decode cc pc = .ok (.putfield index, 3))
    (kk : ∀ (H1 : Heap) (locs1 : List Loc), va_at G vwCl (a, .inr (ci, fs.set k v)) H1 → H1.size = H.size → (∀ q : Nat, q ≠ a → H1[q]? = H[q]?) → va_S A H0 H1 locs1 → W p l e R s m args below meth c H1 locs1 cells slots Q (F0 m (pc + 3) ls rest)) : W p l e R s m args below meth c H locs cells slots Q (F0 m pc ls (v :: .ref a :: rest)) := by
  have hK := hE.1
  have hd := hty k hk
  have hap := va_apart (own := own) hts hin ty0 hty hnm hK hc
  obtain ⟨r, h1, cell, q1, q2, q3, q4⟩ := hat
  have hr : r = (C, T, N) := Option.some.inj (h1.symm.trans hc)
  subst hr
  obtain ⟨hS, hfc, kC, hkC, hkind⟩ := hK.1 ci _ hc
  obtain ⟨cf, kf, fi, f, hi, hsl⟩ := hS k hk
  have hlay := hts _ (hin _ (u_in_lay hk))
  unfold u_lay at hlay
  rw [if_neg (by rw [hfin]; decide)] at hlay
  have hst := (u_facts hfc hkC (u_lays hts hin hk) hi).1
  have h6 := u_store hfc hkC hkind hlay hi hd hn hfit
  refine W.putK hexec hb (f := f) ⟨hown, hlink, ⟨_, _, _, hi⟩, hst⟩ (by rw [q2]; exact h6) q1 q3 (by rw [hsl]; exact k2_hasslot (q4 k hk)) rfl rfl hdg fun H' e1 e2 e3 => ?_
  rw [hsl] at e1 ⊢
  exact kk H' _ ⟨_, hc, t_OB.to (V := updV (vp_V fs) k v) ⟨_, e1, q2, q3, t_set q4 hap hk v⟩ (fun j _ => vp_updV_set hl v j)⟩ e2 e3 (hS0.put e2 e3 ha)
theorem rh_iast0 (hexec : p.tables.exec = Jvm.exec) (hb : c.code = cc) (hE : rh_E G ca A s) {n : Nat} {f : Nat → Int32} (hat : va_at G vwCl (a, .inl (ca 0, n, .inl f)) H) (hS : va_S A H0 H locs) (hBa : A a) (j : Nat) (hj : j < n) (hn : n < 2 ^ 31) {i : Int32} (hi : i = nI j) {x : Int32} (hdg : decode cc pc = .ok (.iastore, 1))
    (kk : ∀ (H1 : Heap) (locs1 : List Loc), va_at G vwCl (a, .inl (ca 0, n, .inl (va_up f j x))) H1 → H1.size = H.size → (∀ q : Nat, q ≠ a → H1[q]? = H[q]?) → va_S A H0 H1 locs1 → W p l e R s m args below meth c H1 locs1 cells slots Q (F0 m (pc + 1) ls rest)) : W p l e R s m args below meth c H locs cells slots Q (F0 m pc ls (.int x :: .int i :: .ref a :: rest)) := by
  subst hi
  have hat' : H[a]? = some (vp_cell (ca 0) (n, .inl f)) := hat
  refine W.iast hexec hb hat' ((hE.1.2 0 _ rfl).1 n (fun j => .int (f j))) (fun q => by cases q) (by show ¬ (nI j < 0 ∨ (arrV _ _ _).slots.size ≤ _); rw [arrV_size]; exact vp_in_nI hj hn) rfl rfl hdg fun H1 e z oq => ?_
  refine kk H1 _ ?_ z oq (hS.put z oq hBa)
  show H1[a]? = some (vp_cell _ _)
  rw [e, nI_clamp (by omega)]
  rw [vp_cell_i, vp_cell_i, arrV_store]
  congr 2
  funext q
  by_cases hq : q = j
  · subst hq
    simp [updV, va_up]
  · simp [updV, va_up, hq]
theorem rh_zast0 (hexec : p.tables.exec = Jvm.exec) (hb : c.code = cc) (hE : rh_E G ca A s) {n : Nat} {f : Nat → Int32} (hat : va_at G vwCl (a, .inl (ca 1, n, .inl f)) H) (hS : va_S A H0 H locs) (hBa : A a) (j : Nat) (hj : j < n) (hn : n < 2 ^ 31) {i : Int32} (hi : i = nI j) {x : Int32} (hx : vp_nar .boolean x = x) (hdg : decode cc pc = .ok (.bastore, 1))
    (kk : ∀ (H1 : Heap) (locs1 : List Loc), va_at G vwCl (a, .inl (ca 1, n, .inl (va_up f j x))) H1 → H1.size = H.size → (∀ q : Nat, q ≠ a → H1[q]? = H[q]?) → va_S A H0 H1 locs1 → W p l e R s m args below meth c H1 locs1 cells slots Q (F0 m (pc + 1) ls rest)) : W p l e R s m args below meth c H locs cells slots Q (F0 m pc ls (.int x :: .int i :: .ref a :: rest)) := by
  subst hi
  have hat' : H[a]? = some (vp_cell (ca 1) (n, .inl f)) := hat
  refine W.zast hexec hb hat' ((hE.1.2 1 _ rfl).1 n (fun j => .int (f j))) (fun q => by cases q) (by show ¬ (nI j < 0 ∨ (arrV _ _ _).slots.size ≤ _); rw [arrV_size]; exact vp_in_nI hj hn) rfl rfl hdg fun H1 e z oq => ?_
  refine kk H1 _ ?_ z oq (hS.put z oq hBa)
  show H1[a]? = some (vp_cell _ _)
  rw [e, nI_clamp (by omega)]
  rw [vp_cell_i, vp_cell_i, arrV_store]
  congr 2
  funext q
  by_cases hq : q = j
  · subst hq
    rw [show va_up f q x q = x from va_up_self f q x]
    conv => rhs; rw [← hx]
    simp [updV, vp_nar]
    try rfl
  · simp [updV, va_up, hq]
theorem rh_last0 (hexec : p.tables.exec = Jvm.exec) (hb : c.code = cc) (hE : rh_E G ca A s) {n : Nat} {f : Nat → Int64} (hat : va_at G vwCl (a, .inl (ca 2, n, .inr (.inl f))) H) (hS : va_S A H0 H locs) (hBa : A a) (j : Nat) (hj : j < n) (hn : n < 2 ^ 31) {i : Int32} (hi : i = nI j) {x : Int64} (hdg : decode cc pc = .ok (.lastore, 1))
    (kk : ∀ (H1 : Heap) (locs1 : List Loc), va_at G vwCl (a, .inl (ca 2, n, .inr (.inl (va_up f j x)))) H1 → H1.size = H.size → (∀ q : Nat, q ≠ a → H1[q]? = H[q]?) → va_S A H0 H1 locs1 → W p l e R s m args below meth c H1 locs1 cells slots Q (F0 m (pc + 1) ls rest)) : W p l e R s m args below meth c H locs cells slots Q (F0 m pc ls (.long x :: .int i :: .ref a :: rest)) := by
  subst hi
  have hat' : H[a]? = some (vp_cell (ca 2) (n, .inr (.inl f))) := hat
  refine W.last hexec hb hat' ((hE.1.2 2 _ rfl).1 n (fun j => .long (f j))) (fun q => by cases q) (by show ¬ (nI j < 0 ∨ (arrV _ _ _).slots.size ≤ _); rw [arrV_size]; exact vp_in_nI hj hn) rfl rfl hdg fun H1 e z oq => ?_
  refine kk H1 _ ?_ z oq (hS.put z oq hBa)
  show H1[a]? = some (vp_cell _ _)
  rw [e, nI_clamp (by omega)]
  rw [vp_cell_l, vp_cell_l, arrV_store]
  congr 2
  funext q
  by_cases hq : q = j
  · subst hq
    simp [updV, va_up]
  · simp [updV, va_up, hq]
end RHC
/-! ===== the worlds of house and model ===== -/
/-- how many there are of a kind: 0 the house, 1 to 4 its rows, 5 operators, 6 pairs, 7 seconds by years, 8 files, 9 calls; 10 the model, 20 and on its rows by their fields' places; 50 the law's own row -/
def rh_n (nf nc : Nat) (k : Nat) : Nat := match k with
  | 0 => 1
  | 1 => 1
  | 2 => 1
  | 3 => 1
  | 4 => 1
  | 5 => 4
  | 6 => 16
  | 7 => 16
  | 8 => nf
  | 9 => nc
  | _ => 0
/-- a house's cells: ints v by kind, place and field; a file's pair, a call's file in r -/
def rh_c (ca : Nat → ClassId) (ad : Nat → Nat → Nat) (nf nc : Nat) (r : Nat → Nat → Nat) (f : Nat → Int32) (k i : Nat) : va_E := match k with
  | 0 => .inr (4, [.ref (ad 1 0), .ref (ad 2 0), .ref (ad 3 0), .int (f 3), .ref (ad 4 0), .int (f 5), .int (f 6)])
  | 1 => .inl (ca 3, 4, .inr (.inr (.inr (.inr (fun j => some (ad 5 j))))))
  | 2 => .inl (ca 4, 16, .inr (.inr (.inr (.inr (fun j => some (ad 6 j))))))
  | 3 => .inl (ca 5, 30, .inr (.inr (.inr (.inr (fun j => if j < nf then some (ad 8 j) else none)))))
  | 4 => .inl (ca 6, 60, .inr (.inr (.inr (.inr (fun j => if j < nc then some (ad 9 j) else none)))))
  | 5 => .inr (2, [.int (f 0), .int (f 1), .int (f 2), .int (f 3)])
  | 6 => .inr (3, [.ref (ad 5 (i / 4)), .int (f 1), .int (f 2), .int (f 3), .int (f 4), .int (f 5), .ref (ad 7 i)])
  | 7 => .inl (ca 0, 3, .inl f)
  | 8 => .inr (1, [.ref (ad 6 (r 8 i)), .int (f 1), .int (f 2), .int (f 3), .int (f 4)])
  | _ => .inr (0, [.ref (ad 8 (r 9 i)), .int (f 1), .int (f 2), .int (f 3), .int (f 4), .int (f 5), .int (f 6)])
def rh_ce (ca : Nat → ClassId) (ad : Nat → Nat → Nat) (nf nc : Nat) (r : Nat → Nat → Nat) (v : Nat → Nat → Nat → Int32) (k i : Nat) : Option va_E := if i < rh_n nf nc k then some (rh_c ca ad nf nc r (v k i) k i) else none
/-- the house in the heap -/
def rh_W (G : va_G) (ca : Nat → ClassId) (ad : Nat → Nat → Nat) (nf nc : Nat) (r : Nat → Nat → Nat) (v : Nat → Nat → Nat → Int32) (H : Heap) : Prop := rh_P G ad (rh_ce ca ad nf nc r v) H
theorem rh_W.at {G : va_G} {ca : Nat → ClassId} {ad : Nat → Nat → Nat} {nf nc : Nat} {r : Nat → Nat → Nat} {v : Nat → Nat → Nat → Int32} {H : Heap} (h : rh_W G ca ad nf nc r v H) (k i : Nat) (hi : i < rh_n nf nc k) : va_at G vwCl (ad k i, rh_c ca ad nf nc r (v k i) k i) H := h k i _ (if_pos hi)
/-- one int of the house is set -/
def wr (v : Nat → Nat → Nat → Int32) (k i j : Nat) (x : Int32) : Nat → Nat → Nat → Int32 := va_up v k (va_up (v k) i (va_up (v k i) j x))
theorem wr_at (v : Nat → Nat → Nat → Int32) (k i j : Nat) (x : Int32) (a b c : Nat) : wr v k i j x a b c = if a = k ∧ b = i ∧ c = j then x else v a b c := by
  by_cases h1 : a = k
  · subst h1
    by_cases h2 : b = i
    · subst h2
      by_cases h3 : c = j <;> simp [wr, va_up, h3]
    · simp [wr, va_up, h2]
  · simp [wr, va_up, h1]
theorem wr_row (v : Nat → Nat → Nat → Int32) (k i j : Nat) (x : Int32) : wr v k i j x k i = va_up (v k i) j x := by simp [wr, va_up]
theorem wr_other (v : Nat → Nat → Nat → Int32) (k i j : Nat) (x : Int32) {a b : Nat} (h : ¬ (a = k ∧ b = i)) : wr v k i j x a b = v a b := by
  by_cases h1 : a = k
  · subst h1
    have h2 : b ≠ i := fun z => h ⟨rfl, z⟩
    simp [wr, va_up, h2]
  · simp [wr, va_up, h1]
theorem rh_W.wr {G : va_G} {ca : Nat → ClassId} {ad : Nat → Nat → Nat} {nf nc : Nat} {r : Nat → Nat → Nat} {v : Nat → Nat → Nat → Int32} {H H1 : Heap} {A : Nat → Prop} (h : rh_W G ca ad nf nc r v H) (hD : rh_D A ad (fun k i => i < rh_n nf nc k)) {k i j : Nat} {x : Int32} (hi : i < rh_n nf nc k) {e : va_E} (he : va_at G vwCl (ad k i, e) H1) (hc : e = rh_c ca ad nf nc r (va_up (v k i) j x) k i) (oq : ∀ q : Nat, q ≠ ad k i → H1[q]? = H[q]?) : rh_W G ca ad nf nc r (wr v k i j x) H1 := by
  subst hc
  refine (rh_P.set h (ok := fun k i => i < rh_n nf nc k) (fun a b e he => ?_) hD hi he oq).to (fun a b e' h' => ?_)
  · unfold rh_ce at he
    by_cases hb : b < rh_n nf nc a
    · exact hb
    · rw [if_neg hb] at he; cases he
  · unfold rh_up
    by_cases hab : a = k ∧ b = i
    · obtain ⟨rfl, rfl⟩ := hab
      rw [if_pos ⟨rfl, rfl⟩]
      unfold rh_ce at h'
      rw [if_pos hi, wr_row] at h'
      exact h'
    · rw [if_neg hab]
      unfold rh_ce at h' ⊢
      rw [wr_other v k i j x hab] at h'
      exact h'
section RHW
variable {p : Program} {l : Launch} {e : Env} {R : Room} {s : State} {m : MethodId} {args : Array Value} {below : List Frame} {meth : Method} {c : Code} {H : Heap} {locs : List Loc} {cells slots : Nat} {Q : State → Prop}
variable {cc : ByteArray} {pc : Nat} {ls : Array Slot} {rest : List Value} {G : va_G} {H0 : Heap} {A : Nat → Prop} {ca : Nat → ClassId}
variable {ad : Nat → Nat → Nat} {nf nc : Nat} {r : Nat → Nat → Nat} {v : Nat → Nat → Nat → Int32}
/-- an int field of the house's objects is set -/
theorem rh_put (hexec : p.tables.exec = Jvm.exec) (hb : c.code = cc) {own C : String} {T : u_T} {N ci index : Nat} {Ts : List Cond} (hts : ∀ w ∈ Ts, w.before args s = true) (hin : ∀ w ∈ u_ws C T N, w ∈ Ts) (ty0 : Nat → FieldType) (hty : ∀ k, k < N → parseFieldDescriptor (T k).2.2.1 = some (ty0 k)) (hnm : ∀ a, a < N → ∀ b, b < N → a ≠ b → (T a).2.1 ≠ (T b).2.1) (hown : s.vm.findClass own = some m.cls) (hE : rh_E G ca A s) (hW : rh_W G ca ad nf nc r v H) (hD : rh_D A ad (fun k i => i < rh_n nf nc k)) (hS0 : va_S A H0 H locs) (hcl : vwCl[ci]? = some (C, T, N)) (k i : Nat) (hi : i < rh_n nf nc k) {fs : List Value} (hc : rh_c ca ad nf nc r (v k i) k i = .inr (ci, fs)) (j : Nat) (hj : j < N) (hlink : (Cond.fieldLink own index (T j).1 (T j).2.1 (T j).2.2.1).before args s = true) (hfin : (T j).2.2.2 = false) {x : Int32} (hn : narrow (ty0 j) (.int x) = .int x) (hfit : fits (ty0 j) (.int x) = true) (hl : j < fs.length) (he : .inr (ci, fs.set j (.int x)) = rh_c ca ad nf nc r (va_up (v k i) j x) k i) (hdg : decode cc pc = .ok (.putfield index, 3))
    (kk : ∀ (H1 : Heap) (locs1 : List Loc), rh_W G ca ad nf nc r (wr v k i j x) H1 → va_S A H0 H1 locs1 → W p l e R s m args below meth c H1 locs1 cells slots Q (F0 m (pc + 3) ls rest)) : W p l e R s m args below meth c H locs cells slots Q (F0 m pc ls (.int x :: .ref (ad k i) :: rest)) :=
  rh_put0 hexec hb hts hin ty0 hty hnm hown hE (hc ▸ hW.at k i hi) hcl hS0 (hD.2 k i hi) j hj hlink hfin hn hfit hl hdg fun H1 locs1 h1 h2 h3 h4 => kk H1 locs1 (hW.wr hD hi h1 he h3) h4
/-- a year's seconds are set -/
theorem rh_iast7 (hexec : p.tables.exec = Jvm.exec) (hb : c.code = cc) (hE : rh_E G ca A s) (hW : rh_W G ca ad nf nc r v H) (hD : rh_D A ad (fun k i => i < rh_n nf nc k)) (hS0 : va_S A H0 H locs) (i : Nat) (hi : i < 16) (j : Nat) (hj : j < 3) {y : Int32} (hy : y = nI j) {x : Int32} (hdg : decode cc pc = .ok (.iastore, 1))
    (kk : ∀ (H1 : Heap) (locs1 : List Loc), rh_W G ca ad nf nc r (wr v 7 i j x) H1 → va_S A H0 H1 locs1 → W p l e R s m args below meth c H1 locs1 cells slots Q (F0 m (pc + 1) ls rest)) : W p l e R s m args below meth c H locs cells slots Q (F0 m pc ls (.int x :: .int y :: .ref (ad 7 i) :: rest)) :=
  rh_iast0 hexec hb hE (hW.at 7 i hi) hS0 (hD.2 7 i hi) j hj (by omega) hy hdg fun H1 locs1 h1 h2 h3 h4 => kk H1 locs1 (hW.wr (k := 7) hD hi h1 rfl h3) h4
end RHW
end
section
/-! ===== what the house does, as functions of its ints ===== -/
abbrev rng (x a b : Int32) : Prop := a ≤ x ∧ x ≤ b
abbrev ix (x : Int32) (n : Nat) : Prop := 0 ≤ x.toInt ∧ x.toInt < (n : Int)
theorem ix_iff {x : Int32} {n : Nat} (hn : n < 2 ^ 31) : ix x n ↔ ∃ j : Nat, j < n ∧ x = nI j := by
  constructor
  · intro h
    exact vp_in_of (vp_in_iff.mpr h) hn
  · rintro ⟨j, hj, rfl⟩
    exact vp_in_iff.mp (vp_in_nI hj hn)
theorem ix_nI {j n : Nat} (hj : j < n) (hn : n < 2 ^ 31) : ix (nI j) n := (ix_iff hn).mpr ⟨j, hj, rfl⟩
theorem ix_of {x : Int32} {n : Nat} (hn : n < 2 ^ 31) (h0 : ¬ x < 0) (h1 : x < nI n) : ix x n := by
  obtain ⟨j, hj, rfl⟩ := nI_of h0
  refine ix_nI ?_ hn
  exact (nI_ltI hj hn).mp h1
theorem ix_not_neg {x : Int32} {n : Nat} (hn : n < 2 ^ 31) (h : x < 0) : ¬ ix x n := by
  intro hx
  obtain ⟨j, hj, rfl⟩ := (ix_iff hn).mp hx
  exact nI_pos (by omega) h
theorem ix_not_big {x : Int32} {n : Nat} (hn : n < 2 ^ 31) (h : nI n ≤ x) : ¬ ix x n := by
  intro hx
  obtain ⟨j, hj, rfl⟩ := (ix_iff hn).mp hx
  exact absurd ((nI_leI hn (by omega)).mp h) (by omega)
theorem nlt_le {x y : Int32} (h : ¬ x < y) : y ≤ x := Int32.not_lt.mp h
theorem nle_lt {x y : Int32} (h : ¬ x ≤ y) : y < x := Int32.not_le.mp h
theorem lt_nle {x y : Int32} (h : x < y) : ¬ y ≤ x := Int32.not_le.mpr h
theorem le_nlt {x y : Int32} (h : x ≤ y) : ¬ y < x := Int32.not_lt.mpr h
/-- the first place, the last place of a kind -/
def firstp (P : Nat → Bool) : Nat → Option Nat
  | 0 => none
  | n + 1 => match firstp P n with
    | some j => some j
    | none => if P n = true then some n else none
/-- the exceptions by their places -/
def exn (k : Nat) : String := match k with
  | 1 => "java/lang/IndexOutOfBoundsException"
  | 2 => "java/lang/IllegalArgumentException"
  | _ => "java/lang/IllegalStateException"
abbrev rh_V : Type := Nat → Nat → Nat → Int32
abbrev rh_R : Type := Nat → Nat → Nat
def c_ch (v : rh_V) (i : Nat) (s : Int32) : Int32 := v 5 i 2 + v 5 i 1 * ((s + v 5 i 0 - 1) / v 5 i 0)
/-- the pair of a call -/
def c_pr (r : rh_R) (c : Nat) : Nat := r 8 (r 9 c)
abbrev c_right (r : rh_R) (v : rh_V) (c : Nat) : Prop := v 9 c 2 = c_ch v (c_pr r c / 4) (v 9 c 1)
def c_yr (m : Int32) : Nat := (m / 12).toNatClampNeg
abbrev c_disc (v : rh_V) (q y : Nat) (a : Int32) : Prop := ¬ (if v 6 q 5 = 0 then a else v 7 q y) < v 6 q 3
def c_cut (x y : Int32) : Int32 := x - (x.toInt64 * y.toInt64 / 10000).toInt32
def c_amt (r : rh_R) (v : rh_V) (c : Nat) : Int32 :=
  if v 9 c 3 = 0 ∨ v 9 c 3 = 4 then 0 else if c_disc v (c_pr r c) (c_yr (v 9 c 4)) (v 9 c 6) then c_cut (v 9 c 2) (v 6 (c_pr r c) 4) else v 9 c 2
def c_acc1 (r : rh_R) (v : rh_V) (c : Nat) (m : Int32) : rh_V :=
  wr (wr (wr (wr v 9 c 3 1) 9 c 4 m) 9 c 6 (v 7 (c_pr r c) (c_yr m))) 7 (c_pr r c) (c_yr m) (v 7 (c_pr r c) (c_yr m) + v 9 c 1)
def c_wrong (r : rh_R) (v : rh_V) (f : Nat) : Nat → Int32
  | 0 => 0
  | n + 1 => if r 9 n = f ∧ ¬ c_right r v n then c_wrong r v f n + 1 else c_wrong r v f n
def c_acc (r : rh_R) (v : rh_V) (f : Nat) : Nat → rh_V
  | 0 => v
  | n + 1 => if r 9 n = f ∧ c_right r (c_acc r v f n) n then c_acc1 r (c_acc r v f n) n (v 0 0 6) else c_acc r v f n
def c_look (r : rh_R) (v : rh_V) (nc f : Nat) : rh_V :=
  if 2 < v 0 0 6 - v 8 f 1 then wr v 8 f 2 3 else if v 8 f 3 < c_wrong r v f nc * 3 then wr v 8 f 2 4 else c_acc r (wr v 8 f 2 5) f nc
def c_isw (r : rh_R) (v : rh_V) (q : Nat) (x : Int32) (j : Nat) : Bool := decide (r 8 j = q ∧ v 8 j 2 = 2 ∧ v 8 j 4 = x)
def c_wait (r : rh_R) (v : rh_V) (nf q : Nat) (x : Int32) : Option Nat := firstp (c_isw r v q x) nf
def c_all (r : rh_R) (nf nc q : Nat) : Nat → rh_V → Option Nat → rh_V
  | 0, v, _ => v
  | _ + 1, v, none => v
  | n + 1, v, some f => c_all r nf nc q n (wr (c_look r v nc f) 6 q 1 (c_look r v nc f 6 q 1 + 1)) (c_wait r (wr (c_look r v nc f) 6 q 1 (c_look r v nc f 6 q 1 + 1)) nf q (c_look r v nc f 6 q 1 + 1))
def c_send (r : rh_R) (v : rh_V) (nf nc f : Nat) (x : Int32) : rh_V :=
  if x < v 6 (r 8 f) 1 ∨ c_wait r v nf (r 8 f) x ≠ none then wr v 8 f 2 1
  else if v 6 (r 8 f) 1 < x then wr (wr v 8 f 4 x) 8 f 2 2 else c_all r nf nc (r 8 f) 30 v (some f)
def c_gb (v : rh_V) : Nat → rh_V
  | 0 => v
  | n + 1 => if c_gb v n 9 n 3 = 2 ∧ ¬ v 0 0 6 - c_gb v n 9 n 5 < 2 then wr (c_gb v n) 9 n 3 4 else c_gb v n
def c_sum (r : rh_R) (v : rh_V) (q : Nat) (a b : Int32) : Nat → Int64
  | 0 => 0
  | n + 1 => if c_pr r n = q ∧ ¬ v 9 n 4 < a ∧ ¬ b < v 9 n 4 then c_sum r v q a b n + (c_amt r v n).toInt64 else c_sum r v q a b n
def c_units (r : rh_R) (v : rh_V) (nc q : Nat) (m : Int32) : Int64 := c_sum r v q m m nc * (v 5 (q / 4) 3).toInt64 / 1000
/-- how many files of a pair wait, and the greatest of their numbers -/
def c_wn (r : rh_R) (v : rh_V) (q : Nat) : Nat → Int32
  | 0 => 0
  | n + 1 => if r 8 n = q ∧ v 8 n 2 = 2 then c_wn r v q n + 1 else c_wn r v q n
def c_wg (r : rh_R) (v : rh_V) (q : Nat) : Nat → Int32
  | 0 => 0
  | n + 1 => if r 8 n = q ∧ v 8 n 2 = 2 then (if c_wg r v q n < v 8 n 4 then v 8 n 4 else c_wg r v q n) else c_wg r v q n
/-- the house's shape: files, calls and their owners, counts, steps that divide, the month -/
def rh_wf (nf nc : Nat) (r : rh_R) (v : rh_V) : Prop :=
  nf ≤ 30 ∧ nc ≤ 60 ∧ (∀ i, i < nf → r 8 i < 16) ∧ (∀ i, i < nc → r 9 i < nf) ∧ v 0 0 3 = nI nf ∧ v 0 0 5 = nI nc ∧ (∀ i, i < 4 → ¬ v 5 i 0 = 0) ∧ (∃ t : Nat, t < 36 ∧ v 0 0 6 = nI t) ∧ (∀ i, i < nc → ¬ v 9 i 3 = 0 → ∃ t : Nat, t < 36 ∧ v 9 i 4 = nI t)
theorem c_yr_of {t : Nat} (h : t < 36) : nI t / 12 = nI (t / 12) ∧ c_yr (nI t) = t / 12 := by
  have e : nI t / 12 = nI (t / 12) := pk_div (a := t) (d := 12) (by omega) (by decide) (by decide)
  refine ⟨e, ?_⟩
  unfold c_yr
  rw [e, nI_clamp (by omega)]
theorem rh_pq {h m : Nat} (hh : h < 4) (hm : m < 4) : nI h * 4 + nI m = nI (h * 4 + m) ∧ h * 4 + m < 16 := by
  refine ⟨?_, by omega⟩
  rw [show (4 : Int32) = nI 4 from rfl, pk_mul, nI_add]
theorem rh_h4 {i : Nat} (h : i < 16) : i / 4 < 4 := by omega
/-! first places -/
theorem firstp_step {P : Nat → Bool} {n : Nat} (h : firstp P n = none) (hp : ¬ P n = true) : firstp P (n + 1) = none := by
  simp only [firstp, h, if_neg hp]
theorem firstp_hit {P : Nat → Bool} {n : Nat} (h : firstp P n = none) (hp : P n = true) : firstp P (n + 1) = some n := by
  simp only [firstp, h, if_pos hp]
theorem firstp_mono {P : Nat → Bool} {a j : Nat} (h : firstp P a = some j) (b : Nat) : a ≤ b → firstp P b = some j := by
  induction b with
  | zero => intro hb; rw [show a = 0 by omega] at h; exact h
  | succ b ih =>
    intro hb
    by_cases hab : a ≤ b
    · simp only [firstp, ih hab]
    · rw [show b + 1 = a by omega]; exact h
theorem firstp_none {P : Nat → Bool} : ∀ n : Nat, firstp P n = none → ∀ i : Nat, i < n → ¬ P i = true
  | 0, _, i, hi => absurd hi (by omega)
  | n + 1, h, i, hi => by
    cases hf : firstp P n with
    | some k => simp only [firstp, hf] at h; cases h
    | none =>
      simp only [firstp, hf] at h
      by_cases hp : P n = true
      · rw [if_pos hp] at h; cases h
      · by_cases hin : i < n
        · exact firstp_none n hf i hin
        · rw [show i = n by omega]; exact hp
theorem firstp_some {P : Nat → Bool} {zj : Nat} : ∀ zn : Nat, firstp P zn = some zj → zj < zn ∧ P zj = true ∧ ∀ i : Nat, i < zj → ¬ P i = true
  | 0, h => by simp [firstp] at h
  | zn + 1, h => by
    cases hf : firstp P zn with
    | some zk =>
      simp only [firstp, hf] at h
      have he : zk = zj := Option.some.inj h
      rw [he] at hf
      obtain ⟨h1, h2, h3⟩ := firstp_some zn hf
      exact ⟨by omega, h2, h3⟩
    | none =>
      simp only [firstp, hf] at h
      by_cases hp : P zn = true
      · rw [if_pos hp] at h
        have he : zn = zj := Option.some.inj h
        refine ⟨by omega, by rw [← he]; exact hp, fun i hi => firstp_none zn hf i (by omega)⟩
      · rw [if_neg hp] at h; cases h
/-! the shape stays -/
theorem wf_wr {nf nc : Nat} {r : rh_R} {v : rh_V} (h : rh_wf nf nc r v) {k i j : Nat} {x : Int32} (h0 : k ≠ 0) (h5 : k ≠ 5) (h9 : k ≠ 9) : rh_wf nf nc r (wr v k i j x) := by
  obtain ⟨a, b, c, d, e, f, g, ⟨t, ht, hn⟩, hh⟩ := h
  refine ⟨a, b, c, d, ?_, ?_, fun q hq => ?_, ⟨t, ht, ?_⟩, fun q hq => ?_⟩
  · rw [wr_at, if_neg (by omega)]; exact e
  · rw [wr_at, if_neg (by omega)]; exact f
  · rw [wr_at, if_neg (by omega)]; exact g q hq
  · rw [wr_at, if_neg (by omega)]; exact hn
  · rw [wr_at, if_neg (by omega), wr_at, if_neg (by omega)]; exact hh q hq
theorem wf_wr9 {nf nc : Nat} {r : rh_R} {v : rh_V} (h : rh_wf nf nc r v) {i j : Nat} {x : Int32} (h3 : j ≠ 3) (h4 : j ≠ 4) : rh_wf nf nc r (wr v 9 i j x) := by
  obtain ⟨a, b, c, d, e, f, g, ⟨t, ht, hn⟩, hh⟩ := h
  refine ⟨a, b, c, d, ?_, ?_, fun q hq => ?_, ⟨t, ht, ?_⟩, fun q hq => ?_⟩
  · rw [wr_at, if_neg (by omega)]; exact e
  · rw [wr_at, if_neg (by omega)]; exact f
  · rw [wr_at, if_neg (by omega)]; exact g q hq
  · rw [wr_at, if_neg (by omega)]; exact hn
  · rw [wr_at, if_neg (by omega), wr_at, if_neg (by omega)]; exact hh q hq
/-- a call's state, where its month is known -/
theorem wf_wr93 {nf nc : Nat} {r : rh_R} {v : rh_V} (h : rh_wf nf nc r v) {i : Nat} {x : Int32} (hi : ∃ t : Nat, t < 36 ∧ v 9 i 4 = nI t) : rh_wf nf nc r (wr v 9 i 3 x) := by
  obtain ⟨a, b, c, d, e, f, g, ⟨t, ht, hn⟩, hh⟩ := h
  refine ⟨a, b, c, d, ?_, ?_, fun q hq => ?_, ⟨t, ht, ?_⟩, fun q hq => ?_⟩
  · rw [wr_at, if_neg (by omega)]; exact e
  · rw [wr_at, if_neg (by omega)]; exact f
  · rw [wr_at, if_neg (by omega)]; exact g q hq
  · rw [wr_at, if_neg (by omega)]; exact hn
  · rw [wr_at v 9 i 3 x 9 q 4, if_neg (by omega)]
    by_cases hqi : q = i
    · subst hqi; exact fun _ => hi
    · rw [wr_at, if_neg (by omega)]; exact hh q hq
theorem c_acc1_wf {nf nc : Nat} {r : rh_R} {v : rh_V} (h : rh_wf nf nc r v) {k t : Nat} (ht : t < 36) : rh_wf nf nc r (c_acc1 r v k (nI t)) := by
  unfold c_acc1
  refine wf_wr (wf_wr9 ?_ (by decide) (by decide)) (by decide) (by decide) (by decide)
  obtain ⟨a, b, c, d, e, f, g, ⟨t', ht', hn⟩, hh⟩ := h
  refine ⟨a, b, c, d, ?_, ?_, fun q hq => ?_, ⟨t', ht', ?_⟩, fun q hq => ?_⟩
  · rw [wr_at, if_neg (by omega), wr_at, if_neg (by omega)]; exact e
  · rw [wr_at, if_neg (by omega), wr_at, if_neg (by omega)]; exact f
  · rw [wr_at, if_neg (by omega), wr_at, if_neg (by omega)]; exact g q hq
  · rw [wr_at, if_neg (by omega), wr_at, if_neg (by omega)]; exact hn
  · by_cases hqk : q = k
    · subst hqk
      intro _
      exact ⟨t, ht, by rw [wr_at, if_pos ⟨rfl, rfl, rfl⟩]⟩
    · rw [wr_at, if_neg (by omega), wr_at, if_neg (by omega), wr_at, if_neg (by omega), wr_at, if_neg (by omega)]
      exact hh q hq
theorem c_acc_now {r : rh_R} {v : rh_V} {f : Nat} : ∀ n : Nat, c_acc r v f n 0 = v 0
  | 0 => rfl
  | n + 1 => by
    unfold c_acc
    by_cases hc : r 9 n = f ∧ c_right r (c_acc r v f n) n
    · rw [if_pos hc]
      funext i j
      unfold c_acc1
      rw [wr_at, if_neg (by omega), wr_at, if_neg (by omega), wr_at, if_neg (by omega), wr_at, if_neg (by omega), c_acc_now n]
    · rw [if_neg hc]; exact c_acc_now n
theorem c_acc_wf {nf nc : Nat} {r : rh_R} {v : rh_V} {f : Nat} (h : rh_wf nf nc r v) : ∀ n : Nat, rh_wf nf nc r (c_acc r v f n)
  | 0 => h
  | n + 1 => by
    unfold c_acc
    by_cases hc : r 9 n = f ∧ c_right r (c_acc r v f n) n
    · rw [if_pos hc]
      obtain ⟨t, ht, hn⟩ := h.2.2.2.2.2.2.2.1
      rw [hn]
      exact c_acc1_wf (c_acc_wf h n) ht
    · rw [if_neg hc]; exact c_acc_wf h n
theorem c_look_wf {nf nc : Nat} {r : rh_R} {v : rh_V} {f : Nat} (h : rh_wf nf nc r v) : rh_wf nf nc r (c_look r v nc f) := by
  unfold c_look
  by_cases h1 : 2 < v 0 0 6 - v 8 f 1
  · rw [if_pos h1]; exact wf_wr h (by decide) (by decide) (by decide)
  · rw [if_neg h1]
    by_cases h2 : v 8 f 3 < c_wrong r v f nc * 3
    · rw [if_pos h2]; exact wf_wr h (by decide) (by decide) (by decide)
    · rw [if_neg h2]; exact c_acc_wf (wf_wr h (by decide) (by decide) (by decide)) nc
theorem c_all_wf {nf nc q : Nat} {r : rh_R} : ∀ (n : Nat) (v : rh_V) (o : Option Nat), rh_wf nf nc r v → rh_wf nf nc r (c_all r nf nc q n v o)
  | 0, v, o, h => by cases o <;> exact h
  | n + 1, v, none, h => h
  | n + 1, v, some f, h => by
    unfold c_all
    exact c_all_wf n _ _ (wf_wr (c_look_wf h) (by decide) (by decide) (by decide))
theorem c_gb_wf {nf nc : Nat} {r : rh_R} {v : rh_V} (h : rh_wf nf nc r v) : ∀ n : Nat, n ≤ nc → rh_wf nf nc r (c_gb v n)
  | 0, _ => h
  | n + 1, hn => by
    unfold c_gb
    have ih := c_gb_wf h n (by omega)
    by_cases hc : c_gb v n 9 n 3 = 2 ∧ ¬ v 0 0 6 - c_gb v n 9 n 5 < 2
    · rw [if_pos hc]
      refine wf_wr93 ih (ih.2.2.2.2.2.2.2.2 n (by omega) ?_)
      rw [hc.1]
      decide
    · rw [if_neg hc]; exact ih
theorem c_gb_now {v : rh_V} : ∀ n : Nat, c_gb v n 0 = v 0
  | 0 => rfl
  | n + 1 => by
    unfold c_gb
    by_cases hc : c_gb v n 9 n 3 = 2 ∧ ¬ v 0 0 6 - c_gb v n 9 n 5 < 2
    · rw [if_pos hc]
      funext i j
      rw [wr_at, if_neg (by omega), c_gb_now n]
    · rw [if_neg hc]; exact c_gb_now n
end
section
/-! ===== the three throws of the house ===== -/
abbrev rh_nx : List String := ["java/lang/RuntimeException", "java/lang/Exception"]
/-- the words of a throw that are not in the methods' lists -/
def rh_ng (E : String) : List Cond := [Cond.castable E E, Cond.declares (Bundle.initS "java/lang/RuntimeException"), Cond.declares (Bundle.initS "java/lang/Exception"), Cond.declares (Bundle.initS "java/lang/Throwable")]
theorem rh_nxfit : ∀ n ∈ rh_nx, Bundle.fit n = true := by decide +kernel
set_option maxRecDepth 20000 in
theorem rh_t1b : ∀ w ∈ (vx_atS RX4 201 "java/lang/IndexOutOfBoundsException" ["java/lang/RuntimeException", "java/lang/Exception"]).filter (fun w => !goodWord w), w ∈ rh_ng "java/lang/IndexOutOfBoundsException" := by decide +kernel
set_option maxRecDepth 20000 in
theorem rh_t2b : ∀ w ∈ (vx_atS RX4 192 "java/lang/IllegalArgumentException" ["java/lang/RuntimeException", "java/lang/Exception"]).filter (fun w => !goodWord w), w ∈ rh_ng "java/lang/IllegalArgumentException" := by decide +kernel
set_option maxRecDepth 20000 in
theorem rh_t3b : ∀ w ∈ (vx_atS RX4 77 "java/lang/IllegalStateException" ["java/lang/RuntimeException", "java/lang/Exception"]).filter (fun w => !goodWord w), w ∈ rh_ng "java/lang/IllegalStateException" := by decide +kernel
set_option maxRecDepth 20000 in
theorem rh_t1g : ∀ w ∈ Cond.classLink RX4 197 "java/lang/IndexOutOfBoundsException" :: Cond.initialized "java/lang/IndexOutOfBoundsException" :: vx_atS RX4 201 "java/lang/IndexOutOfBoundsException" ["java/lang/RuntimeException", "java/lang/Exception"], vx_ot w = true := by decide +kernel
set_option maxRecDepth 20000 in
theorem rh_t2g : ∀ w ∈ Cond.classLink RX4 188 "java/lang/IllegalArgumentException" :: Cond.initialized "java/lang/IllegalArgumentException" :: vx_atS RX4 192 "java/lang/IllegalArgumentException" ["java/lang/RuntimeException", "java/lang/Exception"], vx_ot w = true := by decide +kernel
set_option maxRecDepth 20000 in
theorem rh_t3g : ∀ w ∈ Cond.classLink RX4 73 "java/lang/IllegalStateException" :: Cond.initialized "java/lang/IllegalStateException" :: vx_atS RX4 77 "java/lang/IllegalStateException" ["java/lang/RuntimeException", "java/lang/Exception"], vx_ot w = true := by decide +kernel
section RHT
variable {p : Program} {l : Launch} {e : Env} {R : Room} {s : State} {m : MethodId} {args : Array Value} {below : List Frame} {meth : Method} {c : Code} {H : Heap} {locs : List Loc} {cells slots : Nat}
variable {cc : ByteArray} {pc : Nat} {ls : Array Slot} {rest : List Value} {G : va_G} {ca : Nat → ClassId} {A : Nat → Prop} {mc ms : Nat} {N : Option Value → Heap → Prop} {X : String → Heap → Prop}
theorem rh_throw (hexec : p.tables.exec = Jvm.exec) (hb : c.code = cc) (hl : l.stackTraces = false) (E text : String) (ik is ic : Nat) (hEx : E ∈ rh_ex) (hq : (is, text) ∈ rh_tx) (hcls : Bundle.fit E = true)
    (h2 : ∀ w ∈ (vx_atS RX4 ic E ["java/lang/RuntimeException", "java/lang/Exception"]).filter (fun w => !goodWord w), w ∈ rh_ng E)
    (hgood : ∀ w ∈ Cond.classLink RX4 ik E :: Cond.initialized E :: vx_atS RX4 ic E ["java/lang/RuntimeException", "java/lang/Exception"], vx_ot w = true)
    (hown : s.vm.findClass RX4 = some m.cls) (hk : (Cond.classLink RX4 ik E).before args s = true) (hini : (Cond.initialized E).before args s = true)
    (h1 : ∀ w ∈ (vx_atS RX4 ic E ["java/lang/RuntimeException", "java/lang/Exception"]).filter goodWord, w.before args s = true)
    (hE : rh_E G ca A s) (hS : va_S A s.heap H locs) (hsize : ls.size = c.maxLocals)
    (d0 : decode cc pc = .ok (.new ik, 3)) (d3 : decode cc (pc + 3) = .ok (.dup, 1)) (d4 : decode cc (pc + 4) = .ok (.ldc is, 2)) (d6 : decode cc (pc + 6) = .ok (.invokespecial ic, 3)) (d9 : decode cc (pc + 9) = .ok (.athrow, 1))
    (hex : ∀ x ∈ c.exceptionTable.toList, False) (hlocks : meth.locks = false) (hRf : 5 < R.frames) (hRl : (rest.map fun v => v.category).sum + 82 ≤ R.locals) (hRc : cells + 1 ≤ R.cells) (hRs : slots + 6 ≤ R.slots)
    (hX : ∀ H1 : Heap, H.size ≤ H1.size → (∀ q : Nat, q < H.size → H1[q]? = H[q]?) → X E H1) (hc : cells + 1 ≤ mc) (hs : slots + 6 ≤ ms) :
    W p l e R s m args below meth c H locs cells slots (vx_MQ below (rh_Q A N) (rh_XC A X) args s mc ms A) (F0 m pc ls rest) := by
  obtain ⟨-, hU, hN, h4, h5, -, -, h8⟩ := hE
  obtain ⟨sa, hstr⟩ := h5 _ hq
  exact vx_throwS hexec hb hl (own := RX4) (cls := E) (text := text) (names := rh_nx) (A := A) hown hcls rh_nxfit hk hini hstr (vx_hat h1 h2 (vx_c (va_Nw.use rfl (h4 E hEx)) (vx_c (va_Nw.use rfl (h8 _ (by decide))) (vx_c (va_Nw.use rfl (h8 _ (by decide))) (vx_c (va_Nw.use rfl (h8 _ (by decide))) vx_n))))) hgood hU hN hS hsize d0 d3 d4 d6 d9
    (fun x hx => (hex x hx).elim) hRf hRl hRc hRs hlocks
    (fun t _ hz hk => ⟨hX t.heap hz hk, Nat.le_trans hS.1 hz, fun q hq hA => (hk q (Nat.lt_of_lt_of_le hq hS.1)).trans (hS.2.1 q hq hA)⟩) hS.2.2 hc hs
end RHT
theorem rh_W.grow {G : va_G} {ca : Nat → ClassId} {ad : Nat → Nat → Nat} {nf nc : Nat} {r : Nat → Nat → Nat} {v : Nat → Nat → Nat → Int32} {H H1 : Heap} (h : rh_W G ca ad nf nc r v H) (hk : ∀ q : Nat, q < H.size → H1[q]? = H[q]?) : rh_W G ca ad nf nc r v H1 :=
  rh_P.kept h (fun k i e he => hk _ (h k i e he).lt)
end
section
/-! ===== the house: its small methods ===== -/
set_option maxHeartbeats 4000000 in
set_option maxRecDepth 100000 in
/-- the charge of x seconds by the tariff of i -/
theorem ct_X2_chargeFor (l : Launch) {G : va_G} {ca : Nat → ClassId} {A : Nat → Prop} {ad : Nat → Nat → Nat} {nf nc : Nat} {r : rh_R} {v : rh_V} (hD : rh_D A ad (fun k i => i < rh_n nf nc k)) (hwf : rh_wf nf nc r v) (i : Nat) (hi : i < 4) (x : Int32) : rh_M l yX2_chargeFor wsX2_chargeFor ({ frames := 0, cells := 0, slots := 0, locals := 0 } : Room) G ca A [.ref (ad 5 i), .int x] (rh_W G ca ad nf nc r v) (fun o H => o = some (.int (c_ch v i x)) ∧ rh_W G ca ad nf nc r v H) rh_no 0 0 := by
  obtain ⟨hnf, hnc, hr8, hr9, hfc, hcc, hst, ⟨tt, htt, hnow⟩, hai⟩ := id hwf
  refine rh_enter (cc := cX2_chargeFor) (maxL := 3) (ret := (some .int)) (by decide) rfl (Nat.le_of_ble_eq_true rfl) ?_
  intro p e s m below meth c ls hx hb hr hml hown hts hlocks hex hin hE hA hW hl
  have hS : va_S A s.heap s.heap [] := va_S.rf
  have hl : lv_has ls 3 [(0, .ref (ad 5 i)), (1, .int x)] := hl
  refine lv_iload_n hx hb dX2_chargeFor_0 rfl (lv_at hl 1 rfl) ?_
  refine lv_aload_n hx hb dX2_chargeFor_1 rfl (lv_at hl 0 rfl) ?_
  refine rh_get (ci := 2) (C := RX2) (T := TX2) (N := 4) (v := .int (v 5 i 0)) hx hb hts (fun _ h => List.mem_cons_of_mem _ (List.mem_append_right _ (h))) hown hE (hW.at 5 i hi) rfl 0 (by decide) (hts (.fieldLink RX2 9 "RoamingHouse$Operator" "step" "I") (by decide +kernel)) rfl dX2_chargeFor_2 ?_
  refine lv_iadd hx hb dX2_chargeFor_5 ?_
  refine lv_iconst (v := 1) hx hb dX2_chargeFor_6 (by decide) ?_
  refine lv_isub hx hb dX2_chargeFor_7 ?_
  refine lv_aload_n hx hb dX2_chargeFor_8 rfl (lv_at hl 0 rfl) ?_
  refine rh_get (ci := 2) (C := RX2) (T := TX2) (N := 4) (v := .int (v 5 i 0)) hx hb hts (fun _ h => List.mem_cons_of_mem _ (List.mem_append_right _ (h))) hown hE (hW.at 5 i hi) rfl 0 (by decide) (hts (.fieldLink RX2 9 "RoamingHouse$Operator" "step" "I") (by decide +kernel)) rfl dX2_chargeFor_9 ?_
  refine lv_idiv hx hb dX2_chargeFor_12 (hst i hi) ?_
  refine lv_istore_n (lv' := [(2, .int (((x + v 5 i 0) - 1) / v 5 i 0)), (0, .ref (ad 5 i)), (1, .int x)]) hx hb dX2_chargeFor_13 rfl hl (by decide) rfl (fun ls hl => ?_)
  refine lv_aload_n hx hb dX2_chargeFor_14 rfl (lv_at hl 1 rfl) ?_
  refine rh_get (ci := 2) (C := RX2) (T := TX2) (N := 4) (v := .int (v 5 i 2)) hx hb hts (fun _ h => List.mem_cons_of_mem _ (List.mem_append_right _ (h))) hown hE (hW.at 5 i hi) rfl 2 (by decide) (hts (.fieldLink RX2 18 "RoamingHouse$Operator" "beginning" "I") (by decide +kernel)) rfl dX2_chargeFor_15 ?_
  refine lv_aload_n hx hb dX2_chargeFor_18 rfl (lv_at hl 1 rfl) ?_
  refine rh_get (ci := 2) (C := RX2) (T := TX2) (N := 4) (v := .int (v 5 i 1)) hx hb hts (fun _ h => List.mem_cons_of_mem _ (List.mem_append_right _ (h))) hown hE (hW.at 5 i hi) rfl 1 (by decide) (hts (.fieldLink RX2 15 "RoamingHouse$Operator" "price" "I") (by decide +kernel)) rfl dX2_chargeFor_19 ?_
  refine lv_iload_n hx hb dX2_chargeFor_22 rfl (lv_at hl 0 rfl) ?_
  refine lv_imul hx hb dX2_chargeFor_23 ?_
  refine lv_iadd hx hb dX2_chargeFor_24 ?_
  exact rh_iret hx hb hr hlocks ⟨rfl, hW⟩ hS (by decide) (by decide) dX2_chargeFor_25
set_option maxHeartbeats 4000000 in
set_option maxRecDepth 100000 in
/-- whether a call is right -/
theorem ct_X0_isRight (l : Launch) {G : va_G} {ca : Nat → ClassId} {A : Nat → Prop} {ad : Nat → Nat → Nat} {nf nc : Nat} {r : rh_R} {v : rh_V} (hD : rh_D A ad (fun k i => i < rh_n nf nc k)) (hwf : rh_wf nf nc r v) (k : Nat) (hk : k < nc) : rh_M l yX0_isRight wsX0_isRight ({ frames := 1, cells := 0, slots := 0, locals := 30 } : Room) G ca A [.ref (ad 9 k)] (rh_W G ca ad nf nc r v) (fun o H => ((c_right r v k ∧ o = some (.int 1)) ∨ (¬ c_right r v k ∧ o = some (.int 0))) ∧ rh_W G ca ad nf nc r v H) rh_no 0 0 := by
  obtain ⟨hnf, hnc, hr8, hr9, hfc, hcc, hst, ⟨tt, htt, hnow⟩, hai⟩ := id hwf
  refine rh_enter (cc := cX0_isRight) (maxL := 1) (ret := (some .boolean)) (by decide) rfl (Nat.le_of_ble_eq_true rfl) ?_
  intro p e s m below meth c ls hx hb hr hml hown hts hlocks hex hin hE hA hW hl
  have hS : va_S A s.heap s.heap [] := va_S.rf
  have hl : lv_has ls 1 [(0, .ref (ad 9 k))] := hl
  refine lv_aload_n hx hb dX0_isRight_0 rfl (lv_at hl 0 rfl) ?_
  refine rh_get (ci := 0) (C := RX0) (T := TX0) (N := 7) (v := .int (v 9 k 2)) hx hb hts (fun _ h => List.mem_cons_of_mem _ (List.mem_append_left _ (List.mem_append_left _ (List.mem_append_left _ (List.mem_append_right _ (h)))))) hown hE (hW.at 9 k hk) rfl 2 (by decide) (hts (.fieldLink RX0 31 "RoamingHouse$Call" "told" "I") (by decide +kernel)) rfl dX0_isRight_1 ?_
  refine lv_aload_n hx hb dX0_isRight_4 rfl (lv_at hl 0 rfl) ?_
  refine rh_get (ci := 0) (C := RX0) (T := TX0) (N := 7) (v := .ref (ad 8 (r 9 k))) hx hb hts (fun _ h => List.mem_cons_of_mem _ (List.mem_append_left _ (List.mem_append_left _ (List.mem_append_left _ (List.mem_append_right _ (h)))))) hown hE (hW.at 9 k hk) rfl 0 (by decide) (hts (.fieldLink RX0 24 "RoamingHouse$Call" "file" "LRoamingHouse$CallFile;") (by decide +kernel)) rfl dX0_isRight_5 ?_
  refine rh_get (ci := 1) (C := RX1) (T := TX1) (N := 5) (v := .ref (ad 6 (r 8 (r 9 k)))) hx hb hts (fun _ h => List.mem_cons_of_mem _ (List.mem_append_left _ (List.mem_append_left _ (List.mem_append_right _ (h))))) hown hE (hW.at 8 (r 9 k) (hr9 _ hk)) rfl 0 (by decide) (hts (.fieldLink RX0 34 "RoamingHouse$CallFile" "pair" "LRoamingHouse$Pair;") (by decide +kernel)) rfl dX0_isRight_8 ?_
  refine rh_get (ci := 3) (C := RX3) (T := TX3) (N := 7) (v := .ref (ad 5 ((r 8 (r 9 k)) / 4))) hx hb hts (fun _ h => List.mem_cons_of_mem _ (List.mem_append_left _ (List.mem_append_right _ (h)))) hown hE (hW.at 6 (r 8 (r 9 k)) (hr8 _ (hr9 _ hk))) rfl 0 (by decide) (hts (.fieldLink RX0 40 "RoamingHouse$Pair" "host" "LRoamingHouse$Operator;") (by decide +kernel)) rfl dX0_isRight_11 ?_
  refine lv_aload_n hx hb dX0_isRight_14 rfl (lv_at hl 0 rfl) ?_
  refine rh_get (ci := 0) (C := RX0) (T := TX0) (N := 7) (v := .int (v 9 k 1)) hx hb hts (fun _ h => List.mem_cons_of_mem _ (List.mem_append_left _ (List.mem_append_left _ (List.mem_append_left _ (List.mem_append_right _ (h)))))) hown hE (hW.at 9 k hk) rfl 1 (by decide) (hts (.fieldLink RX0 28 "RoamingHouse$Call" "seconds" "I") (by decide +kernel)) rfl dX0_isRight_15 ?_
  refine rh_calln (vx_runV (As := [.int (v 9 k 1)]) (rest := [.int (v 9 k 2)]) ⟨hx, hb, hml, hown, hts⟩ (ct_X2_chargeFor l hD hwf ((r 8 (r 9 k)) / 4) (rh_h4 (hr8 _ (hr9 _ hk))) (v 9 k 1)) (cwV 1 hts gX0_isRight_X2_chargeFor rfl rfl rfl (by decide +kernel) ⟨by decide, by decide⟩) (rh_preV hE hS hA (hW.at 5 ((r 8 (r 9 k)) / 4) (rh_h4 (hr8 _ (hr9 _ hk)))) rfl hW) rfl rfl hl.1 rfl (lv_room (Nat.le_of_ble_eq_true rfl)) dX0_isRight_18 ⟨by decide, by decide⟩) hS (fun o H locs hN1 hS => ?_)
  obtain ⟨rfl, hW⟩ := hN1
  refine W.eq (g2 := F0 m 21 ls [.int (c_ch v ((r 8 (r 9 k)) / 4) (v 9 k 1)), .int (v 9 k 2)]) rfl ?_
  refine lv_icmp_ne (tgt := 28) hx hb dX0_isRight_21 (by decide) (fun c2 => ?_) (fun c2 => ?_)
  · have hc : ¬ c_right r v k := c2
    refine lv_iconst (v := 0) hx hb dX0_isRight_28 (by decide) ?_
    exact rh_zret hx hb hr hlocks rfl ⟨Or.inr ⟨hc, rfl⟩, hW⟩ hS (by decide) (by decide) dX0_isRight_29
  · have hc : c_right r v k := c2
    refine lv_iconst (v := 1) hx hb dX0_isRight_24 (by decide) ?_
    refine lv_goto (tgt := 29) hx hb dX0_isRight_25 (by decide) ?_
    exact rh_zret hx hb hr hlocks rfl ⟨Or.inl ⟨hc, rfl⟩, hW⟩ hS (by decide) (by decide) dX0_isRight_29
set_option maxHeartbeats 4000000 in
set_option maxRecDepth 100000 in
/-- whether a number is an operator -/
theorem ct_X4_isOperator (l : Launch) {G : va_G} {ca : Nat → ClassId} {A : Nat → Prop} {ad : Nat → Nat → Nat} {nf nc : Nat} {r : rh_R} {v : rh_V} (hD : rh_D A ad (fun k i => i < rh_n nf nc k)) (x : Int32) : rh_M l yX4_isOperator wsX4_isOperator ({ frames := 0, cells := 0, slots := 0, locals := 0 } : Room) G ca A [.int x] (rh_W G ca ad nf nc r v) (fun o H => ((ix x 4 ∧ o = some (.int 1)) ∨ (¬ ix x 4 ∧ o = some (.int 0))) ∧ rh_W G ca ad nf nc r v H) rh_no 0 0 := by
  refine rh_enter (cc := cX4_isOperator) (maxL := 1) (ret := (some .boolean)) (by decide) rfl (Nat.le_of_ble_eq_true rfl) ?_
  intro p e s m below meth c ls hx hb hr hml hown hts hlocks hex hin hE hA hW hl
  have hS : va_S A s.heap s.heap [] := va_S.rf
  have hl : lv_has ls 1 [(0, .int x)] := hl
  refine lv_iload_n hx hb dX4_isOperator_0 rfl (lv_at hl 0 rfl) ?_
  refine lv_if_lt (tgt := 13) hx hb dX4_isOperator_1 (by decide) (fun c1 => ?_) (fun c1 => ?_)
  · have hc : ¬ ix x 4 := ix_not_neg (by decide) c1
    refine lv_iconst (v := 0) hx hb dX4_isOperator_13 (by decide) ?_
    exact rh_zret hx hb hr hlocks rfl ⟨Or.inr ⟨hc, rfl⟩, hW⟩ hS (by decide) (by decide) dX4_isOperator_14
  · refine lv_iload_n hx hb dX4_isOperator_4 rfl (lv_at hl 0 rfl) ?_
    refine lv_iconst (v := 4) hx hb dX4_isOperator_5 (by decide) ?_
    refine lv_icmp_ge (tgt := 13) hx hb dX4_isOperator_6 (by decide) (fun c2 => ?_) (fun c2 => ?_)
    · have hc : ¬ ix x 4 := ix_not_big (n := 4) (by decide) c2
      refine lv_iconst (v := 0) hx hb dX4_isOperator_13 (by decide) ?_
      exact rh_zret hx hb hr hlocks rfl ⟨Or.inr ⟨hc, rfl⟩, hW⟩ hS (by decide) (by decide) dX4_isOperator_14
    · have hc : ix x 4 := ix_of (n := 4) (by decide) c1 (nle_lt c2)
      refine lv_iconst (v := 1) hx hb dX4_isOperator_9 (by decide) ?_
      refine lv_goto (tgt := 14) hx hb dX4_isOperator_10 (by decide) ?_
      exact rh_zret hx hb hr hlocks rfl ⟨Or.inl ⟨hc, rfl⟩, hW⟩ hS (by decide) (by decide) dX4_isOperator_14
set_option maxHeartbeats 4000000 in
set_option maxRecDepth 100000 in
/-- the year of a month -/
theorem ct_X4_yearOf (l : Launch) {G : va_G} {ca : Nat → ClassId} {A : Nat → Prop} {ad : Nat → Nat → Nat} {nf nc : Nat} {r : rh_R} {v : rh_V} (hD : rh_D A ad (fun k i => i < rh_n nf nc k)) (x : Int32) : rh_M l yX4_yearOf wsX4_yearOf ({ frames := 0, cells := 0, slots := 0, locals := 0 } : Room) G ca A [.int x] (rh_W G ca ad nf nc r v) (fun o H => o = some (.int (x / 12)) ∧ rh_W G ca ad nf nc r v H) rh_no 0 0 := by
  refine rh_enter (cc := cX4_yearOf) (maxL := 1) (ret := (some .int)) (by decide) rfl (Nat.le_of_ble_eq_true rfl) ?_
  intro p e s m below meth c ls hx hb hr hml hown hts hlocks hex hin hE hA hW hl
  have hS : va_S A s.heap s.heap [] := va_S.rf
  have hl : lv_has ls 1 [(0, .int x)] := hl
  refine lv_iload_n hx hb dX4_yearOf_0 rfl (lv_at hl 0 rfl) ?_
  refine lv_bipush (v := 12) hx hb dX4_yearOf_1 (by decide) ?_
  refine lv_idiv hx hb dX4_yearOf_3 (by decide) ?_
  exact rh_iret hx hb hr hlocks ⟨rfl, hW⟩ hS (by decide) (by decide) dX4_yearOf_4
set_option maxHeartbeats 4000000 in
set_option maxRecDepth 100000 in
/-- the year of a month, by a nest mate -/
theorem mt_X4_yearOf (l : Launch) {G : va_G} {ca : Nat → ClassId} {A : Nat → Prop} {ad : Nat → Nat → Nat} {nf nc : Nat} {r : rh_R} {v : rh_V} (hD : rh_D A ad (fun k i => i < rh_n nf nc k)) (x : Int32) : Met l yX4_yearOf wsX4_yearOf ({ frames := 0, cells := 0, slots := 0, locals := 0 } : Room) (rh_Pc G ca A [.int x] (rh_W G ca ad nf nc r v)) (rh_Q A (fun o H => o = some (.int (x / 12)) ∧ rh_W G ca ad nf nc r v H)) 0 0 A := by
  refine rh_enterm (cc := cX4_yearOf) (maxL := 1) (ret := (some .int)) (by decide) rfl (Nat.le_of_ble_eq_true rfl) ?_
  intro p e s m below meth c ls hx hb hr hml hown hts hlocks hin hE hA hW hl
  have hS : va_S A s.heap s.heap [] := va_S.rf
  have hl : lv_has ls 1 [(0, .int x)] := hl
  refine lv_iload_n hx hb dX4_yearOf_0 rfl (lv_at hl 0 rfl) ?_
  refine lv_bipush (v := 12) hx hb dX4_yearOf_1 (by decide) ?_
  refine lv_idiv hx hb dX4_yearOf_3 (by decide) ?_
  exact rh_iretm hx hb hr hlocks ⟨rfl, hW⟩ hS (by decide) (by decide) dX4_yearOf_4
set_option maxHeartbeats 4000000 in
set_option maxRecDepth 100000 in
/-- an argument outside its range is refused -/
theorem ct_X4_refuseOutside (l : Launch) (hlf : l.stackTraces = false) {G : va_G} {ca : Nat → ClassId} {A : Nat → Prop} {ad : Nat → Nat → Nat} {nf nc : Nat} {r : rh_R} {v : rh_V} (hD : rh_D A ad (fun k i => i < rh_n nf nc k)) (x a b : Int32) : rh_M l yX4_refuseOutside wsX4_refuseOutside ({ frames := 6, cells := 1, slots := 6, locals := 180 } : Room) G ca A [.int x, .int a, .int b] (rh_W G ca ad nf nc r v) (fun o H => (rng x a b ∧ o = none) ∧ rh_W G ca ad nf nc r v H) (fun E H => (E = exn 2 ∧ ¬ rng x a b) ∧ rh_W G ca ad nf nc r v H) 1 6 := by
  refine rh_enter (cc := cX4_refuseOutside) (maxL := 3) (ret := none) (by decide) rfl (Nat.le_of_ble_eq_true rfl) ?_
  intro p e s m below meth c ls hx hb hr hml hown hts hlocks hex hin hE hA hW hl
  have hS : va_S A s.heap s.heap [] := va_S.rf
  have hl : lv_has ls 3 [(0, .int x), (1, .int a), (2, .int b)] := hl
  refine lv_iload_n hx hb dX4_refuseOutside_0 rfl (lv_at hl 0 rfl) ?_
  refine lv_iload_n hx hb dX4_refuseOutside_1 rfl (lv_at hl 1 rfl) ?_
  refine lv_icmp_lt (tgt := 10) hx hb dX4_refuseOutside_2 (by decide) (fun c1 => ?_) (fun c1 => ?_)
  · have hc : ¬ rng x a b := fun z => le_nlt z.1 c1
    exact rh_throw hx hb hlf "java/lang/IllegalArgumentException" "an argument is out of its range" 188 190 192 (by decide) (by decide) (by decide +kernel) rh_t2b rh_t2g hown (hts (.classLink RX4 188 "java/lang/IllegalArgumentException") (by decide +kernel)) (hts (.initialized "java/lang/IllegalArgumentException") (by decide +kernel)) (fun w h => hts w (List.mem_cons_of_mem _ (List.mem_append_right _ (h)))) hE hS (hl.1.trans hml.symm) dX4_refuseOutside_10 dX4_refuseOutside_13 dX4_refuseOutside_14 dX4_refuseOutside_16 dX4_refuseOutside_19 hex hlocks (by decide) (Nat.le_of_ble_eq_true rfl) (by decide) (by decide) (fun H1 _ hk => ⟨⟨rfl, hc⟩, hW.grow hk⟩) (by decide) (by decide)
  · refine lv_iload_n hx hb dX4_refuseOutside_5 rfl (lv_at hl 0 rfl) ?_
    refine lv_iload_n hx hb dX4_refuseOutside_6 rfl (lv_at hl 2 rfl) ?_
    refine lv_icmp_le (tgt := 20) hx hb dX4_refuseOutside_7 (by decide) (fun c2 => ?_) (fun c2 => ?_)
    · exact rh_vret hx hb hr hlocks ⟨⟨⟨nlt_le c1, c2⟩, rfl⟩, hW⟩ hS (by decide) (by decide) dX4_refuseOutside_20
    · have hc : ¬ rng x a b := fun z => c2 z.2
      exact rh_throw hx hb hlf "java/lang/IllegalArgumentException" "an argument is out of its range" 188 190 192 (by decide) (by decide) (by decide +kernel) rh_t2b rh_t2g hown (hts (.classLink RX4 188 "java/lang/IllegalArgumentException") (by decide +kernel)) (hts (.initialized "java/lang/IllegalArgumentException") (by decide +kernel)) (fun w h => hts w (List.mem_cons_of_mem _ (List.mem_append_right _ (h)))) hE hS (hl.1.trans hml.symm) dX4_refuseOutside_10 dX4_refuseOutside_13 dX4_refuseOutside_14 dX4_refuseOutside_16 dX4_refuseOutside_19 hex hlocks (by decide) (Nat.le_of_ble_eq_true rfl) (by decide) (by decide) (fun H1 _ hk => ⟨⟨rfl, hc⟩, hW.grow hk⟩) (by decide) (by decide)
set_option maxHeartbeats 4000000 in
set_option maxRecDepth 100000 in
/-- the operator of a number -/
theorem ct_X4_operatorAt (l : Launch) (hlf : l.stackTraces = false) {G : va_G} {ca : Nat → ClassId} {A : Nat → Prop} {ad : Nat → Nat → Nat} {nf nc : Nat} {r : rh_R} {v : rh_V} (hD : rh_D A ad (fun k i => i < rh_n nf nc k)) (x : Int32) : rh_M l yX4_operatorAt wsX4_operatorAt ({ frames := 7, cells := 1, slots := 6, locals := 210 } : Room) G ca A [.ref (ad 0 0), .int x] (rh_W G ca ad nf nc r v) (fun o H => (∃ i : Nat, i < 4 ∧ x = nI i ∧ o = some (.ref (ad 5 i))) ∧ rh_W G ca ad nf nc r v H) (fun E H => (E = exn 1 ∧ ¬ ix x 4) ∧ rh_W G ca ad nf nc r v H) 1 6 := by
  refine rh_enter (cc := cX4_operatorAt) (maxL := 2) (ret := (some (.object "RoamingHouse$Operator"))) (by decide) rfl (Nat.le_of_ble_eq_true rfl) ?_
  intro p e s m below meth c ls hx hb hr hml hown hts hlocks hex hin hE hA hW hl
  have hS : va_S A s.heap s.heap [] := va_S.rf
  have hl : lv_has ls 2 [(0, .ref (ad 0 0)), (1, .int x)] := hl
  refine lv_iload_n hx hb dX4_operatorAt_0 rfl (lv_at hl 1 rfl) ?_
  refine rh_calln (vx_runS (As := [.int x]) (rest := []) ⟨hx, hb, hml, hown, hts⟩ (ct_X4_isOperator l hD x) (va_cwS 1 hts gX4_operatorAt_X4_isOperator rfl rfl rfl (by decide +kernel) ⟨by decide, by decide⟩) (rh_pre hE hS hA hW) rfl rfl hl.1 rfl (lv_room (Nat.le_of_ble_eq_true rfl)) dX4_operatorAt_1 ⟨by decide, by decide⟩) hS (fun o H locs hN1 hS => ?_)
  obtain ⟨⟨ho2, rfl⟩ | ⟨ho2, rfl⟩, hW⟩ := hN1
  · have hop := ho2
    refine W.eq (g2 := F0 m 4 ls [.int 1]) rfl ?_
    refine lv_if_ne (tgt := 17) hx hb dX4_operatorAt_4 (by decide) (fun c3 => ?_) (fun c3 => absurd c3 (by decide))
    obtain ⟨i, hi, hxi⟩ := (ix_iff (by decide)).mp hop
    refine lv_aload_n hx hb dX4_operatorAt_17 rfl (lv_at hl 0 rfl) ?_
    refine rh_get (ci := 4) (C := RX4) (T := TX4) (N := 7) (v := .ref (ad 1 0)) hx hb hts (fun _ h => List.mem_cons_of_mem _ (List.mem_append_left _ (List.mem_append_right _ (h)))) hown hE (hW.at 0 0 Nat.zero_lt_one) rfl 0 (by decide) (hts (.fieldLink RX4 11 "RoamingHouse" "operators" "[LRoamingHouse$Operator;") (by decide +kernel)) rfl dX4_operatorAt_18 ?_
    refine lv_iload_n hx hb dX4_operatorAt_21 rfl (lv_at hl 1 rfl) ?_
    refine rh_qald hx hb hE 3 rfl (hW.at 1 0 Nat.zero_lt_one) i hi (by decide) hxi (q := ad 5 i) rfl dX4_operatorAt_22 ?_
    exact rh_aret hx hb hr hlocks (Or.inr ⟨_, rfl⟩) ⟨⟨i, hi, hxi, rfl⟩, hW⟩ hS (by decide) (by decide) dX4_operatorAt_23
  · have hop := ho2
    refine W.eq (g2 := F0 m 4 ls [.int 0]) rfl ?_
    refine lv_if_ne (tgt := 17) hx hb dX4_operatorAt_4 (by decide) (fun c4 => absurd c4 (by decide)) (fun c4 => ?_)
    exact rh_throw hx hb hlf "java/lang/IndexOutOfBoundsException" "there is no such operator" 197 199 201 (by decide) (by decide) (by decide +kernel) rh_t1b rh_t1g hown (hts (.classLink RX4 197 "java/lang/IndexOutOfBoundsException") (by decide +kernel)) (hts (.initialized "java/lang/IndexOutOfBoundsException") (by decide +kernel)) (fun w h => hts w (List.mem_cons_of_mem _ (List.mem_append_right _ (h)))) hE hS (hl.1.trans hml.symm) dX4_operatorAt_7 dX4_operatorAt_10 dX4_operatorAt_11 dX4_operatorAt_13 dX4_operatorAt_16 hex hlocks (by decide) (Nat.le_of_ble_eq_true rfl) (by decide) (by decide) (fun H1 _ hk => ⟨⟨rfl, hop⟩, hW.grow hk⟩) (by decide) (by decide)
set_option maxHeartbeats 4000000 in
set_option maxRecDepth 100000 in
/-- the pair of two operators -/
theorem ct_X4_pairAt (l : Launch) (hlf : l.stackTraces = false) {G : va_G} {ca : Nat → ClassId} {A : Nat → Prop} {ad : Nat → Nat → Nat} {nf nc : Nat} {r : rh_R} {v : rh_V} (hD : rh_D A ad (fun k i => i < rh_n nf nc k)) (x y : Int32) : rh_M l yX4_pairAt wsX4_pairAt ({ frames := 7, cells := 1, slots := 6, locals := 210 } : Room) G ca A [.ref (ad 0 0), .int x, .int y] (rh_W G ca ad nf nc r v) (fun o H => (∃ h k : Nat, h < 4 ∧ k < 4 ∧ h ≠ k ∧ x = nI h ∧ y = nI k ∧ o = some (.ref (ad 6 (h * 4 + k)))) ∧ rh_W G ca ad nf nc r v H) (fun E H => (E = exn 1 ∧ ¬ (ix x 4 ∧ ix y 4) ∨ E = exn 2 ∧ ix x 4 ∧ ix y 4 ∧ x = y) ∧ rh_W G ca ad nf nc r v H) 1 6 := by
  refine rh_enter (cc := cX4_pairAt) (maxL := 3) (ret := (some (.object "RoamingHouse$Pair"))) (by decide) rfl (Nat.le_of_ble_eq_true rfl) ?_
  intro p e s m below meth c ls hx hb hr hml hown hts hlocks hex hin hE hA hW hl
  have hS : va_S A s.heap s.heap [] := va_S.rf
  have hl : lv_has ls 3 [(0, .ref (ad 0 0)), (1, .int x), (2, .int y)] := hl
  refine lv_iload_n hx hb dX4_pairAt_0 rfl (lv_at hl 1 rfl) ?_
  refine rh_calln (vx_runS (As := [.int x]) (rest := []) ⟨hx, hb, hml, hown, hts⟩ (ct_X4_isOperator l hD x) (va_cwS 1 hts gX4_pairAt_X4_isOperator rfl rfl rfl (by decide +kernel) ⟨by decide, by decide⟩) (rh_pre hE hS hA hW) rfl rfl hl.1 rfl (lv_room (Nat.le_of_ble_eq_true rfl)) dX4_pairAt_1 ⟨by decide, by decide⟩) hS (fun o H locs hN1 hS => ?_)
  obtain ⟨⟨ho2, rfl⟩ | ⟨ho2, rfl⟩, hW⟩ := hN1
  · have hox := ho2
    refine W.eq (g2 := F0 m 4 ls [.int 1]) rfl ?_
    refine lv_if_eq (tgt := 14) hx hb dX4_pairAt_4 (by decide) (fun c3 => absurd c3 (by decide)) (fun c3 => ?_)
    refine lv_iload_n hx hb dX4_pairAt_7 rfl (lv_at hl 2 rfl) ?_
    refine rh_calln (vx_runS (As := [.int y]) (rest := []) ⟨hx, hb, hml, hown, hts⟩ (ct_X4_isOperator l hD y) (va_cwS 1 hts gX4_pairAt_X4_isOperator rfl rfl rfl (by decide +kernel) ⟨by decide, by decide⟩) (rh_pre hE hS hA hW) rfl rfl hl.1 rfl (lv_room (Nat.le_of_ble_eq_true rfl)) dX4_pairAt_8 ⟨by decide, by decide⟩) hS (fun o H locs hN4 hS => ?_)
    obtain ⟨⟨ho5, rfl⟩ | ⟨ho5, rfl⟩, hW⟩ := hN4
    · have hoy := ho5
      refine W.eq (g2 := F0 m 11 ls [.int 1]) rfl ?_
      refine lv_if_ne (tgt := 24) hx hb dX4_pairAt_11 (by decide) (fun c6 => ?_) (fun c6 => absurd c6 (by decide))
      refine lv_iload_n hx hb dX4_pairAt_24 rfl (lv_at hl 1 rfl) ?_
      refine lv_iload_n hx hb dX4_pairAt_25 rfl (lv_at hl 2 rfl) ?_
      refine lv_icmp_ne (tgt := 39) hx hb dX4_pairAt_26 (by decide) (fun c7 => ?_) (fun c7 => ?_)
      · obtain ⟨h, hh, hxh⟩ := (ix_iff (by decide)).mp hox
        obtain ⟨k, hk, hyk⟩ := (ix_iff (by decide)).mp hoy
        have hne : h ≠ k := fun z => c7 (by rw [hxh, hyk, z])
        refine lv_aload_n hx hb dX4_pairAt_39 rfl (lv_at hl 0 rfl) ?_
        refine rh_get (ci := 4) (C := RX4) (T := TX4) (N := 7) (v := .ref (ad 2 0)) hx hb hts (fun _ h => List.mem_cons_of_mem _ (List.mem_append_left _ (List.mem_append_left _ (List.mem_append_right _ (h))))) hown hE (hW.at 0 0 Nat.zero_lt_one) rfl 1 (by decide) (hts (.fieldLink RX4 17 "RoamingHouse" "pairs" "[LRoamingHouse$Pair;") (by decide +kernel)) rfl dX4_pairAt_40 ?_
        refine lv_iload_n hx hb dX4_pairAt_43 rfl (lv_at hl 1 rfl) ?_
        refine lv_iconst (v := 4) hx hb dX4_pairAt_44 (by decide) ?_
        refine lv_imul hx hb dX4_pairAt_45 ?_
        refine lv_iload_n hx hb dX4_pairAt_46 rfl (lv_at hl 2 rfl) ?_
        refine lv_iadd hx hb dX4_pairAt_47 ?_
        refine rh_qald hx hb hE 4 rfl (hW.at 2 0 Nat.zero_lt_one) (h * 4 + k) (rh_pq hh hk).2 (by decide) (by rw [hxh, hyk]; exact (rh_pq hh hk).1) (q := ad 6 (h * 4 + k)) rfl dX4_pairAt_48 ?_
        exact rh_aret hx hb hr hlocks (Or.inr ⟨_, rfl⟩) ⟨⟨h, k, hh, hk, hne, hxh, hyk, rfl⟩, hW⟩ hS (by decide) (by decide) dX4_pairAt_49
      · have hxy := c7
        exact rh_throw hx hb hlf "java/lang/IllegalArgumentException" "host and home are the same" 188 202 192 (by decide) (by decide) (by decide +kernel) rh_t2b rh_t2g hown (hts (.classLink RX4 188 "java/lang/IllegalArgumentException") (by decide +kernel)) (hts (.initialized "java/lang/IllegalArgumentException") (by decide +kernel)) (fun w h => hts w (List.mem_cons_of_mem _ (List.mem_append_right _ (h)))) hE hS (hl.1.trans hml.symm) dX4_pairAt_29 dX4_pairAt_32 dX4_pairAt_33 dX4_pairAt_35 dX4_pairAt_38 hex hlocks (by decide) (Nat.le_of_ble_eq_true rfl) (by decide) (by decide) (fun H1 _ hk => ⟨Or.inr ⟨rfl, hox, hoy, hxy⟩, hW.grow hk⟩) (by decide) (by decide)
    · have hno : ¬ (ix x 4 ∧ ix y 4) := fun z => ho5 z.2
      refine W.eq (g2 := F0 m 11 ls [.int 0]) rfl ?_
      refine lv_if_ne (tgt := 24) hx hb dX4_pairAt_11 (by decide) (fun c8 => absurd c8 (by decide)) (fun c8 => ?_)
      exact rh_throw hx hb hlf "java/lang/IndexOutOfBoundsException" "there is no such operator" 197 199 201 (by decide) (by decide) (by decide +kernel) rh_t1b rh_t1g hown (hts (.classLink RX4 197 "java/lang/IndexOutOfBoundsException") (by decide +kernel)) (hts (.initialized "java/lang/IndexOutOfBoundsException") (by decide +kernel)) (fun w h => hts w (List.mem_cons_of_mem _ (List.mem_append_left _ (List.mem_append_right _ (h))))) hE hS (hl.1.trans hml.symm) dX4_pairAt_14 dX4_pairAt_17 dX4_pairAt_18 dX4_pairAt_20 dX4_pairAt_23 hex hlocks (by decide) (Nat.le_of_ble_eq_true rfl) (by decide) (by decide) (fun H1 _ hk => ⟨Or.inl ⟨rfl, hno⟩, hW.grow hk⟩) (by decide) (by decide)
  · have hno : ¬ (ix x 4 ∧ ix y 4) := fun z => ho2 z.1
    refine W.eq (g2 := F0 m 4 ls [.int 0]) rfl ?_
    refine lv_if_eq (tgt := 14) hx hb dX4_pairAt_4 (by decide) (fun c9 => ?_) (fun c9 => absurd c9 (by decide))
    exact rh_throw hx hb hlf "java/lang/IndexOutOfBoundsException" "there is no such operator" 197 199 201 (by decide) (by decide) (by decide +kernel) rh_t1b rh_t1g hown (hts (.classLink RX4 197 "java/lang/IndexOutOfBoundsException") (by decide +kernel)) (hts (.initialized "java/lang/IndexOutOfBoundsException") (by decide +kernel)) (fun w h => hts w (List.mem_cons_of_mem _ (List.mem_append_left _ (List.mem_append_right _ (h))))) hE hS (hl.1.trans hml.symm) dX4_pairAt_14 dX4_pairAt_17 dX4_pairAt_18 dX4_pairAt_20 dX4_pairAt_23 hex hlocks (by decide) (Nat.le_of_ble_eq_true rfl) (by decide) (by decide) (fun H1 _ hk => ⟨Or.inl ⟨rfl, hno⟩, hW.grow hk⟩) (by decide) (by decide)
set_option maxHeartbeats 4000000 in
set_option maxRecDepth 100000 in
/-- the file or call of a number -/
theorem ct_X4_fileAt (l : Launch) (hlf : l.stackTraces = false) {G : va_G} {ca : Nat → ClassId} {A : Nat → Prop} {ad : Nat → Nat → Nat} {nf nc : Nat} {r : rh_R} {v : rh_V} (hD : rh_D A ad (fun k i => i < rh_n nf nc k)) (hwf : rh_wf nf nc r v) (x : Int32) : rh_M l yX4_fileAt wsX4_fileAt ({ frames := 6, cells := 1, slots := 6, locals := 180 } : Room) G ca A [.ref (ad 0 0), .int x] (rh_W G ca ad nf nc r v) (fun o H => (∃ i : Nat, i < nf ∧ x = nI i ∧ o = some (.ref (ad 8 i))) ∧ rh_W G ca ad nf nc r v H) (fun E H => (E = exn 1 ∧ ¬ ix x nf) ∧ rh_W G ca ad nf nc r v H) 1 6 := by
  obtain ⟨hnf, hnc, hr8, hr9, hfc, hcc, hst, ⟨tt, htt, hnow⟩, hai⟩ := id hwf
  refine rh_enter (cc := cX4_fileAt) (maxL := 2) (ret := (some (.object "RoamingHouse$CallFile"))) (by decide) rfl (Nat.le_of_ble_eq_true rfl) ?_
  intro p e s m below meth c ls hx hb hr hml hown hts hlocks hex hin hE hA hW hl
  have hS : va_S A s.heap s.heap [] := va_S.rf
  have hl : lv_has ls 2 [(0, .ref (ad 0 0)), (1, .int x)] := hl
  refine lv_iload_n hx hb dX4_fileAt_0 rfl (lv_at hl 1 rfl) ?_
  refine lv_if_lt (tgt := 12) hx hb dX4_fileAt_1 (by decide) (fun c1 => ?_) (fun c1 => ?_)
  · have hc : ¬ ix x nf := ix_not_neg (by omega) c1
    exact rh_throw hx hb hlf "java/lang/IndexOutOfBoundsException" "there is no such file" 197 204 201 (by decide) (by decide) (by decide +kernel) rh_t1b rh_t1g hown (hts (.classLink RX4 197 "java/lang/IndexOutOfBoundsException") (by decide +kernel)) (hts (.initialized "java/lang/IndexOutOfBoundsException") (by decide +kernel)) (fun w h => hts w (List.mem_cons_of_mem _ (List.mem_append_right _ (h)))) hE hS (hl.1.trans hml.symm) dX4_fileAt_12 dX4_fileAt_15 dX4_fileAt_16 dX4_fileAt_18 dX4_fileAt_21 hex hlocks (by decide) (Nat.le_of_ble_eq_true rfl) (by decide) (by decide) (fun H1 _ hk => ⟨⟨rfl, hc⟩, hW.grow hk⟩) (by decide) (by decide)
  · refine lv_iload_n hx hb dX4_fileAt_4 rfl (lv_at hl 1 rfl) ?_
    refine lv_aload_n hx hb dX4_fileAt_5 rfl (lv_at hl 0 rfl) ?_
    refine rh_get (ci := 4) (C := RX4) (T := TX4) (N := 7) (v := .int (v 0 0 3)) hx hb hts (fun _ h => List.mem_cons_of_mem _ (List.mem_append_left _ (List.mem_append_right _ (h)))) hown hE (hW.at 0 0 Nat.zero_lt_one) rfl 3 (by decide) (hts (.fieldLink RX4 27 "RoamingHouse" "fileCount" "I") (by decide +kernel)) rfl dX4_fileAt_6 ?_
    refine lv_icmp_lt (tgt := 22) hx hb dX4_fileAt_9 (by decide) (fun c2 => ?_) (fun c2 => ?_)
    · have hc : ix x nf := ix_of (by omega) c1 (by rw [← hfc]; exact c2)
      obtain ⟨i, hi, hxi⟩ := (ix_iff (by omega)).mp hc
      refine lv_aload_n hx hb dX4_fileAt_22 rfl (lv_at hl 0 rfl) ?_
      refine rh_get (ci := 4) (C := RX4) (T := TX4) (N := 7) (v := .ref (ad 3 0)) hx hb hts (fun _ h => List.mem_cons_of_mem _ (List.mem_append_left _ (List.mem_append_right _ (h)))) hown hE (hW.at 0 0 Nat.zero_lt_one) rfl 2 (by decide) (hts (.fieldLink RX4 23 "RoamingHouse" "fileRows" "[LRoamingHouse$CallFile;") (by decide +kernel)) rfl dX4_fileAt_23 ?_
      refine lv_iload_n hx hb dX4_fileAt_26 rfl (lv_at hl 1 rfl) ?_
      refine rh_qald hx hb hE 5 rfl (hW.at 3 0 Nat.zero_lt_one) i (Nat.lt_of_lt_of_le hi hnf) (by decide) hxi (q := ad 8 i) (if_pos hi) dX4_fileAt_27 ?_
      exact rh_aret hx hb hr hlocks (Or.inr ⟨_, rfl⟩) ⟨⟨i, hi, hxi, rfl⟩, hW⟩ hS (by decide) (by decide) dX4_fileAt_28
    · have hc : ¬ ix x nf := ix_not_big (by omega) (by rw [← hfc]; exact nlt_le c2)
      exact rh_throw hx hb hlf "java/lang/IndexOutOfBoundsException" "there is no such file" 197 204 201 (by decide) (by decide) (by decide +kernel) rh_t1b rh_t1g hown (hts (.classLink RX4 197 "java/lang/IndexOutOfBoundsException") (by decide +kernel)) (hts (.initialized "java/lang/IndexOutOfBoundsException") (by decide +kernel)) (fun w h => hts w (List.mem_cons_of_mem _ (List.mem_append_right _ (h)))) hE hS (hl.1.trans hml.symm) dX4_fileAt_12 dX4_fileAt_15 dX4_fileAt_16 dX4_fileAt_18 dX4_fileAt_21 hex hlocks (by decide) (Nat.le_of_ble_eq_true rfl) (by decide) (by decide) (fun H1 _ hk => ⟨⟨rfl, hc⟩, hW.grow hk⟩) (by decide) (by decide)
set_option maxHeartbeats 4000000 in
set_option maxRecDepth 100000 in
/-- the file or call of a number -/
theorem ct_X4_callAt (l : Launch) (hlf : l.stackTraces = false) {G : va_G} {ca : Nat → ClassId} {A : Nat → Prop} {ad : Nat → Nat → Nat} {nf nc : Nat} {r : rh_R} {v : rh_V} (hD : rh_D A ad (fun k i => i < rh_n nf nc k)) (hwf : rh_wf nf nc r v) (x : Int32) : rh_M l yX4_callAt wsX4_callAt ({ frames := 6, cells := 1, slots := 6, locals := 180 } : Room) G ca A [.ref (ad 0 0), .int x] (rh_W G ca ad nf nc r v) (fun o H => (∃ i : Nat, i < nc ∧ x = nI i ∧ o = some (.ref (ad 9 i))) ∧ rh_W G ca ad nf nc r v H) (fun E H => (E = exn 1 ∧ ¬ ix x nc) ∧ rh_W G ca ad nf nc r v H) 1 6 := by
  obtain ⟨hnf, hnc, hr8, hr9, hfc, hcc, hst, ⟨tt, htt, hnow⟩, hai⟩ := id hwf
  refine rh_enter (cc := cX4_callAt) (maxL := 2) (ret := (some (.object "RoamingHouse$Call"))) (by decide) rfl (Nat.le_of_ble_eq_true rfl) ?_
  intro p e s m below meth c ls hx hb hr hml hown hts hlocks hex hin hE hA hW hl
  have hS : va_S A s.heap s.heap [] := va_S.rf
  have hl : lv_has ls 2 [(0, .ref (ad 0 0)), (1, .int x)] := hl
  refine lv_iload_n hx hb dX4_callAt_0 rfl (lv_at hl 1 rfl) ?_
  refine lv_if_lt (tgt := 12) hx hb dX4_callAt_1 (by decide) (fun c1 => ?_) (fun c1 => ?_)
  · have hc : ¬ ix x nc := ix_not_neg (by omega) c1
    exact rh_throw hx hb hlf "java/lang/IndexOutOfBoundsException" "there is no such call" 197 206 201 (by decide) (by decide) (by decide +kernel) rh_t1b rh_t1g hown (hts (.classLink RX4 197 "java/lang/IndexOutOfBoundsException") (by decide +kernel)) (hts (.initialized "java/lang/IndexOutOfBoundsException") (by decide +kernel)) (fun w h => hts w (List.mem_cons_of_mem _ (List.mem_append_right _ (h)))) hE hS (hl.1.trans hml.symm) dX4_callAt_12 dX4_callAt_15 dX4_callAt_16 dX4_callAt_18 dX4_callAt_21 hex hlocks (by decide) (Nat.le_of_ble_eq_true rfl) (by decide) (by decide) (fun H1 _ hk => ⟨⟨rfl, hc⟩, hW.grow hk⟩) (by decide) (by decide)
  · refine lv_iload_n hx hb dX4_callAt_4 rfl (lv_at hl 1 rfl) ?_
    refine lv_aload_n hx hb dX4_callAt_5 rfl (lv_at hl 0 rfl) ?_
    refine rh_get (ci := 4) (C := RX4) (T := TX4) (N := 7) (v := .int (v 0 0 5)) hx hb hts (fun _ h => List.mem_cons_of_mem _ (List.mem_append_left _ (List.mem_append_right _ (h)))) hown hE (hW.at 0 0 Nat.zero_lt_one) rfl 5 (by decide) (hts (.fieldLink RX4 37 "RoamingHouse" "callCount" "I") (by decide +kernel)) rfl dX4_callAt_6 ?_
    refine lv_icmp_lt (tgt := 22) hx hb dX4_callAt_9 (by decide) (fun c2 => ?_) (fun c2 => ?_)
    · have hc : ix x nc := ix_of (by omega) c1 (by rw [← hcc]; exact c2)
      obtain ⟨i, hi, hxi⟩ := (ix_iff (by omega)).mp hc
      refine lv_aload_n hx hb dX4_callAt_22 rfl (lv_at hl 0 rfl) ?_
      refine rh_get (ci := 4) (C := RX4) (T := TX4) (N := 7) (v := .ref (ad 4 0)) hx hb hts (fun _ h => List.mem_cons_of_mem _ (List.mem_append_left _ (List.mem_append_right _ (h)))) hown hE (hW.at 0 0 Nat.zero_lt_one) rfl 4 (by decide) (hts (.fieldLink RX4 33 "RoamingHouse" "callRows" "[LRoamingHouse$Call;") (by decide +kernel)) rfl dX4_callAt_23 ?_
      refine lv_iload_n hx hb dX4_callAt_26 rfl (lv_at hl 1 rfl) ?_
      refine rh_qald hx hb hE 6 rfl (hW.at 4 0 Nat.zero_lt_one) i (Nat.lt_of_lt_of_le hi hnc) (by decide) hxi (q := ad 9 i) (if_pos hi) dX4_callAt_27 ?_
      exact rh_aret hx hb hr hlocks (Or.inr ⟨_, rfl⟩) ⟨⟨i, hi, hxi, rfl⟩, hW⟩ hS (by decide) (by decide) dX4_callAt_28
    · have hc : ¬ ix x nc := ix_not_big (by omega) (by rw [← hcc]; exact nlt_le c2)
      exact rh_throw hx hb hlf "java/lang/IndexOutOfBoundsException" "there is no such call" 197 206 201 (by decide) (by decide) (by decide +kernel) rh_t1b rh_t1g hown (hts (.classLink RX4 197 "java/lang/IndexOutOfBoundsException") (by decide +kernel)) (hts (.initialized "java/lang/IndexOutOfBoundsException") (by decide +kernel)) (fun w h => hts w (List.mem_cons_of_mem _ (List.mem_append_right _ (h)))) hE hS (hl.1.trans hml.symm) dX4_callAt_12 dX4_callAt_15 dX4_callAt_16 dX4_callAt_18 dX4_callAt_21 hex hlocks (by decide) (Nat.le_of_ble_eq_true rfl) (by decide) (by decide) (fun H1 _ hk => ⟨⟨rfl, hc⟩, hW.grow hk⟩) (by decide) (by decide)
end
section
/-! ===== the house: amounts ===== -/
set_option maxHeartbeats 4000000 in
set_option maxRecDepth 100000 in
/-- whether a call is discounted -/
theorem ct_X3_discounts (l : Launch) {G : va_G} {ca : Nat → ClassId} {A : Nat → Prop} {ad : Nat → Nat → Nat} {nf nc : Nat} {r : rh_R} {v : rh_V} (hD : rh_D A ad (fun k i => i < rh_n nf nc k)) (q : Nat) (hq : q < 16) (y : Nat) (hy : y < 3) (a : Int32) : rh_M l yX3_discounts wsX3_discounts ({ frames := 0, cells := 0, slots := 0, locals := 0 } : Room) G ca A [.ref (ad 6 q), .int (nI y), .int a] (rh_W G ca ad nf nc r v) (fun o H => ((c_disc v q y a ∧ o = some (.int 1)) ∨ (¬ c_disc v q y a ∧ o = some (.int 0))) ∧ rh_W G ca ad nf nc r v H) rh_no 0 0 := by
  refine rh_enter (cc := cX3_discounts) (maxL := 3) (ret := (some .boolean)) (by decide) rfl (Nat.le_of_ble_eq_true rfl) ?_
  intro p e s m below meth c ls hx hb hr hml hown hts hlocks hex hin hE hA hW hl
  have hS : va_S A s.heap s.heap [] := va_S.rf
  have hl : lv_has ls 3 [(0, .ref (ad 6 q)), (1, .int (nI y)), (2, .int a)] := hl
  refine lv_aload_n hx hb dX3_discounts_0 rfl (lv_at hl 0 rfl) ?_
  refine rh_get (ci := 3) (C := RX3) (T := TX3) (N := 7) (v := .int (v 6 q 5)) hx hb hts (fun _ h => List.mem_cons_of_mem _ (List.mem_append_right _ (h))) hown hE (hW.at 6 q hq) rfl 5 (by decide) (hts (.fieldLink RX3 24 "RoamingHouse$Pair" "goesBack" "Z") (by decide +kernel)) rfl dX3_discounts_1 ?_
  refine lv_if_eq (tgt := 16) hx hb dX3_discounts_4 (by decide) (fun c1 => ?_) (fun c1 => ?_)
  · have hg : (if v 6 q 5 = 0 then a else v 7 q y) = a := if_pos c1
    refine lv_iload_n hx hb dX3_discounts_16 rfl (lv_at hl 2 rfl) ?_
    refine lv_aload_n hx hb dX3_discounts_17 rfl (lv_at hl 0 rfl) ?_
    refine rh_get (ci := 3) (C := RX3) (T := TX3) (N := 7) (v := .int (v 6 q 3)) hx hb hts (fun _ h => List.mem_cons_of_mem _ (List.mem_append_right _ (h))) hown hE (hW.at 6 q hq) rfl 3 (by decide) (hts (.fieldLink RX3 18 "RoamingHouse$Pair" "volume" "I") (by decide +kernel)) rfl dX3_discounts_18 ?_
    refine lv_icmp_lt (tgt := 28) hx hb dX3_discounts_21 (by decide) (fun c2 => ?_) (fun c2 => ?_)
    · have hc : ¬ c_disc v q y a := fun z => z (by rw [hg]; exact c2)
      refine lv_iconst (v := 0) hx hb dX3_discounts_28 (by decide) ?_
      exact rh_zret hx hb hr hlocks rfl ⟨Or.inr ⟨hc, rfl⟩, hW⟩ hS (by decide) (by decide) dX3_discounts_29
    · have hc : c_disc v q y a := fun z => c2 (by rw [← hg]; exact z)
      refine lv_iconst (v := 1) hx hb dX3_discounts_24 (by decide) ?_
      refine lv_goto (tgt := 29) hx hb dX3_discounts_25 (by decide) ?_
      exact rh_zret hx hb hr hlocks rfl ⟨Or.inl ⟨hc, rfl⟩, hW⟩ hS (by decide) (by decide) dX3_discounts_29
  · have hg : (if v 6 q 5 = 0 then a else v 7 q y) = v 7 q y := if_neg c1
    refine lv_aload_n hx hb dX3_discounts_7 rfl (lv_at hl 0 rfl) ?_
    refine rh_get (ci := 3) (C := RX3) (T := TX3) (N := 7) (v := .ref (ad 7 q)) hx hb hts (fun _ h => List.mem_cons_of_mem _ (List.mem_append_right _ (h))) hown hE (hW.at 6 q hq) rfl 6 (by decide) (hts (.fieldLink RX3 28 "RoamingHouse$Pair" "acceptedSeconds" "[I") (by decide +kernel)) rfl dX3_discounts_8 ?_
    refine lv_iload_n hx hb dX3_discounts_11 rfl (lv_at hl 1 rfl) ?_
    refine rh_iald hx hb hE (hW.at 7 q hq) y hy (by decide) rfl dX3_discounts_12 ?_
    refine lv_goto (tgt := 17) hx hb dX3_discounts_13 (by decide) ?_
    refine lv_aload_n hx hb dX3_discounts_17 rfl (lv_at hl 0 rfl) ?_
    refine rh_get (ci := 3) (C := RX3) (T := TX3) (N := 7) (v := .int (v 6 q 3)) hx hb hts (fun _ h => List.mem_cons_of_mem _ (List.mem_append_right _ (h))) hown hE (hW.at 6 q hq) rfl 3 (by decide) (hts (.fieldLink RX3 18 "RoamingHouse$Pair" "volume" "I") (by decide +kernel)) rfl dX3_discounts_18 ?_
    refine lv_icmp_lt (tgt := 28) hx hb dX3_discounts_21 (by decide) (fun c3 => ?_) (fun c3 => ?_)
    · have hc : ¬ c_disc v q y a := fun z => z (by rw [hg]; exact c3)
      refine lv_iconst (v := 0) hx hb dX3_discounts_28 (by decide) ?_
      exact rh_zret hx hb hr hlocks rfl ⟨Or.inr ⟨hc, rfl⟩, hW⟩ hS (by decide) (by decide) dX3_discounts_29
    · have hc : c_disc v q y a := fun z => c3 (by rw [← hg]; exact z)
      refine lv_iconst (v := 1) hx hb dX3_discounts_24 (by decide) ?_
      refine lv_goto (tgt := 29) hx hb dX3_discounts_25 (by decide) ?_
      exact rh_zret hx hb hr hlocks rfl ⟨Or.inl ⟨hc, rfl⟩, hW⟩ hS (by decide) (by decide) dX3_discounts_29
set_option maxHeartbeats 4000000 in
set_option maxRecDepth 100000 in
/-- a call is accepted in a month -/
theorem ct_X0_acceptIn (l : Launch) {G : va_G} {ca : Nat → ClassId} {A : Nat → Prop} {ad : Nat → Nat → Nat} {nf nc : Nat} {r : rh_R} {v : rh_V} (hD : rh_D A ad (fun k i => i < rh_n nf nc k)) (hwf : rh_wf nf nc r v) (k : Nat) (hk : k < nc) (t : Nat) (ht : t < 36) : rh_M l yX0_acceptIn wsX0_acceptIn ({ frames := 1, cells := 0, slots := 0, locals := 30 } : Room) G ca A [.ref (ad 9 k), .int (nI t)] (rh_W G ca ad nf nc r v) (fun o H => o = none ∧ rh_W G ca ad nf nc r (c_acc1 r v k (nI t)) H) rh_no 0 0 := by
  obtain ⟨hnf, hnc, hr8, hr9, hfc, hcc, hst, ⟨tt, htt, hnow⟩, hai⟩ := id hwf
  have hy : t / 12 < 3 := by omega
  have hyr := c_yr_of ht
  refine rh_enter (cc := cX0_acceptIn) (maxL := 3) (ret := none) (by decide) rfl (Nat.le_of_ble_eq_true rfl) ?_
  intro p e s m below meth c ls hx hb hr hml hown hts hlocks hex hin hE hA hW hl
  have hS : va_S A s.heap s.heap [] := va_S.rf
  have hl : lv_has ls 3 [(0, .ref (ad 9 k)), (1, .int (nI t))] := hl
  refine lv_iload_n hx hb dX0_acceptIn_0 rfl (lv_at hl 1 rfl) ?_
  refine rh_callm (va_runSN (As := [.int (nI t)]) (rest := []) ⟨hx, hb, hml, hown, hts⟩ (mt_X4_yearOf l hD (nI t)) ⟨va_cnB 1 hts gX0_acceptIn_X4_yearOf_n52 rfl rfl rfl hE.2.2.2.2.2.1 (hts (.initialized RX4) (by decide +kernel)) (by decide +kernel) ⟨by decide, by decide⟩, (hts (.static yX4_yearOf) (by decide +kernel)), trivial⟩ (rh_pre hE hS hA hW) rfl rfl hl.1 rfl (lv_room (Nat.le_of_ble_eq_true rfl)) dX0_acceptIn_1 ⟨by decide, by decide⟩) hS (fun o H locs hN1 hS => ?_)
  obtain ⟨rfl, hW⟩ := hN1
  refine W.eq (g2 := F0 m 4 ls [.int ((nI t) / 12)]) rfl ?_
  rw [hyr.1]
  refine lv_istore_n (lv' := [(2, .int (nI (t / 12))), (0, .ref (ad 9 k)), (1, .int (nI t))]) hx hb dX0_acceptIn_4 rfl hl (by decide) rfl (fun ls hl => ?_)
  refine lv_aload_n hx hb dX0_acceptIn_5 rfl (lv_at hl 1 rfl) ?_
  refine lv_iconst (v := 1) hx hb dX0_acceptIn_6 (by decide) ?_
  refine rh_put (ci := 0) (C := RX0) (T := TX0) (N := 7) (x := 1) hx hb hts (fun _ h => List.mem_cons_of_mem _ (List.mem_append_left _ (List.mem_append_left _ (List.mem_append_right _ (h))))) tyX0 tyX0_ok nmX0 hown hE hW hD hS rfl 9 k hk rfl 3 (by decide) (hts (.fieldLink RX0 9 "RoamingHouse$Call" "state" "I") (by decide +kernel)) rfl rfl rfl (Nat.le_of_ble_eq_true rfl) rfl dX0_acceptIn_7 (fun H locs hW hS => ?_)
  refine lv_aload_n hx hb dX0_acceptIn_10 rfl (lv_at hl 1 rfl) ?_
  refine lv_iload_n hx hb dX0_acceptIn_11 rfl (lv_at hl 2 rfl) ?_
  refine rh_put (ci := 0) (C := RX0) (T := TX0) (N := 7) (x := (nI t)) hx hb hts (fun _ h => List.mem_cons_of_mem _ (List.mem_append_left _ (List.mem_append_left _ (List.mem_append_right _ (h))))) tyX0 tyX0_ok nmX0 hown hE hW hD hS rfl 9 k hk rfl 4 (by decide) (hts (.fieldLink RX0 15 "RoamingHouse$Call" "acceptedIn" "I") (by decide +kernel)) rfl rfl rfl (Nat.le_of_ble_eq_true rfl) rfl dX0_acceptIn_12 (fun H locs hW hS => ?_)
  refine lv_aload_n hx hb dX0_acceptIn_15 rfl (lv_at hl 1 rfl) ?_
  refine lv_aload_n hx hb dX0_acceptIn_16 rfl (lv_at hl 1 rfl) ?_
  refine rh_get (ci := 0) (C := RX0) (T := TX0) (N := 7) (v := .ref (ad 8 (r 9 k))) hx hb hts (fun _ h => List.mem_cons_of_mem _ (List.mem_append_left _ (List.mem_append_left _ (List.mem_append_right _ (h))))) hown hE (hW.at 9 k hk) rfl 0 (by decide) (hts (.fieldLink RX0 24 "RoamingHouse$Call" "file" "LRoamingHouse$CallFile;") (by decide +kernel)) rfl dX0_acceptIn_17 ?_
  refine rh_get (ci := 1) (C := RX1) (T := TX1) (N := 5) (v := .ref (ad 6 (r 8 (r 9 k)))) hx hb hts (fun _ h => List.mem_cons_of_mem _ (List.mem_append_left _ (List.mem_append_right _ (h)))) hown hE (hW.at 8 (r 9 k) (hr9 _ hk)) rfl 0 (by decide) (hts (.fieldLink RX0 34 "RoamingHouse$CallFile" "pair" "LRoamingHouse$Pair;") (by decide +kernel)) rfl dX0_acceptIn_20 ?_
  refine rh_get (ci := 3) (C := RX3) (T := TX3) (N := 7) (v := .ref (ad 7 (r 8 (r 9 k)))) hx hb hts (fun _ h => List.mem_cons_of_mem _ (List.mem_append_right _ (h))) hown hE (hW.at 6 (r 8 (r 9 k)) (hr8 _ (hr9 _ hk))) rfl 6 (by decide) (hts (.fieldLink RX0 55 "RoamingHouse$Pair" "acceptedSeconds" "[I") (by decide +kernel)) rfl dX0_acceptIn_23 ?_
  refine lv_iload_n hx hb dX0_acceptIn_26 rfl (lv_at hl 0 rfl) ?_
  refine rh_iald hx hb hE (hW.at 7 (r 8 (r 9 k)) (hr8 _ (hr9 _ hk))) (t / 12) hy (by decide) rfl dX0_acceptIn_27 ?_
  refine rh_put (ci := 0) (C := RX0) (T := TX0) (N := 7) (x := (v 7 (r 8 (r 9 k)) (t / 12))) hx hb hts (fun _ h => List.mem_cons_of_mem _ (List.mem_append_left _ (List.mem_append_left _ (List.mem_append_right _ (h))))) tyX0 tyX0_ok nmX0 hown hE hW hD hS rfl 9 k hk rfl 6 (by decide) (hts (.fieldLink RX0 21 "RoamingHouse$Call" "secondsAhead" "I") (by decide +kernel)) rfl rfl rfl (Nat.le_of_ble_eq_true rfl) rfl dX0_acceptIn_28 (fun H locs hW hS => ?_)
  refine lv_aload_n hx hb dX0_acceptIn_31 rfl (lv_at hl 1 rfl) ?_
  refine rh_get (ci := 0) (C := RX0) (T := TX0) (N := 7) (v := .ref (ad 8 (r 9 k))) hx hb hts (fun _ h => List.mem_cons_of_mem _ (List.mem_append_left _ (List.mem_append_left _ (List.mem_append_right _ (h))))) hown hE (hW.at 9 k hk) rfl 0 (by decide) (hts (.fieldLink RX0 24 "RoamingHouse$Call" "file" "LRoamingHouse$CallFile;") (by decide +kernel)) rfl dX0_acceptIn_32 ?_
  refine rh_get (ci := 1) (C := RX1) (T := TX1) (N := 5) (v := .ref (ad 6 (r 8 (r 9 k)))) hx hb hts (fun _ h => List.mem_cons_of_mem _ (List.mem_append_left _ (List.mem_append_right _ (h)))) hown hE (hW.at 8 (r 9 k) (hr9 _ hk)) rfl 0 (by decide) (hts (.fieldLink RX0 34 "RoamingHouse$CallFile" "pair" "LRoamingHouse$Pair;") (by decide +kernel)) rfl dX0_acceptIn_35 ?_
  refine rh_get (ci := 3) (C := RX3) (T := TX3) (N := 7) (v := .ref (ad 7 (r 8 (r 9 k)))) hx hb hts (fun _ h => List.mem_cons_of_mem _ (List.mem_append_right _ (h))) hown hE (hW.at 6 (r 8 (r 9 k)) (hr8 _ (hr9 _ hk))) rfl 6 (by decide) (hts (.fieldLink RX0 55 "RoamingHouse$Pair" "acceptedSeconds" "[I") (by decide +kernel)) rfl dX0_acceptIn_38 ?_
  refine lv_iload_n hx hb dX0_acceptIn_41 rfl (lv_at hl 0 rfl) ?_
  refine lv_dup2_11 hx hb dX0_acceptIn_42 rfl rfl ?_
  refine rh_iald hx hb hE (hW.at 7 (r 8 (r 9 k)) (hr8 _ (hr9 _ hk))) (t / 12) hy (by decide) rfl dX0_acceptIn_43 ?_
  refine lv_aload_n hx hb dX0_acceptIn_44 rfl (lv_at hl 1 rfl) ?_
  refine rh_get (ci := 0) (C := RX0) (T := TX0) (N := 7) (v := .int (v 9 k 1)) hx hb hts (fun _ h => List.mem_cons_of_mem _ (List.mem_append_left _ (List.mem_append_left _ (List.mem_append_right _ (h))))) hown hE (hW.at 9 k hk) rfl 1 (by decide) (hts (.fieldLink RX0 28 "RoamingHouse$Call" "seconds" "I") (by decide +kernel)) (show some (Value.int ((wr (wr (wr v 9 k 3 1) 9 k 4 (nI t)) 9 k 6 (v 7 (r 8 (r 9 k)) (t / 12))) 9 k 1)) = some (Value.int (v 9 k 1)) from by simp [wr_at]) dX0_acceptIn_45 ?_
  refine lv_iadd hx hb dX0_acceptIn_48 ?_
  refine rh_iast7 (x := (v 7 (r 8 (r 9 k)) (t / 12) + v 9 k 1)) hx hb hE hW hD hS (r 8 (r 9 k)) (hr8 _ (hr9 _ hk)) (t / 12) hy rfl dX0_acceptIn_49 (fun H locs hW hS => ?_)
  exact rh_vret hx hb hr hlocks ⟨rfl, by unfold c_acc1; rw [hyr.2]; exact hW⟩ hS (by decide) (by decide) dX0_acceptIn_50
set_option maxHeartbeats 4000000 in
set_option maxRecDepth 100000 in
/-- what is owed for a call -/
theorem ct_X0_amount (l : Launch) {G : va_G} {ca : Nat → ClassId} {A : Nat → Prop} {ad : Nat → Nat → Nat} {nf nc : Nat} {r : rh_R} {v : rh_V} (hD : rh_D A ad (fun k i => i < rh_n nf nc k)) (hwf : rh_wf nf nc r v) (k : Nat) (hk : k < nc) : rh_M l yX0_amount wsX0_amount ({ frames := 1, cells := 0, slots := 0, locals := 30 } : Room) G ca A [.ref (ad 9 k)] (rh_W G ca ad nf nc r v) (fun o H => o = some (.int (c_amt r v k)) ∧ rh_W G ca ad nf nc r v H) rh_no 0 0 := by
  obtain ⟨hnf, hnc, hr8, hr9, hfc, hcc, hst, ⟨tt, htt, hnow⟩, hai⟩ := id hwf
  refine rh_enter (cc := cX0_amount) (maxL := 1) (ret := (some .int)) (by decide) rfl (Nat.le_of_ble_eq_true rfl) ?_
  intro p e s m below meth c ls hx hb hr hml hown hts hlocks hex hin hE hA hW hl
  have hS : va_S A s.heap s.heap [] := va_S.rf
  have hl : lv_has ls 1 [(0, .ref (ad 9 k))] := hl
  refine lv_aload_n hx hb dX0_amount_0 rfl (lv_at hl 0 rfl) ?_
  refine rh_get (ci := 0) (C := RX0) (T := TX0) (N := 7) (v := .int (v 9 k 3)) hx hb hts (fun _ h => List.mem_cons_of_mem _ (List.mem_append_left _ (List.mem_append_left _ (List.mem_append_right _ (h))))) hown hE (hW.at 9 k hk) rfl 3 (by decide) (hts (.fieldLink RX0 9 "RoamingHouse$Call" "state" "I") (by decide +kernel)) rfl dX0_amount_1 ?_
  refine lv_if_eq (tgt := 15) hx hb dX0_amount_4 (by decide) (fun c1 => ?_) (fun c1 => ?_)
  · have hamt : c_amt r v k = 0 := if_pos (Or.inl c1)
    refine lv_iconst (v := 0) hx hb dX0_amount_15 (by decide) ?_
    exact rh_iret hx hb hr hlocks ⟨by rw [hamt], hW⟩ hS (by decide) (by decide) dX0_amount_16
  · refine lv_aload_n hx hb dX0_amount_7 rfl (lv_at hl 0 rfl) ?_
    refine rh_get (ci := 0) (C := RX0) (T := TX0) (N := 7) (v := .int (v 9 k 3)) hx hb hts (fun _ h => List.mem_cons_of_mem _ (List.mem_append_left _ (List.mem_append_left _ (List.mem_append_right _ (h))))) hown hE (hW.at 9 k hk) rfl 3 (by decide) (hts (.fieldLink RX0 9 "RoamingHouse$Call" "state" "I") (by decide +kernel)) rfl dX0_amount_8 ?_
    refine lv_iconst (v := 4) hx hb dX0_amount_11 (by decide) ?_
    refine lv_icmp_ne (tgt := 17) hx hb dX0_amount_12 (by decide) (fun c2 => ?_) (fun c2 => ?_)
    · have h4 : ¬ v 9 k 3 = 4 := c2
      obtain ⟨t, ht, hat⟩ := hai k hk c1
      have hy : t / 12 < 3 := by omega
      have hyr := c_yr_of ht
      refine lv_aload_n hx hb dX0_amount_17 rfl (lv_at hl 0 rfl) ?_
      refine rh_get (ci := 0) (C := RX0) (T := TX0) (N := 7) (v := .ref (ad 8 (r 9 k))) hx hb hts (fun _ h => List.mem_cons_of_mem _ (List.mem_append_left _ (List.mem_append_left _ (List.mem_append_right _ (h))))) hown hE (hW.at 9 k hk) rfl 0 (by decide) (hts (.fieldLink RX0 24 "RoamingHouse$Call" "file" "LRoamingHouse$CallFile;") (by decide +kernel)) rfl dX0_amount_18 ?_
      refine rh_get (ci := 1) (C := RX1) (T := TX1) (N := 5) (v := .ref (ad 6 (r 8 (r 9 k)))) hx hb hts (fun _ h => List.mem_cons_of_mem _ (List.mem_append_left _ (List.mem_append_right _ (h)))) hown hE (hW.at 8 (r 9 k) (hr9 _ hk)) rfl 0 (by decide) (hts (.fieldLink RX0 34 "RoamingHouse$CallFile" "pair" "LRoamingHouse$Pair;") (by decide +kernel)) rfl dX0_amount_21 ?_
      refine lv_aload_n hx hb dX0_amount_24 rfl (lv_at hl 0 rfl) ?_
      refine rh_get (ci := 0) (C := RX0) (T := TX0) (N := 7) (v := .int (v 9 k 4)) hx hb hts (fun _ h => List.mem_cons_of_mem _ (List.mem_append_left _ (List.mem_append_left _ (List.mem_append_right _ (h))))) hown hE (hW.at 9 k hk) rfl 4 (by decide) (hts (.fieldLink RX0 15 "RoamingHouse$Call" "acceptedIn" "I") (by decide +kernel)) rfl dX0_amount_25 ?_
      refine rh_callm (va_runSN (As := [.int (v 9 k 4)]) (rest := [.ref (ad 6 (r 8 (r 9 k)))]) ⟨hx, hb, hml, hown, hts⟩ (mt_X4_yearOf l hD (v 9 k 4)) ⟨va_cnB 1 hts gX0_amount_X4_yearOf_n52 rfl rfl rfl hE.2.2.2.2.2.1 (hts (.initialized RX4) (by decide +kernel)) (by decide +kernel) ⟨by decide, by decide⟩, (hts (.static yX4_yearOf) (by decide +kernel)), trivial⟩ (rh_pre hE hS hA hW) rfl rfl hl.1 rfl (lv_room (Nat.le_of_ble_eq_true rfl)) dX0_amount_28 ⟨by decide, by decide⟩) hS (fun o H locs hN3 hS => ?_)
      obtain ⟨rfl, hW⟩ := hN3
      refine W.eq (g2 := F0 m 31 ls [.int ((v 9 k 4) / 12), .ref (ad 6 (r 8 (r 9 k)))]) rfl ?_
      rw [hat, hyr.1]
      refine lv_aload_n hx hb dX0_amount_31 rfl (lv_at hl 0 rfl) ?_
      refine rh_get (ci := 0) (C := RX0) (T := TX0) (N := 7) (v := .int (v 9 k 6)) hx hb hts (fun _ h => List.mem_cons_of_mem _ (List.mem_append_left _ (List.mem_append_left _ (List.mem_append_right _ (h))))) hown hE (hW.at 9 k hk) rfl 6 (by decide) (hts (.fieldLink RX0 21 "RoamingHouse$Call" "secondsAhead" "I") (by decide +kernel)) rfl dX0_amount_32 ?_
      refine rh_calln (vx_runV (As := [.int (nI (t / 12)), .int (v 9 k 6)]) (rest := []) ⟨hx, hb, hml, hown, hts⟩ (ct_X3_discounts l hD (r 8 (r 9 k)) (hr8 _ (hr9 _ hk)) (t / 12) hy (v 9 k 6)) (cwV 2 hts gX0_amount_X3_discounts rfl rfl rfl (by decide +kernel) ⟨by decide, by decide⟩) (rh_preV hE hS hA (hW.at 6 (r 8 (r 9 k)) (hr8 _ (hr9 _ hk))) rfl hW) rfl rfl hl.1 rfl (lv_room (Nat.le_of_ble_eq_true rfl)) dX0_amount_35 ⟨by decide, by decide⟩) hS (fun o H locs hN4 hS => ?_)
      obtain ⟨⟨hc5, rfl⟩ | ⟨hc5, rfl⟩, hW⟩ := hN4
      · have hamt : c_amt r v k = c_cut (v 9 k 2) (v 6 (c_pr r k) 4) := by unfold c_amt; rw [if_neg (fun z => z.elim c1 h4), if_pos (by rw [hat, hyr.2]; exact hc5)]
        refine W.eq (g2 := F0 m 38 ls [.int 1]) rfl ?_
        refine lv_if_ne (tgt := 46) hx hb dX0_amount_38 (by decide) (fun c6 => ?_) (fun c6 => absurd c6 (by decide))
        refine lv_aload_n hx hb dX0_amount_46 rfl (lv_at hl 0 rfl) ?_
        refine rh_get (ci := 0) (C := RX0) (T := TX0) (N := 7) (v := .int (v 9 k 2)) hx hb hts (fun _ h => List.mem_cons_of_mem _ (List.mem_append_left _ (List.mem_append_left _ (List.mem_append_right _ (h))))) hown hE (hW.at 9 k hk) rfl 2 (by decide) (hts (.fieldLink RX0 31 "RoamingHouse$Call" "told" "I") (by decide +kernel)) rfl dX0_amount_47 ?_
        refine lv_aload_n hx hb dX0_amount_50 rfl (lv_at hl 0 rfl) ?_
        refine rh_get (ci := 0) (C := RX0) (T := TX0) (N := 7) (v := .int (v 9 k 2)) hx hb hts (fun _ h => List.mem_cons_of_mem _ (List.mem_append_left _ (List.mem_append_left _ (List.mem_append_right _ (h))))) hown hE (hW.at 9 k hk) rfl 2 (by decide) (hts (.fieldLink RX0 31 "RoamingHouse$Call" "told" "I") (by decide +kernel)) rfl dX0_amount_51 ?_
        refine lv_i2l hx hb dX0_amount_54 rfl ?_
        refine lv_aload_n hx hb dX0_amount_55 rfl (lv_at hl 0 rfl) ?_
        refine rh_get (ci := 0) (C := RX0) (T := TX0) (N := 7) (v := .ref (ad 8 (r 9 k))) hx hb hts (fun _ h => List.mem_cons_of_mem _ (List.mem_append_left _ (List.mem_append_left _ (List.mem_append_right _ (h))))) hown hE (hW.at 9 k hk) rfl 0 (by decide) (hts (.fieldLink RX0 24 "RoamingHouse$Call" "file" "LRoamingHouse$CallFile;") (by decide +kernel)) rfl dX0_amount_56 ?_
        refine rh_get (ci := 1) (C := RX1) (T := TX1) (N := 5) (v := .ref (ad 6 (r 8 (r 9 k)))) hx hb hts (fun _ h => List.mem_cons_of_mem _ (List.mem_append_left _ (List.mem_append_right _ (h)))) hown hE (hW.at 8 (r 9 k) (hr9 _ hk)) rfl 0 (by decide) (hts (.fieldLink RX0 34 "RoamingHouse$CallFile" "pair" "LRoamingHouse$Pair;") (by decide +kernel)) rfl dX0_amount_59 ?_
        refine rh_get (ci := 3) (C := RX3) (T := TX3) (N := 7) (v := .int (v 6 (r 8 (r 9 k)) 4)) hx hb hts (fun _ h => List.mem_cons_of_mem _ (List.mem_append_right _ (h))) hown hE (hW.at 6 (r 8 (r 9 k)) (hr8 _ (hr9 _ hk))) rfl 4 (by decide) (hts (.fieldLink RX0 63 "RoamingHouse$Pair" "discountRate" "I") (by decide +kernel)) rfl dX0_amount_62 ?_
        refine lv_i2l hx hb dX0_amount_65 rfl ?_
        refine lv_lmul hx hb dX0_amount_66 ?_
        refine lv_ldc2 (v := 10000) hx hb hown (hts (.constantLong RX0 66 (10000)) (by decide +kernel)) dX0_amount_67 ?_
        refine lv_ldiv hx hb dX0_amount_70 (by decide) ?_
        refine lv_l2i hx hb dX0_amount_71 rfl ?_
        refine lv_isub hx hb dX0_amount_72 ?_
        exact rh_iret hx hb hr hlocks ⟨by rw [hamt]; rfl, hW⟩ hS (by decide) (by decide) dX0_amount_73
      · have hamt : c_amt r v k = v 9 k 2 := by unfold c_amt; rw [if_neg (fun z => z.elim c1 h4), if_neg (by rw [hat, hyr.2]; exact hc5)]
        refine W.eq (g2 := F0 m 38 ls [.int 0]) rfl ?_
        refine lv_if_ne (tgt := 46) hx hb dX0_amount_38 (by decide) (fun c7 => absurd c7 (by decide)) (fun c7 => ?_)
        refine lv_aload_n hx hb dX0_amount_41 rfl (lv_at hl 0 rfl) ?_
        refine rh_get (ci := 0) (C := RX0) (T := TX0) (N := 7) (v := .int (v 9 k 2)) hx hb hts (fun _ h => List.mem_cons_of_mem _ (List.mem_append_left _ (List.mem_append_left _ (List.mem_append_right _ (h))))) hown hE (hW.at 9 k hk) rfl 2 (by decide) (hts (.fieldLink RX0 31 "RoamingHouse$Call" "told" "I") (by decide +kernel)) rfl dX0_amount_42 ?_
        exact rh_iret hx hb hr hlocks ⟨by rw [hamt], hW⟩ hS (by decide) (by decide) dX0_amount_45
    · have hamt : c_amt r v k = 0 := if_pos (Or.inr c2)
      refine lv_iconst (v := 0) hx hb dX0_amount_15 (by decide) ?_
      exact rh_iret hx hb hr hlocks ⟨by rw [hamt], hW⟩ hS (by decide) (by decide) dX0_amount_16
end
section
/-! ===== the house: files ===== -/
set_option maxHeartbeats 4000000 in
set_option maxRecDepth 100000 in
/-- the first file of a pair that waits with a number -/
theorem ct_X4_waitingFile (l : Launch) {G : va_G} {ca : Nat → ClassId} {A : Nat → Prop} {ad : Nat → Nat → Nat} {nf nc : Nat} {r : rh_R} {v : rh_V} (hD : rh_D A ad (fun k i => i < rh_n nf nc k)) (hwf : rh_wf nf nc r v) (q : Nat) (hq : q < 16) (x : Int32) : rh_M l yX4_waitingFile wsX4_waitingFile ({ frames := 0, cells := 0, slots := 0, locals := 0 } : Room) G ca A [.ref (ad 0 0), .ref (ad 6 q), .int x] (rh_W G ca ad nf nc r v) (fun o H => ((∃ j : Nat, j < nf ∧ c_wait r v nf q x = some j ∧ o = some (.ref (ad 8 j))) ∨ (c_wait r v nf q x = none ∧ o = some .null)) ∧ rh_W G ca ad nf nc r v H) rh_no 0 0 := by
  obtain ⟨hnf, hnc, hr8, hr9, hfc, hcc, hst, ⟨tt, htt, hnow⟩, hai⟩ := id hwf
  refine rh_enter (cc := cX4_waitingFile) (maxL := 5) (ret := (some (.object "RoamingHouse$CallFile"))) (by decide) rfl (Nat.le_of_ble_eq_true rfl) ?_
  intro p e s m below meth c ls hx hb hr hml hown hts hlocks hex hin hE hA hW hl
  have hS : va_S A s.heap s.heap [] := va_S.rf
  have hl : lv_has ls 5 [(0, .ref (ad 0 0)), (1, .ref (ad 6 q)), (2, .int x)] := hl
  refine lv_iconst (v := 0) hx hb dX4_waitingFile_0 (by decide) ?_
  refine lv_istore_n (lv' := [(3, .int 0), (0, .ref (ad 0 0)), (1, .ref (ad 6 q)), (2, .int x)]) hx hb dX4_waitingFile_1 rfl hl (by decide) rfl (fun ls hl => ?_)
  have loop2 : ∀ (n : Nat) (j : Nat) (H : Heap) (locs : List Loc) (ls : Array Slot), nf + 1 ≤ j + n → j ≤ nf → firstp (c_isw r v q x) j = none → rh_W G ca ad nf nc r v H → va_S A s.heap H locs → lv_has ls 5 [(0, .ref (ad 0 0)), (1, .ref (ad 6 q)), (2, .int x), (3, .int (nI j))] → W p l e ({ frames := 0, cells := 0, slots := 0, locals := 0 } : Room) s m ([.ref (ad 0 0), .ref (ad 6 q), .int x] : List Value).toArray below meth c H locs 0 0 (vx_MQ below (rh_Q A (fun o H => ((∃ j : Nat, j < nf ∧ c_wait r v nf q x = some j ∧ o = some (.ref (ad 8 j))) ∨ (c_wait r v nf q x = none ∧ o = some .null)) ∧ rh_W G ca ad nf nc r v H)) (rh_XC A rh_no) ([.ref (ad 0 0), .ref (ad 6 q), .int x] : List Value).toArray s 0 0 A) (F0 m 2 ls []) := by
    intro n
    induction n with
    | zero => intro j H locs ls hjn hj hinv hW hS hl; exact absurd hjn (by omega)
    | succ n ih =>
      intro j H locs ls hjn hj hinv hW hS hl
      refine lv_iload_n hx hb dX4_waitingFile_2 rfl (lv_at hl 3 rfl) ?_
      refine lv_aload_n hx hb dX4_waitingFile_3 rfl (lv_at hl 0 rfl) ?_
      refine rh_get (ci := 4) (C := RX4) (T := TX4) (N := 7) (v := .int (v 0 0 3)) hx hb hts (fun _ h => List.mem_cons_of_mem _ (List.mem_append_left _ (List.mem_append_right _ (h)))) hown hE (hW.at 0 0 Nat.zero_lt_one) rfl 3 (by decide) (hts (.fieldLink RX4 27 "RoamingHouse" "fileCount" "I") (by decide +kernel)) rfl dX4_waitingFile_4 ?_
      refine lv_icmp_ge (tgt := 54) hx hb dX4_waitingFile_7 (by decide) (fun c1 => ?_) (fun c1 => ?_)
      · have hjf : j = nf := by
          rcases Nat.lt_or_ge j nf with z | z
          · exact absurd (by rw [← hfc]; exact c1) (nI_ge z (by omega))
          · omega
        refine lv_null hx hb dX4_waitingFile_54 ?_
        exact rh_aret hx hb hr hlocks (Or.inl rfl) ⟨Or.inr ⟨by rw [← hjf]; exact hinv, rfl⟩, hW⟩ hS (by decide) (by decide) dX4_waitingFile_55
      · have hjl : j < nf := by
          rcases Nat.lt_or_ge j nf with z | z
          · exact z
          · exact absurd (by rw [hfc]; exact nI_le z (by omega)) c1
        refine lv_aload_n hx hb dX4_waitingFile_10 rfl (lv_at hl 0 rfl) ?_
        refine rh_get (ci := 4) (C := RX4) (T := TX4) (N := 7) (v := .ref (ad 3 0)) hx hb hts (fun _ h => List.mem_cons_of_mem _ (List.mem_append_left _ (List.mem_append_right _ (h)))) hown hE (hW.at 0 0 Nat.zero_lt_one) rfl 2 (by decide) (hts (.fieldLink RX4 23 "RoamingHouse" "fileRows" "[LRoamingHouse$CallFile;") (by decide +kernel)) rfl dX4_waitingFile_11 ?_
        refine lv_iload_n hx hb dX4_waitingFile_14 rfl (lv_at hl 3 rfl) ?_
        refine rh_qald hx hb hE 5 rfl (hW.at 3 0 Nat.zero_lt_one) j (by omega) (by decide) rfl (q := ad 8 j) (if_pos hjl) dX4_waitingFile_15 ?_
        refine lv_astore (lv' := [(4, .ref (ad 8 j)), (0, .ref (ad 0 0)), (1, .ref (ad 6 q)), (2, .int x), (3, .int (nI j))]) hx hb dX4_waitingFile_16 hl (by decide) rfl (fun ls hl => ?_)
        refine lv_aload hx hb dX4_waitingFile_18 (lv_at hl 0 rfl) ?_
        refine rh_get (ci := 1) (C := RX1) (T := TX1) (N := 5) (v := .ref (ad 6 (r 8 j))) hx hb hts (fun _ h => List.mem_cons_of_mem _ (List.mem_append_right _ (h))) hown hE (hW.at 8 j hjl) rfl 0 (by decide) (hts (.fieldLink RX4 103 "RoamingHouse$CallFile" "pair" "LRoamingHouse$Pair;") (by decide +kernel)) rfl dX4_waitingFile_20 ?_
        refine lv_aload_n hx hb dX4_waitingFile_23 rfl (lv_at hl 2 rfl) ?_
        refine lv_acmp_ne (rx := (some (ad 6 (r 8 j)))) (ry := (some (ad 6 q))) (tgt := 48) hx hb dX4_waitingFile_24 (by decide) (fun c2 => ?_) (fun c2 => ?_)
        · refine lv_iinc (v := nI (j + 1)) (lv' := [(3, .int (nI (j + 1))), (4, .ref (ad 8 j)), (0, .ref (ad 0 0)), (1, .ref (ad 6 q)), (2, .int x)]) hx hb dX4_waitingFile_48 hl (k := 4) rfl (nI_1 j) (by decide) rfl (fun ls hl => ?_)
          refine lv_goto (tgt := 2) hx hb dX4_waitingFile_51 (by decide) ?_
          exact ih (j + 1) _ _ _ (by omega) (by omega) (firstp_step hinv (fun z => c2 (congrArg (fun y => some (ad 6 y)) (of_decide_eq_true z).1))) hW hS (lv_sub hl [2, 3, 4, 0] rfl)
        · have hpq : r 8 j = q := (hD.1 6 (r 8 j) 6 q (hr8 _ hjl) hq (Option.some.inj c2)).2
          refine lv_aload hx hb dX4_waitingFile_27 (lv_at hl 0 rfl) ?_
          refine rh_get (ci := 1) (C := RX1) (T := TX1) (N := 5) (v := .int (v 8 j 2)) hx hb hts (fun _ h => List.mem_cons_of_mem _ (List.mem_append_right _ (h))) hown hE (hW.at 8 j hjl) rfl 2 (by decide) (hts (.fieldLink RX4 88 "RoamingHouse$CallFile" "state" "I") (by decide +kernel)) rfl dX4_waitingFile_29 ?_
          refine lv_iconst (v := 2) hx hb dX4_waitingFile_32 (by decide) ?_
          refine lv_icmp_ne (tgt := 48) hx hb dX4_waitingFile_33 (by decide) (fun c3 => ?_) (fun c3 => ?_)
          · refine lv_iinc (v := nI (j + 1)) (lv' := [(3, .int (nI (j + 1))), (4, .ref (ad 8 j)), (0, .ref (ad 0 0)), (1, .ref (ad 6 q)), (2, .int x)]) hx hb dX4_waitingFile_48 hl (k := 4) rfl (nI_1 j) (by decide) rfl (fun ls hl => ?_)
            refine lv_goto (tgt := 2) hx hb dX4_waitingFile_51 (by decide) ?_
            exact ih (j + 1) _ _ _ (by omega) (by omega) (firstp_step hinv (fun z => c3 (of_decide_eq_true z).2.1)) hW hS (lv_sub hl [2, 3, 4, 0] rfl)
          · refine lv_aload hx hb dX4_waitingFile_36 (lv_at hl 0 rfl) ?_
            refine rh_get (ci := 1) (C := RX1) (T := TX1) (N := 5) (v := .int (v 8 j 4)) hx hb hts (fun _ h => List.mem_cons_of_mem _ (List.mem_append_right _ (h))) hown hE (hW.at 8 j hjl) rfl 4 (by decide) (hts (.fieldLink RX4 114 "RoamingHouse$CallFile" "number" "I") (by decide +kernel)) rfl dX4_waitingFile_38 ?_
            refine lv_iload_n hx hb dX4_waitingFile_41 rfl (lv_at hl 3 rfl) ?_
            refine lv_icmp_ne (tgt := 48) hx hb dX4_waitingFile_42 (by decide) (fun c4 => ?_) (fun c4 => ?_)
            · refine lv_iinc (v := nI (j + 1)) (lv' := [(3, .int (nI (j + 1))), (4, .ref (ad 8 j)), (0, .ref (ad 0 0)), (1, .ref (ad 6 q)), (2, .int x)]) hx hb dX4_waitingFile_48 hl (k := 4) rfl (nI_1 j) (by decide) rfl (fun ls hl => ?_)
              refine lv_goto (tgt := 2) hx hb dX4_waitingFile_51 (by decide) ?_
              exact ih (j + 1) _ _ _ (by omega) (by omega) (firstp_step hinv (fun z => c4 (of_decide_eq_true z).2.2)) hW hS (lv_sub hl [2, 3, 4, 0] rfl)
            · have hhit := firstp_mono (firstp_hit hinv (show c_isw r v q x j = true from decide_eq_true ⟨hpq, c3, c4⟩)) nf hjl
              refine lv_aload hx hb dX4_waitingFile_45 (lv_at hl 0 rfl) ?_
              exact rh_aret hx hb hr hlocks (Or.inr ⟨_, rfl⟩) ⟨Or.inl ⟨j, hjl, hhit, rfl⟩, hW⟩ hS (by decide) (by decide) dX4_waitingFile_47
  exact loop2 (nf + 1) 0 _ _ _ (by omega) (by omega) rfl hW hS (lv_sub hl [1, 2, 3, 0] rfl)
set_option maxHeartbeats 4000000 in
set_option maxRecDepth 100000 in
/-- how many calls of a file are not right -/
theorem ct_X4_wrongCallsOf (l : Launch) {G : va_G} {ca : Nat → ClassId} {A : Nat → Prop} {ad : Nat → Nat → Nat} {nf nc : Nat} {r : rh_R} {v : rh_V} (hD : rh_D A ad (fun k i => i < rh_n nf nc k)) (hwf : rh_wf nf nc r v) (f : Nat) (hf : f < nf) : rh_M l yX4_wrongCallsOf wsX4_wrongCallsOf ({ frames := 2, cells := 0, slots := 0, locals := 60 } : Room) G ca A [.ref (ad 0 0), .ref (ad 8 f)] (rh_W G ca ad nf nc r v) (fun o H => o = some (.int (c_wrong r v f nc)) ∧ rh_W G ca ad nf nc r v H) rh_no 0 0 := by
  obtain ⟨hnf, hnc, hr8, hr9, hfc, hcc, hst, ⟨tt, htt, hnow⟩, hai⟩ := id hwf
  refine rh_enter (cc := cX4_wrongCallsOf) (maxL := 5) (ret := (some .int)) (by decide) rfl (Nat.le_of_ble_eq_true rfl) ?_
  intro p e s m below meth c ls hx hb hr hml hown hts hlocks hex hin hE hA hW hl
  have hS : va_S A s.heap s.heap [] := va_S.rf
  have hl : lv_has ls 5 [(0, .ref (ad 0 0)), (1, .ref (ad 8 f))] := hl
  refine lv_iconst (v := 0) hx hb dX4_wrongCallsOf_0 (by decide) ?_
  refine lv_istore_n (lv' := [(2, .int 0), (0, .ref (ad 0 0)), (1, .ref (ad 8 f))]) hx hb dX4_wrongCallsOf_1 rfl hl (by decide) rfl (fun ls hl => ?_)
  refine lv_iconst (v := 0) hx hb dX4_wrongCallsOf_2 (by decide) ?_
  refine lv_istore_n (lv' := [(3, .int 0), (2, .int 0), (0, .ref (ad 0 0)), (1, .ref (ad 8 f))]) hx hb dX4_wrongCallsOf_3 rfl hl (by decide) rfl (fun ls hl => ?_)
  have loop4 : ∀ (n : Nat) (j : Nat) (w : Int32) (H : Heap) (locs : List Loc) (ls : Array Slot), nc + 1 ≤ j + n → j ≤ nc → w = c_wrong r v f j → rh_W G ca ad nf nc r v H → va_S A s.heap H locs → lv_has ls 5 [(0, .ref (ad 0 0)), (1, .ref (ad 8 f)), (2, .int w), (3, .int (nI j))] → W p l e ({ frames := 2, cells := 0, slots := 0, locals := 60 } : Room) s m ([.ref (ad 0 0), .ref (ad 8 f)] : List Value).toArray below meth c H locs 0 0 (vx_MQ below (rh_Q A (fun o H => o = some (.int (c_wrong r v f nc)) ∧ rh_W G ca ad nf nc r v H)) (rh_XC A rh_no) ([.ref (ad 0 0), .ref (ad 8 f)] : List Value).toArray s 0 0 A) (F0 m 4 ls []) := by
    intro n
    induction n with
    | zero => intro j w H locs ls hjn hj hw hW hS hl; exact absurd hjn (by omega)
    | succ n ih =>
      intro j w H locs ls hjn hj hw hW hS hl
      refine lv_iload_n hx hb dX4_wrongCallsOf_4 rfl (lv_at hl 3 rfl) ?_
      refine lv_aload_n hx hb dX4_wrongCallsOf_5 rfl (lv_at hl 0 rfl) ?_
      refine rh_get (ci := 4) (C := RX4) (T := TX4) (N := 7) (v := .int (v 0 0 5)) hx hb hts (fun _ h => List.mem_cons_of_mem _ (List.mem_append_left _ (List.mem_append_left _ (List.mem_append_left _ (List.mem_append_left _ (List.mem_append_right _ (h))))))) hown hE (hW.at 0 0 Nat.zero_lt_one) rfl 5 (by decide) (hts (.fieldLink RX4 37 "RoamingHouse" "callCount" "I") (by decide +kernel)) rfl dX4_wrongCallsOf_6 ?_
      refine lv_icmp_ge (tgt := 46) hx hb dX4_wrongCallsOf_9 (by decide) (fun c1 => ?_) (fun c1 => ?_)
      · have hjf : j = nc := by
          rcases Nat.lt_or_ge j nc with z | z
          · exact absurd (by rw [← hcc]; exact c1) (nI_ge z (by omega))
          · omega
        refine lv_iload_n hx hb dX4_wrongCallsOf_46 rfl (lv_at hl 2 rfl) ?_
        exact rh_iret hx hb hr hlocks ⟨by rw [hw, hjf], hW⟩ hS (by decide) (by decide) dX4_wrongCallsOf_47
      · have hjl : j < nc := by
          rcases Nat.lt_or_ge j nc with z | z
          · exact z
          · exact absurd (by rw [hcc]; exact nI_le z (by omega)) c1
        refine lv_aload_n hx hb dX4_wrongCallsOf_12 rfl (lv_at hl 0 rfl) ?_
        refine rh_get (ci := 4) (C := RX4) (T := TX4) (N := 7) (v := .ref (ad 4 0)) hx hb hts (fun _ h => List.mem_cons_of_mem _ (List.mem_append_left _ (List.mem_append_left _ (List.mem_append_left _ (List.mem_append_left _ (List.mem_append_right _ (h))))))) hown hE (hW.at 0 0 Nat.zero_lt_one) rfl 4 (by decide) (hts (.fieldLink RX4 33 "RoamingHouse" "callRows" "[LRoamingHouse$Call;") (by decide +kernel)) rfl dX4_wrongCallsOf_13 ?_
        refine lv_iload_n hx hb dX4_wrongCallsOf_16 rfl (lv_at hl 3 rfl) ?_
        refine rh_qald hx hb hE 6 rfl (hW.at 4 0 Nat.zero_lt_one) j (by omega) (by decide) rfl (q := ad 9 j) (if_pos hjl) dX4_wrongCallsOf_17 ?_
        refine lv_astore (lv' := [(4, .ref (ad 9 j)), (0, .ref (ad 0 0)), (1, .ref (ad 8 f)), (2, .int w), (3, .int (nI j))]) hx hb dX4_wrongCallsOf_18 hl (by decide) rfl (fun ls hl => ?_)
        refine lv_aload hx hb dX4_wrongCallsOf_20 (lv_at hl 0 rfl) ?_
        refine rh_get (ci := 0) (C := RX0) (T := TX0) (N := 7) (v := .ref (ad 8 (r 9 j))) hx hb hts (fun _ h => List.mem_cons_of_mem _ (List.mem_append_left _ (List.mem_append_left _ (List.mem_append_left _ (List.mem_append_right _ (h)))))) hown hE (hW.at 9 j hjl) rfl 0 (by decide) (hts (.fieldLink RX4 221 "RoamingHouse$Call" "file" "LRoamingHouse$CallFile;") (by decide +kernel)) rfl dX4_wrongCallsOf_22 ?_
        refine lv_aload_n hx hb dX4_wrongCallsOf_25 rfl (lv_at hl 2 rfl) ?_
        refine lv_acmp_ne (rx := (some (ad 8 (r 9 j)))) (ry := (some (ad 8 f))) (tgt := 40) hx hb dX4_wrongCallsOf_26 (by decide) (fun c2 => ?_) (fun c2 => ?_)
        · refine lv_iinc (v := nI (j + 1)) (lv' := [(3, .int (nI (j + 1))), (4, .ref (ad 9 j)), (0, .ref (ad 0 0)), (1, .ref (ad 8 f)), (2, .int w)]) hx hb dX4_wrongCallsOf_40 hl (k := 4) rfl (nI_1 j) (by decide) rfl (fun ls hl => ?_)
          refine lv_goto (tgt := 4) hx hb dX4_wrongCallsOf_43 (by decide) ?_
          exact ih (j + 1) w _ _ _ (by omega) (by omega) (by rw [hw]; exact (if_neg (fun z => c2 (congrArg (fun y => some (ad 8 y)) z.1))).symm) hW hS (lv_sub hl [2, 3, 4, 0] rfl)
        · have hcf : r 9 j = f := (hD.1 8 (r 9 j) 8 f (hr9 _ hjl) hf (Option.some.inj c2)).2
          refine lv_aload hx hb dX4_wrongCallsOf_29 (lv_at hl 0 rfl) ?_
          refine rh_calln (vx_runV (As := []) (rest := []) ⟨hx, hb, hml, hown, hts⟩ (ct_X0_isRight l hD hwf j hjl) (cwV 0 hts gX4_wrongCallsOf_X0_isRight rfl rfl rfl (by decide +kernel) ⟨by decide, by decide⟩) (rh_preV hE hS hA (hW.at 9 j hjl) rfl hW) rfl rfl hl.1 rfl (lv_room (Nat.le_of_ble_eq_true rfl)) dX4_wrongCallsOf_31 ⟨by decide, by decide⟩) hS (fun o H locs hN3 hS => ?_)
          obtain ⟨⟨hc4, rfl⟩ | ⟨hc4, rfl⟩, hW⟩ := hN3
          · have hgo := hc4
            refine W.eq (g2 := F0 m 34 ls [.int 1]) rfl ?_
            refine lv_if_ne (tgt := 40) hx hb dX4_wrongCallsOf_34 (by decide) (fun c5 => ?_) (fun c5 => absurd c5 (by decide))
            refine lv_iinc (v := nI (j + 1)) (lv' := [(3, .int (nI (j + 1))), (4, .ref (ad 9 j)), (0, .ref (ad 0 0)), (1, .ref (ad 8 f)), (2, .int w)]) hx hb dX4_wrongCallsOf_40 hl (k := 4) rfl (nI_1 j) (by decide) rfl (fun ls hl => ?_)
            refine lv_goto (tgt := 4) hx hb dX4_wrongCallsOf_43 (by decide) ?_
            exact ih (j + 1) w _ _ _ (by omega) (by omega) (by rw [hw]; exact (if_neg (fun z => z.2 hgo)).symm) hW hS (lv_sub hl [2, 3, 4, 0] rfl)
          · have hgo := hc4
            refine W.eq (g2 := F0 m 34 ls [.int 0]) rfl ?_
            refine lv_if_ne (tgt := 40) hx hb dX4_wrongCallsOf_34 (by decide) (fun c6 => absurd c6 (by decide)) (fun c6 => ?_)
            refine lv_iinc (v := (w + 1)) (lv' := [(2, .int (w + 1)), (4, .ref (ad 9 j)), (0, .ref (ad 0 0)), (1, .ref (ad 8 f)), (3, .int (nI j))]) hx hb dX4_wrongCallsOf_37 hl (k := 3) rfl rfl (by decide) rfl (fun ls hl => ?_)
            refine lv_iinc (v := nI (j + 1)) (lv' := [(3, .int (nI (j + 1))), (2, .int (w + 1)), (4, .ref (ad 9 j)), (0, .ref (ad 0 0)), (1, .ref (ad 8 f))]) hx hb dX4_wrongCallsOf_40 hl (k := 4) rfl (nI_1 j) (by decide) rfl (fun ls hl => ?_)
            refine lv_goto (tgt := 4) hx hb dX4_wrongCallsOf_43 (by decide) ?_
            exact ih (j + 1) (w + 1) _ _ _ (by omega) (by omega) (by rw [hw]; exact (if_pos ⟨hcf, hgo⟩).symm) hW hS (lv_sub hl [3, 4, 1, 0] rfl)
  exact loop4 (nc + 1) 0 0 _ _ _ (by omega) (by omega) rfl hW hS (lv_sub hl [2, 3, 1, 0] rfl)
set_option maxHeartbeats 4000000 in
set_option maxRecDepth 100000 in
/-- the right calls of a file are accepted -/
theorem ct_X4_acceptRightCallsOf (l : Launch) {G : va_G} {ca : Nat → ClassId} {A : Nat → Prop} {ad : Nat → Nat → Nat} {nf nc : Nat} {r : rh_R} {v : rh_V} (hD : rh_D A ad (fun k i => i < rh_n nf nc k)) (hwf : rh_wf nf nc r v) (f : Nat) (hf : f < nf) : rh_M l yX4_acceptRightCallsOf wsX4_acceptRightCallsOf ({ frames := 2, cells := 0, slots := 0, locals := 60 } : Room) G ca A [.ref (ad 0 0), .ref (ad 8 f)] (rh_W G ca ad nf nc r v) (fun o H => o = none ∧ rh_W G ca ad nf nc r (c_acc r v f nc) H) rh_no 0 0 := by
  obtain ⟨hnf, hnc, hr8, hr9, hfc, hcc, hst, ⟨tt, htt, hnow⟩, hai⟩ := id hwf
  refine rh_enter (cc := cX4_acceptRightCallsOf) (maxL := 4) (ret := none) (by decide) rfl (Nat.le_of_ble_eq_true rfl) ?_
  intro p e s m below meth c ls hx hb hr hml hown hts hlocks hex hin hE hA hW hl
  have hS : va_S A s.heap s.heap [] := va_S.rf
  have hl : lv_has ls 4 [(0, .ref (ad 0 0)), (1, .ref (ad 8 f))] := hl
  refine lv_iconst (v := 0) hx hb dX4_acceptRightCallsOf_0 (by decide) ?_
  refine lv_istore_n (lv' := [(2, .int 0), (0, .ref (ad 0 0)), (1, .ref (ad 8 f))]) hx hb dX4_acceptRightCallsOf_1 rfl hl (by decide) rfl (fun ls hl => ?_)
  have loop2 : ∀ (n : Nat) (j : Nat) (H : Heap) (locs : List Loc) (ls : Array Slot), nc + 1 ≤ j + n → j ≤ nc → rh_W G ca ad nf nc r (c_acc r v f j) H → va_S A s.heap H locs → lv_has ls 4 [(0, .ref (ad 0 0)), (1, .ref (ad 8 f)), (2, .int (nI j))] → W p l e ({ frames := 2, cells := 0, slots := 0, locals := 60 } : Room) s m ([.ref (ad 0 0), .ref (ad 8 f)] : List Value).toArray below meth c H locs 0 0 (vx_MQ below (rh_Q A (fun o H => o = none ∧ rh_W G ca ad nf nc r (c_acc r v f nc) H)) (rh_XC A rh_no) ([.ref (ad 0 0), .ref (ad 8 f)] : List Value).toArray s 0 0 A) (F0 m 2 ls []) := by
    intro n
    induction n with
    | zero => intro j H locs ls hjn hj hW hS hl; exact absurd hjn (by omega)
    | succ n ih =>
      intro j H locs ls hjn hj hW hS hl
      have hwfj := c_acc_wf (f := f) hwf j
      have hccj := hwfj.2.2.2.2.2.1
      refine lv_iload_n hx hb dX4_acceptRightCallsOf_2 rfl (lv_at hl 2 rfl) ?_
      refine lv_aload_n hx hb dX4_acceptRightCallsOf_3 rfl (lv_at hl 0 rfl) ?_
      refine rh_get (ci := 4) (C := RX4) (T := TX4) (N := 7) (v := .int ((c_acc r v f j) 0 0 5)) hx hb hts (fun _ h => List.mem_cons_of_mem _ (List.mem_append_left _ (List.mem_append_left _ (List.mem_append_left _ (List.mem_append_left _ (List.mem_append_right _ (h))))))) hown hE (hW.at 0 0 Nat.zero_lt_one) rfl 5 (by decide) (hts (.fieldLink RX4 37 "RoamingHouse" "callCount" "I") (by decide +kernel)) rfl dX4_acceptRightCallsOf_4 ?_
      refine lv_icmp_ge (tgt := 46) hx hb dX4_acceptRightCallsOf_7 (by decide) (fun c1 => ?_) (fun c1 => ?_)
      · have hjf : j = nc := by
          rcases Nat.lt_or_ge j nc with z | z
          · exact absurd (by rw [← hccj]; exact c1) (nI_ge z (by omega))
          · omega
        exact rh_vret hx hb hr hlocks ⟨rfl, by rw [hjf] at hW; exact hW⟩ hS (by decide) (by decide) dX4_acceptRightCallsOf_46
      · have hjl : j < nc := by
          rcases Nat.lt_or_ge j nc with z | z
          · exact z
          · exact absurd (by rw [hccj]; exact nI_le z (by omega)) c1
        refine lv_aload_n hx hb dX4_acceptRightCallsOf_10 rfl (lv_at hl 0 rfl) ?_
        refine rh_get (ci := 4) (C := RX4) (T := TX4) (N := 7) (v := .ref (ad 4 0)) hx hb hts (fun _ h => List.mem_cons_of_mem _ (List.mem_append_left _ (List.mem_append_left _ (List.mem_append_left _ (List.mem_append_left _ (List.mem_append_right _ (h))))))) hown hE (hW.at 0 0 Nat.zero_lt_one) rfl 4 (by decide) (hts (.fieldLink RX4 33 "RoamingHouse" "callRows" "[LRoamingHouse$Call;") (by decide +kernel)) rfl dX4_acceptRightCallsOf_11 ?_
        refine lv_iload_n hx hb dX4_acceptRightCallsOf_14 rfl (lv_at hl 2 rfl) ?_
        refine rh_qald hx hb hE 6 rfl (hW.at 4 0 Nat.zero_lt_one) j (by omega) (by decide) rfl (q := ad 9 j) (if_pos hjl) dX4_acceptRightCallsOf_15 ?_
        refine lv_astore_n (lv' := [(3, .ref (ad 9 j)), (0, .ref (ad 0 0)), (1, .ref (ad 8 f)), (2, .int (nI j))]) hx hb dX4_acceptRightCallsOf_16 rfl hl (by decide) rfl (fun ls hl => ?_)
        refine lv_aload_n hx hb dX4_acceptRightCallsOf_17 rfl (lv_at hl 0 rfl) ?_
        refine rh_get (ci := 0) (C := RX0) (T := TX0) (N := 7) (v := .ref (ad 8 (r 9 j))) hx hb hts (fun _ h => List.mem_cons_of_mem _ (List.mem_append_left _ (List.mem_append_left _ (List.mem_append_left _ (List.mem_append_right _ (h)))))) hown hE (hW.at 9 j hjl) rfl 0 (by decide) (hts (.fieldLink RX4 221 "RoamingHouse$Call" "file" "LRoamingHouse$CallFile;") (by decide +kernel)) rfl dX4_acceptRightCallsOf_18 ?_
        refine lv_aload_n hx hb dX4_acceptRightCallsOf_21 rfl (lv_at hl 2 rfl) ?_
        refine lv_acmp_ne (rx := (some (ad 8 (r 9 j)))) (ry := (some (ad 8 f))) (tgt := 40) hx hb dX4_acceptRightCallsOf_22 (by decide) (fun c2 => ?_) (fun c2 => ?_)
        · have hW : rh_W G ca ad nf nc r (c_acc r v f (j + 1)) H := by rw [show c_acc r v f (j + 1) = c_acc r v f j from if_neg (fun z => c2 (congrArg (fun y => some (ad 8 y)) z.1))]; exact hW
          refine lv_iinc (v := nI (j + 1)) (lv' := [(2, .int (nI (j + 1))), (3, .ref (ad 9 j)), (0, .ref (ad 0 0)), (1, .ref (ad 8 f))]) hx hb dX4_acceptRightCallsOf_40 hl (k := 3) rfl (nI_1 j) (by decide) rfl (fun ls hl => ?_)
          refine lv_goto (tgt := 2) hx hb dX4_acceptRightCallsOf_43 (by decide) ?_
          exact ih (j + 1) _ _ _ (by omega) (by omega) hW hS (lv_sub hl [2, 3, 0] rfl)
        · have hcf : r 9 j = f := (hD.1 8 (r 9 j) 8 f (hr9 _ hjl) hf (Option.some.inj c2)).2
          refine lv_aload_n hx hb dX4_acceptRightCallsOf_25 rfl (lv_at hl 0 rfl) ?_
          refine rh_calln (vx_runV (As := []) (rest := []) ⟨hx, hb, hml, hown, hts⟩ (ct_X0_isRight l hD hwfj j hjl) (cwV 0 hts gX4_acceptRightCallsOf_X0_isRight rfl rfl rfl (by decide +kernel) ⟨by decide, by decide⟩) (rh_preV hE hS hA (hW.at 9 j hjl) rfl hW) rfl rfl hl.1 rfl (lv_room (Nat.le_of_ble_eq_true rfl)) dX4_acceptRightCallsOf_26 ⟨by decide, by decide⟩) hS (fun o H locs hN3 hS => ?_)
          obtain ⟨⟨hc4, rfl⟩ | ⟨hc4, rfl⟩, hW⟩ := hN3
          · have hgo := hc4
            refine W.eq (g2 := F0 m 29 ls [.int 1]) rfl ?_
            refine lv_if_eq (tgt := 40) hx hb dX4_acceptRightCallsOf_29 (by decide) (fun c5 => absurd c5 (by decide)) (fun c5 => ?_)
            refine lv_aload_n hx hb dX4_acceptRightCallsOf_32 rfl (lv_at hl 0 rfl) ?_
            refine lv_aload_n hx hb dX4_acceptRightCallsOf_33 rfl (lv_at hl 1 rfl) ?_
            refine rh_get (ci := 4) (C := RX4) (T := TX4) (N := 7) (v := .int ((c_acc r v f j) 0 0 6)) hx hb hts (fun _ h => List.mem_cons_of_mem _ (List.mem_append_left _ (List.mem_append_left _ (List.mem_append_left _ (List.mem_append_left _ (List.mem_append_right _ (h))))))) hown hE (hW.at 0 0 Nat.zero_lt_one) rfl 6 (by decide) (hts (.fieldLink RX4 40 "RoamingHouse" "now" "I") (by decide +kernel)) rfl dX4_acceptRightCallsOf_34 ?_
            have hnj : c_acc r v f j 0 0 6 = nI tt := by rw [c_acc_now]; exact hnow
            rw [hnj]
            refine rh_calln (vx_runV (As := [.int (nI tt)]) (rest := []) ⟨hx, hb, hml, hown, hts⟩ (ct_X0_acceptIn l hD hwfj j hjl tt htt) (cwV 1 hts gX4_acceptRightCallsOf_X0_acceptIn rfl rfl rfl (by decide +kernel) ⟨by decide, by decide⟩) (rh_preV hE hS hA (hW.at 9 j hjl) rfl hW) rfl rfl hl.1 rfl (lv_room (Nat.le_of_ble_eq_true rfl)) dX4_acceptRightCallsOf_37 ⟨by decide, by decide⟩) hS (fun o H locs hN6 hS => ?_)
            obtain ⟨rfl, hW⟩ := hN6
            refine W.eq (g2 := F0 m 40 ls []) rfl ?_
            have hW : rh_W G ca ad nf nc r (c_acc r v f (j + 1)) H := by rw [show c_acc r v f (j + 1) = c_acc1 r (c_acc r v f j) j (v 0 0 6) from if_pos ⟨hcf, hgo⟩, hnow]; exact hW
            refine lv_iinc (v := nI (j + 1)) (lv' := [(2, .int (nI (j + 1))), (3, .ref (ad 9 j)), (0, .ref (ad 0 0)), (1, .ref (ad 8 f))]) hx hb dX4_acceptRightCallsOf_40 hl (k := 3) rfl (nI_1 j) (by decide) rfl (fun ls hl => ?_)
            refine lv_goto (tgt := 2) hx hb dX4_acceptRightCallsOf_43 (by decide) ?_
            exact ih (j + 1) _ _ _ (by omega) (by omega) hW hS (lv_sub hl [2, 3, 0] rfl)
          · have hgo := hc4
            refine W.eq (g2 := F0 m 29 ls [.int 0]) rfl ?_
            refine lv_if_eq (tgt := 40) hx hb dX4_acceptRightCallsOf_29 (by decide) (fun c7 => ?_) (fun c7 => absurd c7 (by decide))
            have hW : rh_W G ca ad nf nc r (c_acc r v f (j + 1)) H := by rw [show c_acc r v f (j + 1) = c_acc r v f j from if_neg (fun z => hgo z.2)]; exact hW
            refine lv_iinc (v := nI (j + 1)) (lv' := [(2, .int (nI (j + 1))), (3, .ref (ad 9 j)), (0, .ref (ad 0 0)), (1, .ref (ad 8 f))]) hx hb dX4_acceptRightCallsOf_40 hl (k := 3) rfl (nI_1 j) (by decide) rfl (fun ls hl => ?_)
            refine lv_goto (tgt := 2) hx hb dX4_acceptRightCallsOf_43 (by decide) ?_
            exact ih (j + 1) _ _ _ (by omega) (by omega) hW hS (lv_sub hl [2, 3, 0] rfl)
  exact loop2 (nc + 1) 0  _ _ _ (by omega) (by omega)  hW hS (lv_sub hl [1, 2, 0] rfl)
set_option maxHeartbeats 4000000 in
set_option maxRecDepth 100000 in
/-- a file is looked at -/
theorem ct_X4_lookAt (l : Launch) {G : va_G} {ca : Nat → ClassId} {A : Nat → Prop} {ad : Nat → Nat → Nat} {nf nc : Nat} {r : rh_R} {v : rh_V} (hD : rh_D A ad (fun k i => i < rh_n nf nc k)) (hwf : rh_wf nf nc r v) (f : Nat) (hf : f < nf) : rh_M l yX4_lookAt wsX4_lookAt ({ frames := 3, cells := 0, slots := 0, locals := 90 } : Room) G ca A [.ref (ad 0 0), .ref (ad 8 f)] (rh_W G ca ad nf nc r v) (fun o H => o = none ∧ rh_W G ca ad nf nc r (c_look r v nc f) H) rh_no 0 0 := by
  obtain ⟨hnf, hnc, hr8, hr9, hfc, hcc, hst, ⟨tt, htt, hnow⟩, hai⟩ := id hwf
  refine rh_enter (cc := cX4_lookAt) (maxL := 2) (ret := none) (by decide) rfl (Nat.le_of_ble_eq_true rfl) ?_
  intro p e s m below meth c ls hx hb hr hml hown hts hlocks hex hin hE hA hW hl
  have hS : va_S A s.heap s.heap [] := va_S.rf
  have hl : lv_has ls 2 [(0, .ref (ad 0 0)), (1, .ref (ad 8 f))] := hl
  refine lv_aload_n hx hb dX4_lookAt_0 rfl (lv_at hl 0 rfl) ?_
  refine rh_get (ci := 4) (C := RX4) (T := TX4) (N := 7) (v := .int (v 0 0 6)) hx hb hts (fun _ h => List.mem_cons_of_mem _ (List.mem_append_left _ (List.mem_append_left _ (List.mem_append_left _ (List.mem_append_left _ (List.mem_append_right _ (h))))))) hown hE (hW.at 0 0 Nat.zero_lt_one) rfl 6 (by decide) (hts (.fieldLink RX4 40 "RoamingHouse" "now" "I") (by decide +kernel)) rfl dX4_lookAt_1 ?_
  refine lv_aload_n hx hb dX4_lookAt_4 rfl (lv_at hl 1 rfl) ?_
  refine rh_get (ci := 1) (C := RX1) (T := TX1) (N := 5) (v := .int (v 8 f 1)) hx hb hts (fun _ h => List.mem_cons_of_mem _ (List.mem_append_left _ (List.mem_append_left _ (List.mem_append_left _ (List.mem_append_right _ (h)))))) hown hE (hW.at 8 f hf) rfl 1 (by decide) (hts (.fieldLink RX4 211 "RoamingHouse$CallFile" "begunIn" "I") (by decide +kernel)) rfl dX4_lookAt_5 ?_
  refine lv_isub hx hb dX4_lookAt_8 ?_
  refine lv_iconst (v := 2) hx hb dX4_lookAt_9 (by decide) ?_
  refine lv_icmp_le (tgt := 21) hx hb dX4_lookAt_10 (by decide) (fun c1 => ?_) (fun c1 => ?_)
  · have hl1 := le_nlt c1
    refine lv_aload_n hx hb dX4_lookAt_21 rfl (lv_at hl 0 rfl) ?_
    refine lv_aload_n hx hb dX4_lookAt_22 rfl (lv_at hl 1 rfl) ?_
    refine rh_calln (vx_runV (As := [.ref (ad 8 f)]) (rest := []) ⟨hx, hb, hml, hown, hts⟩ (ct_X4_wrongCallsOf l hD hwf f hf) (cwV 1 hts gX4_lookAt_X4_wrongCallsOf rfl rfl rfl (by decide +kernel) ⟨by decide, by decide⟩) (rh_preV hE hS hA (hW.at 0 0 Nat.zero_lt_one) rfl hW) rfl rfl hl.1 rfl (lv_room (Nat.le_of_ble_eq_true rfl)) dX4_lookAt_23 ⟨by decide, by decide⟩) hS (fun o H locs hN2 hS => ?_)
    obtain ⟨rfl, hW⟩ := hN2
    refine W.eq (g2 := F0 m 26 ls [.int (c_wrong r v f nc)]) rfl ?_
    refine lv_iconst (v := 3) hx hb dX4_lookAt_26 (by decide) ?_
    refine lv_imul hx hb dX4_lookAt_27 ?_
    refine lv_aload_n hx hb dX4_lookAt_28 rfl (lv_at hl 1 rfl) ?_
    refine rh_get (ci := 1) (C := RX1) (T := TX1) (N := 5) (v := .int (v 8 f 3)) hx hb hts (fun _ h => List.mem_cons_of_mem _ (List.mem_append_left _ (List.mem_append_left _ (List.mem_append_left _ (List.mem_append_right _ (h)))))) hown hE (hW.at 8 f hf) rfl 3 (by decide) (hts (.fieldLink RX4 98 "RoamingHouse$CallFile" "size" "I") (by decide +kernel)) rfl dX4_lookAt_29 ?_
    refine lv_icmp_le (tgt := 43) hx hb dX4_lookAt_32 (by decide) (fun c3 => ?_) (fun c3 => ?_)
    · have hlk : c_look r v nc f = c_acc r (wr v 8 f 2 5) f nc := (if_neg hl1).trans (if_neg (le_nlt c3))
      refine lv_aload_n hx hb dX4_lookAt_43 rfl (lv_at hl 1 rfl) ?_
      refine lv_iconst (v := 5) hx hb dX4_lookAt_44 (by decide) ?_
      refine rh_put (ci := 1) (C := RX1) (T := TX1) (N := 5) (x := 5) hx hb hts (fun _ h => List.mem_cons_of_mem _ (List.mem_append_left _ (List.mem_append_left _ (List.mem_append_left _ (List.mem_append_right _ (h)))))) tyX1 tyX1_ok nmX1 hown hE hW hD hS rfl 8 f hf rfl 2 (by decide) (hts (.fieldLink RX4 88 "RoamingHouse$CallFile" "state" "I") (by decide +kernel)) rfl rfl rfl (Nat.le_of_ble_eq_true rfl) rfl dX4_lookAt_45 (fun H locs hW hS => ?_)
      refine lv_aload_n hx hb dX4_lookAt_48 rfl (lv_at hl 0 rfl) ?_
      refine lv_aload_n hx hb dX4_lookAt_49 rfl (lv_at hl 1 rfl) ?_
      refine rh_calln (vx_runV (As := [.ref (ad 8 f)]) (rest := []) ⟨hx, hb, hml, hown, hts⟩ (ct_X4_acceptRightCallsOf l hD (wf_wr hwf (by decide) (by decide) (by decide)) f hf) (cwV 1 hts gX4_lookAt_X4_acceptRightCallsOf rfl rfl rfl (by decide +kernel) ⟨by decide, by decide⟩) (rh_preV hE hS hA (hW.at 0 0 Nat.zero_lt_one) rfl hW) rfl rfl hl.1 rfl (lv_room (Nat.le_of_ble_eq_true rfl)) dX4_lookAt_50 ⟨by decide, by decide⟩) hS (fun o H locs hN4 hS => ?_)
      obtain ⟨rfl, hW⟩ := hN4
      refine W.eq (g2 := F0 m 53 ls []) rfl ?_
      exact rh_vret hx hb hr hlocks ⟨rfl, by rw [hlk]; exact hW⟩ hS (by decide) (by decide) dX4_lookAt_53
    · have hlk : c_look r v nc f = wr v 8 f 2 4 := (if_neg hl1).trans (if_pos (nle_lt c3))
      refine lv_aload_n hx hb dX4_lookAt_35 rfl (lv_at hl 1 rfl) ?_
      refine lv_iconst (v := 4) hx hb dX4_lookAt_36 (by decide) ?_
      refine rh_put (ci := 1) (C := RX1) (T := TX1) (N := 5) (x := 4) hx hb hts (fun _ h => List.mem_cons_of_mem _ (List.mem_append_left _ (List.mem_append_left _ (List.mem_append_left _ (List.mem_append_right _ (h)))))) tyX1 tyX1_ok nmX1 hown hE hW hD hS rfl 8 f hf rfl 2 (by decide) (hts (.fieldLink RX4 88 "RoamingHouse$CallFile" "state" "I") (by decide +kernel)) rfl rfl rfl (Nat.le_of_ble_eq_true rfl) rfl dX4_lookAt_37 (fun H locs hW hS => ?_)
      refine lv_goto (tgt := 53) hx hb dX4_lookAt_40 (by decide) ?_
      exact rh_vret hx hb hr hlocks ⟨rfl, by rw [hlk]; exact hW⟩ hS (by decide) (by decide) dX4_lookAt_53
  · have hlk : c_look r v nc f = wr v 8 f 2 3 := if_pos (nle_lt c1)
    refine lv_aload_n hx hb dX4_lookAt_13 rfl (lv_at hl 1 rfl) ?_
    refine lv_iconst (v := 3) hx hb dX4_lookAt_14 (by decide) ?_
    refine rh_put (ci := 1) (C := RX1) (T := TX1) (N := 5) (x := 3) hx hb hts (fun _ h => List.mem_cons_of_mem _ (List.mem_append_left _ (List.mem_append_left _ (List.mem_append_left _ (List.mem_append_right _ (h)))))) tyX1 tyX1_ok nmX1 hown hE hW hD hS rfl 8 f hf rfl 2 (by decide) (hts (.fieldLink RX4 88 "RoamingHouse$CallFile" "state" "I") (by decide +kernel)) rfl rfl rfl (Nat.le_of_ble_eq_true rfl) rfl dX4_lookAt_15 (fun H locs hW hS => ?_)
    refine lv_goto (tgt := 53) hx hb dX4_lookAt_18 (by decide) ?_
    exact rh_vret hx hb hr hlocks ⟨rfl, by rw [hlk]; exact hW⟩ hS (by decide) (by decide) dX4_lookAt_53
set_option maxHeartbeats 4000000 in
set_option maxRecDepth 100000 in
/-- a file with the expected number, and those that waited for it -/
theorem ct_X4_lookAtAllFrom (l : Launch) {G : va_G} {ca : Nat → ClassId} {A : Nat → Prop} {ad : Nat → Nat → Nat} {nf nc : Nat} {r : rh_R} {v : rh_V} (hD : rh_D A ad (fun k i => i < rh_n nf nc k)) (hwf : rh_wf nf nc r v) (f : Nat) (hf : f < nf) : rh_M l yX4_lookAtAllFrom wsX4_lookAtAllFrom ({ frames := 4, cells := 0, slots := 0, locals := 120 } : Room) G ca A [.ref (ad 0 0), .ref (ad 8 f)] (rh_W G ca ad nf nc r v) (fun o H => o = none ∧ rh_W G ca ad nf nc r (c_all r nf nc (r 8 f) 30 v (some f)) H) rh_no 0 0 := by
  obtain ⟨hnf, hnc, hr8, hr9, hfc, hcc, hst, ⟨tt, htt, hnow⟩, hai⟩ := id hwf
  refine rh_enter (cc := cX4_lookAtAllFrom) (maxL := 5) (ret := none) (by decide) rfl (Nat.le_of_ble_eq_true rfl) ?_
  intro p e s m below meth c ls hx hb hr hml hown hts hlocks hex hin hE hA hW hl
  have hS : va_S A s.heap s.heap [] := va_S.rf
  have hl : lv_has ls 5 [(0, .ref (ad 0 0)), (1, .ref (ad 8 f))] := hl
  refine lv_aload_n hx hb dX4_lookAtAllFrom_0 rfl (lv_at hl 1 rfl) ?_
  refine rh_get (ci := 1) (C := RX1) (T := TX1) (N := 5) (v := .ref (ad 6 (r 8 f))) hx hb hts (fun _ h => List.mem_cons_of_mem _ (List.mem_append_left _ (List.mem_append_left _ (List.mem_append_left _ (List.mem_append_left _ (List.mem_append_right _ (h))))))) hown hE (hW.at 8 f hf) rfl 0 (by decide) (hts (.fieldLink RX4 103 "RoamingHouse$CallFile" "pair" "LRoamingHouse$Pair;") (by decide +kernel)) rfl dX4_lookAtAllFrom_1 ?_
  refine lv_astore_n (lv' := [(2, .ref (ad 6 (r 8 f))), (0, .ref (ad 0 0)), (1, .ref (ad 8 f))]) hx hb dX4_lookAtAllFrom_4 rfl hl (by decide) rfl (fun ls hl => ?_)
  refine lv_aload_n hx hb dX4_lookAtAllFrom_5 rfl (lv_at hl 2 rfl) ?_
  refine lv_astore_n (lv' := [(3, .ref (ad 8 f)), (2, .ref (ad 6 (r 8 f))), (0, .ref (ad 0 0)), (1, .ref (ad 8 f))]) hx hb dX4_lookAtAllFrom_6 rfl hl (by decide) rfl (fun ls hl => ?_)
  refine lv_iconst (v := 0) hx hb dX4_lookAtAllFrom_7 (by decide) ?_
  refine lv_istore (lv' := [(4, .int 0), (3, .ref (ad 8 f)), (2, .ref (ad 6 (r 8 f))), (0, .ref (ad 0 0)), (1, .ref (ad 8 f))]) hx hb dX4_lookAtAllFrom_8 hl (by decide) rfl (fun ls hl => ?_)
  have loop10 : ∀ (n : Nat) (j : Nat) (u : rh_V) (o : Option Nat) (H : Heap) (locs : List Loc) (ls : Array Slot), 31 ≤ j + n → j ≤ 30 → (∀ g : Nat, o = some g → g < nf) → rh_wf nf nc r u → c_all r nf nc (r 8 f) (30 - j) u o = c_all r nf nc (r 8 f) 30 v (some f) → rh_W G ca ad nf nc r u H → va_S A s.heap H locs → lv_has ls 5 [(0, .ref (ad 0 0)), (1, .ref (ad 8 f)), (2, .ref (ad 6 (r 8 f))), (3, va_rf (Option.map (ad 8) o)), (4, .int (nI j))] → W p l e ({ frames := 4, cells := 0, slots := 0, locals := 120 } : Room) s m ([.ref (ad 0 0), .ref (ad 8 f)] : List Value).toArray below meth c H locs 0 0 (vx_MQ below (rh_Q A (fun o H => o = none ∧ rh_W G ca ad nf nc r (c_all r nf nc (r 8 f) 30 v (some f)) H)) (rh_XC A rh_no) ([.ref (ad 0 0), .ref (ad 8 f)] : List Value).toArray s 0 0 A) (F0 m 10 ls []) := by
    intro n
    induction n with
    | zero => intro j u o H locs ls hjn hj ho hwfj hall hW hS hl; exact absurd hjn (by omega)
    | succ n ih =>
      intro j u o H locs ls hjn hj ho hwfj hall hW hS hl
      rcases o with _ | g
      · have hl : lv_has ls 5 [(0, .ref (ad 0 0)), (1, .ref (ad 8 f)), (2, .ref (ad 6 (r 8 f))), (3, .null), (4, .int (nI j))] := hl
        refine lv_iload hx hb dX4_lookAtAllFrom_10 (lv_at hl 4 rfl) ?_
        refine lv_bipush (v := 30) hx hb dX4_lookAtAllFrom_12 (by decide) ?_
        refine lv_icmp_ge (tgt := 52) hx hb dX4_lookAtAllFrom_14 (by decide) (fun c1 => ?_) (fun c1 => ?_)
        · have hj30 : 30 - j = 0 := by
            rcases Nat.lt_or_ge j 30 with z | z
            · exact absurd c1 (nI_ge (b := 30) z (by decide))
            · omega
          have hfin : c_all r nf nc (r 8 f) 30 v (some f) = u := by
            rw [← hall, hj30]; rfl
          exact rh_vret hx hb hr hlocks ⟨rfl, by rw [hfin]; exact hW⟩ hS (by decide) (by decide) dX4_lookAtAllFrom_52
        · have hjl : j < 30 := by
            rcases Nat.lt_or_ge j 30 with z | z
            · exact z
            · exact absurd (nI_le (a := 30) z (by omega)) c1
          have hfin : c_all r nf nc (r 8 f) 30 v (some f) = u := by
            rw [← hall, show 30 - j = (30 - (j + 1)) + 1 by omega]; rfl
          refine lv_aload_nN hx hb dX4_lookAtAllFrom_17 rfl (lv_at hl 3 rfl) ?_
          refine lv_ifnullN (tgt := 52) hx hb dX4_lookAtAllFrom_18 (by decide) ?_
          exact rh_vret hx hb hr hlocks ⟨rfl, by rw [hfin]; exact hW⟩ hS (by decide) (by decide) dX4_lookAtAllFrom_52
      · have hl : lv_has ls 5 [(0, .ref (ad 0 0)), (1, .ref (ad 8 f)), (2, .ref (ad 6 (r 8 f))), (3, .ref (ad 8 g)), (4, .int (nI j))] := hl
        have hg : g < nf := ho g rfl
        refine lv_iload hx hb dX4_lookAtAllFrom_10 (lv_at hl 4 rfl) ?_
        refine lv_bipush (v := 30) hx hb dX4_lookAtAllFrom_12 (by decide) ?_
        refine lv_icmp_ge (tgt := 52) hx hb dX4_lookAtAllFrom_14 (by decide) (fun c2 => ?_) (fun c2 => ?_)
        · have hj30 : 30 - j = 0 := by
            rcases Nat.lt_or_ge j 30 with z | z
            · exact absurd c2 (nI_ge (b := 30) z (by decide))
            · omega
          have hfin : c_all r nf nc (r 8 f) 30 v (some f) = u := by
            rw [← hall, hj30]; rfl
          exact rh_vret hx hb hr hlocks ⟨rfl, by rw [hfin]; exact hW⟩ hS (by decide) (by decide) dX4_lookAtAllFrom_52
        · have hjl : j < 30 := by
            rcases Nat.lt_or_ge j 30 with z | z
            · exact z
            · exact absurd (nI_le (a := 30) z (by omega)) c2
          refine lv_aload_n hx hb dX4_lookAtAllFrom_17 rfl (lv_at hl 3 rfl) ?_
          refine lv_ifnull hx hb dX4_lookAtAllFrom_18 ?_
          refine lv_aload_n hx hb dX4_lookAtAllFrom_21 rfl (lv_at hl 0 rfl) ?_
          refine lv_aload_n hx hb dX4_lookAtAllFrom_22 rfl (lv_at hl 3 rfl) ?_
          refine rh_calln (vx_runV (As := [.ref (ad 8 g)]) (rest := []) ⟨hx, hb, hml, hown, hts⟩ (ct_X4_lookAt l hD hwfj g hg) (cwV 1 hts gX4_lookAtAllFrom_X4_lookAt rfl rfl rfl (by decide +kernel) ⟨by decide, by decide⟩) (rh_preV hE hS hA (hW.at 0 0 Nat.zero_lt_one) rfl hW) rfl rfl hl.1 rfl (lv_room (Nat.le_of_ble_eq_true rfl)) dX4_lookAtAllFrom_23 ⟨by decide, by decide⟩) hS (fun o H locs hN3 hS => ?_)
          obtain ⟨rfl, hW⟩ := hN3
          refine W.eq (g2 := F0 m 26 ls []) rfl ?_
          refine lv_aload_n hx hb dX4_lookAtAllFrom_26 rfl (lv_at hl 2 rfl) ?_
          refine lv_dup hx hb dX4_lookAtAllFrom_27 rfl ?_
          refine rh_get (ci := 3) (C := RX3) (T := TX3) (N := 7) (v := .int ((c_look r u nc g) 6 (r 8 f) 1)) hx hb hts (fun _ h => List.mem_cons_of_mem _ (List.mem_append_left _ (List.mem_append_left _ (List.mem_append_left _ (List.mem_append_right _ (h)))))) hown hE (hW.at 6 (r 8 f) (hr8 _ hf)) rfl 1 (by decide) (hts (.fieldLink RX4 107 "RoamingHouse$Pair" "expectedNumber" "I") (by decide +kernel)) rfl dX4_lookAtAllFrom_28 ?_
          refine lv_iconst (v := 1) hx hb dX4_lookAtAllFrom_31 (by decide) ?_
          refine lv_iadd hx hb dX4_lookAtAllFrom_32 ?_
          refine rh_put (ci := 3) (C := RX3) (T := TX3) (N := 7) (x := ((c_look r u nc g) 6 (r 8 f) 1 + 1)) hx hb hts (fun _ h => List.mem_cons_of_mem _ (List.mem_append_left _ (List.mem_append_left _ (List.mem_append_left _ (List.mem_append_right _ (h)))))) tyX3 tyX3_ok nmX3 hown hE hW hD hS rfl 6 (r 8 f) (hr8 _ hf) rfl 1 (by decide) (hts (.fieldLink RX4 107 "RoamingHouse$Pair" "expectedNumber" "I") (by decide +kernel)) rfl rfl rfl (Nat.le_of_ble_eq_true rfl) rfl dX4_lookAtAllFrom_33 (fun H locs hW hS => ?_)
          refine lv_aload_n hx hb dX4_lookAtAllFrom_36 rfl (lv_at hl 0 rfl) ?_
          refine lv_aload_n hx hb dX4_lookAtAllFrom_37 rfl (lv_at hl 2 rfl) ?_
          refine lv_aload_n hx hb dX4_lookAtAllFrom_38 rfl (lv_at hl 2 rfl) ?_
          refine rh_get (ci := 3) (C := RX3) (T := TX3) (N := 7) (v := .int ((c_look r u nc g) 6 (r 8 f) 1 + 1)) hx hb hts (fun _ h => List.mem_cons_of_mem _ (List.mem_append_left _ (List.mem_append_left _ (List.mem_append_left _ (List.mem_append_right _ (h)))))) hown hE (hW.at 6 (r 8 f) (hr8 _ hf)) rfl 1 (by decide) (hts (.fieldLink RX4 107 "RoamingHouse$Pair" "expectedNumber" "I") (by decide +kernel)) (show some (Value.int ((wr (c_look r u nc g) 6 (r 8 f) 1 ((c_look r u nc g) 6 (r 8 f) 1 + 1)) 6 (r 8 f) 1)) = some (Value.int (((c_look r u nc g) 6 (r 8 f) 1 + 1))) from by simp [wr_at]) dX4_lookAtAllFrom_39 ?_
          refine rh_calln (vx_runV (As := [.ref (ad 6 (r 8 f)), .int ((c_look r u nc g) 6 (r 8 f) 1 + 1)]) (rest := []) ⟨hx, hb, hml, hown, hts⟩ (ct_X4_waitingFile l hD (wf_wr (c_look_wf hwfj) (by decide) (by decide) (by decide)) (r 8 f) (hr8 _ hf) ((c_look r u nc g) 6 (r 8 f) 1 + 1)) (cwV 2 hts gX4_lookAtAllFrom_X4_waitingFile rfl rfl rfl (by decide +kernel) ⟨by decide, by decide⟩) (rh_preV hE hS hA (hW.at 0 0 Nat.zero_lt_one) rfl hW) rfl rfl hl.1 rfl (lv_room (Nat.le_of_ble_eq_true rfl)) dX4_lookAtAllFrom_42 ⟨by decide, by decide⟩) hS (fun o H locs hN4 hS => ?_)
          obtain ⟨⟨jw, hjw, hwt, rfl⟩ | ⟨hwt, rfl⟩, hW⟩ := hN4
          · refine W.eq (g2 := F0 m 45 ls [.ref (ad 8 jw)]) rfl ?_
            refine lv_astore_n (lv' := [(3, .ref (ad 8 jw)), (0, .ref (ad 0 0)), (1, .ref (ad 8 f)), (2, .ref (ad 6 (r 8 f))), (4, .int (nI j))]) hx hb dX4_lookAtAllFrom_45 rfl hl (by decide) rfl (fun ls hl => ?_)
            refine lv_iinc (v := nI (j + 1)) (lv' := [(4, .int (nI (j + 1))), (3, .ref (ad 8 jw)), (0, .ref (ad 0 0)), (1, .ref (ad 8 f)), (2, .ref (ad 6 (r 8 f)))]) hx hb dX4_lookAtAllFrom_46 hl (k := 4) rfl (nI_1 j) (by decide) rfl (fun ls hl => ?_)
            refine lv_goto (tgt := 10) hx hb dX4_lookAtAllFrom_49 (by decide) ?_
            exact ih (j + 1) (wr (c_look r u nc g) 6 (r 8 f) 1 ((c_look r u nc g) 6 (r 8 f) 1 + 1)) (some jw) _ _ _ (by omega) (by omega) (fun g hg => by rw [← Option.some.inj hg]; exact hjw) (wf_wr (c_look_wf hwfj) (by decide) (by decide) (by decide)) (by rw [← hall, show 30 - j = (30 - (j + 1)) + 1 by omega]; show _ = c_all r nf nc (r 8 f) (30 - (j + 1)) (wr (c_look r u nc g) 6 (r 8 f) 1 ((c_look r u nc g) 6 (r 8 f) 1 + 1)) (c_wait r (wr (c_look r u nc g) 6 (r 8 f) 1 ((c_look r u nc g) 6 (r 8 f) 1 + 1)) nf (r 8 f) (c_look r u nc g 6 (r 8 f) 1 + 1)); rw [hwt]) hW hS (lv_sub hl [2, 3, 4, 1, 0] rfl)
          · refine W.eq (g2 := F0 m 45 ls [.null]) rfl ?_
            refine lv_astore_nN (lv' := [(3, .null), (0, .ref (ad 0 0)), (1, .ref (ad 8 f)), (2, .ref (ad 6 (r 8 f))), (4, .int (nI j))]) hx hb dX4_lookAtAllFrom_45 rfl hl (by decide) rfl (fun ls hl => ?_)
            refine lv_iinc (v := nI (j + 1)) (lv' := [(4, .int (nI (j + 1))), (3, .null), (0, .ref (ad 0 0)), (1, .ref (ad 8 f)), (2, .ref (ad 6 (r 8 f)))]) hx hb dX4_lookAtAllFrom_46 hl (k := 4) rfl (nI_1 j) (by decide) rfl (fun ls hl => ?_)
            refine lv_goto (tgt := 10) hx hb dX4_lookAtAllFrom_49 (by decide) ?_
            exact ih (j + 1) (wr (c_look r u nc g) 6 (r 8 f) 1 ((c_look r u nc g) 6 (r 8 f) 1 + 1)) none _ _ _ (by omega) (by omega) (fun g hg => nomatch hg) (wf_wr (c_look_wf hwfj) (by decide) (by decide) (by decide)) (by rw [← hall, show 30 - j = (30 - (j + 1)) + 1 by omega]; show _ = c_all r nf nc (r 8 f) (30 - (j + 1)) (wr (c_look r u nc g) 6 (r 8 f) 1 ((c_look r u nc g) 6 (r 8 f) 1 + 1)) (c_wait r (wr (c_look r u nc g) 6 (r 8 f) 1 ((c_look r u nc g) 6 (r 8 f) 1 + 1)) nf (r 8 f) (c_look r u nc g 6 (r 8 f) 1 + 1)); rw [hwt]) hW hS (lv_sub hl [2, 3, 4, 1, 0] rfl)
  exact loop10 31 0 v (some f) _ _ _ (by omega) (by omega) (fun g hg => by rw [← Option.some.inj hg]; exact hf) hwf rfl hW hS (lv_sub hl [3, 4, 2, 1, 0] rfl)
set_option maxHeartbeats 4000000 in
set_option maxRecDepth 100000 in
/-- disputes without an answer are given back -/
theorem ct_X4_giveBackUnanswered (l : Launch) {G : va_G} {ca : Nat → ClassId} {A : Nat → Prop} {ad : Nat → Nat → Nat} {nf nc : Nat} {r : rh_R} {v : rh_V} (hD : rh_D A ad (fun k i => i < rh_n nf nc k)) (hwf : rh_wf nf nc r v)  : rh_M l yX4_giveBackUnanswered wsX4_giveBackUnanswered ({ frames := 0, cells := 0, slots := 0, locals := 0 } : Room) G ca A [.ref (ad 0 0)] (rh_W G ca ad nf nc r v) (fun o H => o = none ∧ rh_W G ca ad nf nc r (c_gb v nc) H) rh_no 0 0 := by
  obtain ⟨hnf, hnc, hr8, hr9, hfc, hcc, hst, ⟨tt, htt, hnow⟩, hai⟩ := id hwf
  refine rh_enter (cc := cX4_giveBackUnanswered) (maxL := 3) (ret := none) (by decide) rfl (Nat.le_of_ble_eq_true rfl) ?_
  intro p e s m below meth c ls hx hb hr hml hown hts hlocks hex hin hE hA hW hl
  have hS : va_S A s.heap s.heap [] := va_S.rf
  have hl : lv_has ls 3 [(0, .ref (ad 0 0))] := hl
  refine lv_iconst (v := 0) hx hb dX4_giveBackUnanswered_0 (by decide) ?_
  refine lv_istore_n (lv' := [(1, .int 0), (0, .ref (ad 0 0))]) hx hb dX4_giveBackUnanswered_1 rfl hl (by decide) rfl (fun ls hl => ?_)
  have loop2 : ∀ (n : Nat) (j : Nat) (H : Heap) (locs : List Loc) (ls : Array Slot), nc + 1 ≤ j + n → j ≤ nc → rh_W G ca ad nf nc r (c_gb v j) H → va_S A s.heap H locs → lv_has ls 3 [(0, .ref (ad 0 0)), (1, .int (nI j))] → W p l e ({ frames := 0, cells := 0, slots := 0, locals := 0 } : Room) s m ([.ref (ad 0 0)] : List Value).toArray below meth c H locs 0 0 (vx_MQ below (rh_Q A (fun o H => o = none ∧ rh_W G ca ad nf nc r (c_gb v nc) H)) (rh_XC A rh_no) ([.ref (ad 0 0)] : List Value).toArray s 0 0 A) (F0 m 2 ls []) := by
    intro n
    induction n with
    | zero => intro j H locs ls hjn hj hW hS hl; exact absurd hjn (by omega)
    | succ n ih =>
      intro j H locs ls hjn hj hW hS hl
      have hwfj := c_gb_wf hwf j hj
      have hccj := hwfj.2.2.2.2.2.1
      have hnw : c_gb v j 0 0 6 = v 0 0 6 := by rw [c_gb_now]
      refine lv_iload_n hx hb dX4_giveBackUnanswered_2 rfl (lv_at hl 1 rfl) ?_
      refine lv_aload_n hx hb dX4_giveBackUnanswered_3 rfl (lv_at hl 0 rfl) ?_
      refine rh_get (ci := 4) (C := RX4) (T := TX4) (N := 7) (v := .int ((c_gb v j) 0 0 5)) hx hb hts (fun _ h => List.mem_cons_of_mem _ (List.mem_append_left _ (List.mem_append_right _ (h)))) hown hE (hW.at 0 0 Nat.zero_lt_one) rfl 5 (by decide) (hts (.fieldLink RX4 37 "RoamingHouse" "callCount" "I") (by decide +kernel)) rfl dX4_giveBackUnanswered_4 ?_
      refine lv_icmp_ge (tgt := 49) hx hb dX4_giveBackUnanswered_7 (by decide) (fun c1 => ?_) (fun c1 => ?_)
      · have hjf : j = nc := by
          rcases Nat.lt_or_ge j nc with z | z
          · exact absurd (by rw [← hccj]; exact c1) (nI_ge z (by omega))
          · omega
        exact rh_vret hx hb hr hlocks ⟨rfl, by rw [hjf] at hW; exact hW⟩ hS (by decide) (by decide) dX4_giveBackUnanswered_49
      · have hjl : j < nc := by
          rcases Nat.lt_or_ge j nc with z | z
          · exact z
          · exact absurd (by rw [hccj]; exact nI_le z (by omega)) c1
        refine lv_aload_n hx hb dX4_giveBackUnanswered_10 rfl (lv_at hl 0 rfl) ?_
        refine rh_get (ci := 4) (C := RX4) (T := TX4) (N := 7) (v := .ref (ad 4 0)) hx hb hts (fun _ h => List.mem_cons_of_mem _ (List.mem_append_left _ (List.mem_append_right _ (h)))) hown hE (hW.at 0 0 Nat.zero_lt_one) rfl 4 (by decide) (hts (.fieldLink RX4 33 "RoamingHouse" "callRows" "[LRoamingHouse$Call;") (by decide +kernel)) rfl dX4_giveBackUnanswered_11 ?_
        refine lv_iload_n hx hb dX4_giveBackUnanswered_14 rfl (lv_at hl 1 rfl) ?_
        refine rh_qald hx hb hE 6 rfl (hW.at 4 0 Nat.zero_lt_one) j (by omega) (by decide) rfl (q := ad 9 j) (if_pos hjl) dX4_giveBackUnanswered_15 ?_
        refine lv_astore_n (lv' := [(2, .ref (ad 9 j)), (0, .ref (ad 0 0)), (1, .int (nI j))]) hx hb dX4_giveBackUnanswered_16 rfl hl (by decide) rfl (fun ls hl => ?_)
        refine lv_aload_n hx hb dX4_giveBackUnanswered_17 rfl (lv_at hl 0 rfl) ?_
        refine rh_get (ci := 0) (C := RX0) (T := TX0) (N := 7) (v := .int ((c_gb v j) 9 j 3)) hx hb hts (fun _ h => List.mem_cons_of_mem _ (List.mem_append_right _ (h))) hown hE (hW.at 9 j hjl) rfl 3 (by decide) (hts (.fieldLink RX4 131 "RoamingHouse$Call" "state" "I") (by decide +kernel)) rfl dX4_giveBackUnanswered_18 ?_
        refine lv_iconst (v := 2) hx hb dX4_giveBackUnanswered_21 (by decide) ?_
        refine lv_icmp_ne (tgt := 43) hx hb dX4_giveBackUnanswered_22 (by decide) (fun c2 => ?_) (fun c2 => ?_)
        · have hW : rh_W G ca ad nf nc r (c_gb v (j + 1)) H := by rw [show c_gb v (j + 1) = c_gb v j from if_neg (fun z => c2 z.1)]; exact hW
          refine lv_iinc (v := nI (j + 1)) (lv' := [(1, .int (nI (j + 1))), (2, .ref (ad 9 j)), (0, .ref (ad 0 0))]) hx hb dX4_giveBackUnanswered_43 hl (k := 2) rfl (nI_1 j) (by decide) rfl (fun ls hl => ?_)
          refine lv_goto (tgt := 2) hx hb dX4_giveBackUnanswered_46 (by decide) ?_
          exact ih (j + 1) _ _ _ (by omega) (by omega) hW hS (lv_sub hl [2, 0] rfl)
        · have hs2 := c2
          refine lv_aload_n hx hb dX4_giveBackUnanswered_25 rfl (lv_at hl 1 rfl) ?_
          refine rh_get (ci := 4) (C := RX4) (T := TX4) (N := 7) (v := .int ((c_gb v j) 0 0 6)) hx hb hts (fun _ h => List.mem_cons_of_mem _ (List.mem_append_left _ (List.mem_append_right _ (h)))) hown hE (hW.at 0 0 Nat.zero_lt_one) rfl 6 (by decide) (hts (.fieldLink RX4 40 "RoamingHouse" "now" "I") (by decide +kernel)) rfl dX4_giveBackUnanswered_26 ?_
          refine lv_aload_n hx hb dX4_giveBackUnanswered_29 rfl (lv_at hl 0 rfl) ?_
          refine rh_get (ci := 0) (C := RX0) (T := TX0) (N := 7) (v := .int ((c_gb v j) 9 j 5)) hx hb hts (fun _ h => List.mem_cons_of_mem _ (List.mem_append_right _ (h))) hown hE (hW.at 9 j hjl) rfl 5 (by decide) (hts (.fieldLink RX4 143 "RoamingHouse$Call" "disputedIn" "I") (by decide +kernel)) rfl dX4_giveBackUnanswered_30 ?_
          refine lv_isub hx hb dX4_giveBackUnanswered_33 ?_
          refine lv_iconst (v := 2) hx hb dX4_giveBackUnanswered_34 (by decide) ?_
          refine lv_icmp_lt (tgt := 43) hx hb dX4_giveBackUnanswered_35 (by decide) (fun c3 => ?_) (fun c3 => ?_)
          · have hW : rh_W G ca ad nf nc r (c_gb v (j + 1)) H := by rw [show c_gb v (j + 1) = c_gb v j from if_neg (fun z => z.2 (by rw [← hnw]; exact c3))]; exact hW
            refine lv_iinc (v := nI (j + 1)) (lv' := [(1, .int (nI (j + 1))), (2, .ref (ad 9 j)), (0, .ref (ad 0 0))]) hx hb dX4_giveBackUnanswered_43 hl (k := 2) rfl (nI_1 j) (by decide) rfl (fun ls hl => ?_)
            refine lv_goto (tgt := 2) hx hb dX4_giveBackUnanswered_46 (by decide) ?_
            exact ih (j + 1) _ _ _ (by omega) (by omega) hW hS (lv_sub hl [2, 0] rfl)
          · refine lv_aload_n hx hb dX4_giveBackUnanswered_38 rfl (lv_at hl 0 rfl) ?_
            refine lv_iconst (v := 4) hx hb dX4_giveBackUnanswered_39 (by decide) ?_
            refine rh_put (ci := 0) (C := RX0) (T := TX0) (N := 7) (x := 4) hx hb hts (fun _ h => List.mem_cons_of_mem _ (List.mem_append_right _ (h))) tyX0 tyX0_ok nmX0 hown hE hW hD hS rfl 9 j hjl rfl 3 (by decide) (hts (.fieldLink RX4 131 "RoamingHouse$Call" "state" "I") (by decide +kernel)) rfl rfl rfl (Nat.le_of_ble_eq_true rfl) rfl dX4_giveBackUnanswered_40 (fun H locs hW hS => ?_)
            have hW : rh_W G ca ad nf nc r (c_gb v (j + 1)) H := by rw [show c_gb v (j + 1) = wr (c_gb v j) 9 j 3 4 from if_pos ⟨hs2, fun z => c3 (by rw [hnw]; exact z)⟩]; exact hW
            refine lv_iinc (v := nI (j + 1)) (lv' := [(1, .int (nI (j + 1))), (2, .ref (ad 9 j)), (0, .ref (ad 0 0))]) hx hb dX4_giveBackUnanswered_43 hl (k := 2) rfl (nI_1 j) (by decide) rfl (fun ls hl => ?_)
            refine lv_goto (tgt := 2) hx hb dX4_giveBackUnanswered_46 (by decide) ?_
            exact ih (j + 1) _ _ _ (by omega) (by omega) hW hS (lv_sub hl [2, 0] rfl)
  exact loop2 (nc + 1) 0  _ _ _ (by omega) (by omega)  hW hS (lv_sub hl [1, 0] rfl)
set_option maxHeartbeats 4000000 in
set_option maxRecDepth 100000 in
/-- what a pair owes for months -/
theorem ct_X4_amountOfMonths (l : Launch) {G : va_G} {ca : Nat → ClassId} {A : Nat → Prop} {ad : Nat → Nat → Nat} {nf nc : Nat} {r : rh_R} {v : rh_V} (hD : rh_D A ad (fun k i => i < rh_n nf nc k)) (hwf : rh_wf nf nc r v) (q : Nat) (hq : q < 16) (a b : Int32) : rh_M l yX4_amountOfMonths wsX4_amountOfMonths ({ frames := 2, cells := 0, slots := 0, locals := 60 } : Room) G ca A [.ref (ad 0 0), .ref (ad 6 q), .int a, .int b] (rh_W G ca ad nf nc r v) (fun o H => o = some (.long (c_sum r v q a b nc)) ∧ rh_W G ca ad nf nc r v H) rh_no 0 0 := by
  obtain ⟨hnf, hnc, hr8, hr9, hfc, hcc, hst, ⟨tt, htt, hnow⟩, hai⟩ := id hwf
  refine rh_enter (cc := cX4_amountOfMonths) (maxL := 8) (ret := (some .long)) (by decide) rfl (Nat.le_of_ble_eq_true rfl) ?_
  intro p e s m below meth c ls hx hb hr hml hown hts hlocks hex hin hE hA hW hl
  have hS : va_S A s.heap s.heap [] := va_S.rf
  have hl : lv_has ls 8 [(0, .ref (ad 0 0)), (1, .ref (ad 6 q)), (2, .int a), (3, .int b)] := hl
  refine lv_lconst (v := 0) hx hb dX4_amountOfMonths_0 rfl ?_
  refine lv_lstore (lv' := [(4, .long 0), (0, .ref (ad 0 0)), (1, .ref (ad 6 q)), (2, .int a), (3, .int b)]) hx hb dX4_amountOfMonths_1 hl (by decide) rfl (fun ls hl => ?_)
  refine lv_iconst (v := 0) hx hb dX4_amountOfMonths_3 (by decide) ?_
  refine lv_istore (lv' := [(6, .int 0), (4, .long 0), (0, .ref (ad 0 0)), (1, .ref (ad 6 q)), (2, .int a), (3, .int b)]) hx hb dX4_amountOfMonths_4 hl (by decide) rfl (fun ls hl => ?_)
  have loop6 : ∀ (n : Nat) (j : Nat) (w : Int64) (H : Heap) (locs : List Loc) (ls : Array Slot), nc + 1 ≤ j + n → j ≤ nc → w = c_sum r v q a b j → rh_W G ca ad nf nc r v H → va_S A s.heap H locs → lv_has ls 8 [(0, .ref (ad 0 0)), (1, .ref (ad 6 q)), (2, .int a), (3, .int b), (4, .long w), (6, .int (nI j))] → W p l e ({ frames := 2, cells := 0, slots := 0, locals := 60 } : Room) s m ([.ref (ad 0 0), .ref (ad 6 q), .int a, .int b] : List Value).toArray below meth c H locs 0 0 (vx_MQ below (rh_Q A (fun o H => o = some (.long (c_sum r v q a b nc)) ∧ rh_W G ca ad nf nc r v H)) (rh_XC A rh_no) ([.ref (ad 0 0), .ref (ad 6 q), .int a, .int b] : List Value).toArray s 0 0 A) (F0 m 6 ls []) := by
    intro n
    induction n with
    | zero => intro j w H locs ls hjn hj hw hW hS hl; exact absurd hjn (by omega)
    | succ n ih =>
      intro j w H locs ls hjn hj hw hW hS hl
      refine lv_iload hx hb dX4_amountOfMonths_6 (lv_at hl 5 rfl) ?_
      refine lv_aload_n hx hb dX4_amountOfMonths_8 rfl (lv_at hl 0 rfl) ?_
      refine rh_get (ci := 4) (C := RX4) (T := TX4) (N := 7) (v := .int (v 0 0 5)) hx hb hts (fun _ h => List.mem_cons_of_mem _ (List.mem_append_left _ (List.mem_append_left _ (List.mem_append_left _ (List.mem_append_right _ (h)))))) hown hE (hW.at 0 0 Nat.zero_lt_one) rfl 5 (by decide) (hts (.fieldLink RX4 37 "RoamingHouse" "callCount" "I") (by decide +kernel)) rfl dX4_amountOfMonths_9 ?_
      refine lv_icmp_ge (tgt := 71) hx hb dX4_amountOfMonths_12 (by decide) (fun c1 => ?_) (fun c1 => ?_)
      · have hjf : j = nc := by
          rcases Nat.lt_or_ge j nc with z | z
          · exact absurd (by rw [← hcc]; exact c1) (nI_ge z (by omega))
          · omega
        refine lv_lload hx hb dX4_amountOfMonths_71 (lv_at hl 4 rfl) ?_
        exact rh_lret hx hb hr hlocks ⟨by rw [hw, hjf], hW⟩ hS (by decide) (by decide) dX4_amountOfMonths_73
      · have hjl : j < nc := by
          rcases Nat.lt_or_ge j nc with z | z
          · exact z
          · exact absurd (by rw [hcc]; exact nI_le z (by omega)) c1
        refine lv_aload_n hx hb dX4_amountOfMonths_15 rfl (lv_at hl 0 rfl) ?_
        refine rh_get (ci := 4) (C := RX4) (T := TX4) (N := 7) (v := .ref (ad 4 0)) hx hb hts (fun _ h => List.mem_cons_of_mem _ (List.mem_append_left _ (List.mem_append_left _ (List.mem_append_left _ (List.mem_append_right _ (h)))))) hown hE (hW.at 0 0 Nat.zero_lt_one) rfl 4 (by decide) (hts (.fieldLink RX4 33 "RoamingHouse" "callRows" "[LRoamingHouse$Call;") (by decide +kernel)) rfl dX4_amountOfMonths_16 ?_
        refine lv_iload hx hb dX4_amountOfMonths_19 (lv_at hl 5 rfl) ?_
        refine rh_qald hx hb hE 6 rfl (hW.at 4 0 Nat.zero_lt_one) j (by omega) (by decide) rfl (q := ad 9 j) (if_pos hjl) dX4_amountOfMonths_21 ?_
        refine lv_astore (lv' := [(7, .ref (ad 9 j)), (0, .ref (ad 0 0)), (1, .ref (ad 6 q)), (2, .int a), (3, .int b), (4, .long w), (6, .int (nI j))]) hx hb dX4_amountOfMonths_22 hl (by decide) rfl (fun ls hl => ?_)
        refine lv_aload hx hb dX4_amountOfMonths_24 (lv_at hl 0 rfl) ?_
        refine rh_get (ci := 0) (C := RX0) (T := TX0) (N := 7) (v := .ref (ad 8 (r 9 j))) hx hb hts (fun _ h => List.mem_cons_of_mem _ (List.mem_append_left _ (List.mem_append_left _ (List.mem_append_right _ (h))))) hown hE (hW.at 9 j hjl) rfl 0 (by decide) (hts (.fieldLink RX4 221 "RoamingHouse$Call" "file" "LRoamingHouse$CallFile;") (by decide +kernel)) rfl dX4_amountOfMonths_26 ?_
        refine rh_get (ci := 1) (C := RX1) (T := TX1) (N := 5) (v := .ref (ad 6 (r 8 (r 9 j)))) hx hb hts (fun _ h => List.mem_cons_of_mem _ (List.mem_append_left _ (List.mem_append_right _ (h)))) hown hE (hW.at 8 (r 9 j) (hr9 _ hjl)) rfl 0 (by decide) (hts (.fieldLink RX4 103 "RoamingHouse$CallFile" "pair" "LRoamingHouse$Pair;") (by decide +kernel)) rfl dX4_amountOfMonths_29 ?_
        refine lv_aload_n hx hb dX4_amountOfMonths_32 rfl (lv_at hl 2 rfl) ?_
        refine lv_acmp_ne (rx := (some (ad 6 (r 8 (r 9 j))))) (ry := (some (ad 6 q))) (tgt := 65) hx hb dX4_amountOfMonths_33 (by decide) (fun c2 => ?_) (fun c2 => ?_)
        · refine lv_iinc (v := nI (j + 1)) (lv' := [(6, .int (nI (j + 1))), (7, .ref (ad 9 j)), (0, .ref (ad 0 0)), (1, .ref (ad 6 q)), (2, .int a), (3, .int b), (4, .long w)]) hx hb dX4_amountOfMonths_65 hl (k := 6) rfl (nI_1 j) (by decide) rfl (fun ls hl => ?_)
          refine lv_goto (tgt := 6) hx hb dX4_amountOfMonths_68 (by decide) ?_
          exact ih (j + 1) w _ _ _ (by omega) (by omega) (by rw [hw]; exact (if_neg (fun z => c2 (congrArg (fun y => some (ad 6 y)) z.1))).symm) hW hS (lv_sub hl [2, 3, 4, 5, 6, 0] rfl)
        · have hpq : c_pr r j = q := (hD.1 6 (r 8 (r 9 j)) 6 q (hr8 _ (hr9 _ hjl)) hq (Option.some.inj c2)).2
          refine lv_aload hx hb dX4_amountOfMonths_36 (lv_at hl 0 rfl) ?_
          refine rh_get (ci := 0) (C := RX0) (T := TX0) (N := 7) (v := .int (v 9 j 4)) hx hb hts (fun _ h => List.mem_cons_of_mem _ (List.mem_append_left _ (List.mem_append_left _ (List.mem_append_right _ (h))))) hown hE (hW.at 9 j hjl) rfl 4 (by decide) (hts (.fieldLink RX4 132 "RoamingHouse$Call" "acceptedIn" "I") (by decide +kernel)) rfl dX4_amountOfMonths_38 ?_
          refine lv_iload_n hx hb dX4_amountOfMonths_41 rfl (lv_at hl 3 rfl) ?_
          refine lv_icmp_lt (tgt := 65) hx hb dX4_amountOfMonths_42 (by decide) (fun c3 => ?_) (fun c3 => ?_)
          · refine lv_iinc (v := nI (j + 1)) (lv' := [(6, .int (nI (j + 1))), (7, .ref (ad 9 j)), (0, .ref (ad 0 0)), (1, .ref (ad 6 q)), (2, .int a), (3, .int b), (4, .long w)]) hx hb dX4_amountOfMonths_65 hl (k := 6) rfl (nI_1 j) (by decide) rfl (fun ls hl => ?_)
            refine lv_goto (tgt := 6) hx hb dX4_amountOfMonths_68 (by decide) ?_
            exact ih (j + 1) w _ _ _ (by omega) (by omega) (by rw [hw]; exact (if_neg (fun z => z.2.1 c3)).symm) hW hS (lv_sub hl [2, 3, 4, 5, 6, 0] rfl)
          · have hga := c3
            refine lv_aload hx hb dX4_amountOfMonths_45 (lv_at hl 0 rfl) ?_
            refine rh_get (ci := 0) (C := RX0) (T := TX0) (N := 7) (v := .int (v 9 j 4)) hx hb hts (fun _ h => List.mem_cons_of_mem _ (List.mem_append_left _ (List.mem_append_left _ (List.mem_append_right _ (h))))) hown hE (hW.at 9 j hjl) rfl 4 (by decide) (hts (.fieldLink RX4 132 "RoamingHouse$Call" "acceptedIn" "I") (by decide +kernel)) rfl dX4_amountOfMonths_47 ?_
            refine lv_iload_n hx hb dX4_amountOfMonths_50 rfl (lv_at hl 4 rfl) ?_
            refine lv_icmp_gt (tgt := 65) hx hb dX4_amountOfMonths_51 (by decide) (fun c4 => ?_) (fun c4 => ?_)
            · refine lv_iinc (v := nI (j + 1)) (lv' := [(6, .int (nI (j + 1))), (7, .ref (ad 9 j)), (0, .ref (ad 0 0)), (1, .ref (ad 6 q)), (2, .int a), (3, .int b), (4, .long w)]) hx hb dX4_amountOfMonths_65 hl (k := 6) rfl (nI_1 j) (by decide) rfl (fun ls hl => ?_)
              refine lv_goto (tgt := 6) hx hb dX4_amountOfMonths_68 (by decide) ?_
              exact ih (j + 1) w _ _ _ (by omega) (by omega) (by rw [hw]; exact (if_neg (fun z => z.2.2 c4)).symm) hW hS (lv_sub hl [2, 3, 4, 5, 6, 0] rfl)
            · refine lv_lload hx hb dX4_amountOfMonths_54 (lv_at hl 5 rfl) ?_
              refine lv_aload hx hb dX4_amountOfMonths_56 (lv_at hl 0 rfl) ?_
              refine rh_calln (vx_runV (As := []) (rest := [.long w]) ⟨hx, hb, hml, hown, hts⟩ (ct_X0_amount l hD hwf j hjl) (cwV 0 hts gX4_amountOfMonths_X0_amount rfl rfl rfl (by decide +kernel) ⟨by decide, by decide⟩) (rh_preV hE hS hA (hW.at 9 j hjl) rfl hW) rfl rfl hl.1 rfl (lv_room (Nat.le_of_ble_eq_true rfl)) dX4_amountOfMonths_58 ⟨by decide, by decide⟩) hS (fun o H locs hN5 hS => ?_)
              obtain ⟨rfl, hW⟩ := hN5
              refine W.eq (g2 := F0 m 61 ls [.int (c_amt r v j), .long w]) rfl ?_
              refine lv_i2l hx hb dX4_amountOfMonths_61 rfl ?_
              refine lv_ladd hx hb dX4_amountOfMonths_62 ?_
              refine lv_lstore (lv' := [(4, .long (w + (c_amt r v j).toInt64)), (7, .ref (ad 9 j)), (0, .ref (ad 0 0)), (1, .ref (ad 6 q)), (2, .int a), (3, .int b), (6, .int (nI j))]) hx hb dX4_amountOfMonths_63 hl (by decide) rfl (fun ls hl => ?_)
              refine lv_iinc (v := nI (j + 1)) (lv' := [(6, .int (nI (j + 1))), (4, .long (w + (c_amt r v j).toInt64)), (7, .ref (ad 9 j)), (0, .ref (ad 0 0)), (1, .ref (ad 6 q)), (2, .int a), (3, .int b)]) hx hb dX4_amountOfMonths_65 hl (k := 6) rfl (nI_1 j) (by decide) rfl (fun ls hl => ?_)
              refine lv_goto (tgt := 6) hx hb dX4_amountOfMonths_68 (by decide) ?_
              exact ih (j + 1) (w + (c_amt r v j).toInt64) _ _ _ (by omega) (by omega) (by rw [hw]; exact (if_pos ⟨hpq, hga, c4⟩).symm) hW hS (lv_sub hl [3, 4, 5, 6, 1, 0] rfl)
  exact loop6 (nc + 1) 0 0 _ _ _ (by omega) (by omega) rfl hW hS (lv_sub hl [2, 3, 4, 5, 1, 0] rfl)
set_option maxHeartbeats 4000000 in
set_option maxRecDepth 100000 in
/-- .. in units -/
theorem ct_X4_unitsOfMonth (l : Launch) {G : va_G} {ca : Nat → ClassId} {A : Nat → Prop} {ad : Nat → Nat → Nat} {nf nc : Nat} {r : rh_R} {v : rh_V} (hD : rh_D A ad (fun k i => i < rh_n nf nc k)) (hwf : rh_wf nf nc r v) (q : Nat) (hq : q < 16) (a : Int32) : rh_M l yX4_unitsOfMonth wsX4_unitsOfMonth ({ frames := 3, cells := 0, slots := 0, locals := 90 } : Room) G ca A [.ref (ad 0 0), .ref (ad 6 q), .int a] (rh_W G ca ad nf nc r v) (fun o H => o = some (.long (c_units r v nc q a)) ∧ rh_W G ca ad nf nc r v H) rh_no 0 0 := by
  obtain ⟨hnf, hnc, hr8, hr9, hfc, hcc, hst, ⟨tt, htt, hnow⟩, hai⟩ := id hwf
  refine rh_enter (cc := cX4_unitsOfMonth) (maxL := 3) (ret := (some .long)) (by decide) rfl (Nat.le_of_ble_eq_true rfl) ?_
  intro p e s m below meth c ls hx hb hr hml hown hts hlocks hex hin hE hA hW hl
  have hS : va_S A s.heap s.heap [] := va_S.rf
  have hl : lv_has ls 3 [(0, .ref (ad 0 0)), (1, .ref (ad 6 q)), (2, .int a)] := hl
  refine lv_aload_n hx hb dX4_unitsOfMonth_0 rfl (lv_at hl 0 rfl) ?_
  refine lv_aload_n hx hb dX4_unitsOfMonth_1 rfl (lv_at hl 1 rfl) ?_
  refine lv_iload_n hx hb dX4_unitsOfMonth_2 rfl (lv_at hl 2 rfl) ?_
  refine lv_iload_n hx hb dX4_unitsOfMonth_3 rfl (lv_at hl 2 rfl) ?_
  refine rh_calln (vx_runV (As := [.ref (ad 6 q), .int a, .int a]) (rest := []) ⟨hx, hb, hml, hown, hts⟩ (ct_X4_amountOfMonths l hD hwf q hq a a) (cwV 3 hts gX4_unitsOfMonth_X4_amountOfMonths rfl rfl rfl (by decide +kernel) ⟨by decide, by decide⟩) (rh_preV hE hS hA (hW.at 0 0 Nat.zero_lt_one) rfl hW) rfl rfl hl.1 rfl (lv_room (Nat.le_of_ble_eq_true rfl)) dX4_unitsOfMonth_4 ⟨by decide, by decide⟩) hS (fun o H locs hN1 hS => ?_)
  obtain ⟨rfl, hW⟩ := hN1
  refine W.eq (g2 := F0 m 7 ls [.long (c_sum r v q a a nc)]) rfl ?_
  refine lv_aload_n hx hb dX4_unitsOfMonth_7 rfl (lv_at hl 1 rfl) ?_
  refine rh_get (ci := 3) (C := RX3) (T := TX3) (N := 7) (v := .ref (ad 5 (q / 4))) hx hb hts (fun _ h => List.mem_cons_of_mem _ (List.mem_append_left _ (List.mem_append_left _ (List.mem_append_left _ (List.mem_append_left _ (List.mem_append_right _ (h))))))) hown hE (hW.at 6 q hq) rfl 0 (by decide) (hts (.fieldLink RX4 233 "RoamingHouse$Pair" "host" "LRoamingHouse$Operator;") (by decide +kernel)) rfl dX4_unitsOfMonth_8 ?_
  refine rh_get (ci := 2) (C := RX2) (T := TX2) (N := 4) (v := .int (v 5 (q / 4) 3)) hx hb hts (fun _ h => List.mem_cons_of_mem _ (List.mem_append_left _ (List.mem_append_left _ (List.mem_append_left _ (List.mem_append_right _ (h)))))) hown hE (hW.at 5 (q / 4) (rh_h4 hq)) rfl 3 (by decide) (hts (.fieldLink RX4 164 "RoamingHouse$Operator" "unitRate" "I") (by decide +kernel)) rfl dX4_unitsOfMonth_11 ?_
  refine lv_i2l hx hb dX4_unitsOfMonth_14 rfl ?_
  refine lv_lmul hx hb dX4_unitsOfMonth_15 ?_
  refine lv_ldc2 (v := 1000) hx hb hown (hts (.constantLong RX4 237 (1000)) (by decide +kernel)) dX4_unitsOfMonth_16 ?_
  refine lv_ldiv hx hb dX4_unitsOfMonth_19 (by decide) ?_
  exact rh_lret hx hb hr hlocks ⟨rfl, hW⟩ hS (by decide) (by decide) dX4_unitsOfMonth_20
end
section
/-! ===== the house: its face ===== -/
set_option maxHeartbeats 4000000 in
set_option maxRecDepth 100000 in
/-- a tariff is set -/
theorem ct_X4_setTariff (l : Launch) (hlf : l.stackTraces = false) {G : va_G} {ca : Nat → ClassId} {A : Nat → Prop} {ad : Nat → Nat → Nat} {nf nc : Nat} {r : rh_R} {v : rh_V} (hD : rh_D A ad (fun k i => i < rh_n nf nc k)) (hwf : rh_wf nf nc r v) (x st pr bg : Int32) : rh_M l yX4_setTariff wsX4_setTariff ({ frames := 8, cells := 5, slots := 40, locals := 240 } : Room) G ca A [.ref (ad 0 0), .int x, .int st, .int pr, .int bg] (rh_W G ca ad nf nc r v) (fun o H => (∃ i : Nat, i < 4 ∧ x = nI i ∧ rng st 1 600 ∧ rng pr 0 1000 ∧ rng bg 0 1000 ∧ o = some (.int (v 5 i 1)) ∧ rh_W G ca ad nf nc r (wr (wr (wr v 5 i 0 st) 5 i 1 pr) 5 i 2 bg) H)) (fun E H => (E = exn 1 ∧ ¬ ix x 4 ∨ E = exn 2 ∧ ix x 4 ∧ ¬ (rng st 1 600 ∧ rng pr 0 1000 ∧ rng bg 0 1000)) ∧ rh_W G ca ad nf nc r v H) 5 40 := by
  obtain ⟨hnf, hnc, hr8, hr9, hfc, hcc, hst, ⟨tt, htt, hnow⟩, hai⟩ := id hwf
  refine rh_enter (cc := cX4_setTariff) (maxL := 7) (ret := (some .int)) (by decide) rfl (Nat.le_of_ble_eq_true rfl) ?_
  intro p e s m below meth c ls hx hb hr hml hown hts hlocks hex hin hE hA hW hl
  have hS : va_S A s.heap s.heap [] := va_S.rf
  have hl : lv_has ls 7 [(0, .ref (ad 0 0)), (1, .int x), (2, .int st), (3, .int pr), (4, .int bg)] := hl
  refine lv_aload_n hx hb dX4_setTariff_0 rfl (lv_at hl 0 rfl) ?_
  refine lv_iload_n hx hb dX4_setTariff_1 rfl (lv_at hl 1 rfl) ?_
  refine rh_call (vx_runV (As := [.int x]) (rest := []) ⟨hx, hb, hml, hown, hts⟩ (ct_X4_operatorAt l hlf hD x) (cwV 1 hts gX4_setTariff_X4_operatorAt rfl rfl rfl (by decide +kernel) ⟨by decide, by decide⟩) (rh_preV hE hS hA (hW.at 0 0 Nat.zero_lt_one) rfl hW) rfl rfl hl.1 rfl (lv_room (Nat.le_of_ble_eq_true rfl)) dX4_setTariff_2 ⟨by decide, by decide⟩) hS (fun E ce q9 H locs hX2 hS g1 g2 g3 => rh_out hex hlocks g1 g2 g3 ⟨Or.inl hX2.1, hX2.2⟩ hS (by decide) (by decide)) (fun o H locs hN1 hS => ?_)
  obtain ⟨⟨i, hi, he, rfl⟩, hW⟩ := hN1
  refine W.eq (g2 := F0 m 5 ls [.ref (ad 5 i)]) rfl ?_
  refine lv_astore (lv' := [(5, .ref (ad 5 i)), (0, .ref (ad 0 0)), (1, .int x), (2, .int st), (3, .int pr), (4, .int bg)]) hx hb dX4_setTariff_5 hl (by decide) rfl (fun ls hl => ?_)
  refine lv_iload_n hx hb dX4_setTariff_7 rfl (lv_at hl 3 rfl) ?_
  refine lv_iconst (v := 1) hx hb dX4_setTariff_8 (by decide) ?_
  refine lv_sipush (v := 600) hx hb dX4_setTariff_9 (by decide) ?_
  refine rh_call (vx_runS (As := [.int st, .int 1, .int 600]) (rest := []) ⟨hx, hb, hml, hown, hts⟩ (ct_X4_refuseOutside l hlf hD st 1 600) (va_cwS 3 hts gX4_setTariff_X4_refuseOutside rfl rfl rfl (by decide +kernel) ⟨by decide, by decide⟩) (rh_pre hE hS hA hW) rfl rfl hl.1 rfl (lv_room (Nat.le_of_ble_eq_true rfl)) dX4_setTariff_12 ⟨by decide, by decide⟩) hS (fun E ce q9 H locs hX4 hS g1 g2 g3 => rh_out hex hlocks g1 g2 g3 ⟨Or.inr ⟨hX4.1.1, ((ix_iff (by decide)).mpr ⟨i, hi, he⟩), fun z => hX4.1.2 z.1⟩, hX4.2⟩ hS (by decide) (by decide)) (fun o H locs hN3 hS => ?_)
  obtain ⟨⟨hg1, rfl⟩, hW⟩ := hN3
  refine W.eq (g2 := F0 m 15 ls []) rfl ?_
  refine lv_iload_n hx hb dX4_setTariff_15 rfl (lv_at hl 4 rfl) ?_
  refine lv_iconst (v := 0) hx hb dX4_setTariff_16 (by decide) ?_
  refine lv_sipush (v := 1000) hx hb dX4_setTariff_17 (by decide) ?_
  refine rh_call (vx_runS (As := [.int pr, .int 0, .int 1000]) (rest := []) ⟨hx, hb, hml, hown, hts⟩ (ct_X4_refuseOutside l hlf hD pr 0 1000) (va_cwS 3 hts gX4_setTariff_X4_refuseOutside rfl rfl rfl (by decide +kernel) ⟨by decide, by decide⟩) (rh_pre hE hS hA hW) rfl rfl hl.1 rfl (lv_room (Nat.le_of_ble_eq_true rfl)) dX4_setTariff_20 ⟨by decide, by decide⟩) hS (fun E ce q9 H locs hX6 hS g1 g2 g3 => rh_out hex hlocks g1 g2 g3 ⟨Or.inr ⟨hX6.1.1, ((ix_iff (by decide)).mpr ⟨i, hi, he⟩), fun z => hX6.1.2 z.2.1⟩, hX6.2⟩ hS (by decide) (by decide)) (fun o H locs hN5 hS => ?_)
  obtain ⟨⟨hg2, rfl⟩, hW⟩ := hN5
  refine W.eq (g2 := F0 m 23 ls []) rfl ?_
  refine lv_iload hx hb dX4_setTariff_23 (lv_at hl 5 rfl) ?_
  refine lv_iconst (v := 0) hx hb dX4_setTariff_25 (by decide) ?_
  refine lv_sipush (v := 1000) hx hb dX4_setTariff_26 (by decide) ?_
  refine rh_call (vx_runS (As := [.int bg, .int 0, .int 1000]) (rest := []) ⟨hx, hb, hml, hown, hts⟩ (ct_X4_refuseOutside l hlf hD bg 0 1000) (va_cwS 3 hts gX4_setTariff_X4_refuseOutside rfl rfl rfl (by decide +kernel) ⟨by decide, by decide⟩) (rh_pre hE hS hA hW) rfl rfl hl.1 rfl (lv_room (Nat.le_of_ble_eq_true rfl)) dX4_setTariff_29 ⟨by decide, by decide⟩) hS (fun E ce q9 H locs hX8 hS g1 g2 g3 => rh_out hex hlocks g1 g2 g3 ⟨Or.inr ⟨hX8.1.1, ((ix_iff (by decide)).mpr ⟨i, hi, he⟩), fun z => hX8.1.2 z.2.2⟩, hX8.2⟩ hS (by decide) (by decide)) (fun o H locs hN7 hS => ?_)
  obtain ⟨⟨hg3, rfl⟩, hW⟩ := hN7
  refine W.eq (g2 := F0 m 32 ls []) rfl ?_
  refine lv_aload hx hb dX4_setTariff_32 (lv_at hl 0 rfl) ?_
  refine rh_get (ci := 2) (C := RX2) (T := TX2) (N := 4) (v := .int (v 5 i 1)) hx hb hts (fun _ h => List.mem_cons_of_mem _ (List.mem_append_left _ (List.mem_append_left _ (List.mem_append_left _ (List.mem_append_right _ (h)))))) hown hE (hW.at 5 i hi) rfl 1 (by decide) (hts (.fieldLink RX4 55 "RoamingHouse$Operator" "price" "I") (by decide +kernel)) rfl dX4_setTariff_34 ?_
  refine lv_istore (lv' := [(6, .int (v 5 i 1)), (5, .ref (ad 5 i)), (0, .ref (ad 0 0)), (1, .int x), (2, .int st), (3, .int pr), (4, .int bg)]) hx hb dX4_setTariff_37 hl (by decide) rfl (fun ls hl => ?_)
  refine lv_aload hx hb dX4_setTariff_39 (lv_at hl 1 rfl) ?_
  refine lv_iload_n hx hb dX4_setTariff_41 rfl (lv_at hl 4 rfl) ?_
  refine rh_put (ci := 2) (C := RX2) (T := TX2) (N := 4) (x := st) hx hb hts (fun _ h => List.mem_cons_of_mem _ (List.mem_append_left _ (List.mem_append_left _ (List.mem_append_left _ (List.mem_append_right _ (h)))))) tyX2 tyX2_ok nmX2 hown hE hW hD hS rfl 5 i hi rfl 0 (by decide) (hts (.fieldLink RX4 58 "RoamingHouse$Operator" "step" "I") (by decide +kernel)) rfl rfl rfl (Nat.le_of_ble_eq_true rfl) rfl dX4_setTariff_42 (fun H locs hW hS => ?_)
  refine lv_aload hx hb dX4_setTariff_45 (lv_at hl 1 rfl) ?_
  refine lv_iload_n hx hb dX4_setTariff_47 rfl (lv_at hl 5 rfl) ?_
  refine rh_put (ci := 2) (C := RX2) (T := TX2) (N := 4) (x := pr) hx hb hts (fun _ h => List.mem_cons_of_mem _ (List.mem_append_left _ (List.mem_append_left _ (List.mem_append_left _ (List.mem_append_right _ (h)))))) tyX2 tyX2_ok nmX2 hown hE hW hD hS rfl 5 i hi rfl 1 (by decide) (hts (.fieldLink RX4 55 "RoamingHouse$Operator" "price" "I") (by decide +kernel)) rfl rfl rfl (Nat.le_of_ble_eq_true rfl) rfl dX4_setTariff_48 (fun H locs hW hS => ?_)
  refine lv_aload hx hb dX4_setTariff_51 (lv_at hl 1 rfl) ?_
  refine lv_iload hx hb dX4_setTariff_53 (lv_at hl 6 rfl) ?_
  refine rh_put (ci := 2) (C := RX2) (T := TX2) (N := 4) (x := bg) hx hb hts (fun _ h => List.mem_cons_of_mem _ (List.mem_append_left _ (List.mem_append_left _ (List.mem_append_left _ (List.mem_append_right _ (h)))))) tyX2 tyX2_ok nmX2 hown hE hW hD hS rfl 5 i hi rfl 2 (by decide) (hts (.fieldLink RX4 61 "RoamingHouse$Operator" "beginning" "I") (by decide +kernel)) rfl rfl rfl (Nat.le_of_ble_eq_true rfl) rfl dX4_setTariff_55 (fun H locs hW hS => ?_)
  refine lv_iload hx hb dX4_setTariff_58 (lv_at hl 0 rfl) ?_
  exact rh_iret hx hb hr hlocks ⟨i, hi, he, hg1, hg2, hg3, rfl, hW⟩ hS (by decide) (by decide) dX4_setTariff_60
set_option maxHeartbeats 4000000 in
set_option maxRecDepth 100000 in
/-- a charge is told -/
theorem ct_X4_charge (l : Launch) (hlf : l.stackTraces = false) {G : va_G} {ca : Nat → ClassId} {A : Nat → Prop} {ad : Nat → Nat → Nat} {nf nc : Nat} {r : rh_R} {v : rh_V} (hD : rh_D A ad (fun k i => i < rh_n nf nc k)) (hwf : rh_wf nf nc r v) (x y : Int32) : rh_M l yX4_charge wsX4_charge ({ frames := 8, cells := 5, slots := 40, locals := 240 } : Room) G ca A [.ref (ad 0 0), .int x, .int y] (rh_W G ca ad nf nc r v) (fun o H => (∃ i : Nat, i < 4 ∧ x = nI i ∧ rng y 1 36000 ∧ o = some (.int (c_ch v i y)) ∧ rh_W G ca ad nf nc r v H)) (fun E H => (E = exn 1 ∧ ¬ ix x 4 ∨ E = exn 2 ∧ ix x 4 ∧ ¬ rng y 1 36000) ∧ rh_W G ca ad nf nc r v H) 5 40 := by
  obtain ⟨hnf, hnc, hr8, hr9, hfc, hcc, hst, ⟨tt, htt, hnow⟩, hai⟩ := id hwf
  refine rh_enter (cc := cX4_charge) (maxL := 4) (ret := (some .int)) (by decide) rfl (Nat.le_of_ble_eq_true rfl) ?_
  intro p e s m below meth c ls hx hb hr hml hown hts hlocks hex hin hE hA hW hl
  have hS : va_S A s.heap s.heap [] := va_S.rf
  have hl : lv_has ls 4 [(0, .ref (ad 0 0)), (1, .int x), (2, .int y)] := hl
  refine lv_aload_n hx hb dX4_charge_0 rfl (lv_at hl 0 rfl) ?_
  refine lv_iload_n hx hb dX4_charge_1 rfl (lv_at hl 1 rfl) ?_
  refine rh_call (vx_runV (As := [.int x]) (rest := []) ⟨hx, hb, hml, hown, hts⟩ (ct_X4_operatorAt l hlf hD x) (cwV 1 hts gX4_charge_X4_operatorAt rfl rfl rfl (by decide +kernel) ⟨by decide, by decide⟩) (rh_preV hE hS hA (hW.at 0 0 Nat.zero_lt_one) rfl hW) rfl rfl hl.1 rfl (lv_room (Nat.le_of_ble_eq_true rfl)) dX4_charge_2 ⟨by decide, by decide⟩) hS (fun E ce q9 H locs hX2 hS g1 g2 g3 => rh_out hex hlocks g1 g2 g3 ⟨Or.inl hX2.1, hX2.2⟩ hS (by decide) (by decide)) (fun o H locs hN1 hS => ?_)
  obtain ⟨⟨i, hi, he, rfl⟩, hW⟩ := hN1
  refine W.eq (g2 := F0 m 5 ls [.ref (ad 5 i)]) rfl ?_
  refine lv_astore_n (lv' := [(3, .ref (ad 5 i)), (0, .ref (ad 0 0)), (1, .int x), (2, .int y)]) hx hb dX4_charge_5 rfl hl (by decide) rfl (fun ls hl => ?_)
  refine lv_iload_n hx hb dX4_charge_6 rfl (lv_at hl 3 rfl) ?_
  refine lv_iconst (v := 1) hx hb dX4_charge_7 (by decide) ?_
  refine lv_ldc (v := 36000) hx hb hown (hts (.constant RX4 64 (36000)) (by decide +kernel)) dX4_charge_8 ?_
  refine rh_call (vx_runS (As := [.int y, .int 1, .int 36000]) (rest := []) ⟨hx, hb, hml, hown, hts⟩ (ct_X4_refuseOutside l hlf hD y 1 36000) (va_cwS 3 hts gX4_charge_X4_refuseOutside rfl rfl rfl (by decide +kernel) ⟨by decide, by decide⟩) (rh_pre hE hS hA hW) rfl rfl hl.1 rfl (lv_room (Nat.le_of_ble_eq_true rfl)) dX4_charge_10 ⟨by decide, by decide⟩) hS (fun E ce q9 H locs hX4 hS g1 g2 g3 => rh_out hex hlocks g1 g2 g3 ⟨Or.inr ⟨hX4.1.1, ((ix_iff (by decide)).mpr ⟨i, hi, he⟩), hX4.1.2⟩, hX4.2⟩ hS (by decide) (by decide)) (fun o H locs hN3 hS => ?_)
  obtain ⟨⟨hg1, rfl⟩, hW⟩ := hN3
  refine W.eq (g2 := F0 m 13 ls []) rfl ?_
  refine lv_aload_n hx hb dX4_charge_13 rfl (lv_at hl 0 rfl) ?_
  refine lv_iload_n hx hb dX4_charge_14 rfl (lv_at hl 3 rfl) ?_
  refine rh_calln (vx_runV (As := [.int y]) (rest := []) ⟨hx, hb, hml, hown, hts⟩ (ct_X2_chargeFor l hD hwf i hi y) (cwV 1 hts gX4_charge_X2_chargeFor rfl rfl rfl (by decide +kernel) ⟨by decide, by decide⟩) (rh_preV hE hS hA (hW.at 5 i hi) rfl hW) rfl rfl hl.1 rfl (lv_room (Nat.le_of_ble_eq_true rfl)) dX4_charge_15 ⟨by decide, by decide⟩) hS (fun o H locs hN5 hS => ?_)
  obtain ⟨rfl, hW⟩ := hN5
  refine W.eq (g2 := F0 m 18 ls [.int (c_ch v i y)]) rfl ?_
  exact rh_iret hx hb hr hlocks ⟨i, hi, he, hg1, rfl, hW⟩ hS (by decide) (by decide) dX4_charge_18
set_option maxHeartbeats 4000000 in
set_option maxRecDepth 100000 in
/-- a file is sent -/
theorem ct_X4_send (l : Launch) (hlf : l.stackTraces = false) {G : va_G} {ca : Nat → ClassId} {A : Nat → Prop} {ad : Nat → Nat → Nat} {nf nc : Nat} {r : rh_R} {v : rh_V} (hD : rh_D A ad (fun k i => i < rh_n nf nc k)) (hwf : rh_wf nf nc r v) (x y : Int32) : rh_M l yX4_send wsX4_send ({ frames := 8, cells := 5, slots := 40, locals := 240 } : Room) G ca A [.ref (ad 0 0), .int x, .int y] (rh_W G ca ad nf nc r v) (fun o H => (∃ i : Nat, i < nf ∧ x = nI i ∧ rng y 1 99 ∧ v 8 i 2 = 0 ∧ ¬ v 8 i 3 = 0 ∧ o = some (.int (c_send r v nf nc i y 8 i 2)) ∧ rh_W G ca ad nf nc r (c_send r v nf nc i y) H)) (fun E H => (E = exn 1 ∧ ¬ ix x nf ∨ E = exn 2 ∧ ix x nf ∧ ¬ rng y 1 99 ∨ E = exn 3 ∧ ∃ i : Nat, i < nf ∧ x = nI i ∧ rng y 1 99 ∧ (¬ v 8 i 2 = 0 ∨ v 8 i 3 = 0)) ∧ rh_W G ca ad nf nc r v H) 5 40 := by
  obtain ⟨hnf, hnc, hr8, hr9, hfc, hcc, hst, ⟨tt, htt, hnow⟩, hai⟩ := id hwf
  refine rh_enter (cc := cX4_send) (maxL := 5) (ret := (some .int)) (by decide) rfl (Nat.le_of_ble_eq_true rfl) ?_
  intro p e s m below meth c ls hx hb hr hml hown hts hlocks hex hin hE hA hW hl
  have hS : va_S A s.heap s.heap [] := va_S.rf
  have hl : lv_has ls 5 [(0, .ref (ad 0 0)), (1, .int x), (2, .int y)] := hl
  refine lv_aload_n hx hb dX4_send_0 rfl (lv_at hl 0 rfl) ?_
  refine lv_iload_n hx hb dX4_send_1 rfl (lv_at hl 1 rfl) ?_
  refine rh_call (vx_runV (As := [.int x]) (rest := []) ⟨hx, hb, hml, hown, hts⟩ (ct_X4_fileAt l hlf hD hwf x) (cwV 1 hts gX4_send_X4_fileAt rfl rfl rfl (by decide +kernel) ⟨by decide, by decide⟩) (rh_preV hE hS hA (hW.at 0 0 Nat.zero_lt_one) rfl hW) rfl rfl hl.1 rfl (lv_room (Nat.le_of_ble_eq_true rfl)) dX4_send_2 ⟨by decide, by decide⟩) hS (fun E ce q9 H locs hX2 hS g1 g2 g3 => rh_out hex hlocks g1 g2 g3 ⟨Or.inl hX2.1, hX2.2⟩ hS (by decide) (by decide)) (fun o H locs hN1 hS => ?_)
  obtain ⟨⟨i, hi, he, rfl⟩, hW⟩ := hN1
  refine W.eq (g2 := F0 m 5 ls [.ref (ad 8 i)]) rfl ?_
  refine lv_astore_n (lv' := [(3, .ref (ad 8 i)), (0, .ref (ad 0 0)), (1, .int x), (2, .int y)]) hx hb dX4_send_5 rfl hl (by decide) rfl (fun ls hl => ?_)
  refine lv_iload_n hx hb dX4_send_6 rfl (lv_at hl 3 rfl) ?_
  refine lv_iconst (v := 1) hx hb dX4_send_7 (by decide) ?_
  refine lv_bipush (v := 99) hx hb dX4_send_8 (by decide) ?_
  refine rh_call (vx_runS (As := [.int y, .int 1, .int 99]) (rest := []) ⟨hx, hb, hml, hown, hts⟩ (ct_X4_refuseOutside l hlf hD y 1 99) (va_cwS 3 hts gX4_send_X4_refuseOutside rfl rfl rfl (by decide +kernel) ⟨by decide, by decide⟩) (rh_pre hE hS hA hW) rfl rfl hl.1 rfl (lv_room (Nat.le_of_ble_eq_true rfl)) dX4_send_10 ⟨by decide, by decide⟩) hS (fun E ce q9 H locs hX4 hS g1 g2 g3 => rh_out hex hlocks g1 g2 g3 ⟨Or.inr (Or.inl ⟨hX4.1.1, ((ix_iff (by omega)).mpr ⟨i, hi, he⟩), hX4.1.2⟩), hX4.2⟩ hS (by decide) (by decide)) (fun o H locs hN3 hS => ?_)
  obtain ⟨⟨hg1, rfl⟩, hW⟩ := hN3
  refine W.eq (g2 := F0 m 13 ls []) rfl ?_
  refine lv_aload_n hx hb dX4_send_13 rfl (lv_at hl 0 rfl) ?_
  refine rh_get (ci := 1) (C := RX1) (T := TX1) (N := 5) (v := .int (v 8 i 2)) hx hb hts (fun _ h => List.mem_cons_of_mem _ (List.mem_append_left _ (List.mem_append_left _ (List.mem_append_left _ (List.mem_append_left _ (List.mem_append_left _ (List.mem_append_left _ (List.mem_append_left _ (List.mem_append_right _ (h)))))))))) hown hE (hW.at 8 i hi) rfl 2 (by decide) (hts (.fieldLink RX4 88 "RoamingHouse$CallFile" "state" "I") (by decide +kernel)) rfl dX4_send_14 ?_
  refine lv_if_ne (tgt := 27) hx hb dX4_send_17 (by decide) (fun c5 => ?_) (fun c5 => ?_)
  · have hbad : ¬ v 8 i 2 = 0 ∨ v 8 i 3 = 0 := Or.inl c5
    exact rh_throw hx hb hlf "java/lang/IllegalStateException" "the file is not a draft, or has no calls" 73 101 77 (by decide) (by decide) (by decide +kernel) rh_t3b rh_t3g hown (hts (.classLink RX4 73 "java/lang/IllegalStateException") (by decide +kernel)) (hts (.initialized "java/lang/IllegalStateException") (by decide +kernel)) (fun w h => hts w (List.mem_cons_of_mem _ (List.mem_append_left _ (List.mem_append_left _ (List.mem_append_right _ (h)))))) hE hS (hl.1.trans hml.symm) dX4_send_27 dX4_send_30 dX4_send_31 dX4_send_33 dX4_send_36 hex hlocks (by decide) (Nat.le_of_ble_eq_true rfl) (by decide) (by decide) (fun H1 _ hk => ⟨Or.inr (Or.inr ⟨rfl, i, hi, he, hg1, hbad⟩), hW.grow hk⟩) (by decide) (by decide)
  · have hd0 := c5
    refine lv_aload_n hx hb dX4_send_20 rfl (lv_at hl 0 rfl) ?_
    refine rh_get (ci := 1) (C := RX1) (T := TX1) (N := 5) (v := .int (v 8 i 3)) hx hb hts (fun _ h => List.mem_cons_of_mem _ (List.mem_append_left _ (List.mem_append_left _ (List.mem_append_left _ (List.mem_append_left _ (List.mem_append_left _ (List.mem_append_left _ (List.mem_append_left _ (List.mem_append_right _ (h)))))))))) hown hE (hW.at 8 i hi) rfl 3 (by decide) (hts (.fieldLink RX4 98 "RoamingHouse$CallFile" "size" "I") (by decide +kernel)) rfl dX4_send_21 ?_
    refine lv_if_ne (tgt := 37) hx hb dX4_send_24 (by decide) (fun c6 => ?_) (fun c6 => ?_)
    · have hs0 := c6
      refine lv_aload_n hx hb dX4_send_37 rfl (lv_at hl 0 rfl) ?_
      refine rh_get (ci := 1) (C := RX1) (T := TX1) (N := 5) (v := .ref (ad 6 (r 8 i))) hx hb hts (fun _ h => List.mem_cons_of_mem _ (List.mem_append_left _ (List.mem_append_left _ (List.mem_append_left _ (List.mem_append_left _ (List.mem_append_left _ (List.mem_append_left _ (List.mem_append_left _ (List.mem_append_right _ (h)))))))))) hown hE (hW.at 8 i hi) rfl 0 (by decide) (hts (.fieldLink RX4 103 "RoamingHouse$CallFile" "pair" "LRoamingHouse$Pair;") (by decide +kernel)) rfl dX4_send_38 ?_
      refine lv_astore (lv' := [(4, .ref (ad 6 (r 8 i))), (3, .ref (ad 8 i)), (0, .ref (ad 0 0)), (1, .int x), (2, .int y)]) hx hb dX4_send_41 hl (by decide) rfl (fun ls hl => ?_)
      refine lv_iload_n hx hb dX4_send_43 rfl (lv_at hl 4 rfl) ?_
      refine lv_aload hx hb dX4_send_44 (lv_at hl 0 rfl) ?_
      refine rh_get (ci := 3) (C := RX3) (T := TX3) (N := 7) (v := .int (v 6 (r 8 i) 1)) hx hb hts (fun _ h => List.mem_cons_of_mem _ (List.mem_append_left _ (List.mem_append_left _ (List.mem_append_left _ (List.mem_append_left _ (List.mem_append_left _ (List.mem_append_left _ (List.mem_append_right _ (h))))))))) hown hE (hW.at 6 (r 8 i) (hr8 _ hi)) rfl 1 (by decide) (hts (.fieldLink RX4 107 "RoamingHouse$Pair" "expectedNumber" "I") (by decide +kernel)) rfl dX4_send_46 ?_
      refine lv_icmp_lt (tgt := 62) hx hb dX4_send_49 (by decide) (fun c7 => ?_) (fun c7 => ?_)
      · have hsd : c_send r v nf nc i y = wr v 8 i 2 1 := if_pos (Or.inl c7)
        refine lv_aload_n hx hb dX4_send_62 rfl (lv_at hl 1 rfl) ?_
        refine lv_iconst (v := 1) hx hb dX4_send_63 (by decide) ?_
        refine rh_put (ci := 1) (C := RX1) (T := TX1) (N := 5) (x := 1) hx hb hts (fun _ h => List.mem_cons_of_mem _ (List.mem_append_left _ (List.mem_append_left _ (List.mem_append_left _ (List.mem_append_left _ (List.mem_append_left _ (List.mem_append_left _ (List.mem_append_left _ (List.mem_append_right _ (h)))))))))) tyX1 tyX1_ok nmX1 hown hE hW hD hS rfl 8 i hi rfl 2 (by decide) (hts (.fieldLink RX4 88 "RoamingHouse$CallFile" "state" "I") (by decide +kernel)) rfl rfl rfl (Nat.le_of_ble_eq_true rfl) rfl dX4_send_64 (fun H locs hW hS => ?_)
        refine lv_goto (tgt := 97) hx hb dX4_send_67 (by decide) ?_
        refine lv_aload_n hx hb dX4_send_97 rfl (lv_at hl 1 rfl) ?_
        refine rh_get (ci := 1) (C := RX1) (T := TX1) (N := 5) (v := .int 1) hx hb hts (fun _ h => List.mem_cons_of_mem _ (List.mem_append_left _ (List.mem_append_left _ (List.mem_append_left _ (List.mem_append_left _ (List.mem_append_left _ (List.mem_append_left _ (List.mem_append_left _ (List.mem_append_right _ (h)))))))))) hown hE (hW.at 8 i hi) rfl 2 (by decide) (hts (.fieldLink RX4 88 "RoamingHouse$CallFile" "state" "I") (by decide +kernel)) (show some (Value.int ((wr v 8 i 2 1) 8 i 2)) = some (Value.int (1)) from by simp [wr_at]) dX4_send_98 ?_
        exact rh_iret hx hb hr hlocks ⟨i, hi, he, hg1, hd0, hs0, by rw [hsd]; simp [wr_at], by rw [hsd]; exact hW⟩ hS (by decide) (by decide) dX4_send_101
      · have hlt := c7
        refine lv_aload_n hx hb dX4_send_52 rfl (lv_at hl 2 rfl) ?_
        refine lv_aload hx hb dX4_send_53 (lv_at hl 0 rfl) ?_
        refine lv_iload_n hx hb dX4_send_55 rfl (lv_at hl 4 rfl) ?_
        refine rh_calln (vx_runV (As := [.ref (ad 6 (r 8 i)), .int y]) (rest := []) ⟨hx, hb, hml, hown, hts⟩ (ct_X4_waitingFile l hD hwf (r 8 i) (hr8 _ hi) y) (cwV 2 hts gX4_send_X4_waitingFile rfl rfl rfl (by decide +kernel) ⟨by decide, by decide⟩) (rh_preV hE hS hA (hW.at 0 0 Nat.zero_lt_one) rfl hW) rfl rfl hl.1 rfl (lv_room (Nat.le_of_ble_eq_true rfl)) dX4_send_56 ⟨by decide, by decide⟩) hS (fun o H locs hN8 hS => ?_)
        obtain ⟨⟨jw, hjw, hwt, rfl⟩ | ⟨hwt, rfl⟩, hW⟩ := hN8
        · have hsd : c_send r v nf nc i y = wr v 8 i 2 1 := if_pos (Or.inr (by rw [hwt]; exact Option.some_ne_none _))
          refine W.eq (g2 := F0 m 59 ls [.ref (ad 8 jw)]) rfl ?_
          refine lv_ifnull hx hb dX4_send_59 ?_
          refine lv_aload_n hx hb dX4_send_62 rfl (lv_at hl 1 rfl) ?_
          refine lv_iconst (v := 1) hx hb dX4_send_63 (by decide) ?_
          refine rh_put (ci := 1) (C := RX1) (T := TX1) (N := 5) (x := 1) hx hb hts (fun _ h => List.mem_cons_of_mem _ (List.mem_append_left _ (List.mem_append_left _ (List.mem_append_left _ (List.mem_append_left _ (List.mem_append_left _ (List.mem_append_left _ (List.mem_append_left _ (List.mem_append_right _ (h)))))))))) tyX1 tyX1_ok nmX1 hown hE hW hD hS rfl 8 i hi rfl 2 (by decide) (hts (.fieldLink RX4 88 "RoamingHouse$CallFile" "state" "I") (by decide +kernel)) rfl rfl rfl (Nat.le_of_ble_eq_true rfl) rfl dX4_send_64 (fun H locs hW hS => ?_)
          refine lv_goto (tgt := 97) hx hb dX4_send_67 (by decide) ?_
          refine lv_aload_n hx hb dX4_send_97 rfl (lv_at hl 1 rfl) ?_
          refine rh_get (ci := 1) (C := RX1) (T := TX1) (N := 5) (v := .int 1) hx hb hts (fun _ h => List.mem_cons_of_mem _ (List.mem_append_left _ (List.mem_append_left _ (List.mem_append_left _ (List.mem_append_left _ (List.mem_append_left _ (List.mem_append_left _ (List.mem_append_left _ (List.mem_append_right _ (h)))))))))) hown hE (hW.at 8 i hi) rfl 2 (by decide) (hts (.fieldLink RX4 88 "RoamingHouse$CallFile" "state" "I") (by decide +kernel)) (show some (Value.int ((wr v 8 i 2 1) 8 i 2)) = some (Value.int (1)) from by simp [wr_at]) dX4_send_98 ?_
          exact rh_iret hx hb hr hlocks ⟨i, hi, he, hg1, hd0, hs0, by rw [hsd]; simp [wr_at], by rw [hsd]; exact hW⟩ hS (by decide) (by decide) dX4_send_101
        · have hnd : ¬ (y < v 6 (r 8 i) 1 ∨ c_wait r v nf (r 8 i) y ≠ none) := fun z => z.elim hlt (fun w => w hwt)
          refine W.eq (g2 := F0 m 59 ls [.null]) rfl ?_
          refine lv_ifnullN (tgt := 70) hx hb dX4_send_59 (by decide) ?_
          refine lv_iload_n hx hb dX4_send_70 rfl (lv_at hl 4 rfl) ?_
          refine lv_aload hx hb dX4_send_71 (lv_at hl 0 rfl) ?_
          refine rh_get (ci := 3) (C := RX3) (T := TX3) (N := 7) (v := .int (v 6 (r 8 i) 1)) hx hb hts (fun _ h => List.mem_cons_of_mem _ (List.mem_append_left _ (List.mem_append_left _ (List.mem_append_left _ (List.mem_append_left _ (List.mem_append_left _ (List.mem_append_left _ (List.mem_append_right _ (h))))))))) hown hE (hW.at 6 (r 8 i) (hr8 _ hi)) rfl 1 (by decide) (hts (.fieldLink RX4 107 "RoamingHouse$Pair" "expectedNumber" "I") (by decide +kernel)) rfl dX4_send_73 ?_
          refine lv_icmp_le (tgt := 92) hx hb dX4_send_76 (by decide) (fun c9 => ?_) (fun c9 => ?_)
          · have hsd : c_send r v nf nc i y = c_all r nf nc (r 8 i) 30 v (some i) := (if_neg hnd).trans (if_neg (le_nlt c9))
            refine lv_aload_n hx hb dX4_send_92 rfl (lv_at hl 2 rfl) ?_
            refine lv_aload_n hx hb dX4_send_93 rfl (lv_at hl 1 rfl) ?_
            refine rh_calln (vx_runV (As := [.ref (ad 8 i)]) (rest := []) ⟨hx, hb, hml, hown, hts⟩ (ct_X4_lookAtAllFrom l hD hwf i hi) (cwV 1 hts gX4_send_X4_lookAtAllFrom rfl rfl rfl (by decide +kernel) ⟨by decide, by decide⟩) (rh_preV hE hS hA (hW.at 0 0 Nat.zero_lt_one) rfl hW) rfl rfl hl.1 rfl (lv_room (Nat.le_of_ble_eq_true rfl)) dX4_send_94 ⟨by decide, by decide⟩) hS (fun o H locs hN10 hS => ?_)
            obtain ⟨rfl, hW⟩ := hN10
            refine W.eq (g2 := F0 m 97 ls []) rfl ?_
            refine lv_aload_n hx hb dX4_send_97 rfl (lv_at hl 1 rfl) ?_
            refine rh_get (ci := 1) (C := RX1) (T := TX1) (N := 5) (v := .int ((c_all r nf nc (r 8 i) 30 v (some i)) 8 i 2)) hx hb hts (fun _ h => List.mem_cons_of_mem _ (List.mem_append_left _ (List.mem_append_left _ (List.mem_append_left _ (List.mem_append_left _ (List.mem_append_left _ (List.mem_append_left _ (List.mem_append_left _ (List.mem_append_right _ (h)))))))))) hown hE (hW.at 8 i hi) rfl 2 (by decide) (hts (.fieldLink RX4 88 "RoamingHouse$CallFile" "state" "I") (by decide +kernel)) rfl dX4_send_98 ?_
            exact rh_iret hx hb hr hlocks ⟨i, hi, he, hg1, hd0, hs0, by rw [hsd], by rw [hsd]; exact hW⟩ hS (by decide) (by decide) dX4_send_101
          · have hsd : c_send r v nf nc i y = wr (wr v 8 i 4 y) 8 i 2 2 := (if_neg hnd).trans (if_pos (nle_lt c9))
            refine lv_aload_n hx hb dX4_send_79 rfl (lv_at hl 1 rfl) ?_
            refine lv_iload_n hx hb dX4_send_80 rfl (lv_at hl 4 rfl) ?_
            refine rh_put (ci := 1) (C := RX1) (T := TX1) (N := 5) (x := y) hx hb hts (fun _ h => List.mem_cons_of_mem _ (List.mem_append_left _ (List.mem_append_left _ (List.mem_append_left _ (List.mem_append_left _ (List.mem_append_left _ (List.mem_append_left _ (List.mem_append_left _ (List.mem_append_right _ (h)))))))))) tyX1 tyX1_ok nmX1 hown hE hW hD hS rfl 8 i hi rfl 4 (by decide) (hts (.fieldLink RX4 114 "RoamingHouse$CallFile" "number" "I") (by decide +kernel)) rfl rfl rfl (Nat.le_of_ble_eq_true rfl) rfl dX4_send_81 (fun H locs hW hS => ?_)
            refine lv_aload_n hx hb dX4_send_84 rfl (lv_at hl 1 rfl) ?_
            refine lv_iconst (v := 2) hx hb dX4_send_85 (by decide) ?_
            refine rh_put (ci := 1) (C := RX1) (T := TX1) (N := 5) (x := 2) hx hb hts (fun _ h => List.mem_cons_of_mem _ (List.mem_append_left _ (List.mem_append_left _ (List.mem_append_left _ (List.mem_append_left _ (List.mem_append_left _ (List.mem_append_left _ (List.mem_append_left _ (List.mem_append_right _ (h)))))))))) tyX1 tyX1_ok nmX1 hown hE hW hD hS rfl 8 i hi rfl 2 (by decide) (hts (.fieldLink RX4 88 "RoamingHouse$CallFile" "state" "I") (by decide +kernel)) rfl rfl rfl (Nat.le_of_ble_eq_true rfl) rfl dX4_send_86 (fun H locs hW hS => ?_)
            refine lv_goto (tgt := 97) hx hb dX4_send_89 (by decide) ?_
            refine lv_aload_n hx hb dX4_send_97 rfl (lv_at hl 1 rfl) ?_
            refine rh_get (ci := 1) (C := RX1) (T := TX1) (N := 5) (v := .int 2) hx hb hts (fun _ h => List.mem_cons_of_mem _ (List.mem_append_left _ (List.mem_append_left _ (List.mem_append_left _ (List.mem_append_left _ (List.mem_append_left _ (List.mem_append_left _ (List.mem_append_left _ (List.mem_append_right _ (h)))))))))) hown hE (hW.at 8 i hi) rfl 2 (by decide) (hts (.fieldLink RX4 88 "RoamingHouse$CallFile" "state" "I") (by decide +kernel)) (show some (Value.int ((wr (wr v 8 i 4 y) 8 i 2 2) 8 i 2)) = some (Value.int (2)) from by simp [wr_at]) dX4_send_98 ?_
            exact rh_iret hx hb hr hlocks ⟨i, hi, he, hg1, hd0, hs0, by rw [hsd]; simp [wr_at], by rw [hsd]; exact hW⟩ hS (by decide) (by decide) dX4_send_101
    · have hbad : ¬ v 8 i 2 = 0 ∨ v 8 i 3 = 0 := Or.inr c6
      exact rh_throw hx hb hlf "java/lang/IllegalStateException" "the file is not a draft, or has no calls" 73 101 77 (by decide) (by decide) (by decide +kernel) rh_t3b rh_t3g hown (hts (.classLink RX4 73 "java/lang/IllegalStateException") (by decide +kernel)) (hts (.initialized "java/lang/IllegalStateException") (by decide +kernel)) (fun w h => hts w (List.mem_cons_of_mem _ (List.mem_append_left _ (List.mem_append_left _ (List.mem_append_right _ (h)))))) hE hS (hl.1.trans hml.symm) dX4_send_27 dX4_send_30 dX4_send_31 dX4_send_33 dX4_send_36 hex hlocks (by decide) (Nat.le_of_ble_eq_true rfl) (by decide) (by decide) (fun H1 _ hk => ⟨Or.inr (Or.inr ⟨rfl, i, hi, he, hg1, hbad⟩), hW.grow hk⟩) (by decide) (by decide)
set_option maxHeartbeats 4000000 in
set_option maxRecDepth 100000 in
/-- what a file is -/
theorem ct_X4_stateOf (l : Launch) (hlf : l.stackTraces = false) {G : va_G} {ca : Nat → ClassId} {A : Nat → Prop} {ad : Nat → Nat → Nat} {nf nc : Nat} {r : rh_R} {v : rh_V} (hD : rh_D A ad (fun k i => i < rh_n nf nc k)) (hwf : rh_wf nf nc r v) (x : Int32) : rh_M l yX4_stateOf wsX4_stateOf ({ frames := 8, cells := 5, slots := 40, locals := 240 } : Room) G ca A [.ref (ad 0 0), .int x] (rh_W G ca ad nf nc r v) (fun o H => (∃ i : Nat, i < nf ∧ x = nI i ∧ o = some (.int (v 8 i 2)) ∧ rh_W G ca ad nf nc r v H)) (fun E H => (E = exn 1 ∧ ¬ ix x nf) ∧ rh_W G ca ad nf nc r v H) 5 40 := by
  obtain ⟨hnf, hnc, hr8, hr9, hfc, hcc, hst, ⟨tt, htt, hnow⟩, hai⟩ := id hwf
  refine rh_enter (cc := cX4_stateOf) (maxL := 2) (ret := (some .int)) (by decide) rfl (Nat.le_of_ble_eq_true rfl) ?_
  intro p e s m below meth c ls hx hb hr hml hown hts hlocks hex hin hE hA hW hl
  have hS : va_S A s.heap s.heap [] := va_S.rf
  have hl : lv_has ls 2 [(0, .ref (ad 0 0)), (1, .int x)] := hl
  refine lv_aload_n hx hb dX4_stateOf_0 rfl (lv_at hl 0 rfl) ?_
  refine lv_iload_n hx hb dX4_stateOf_1 rfl (lv_at hl 1 rfl) ?_
  refine rh_call (vx_runV (As := [.int x]) (rest := []) ⟨hx, hb, hml, hown, hts⟩ (ct_X4_fileAt l hlf hD hwf x) (cwV 1 hts gX4_stateOf_X4_fileAt rfl rfl rfl (by decide +kernel) ⟨by decide, by decide⟩) (rh_preV hE hS hA (hW.at 0 0 Nat.zero_lt_one) rfl hW) rfl rfl hl.1 rfl (lv_room (Nat.le_of_ble_eq_true rfl)) dX4_stateOf_2 ⟨by decide, by decide⟩) hS (fun E ce q9 H locs hX2 hS g1 g2 g3 => rh_out hex hlocks g1 g2 g3 ⟨hX2.1, hX2.2⟩ hS (by decide) (by decide)) (fun o H locs hN1 hS => ?_)
  obtain ⟨⟨i, hi, he, rfl⟩, hW⟩ := hN1
  refine W.eq (g2 := F0 m 5 ls [.ref (ad 8 i)]) rfl ?_
  refine rh_get (ci := 1) (C := RX1) (T := TX1) (N := 5) (v := .int (v 8 i 2)) hx hb hts (fun _ h => List.mem_cons_of_mem _ (List.mem_append_left _ (List.mem_append_left _ (List.mem_append_right _ (h))))) hown hE (hW.at 8 i hi) rfl 2 (by decide) (hts (.fieldLink RX4 88 "RoamingHouse$CallFile" "state" "I") (by decide +kernel)) rfl dX4_stateOf_5 ?_
  exact rh_iret hx hb hr hlocks ⟨i, hi, he, rfl, hW⟩ hS (by decide) (by decide) dX4_stateOf_8
set_option maxHeartbeats 4000000 in
set_option maxRecDepth 100000 in
/-- the number that a pair expects -/
theorem ct_X4_expected (l : Launch) (hlf : l.stackTraces = false) {G : va_G} {ca : Nat → ClassId} {A : Nat → Prop} {ad : Nat → Nat → Nat} {nf nc : Nat} {r : rh_R} {v : rh_V} (hD : rh_D A ad (fun k i => i < rh_n nf nc k)) (hwf : rh_wf nf nc r v) (x y : Int32) : rh_M l yX4_expected wsX4_expected ({ frames := 8, cells := 5, slots := 40, locals := 240 } : Room) G ca A [.ref (ad 0 0), .int x, .int y] (rh_W G ca ad nf nc r v) (fun o H => (∃ h k : Nat, h < 4 ∧ k < 4 ∧ h ≠ k ∧ x = nI h ∧ y = nI k ∧ o = some (.int (v 6 (h * 4 + k) 1)) ∧ rh_W G ca ad nf nc r v H)) (fun E H => (E = exn 1 ∧ ¬ (ix x 4 ∧ ix y 4) ∨ E = exn 2 ∧ ix x 4 ∧ ix y 4 ∧ x = y) ∧ rh_W G ca ad nf nc r v H) 5 40 := by
  obtain ⟨hnf, hnc, hr8, hr9, hfc, hcc, hst, ⟨tt, htt, hnow⟩, hai⟩ := id hwf
  refine rh_enter (cc := cX4_expected) (maxL := 3) (ret := (some .int)) (by decide) rfl (Nat.le_of_ble_eq_true rfl) ?_
  intro p e s m below meth c ls hx hb hr hml hown hts hlocks hex hin hE hA hW hl
  have hS : va_S A s.heap s.heap [] := va_S.rf
  have hl : lv_has ls 3 [(0, .ref (ad 0 0)), (1, .int x), (2, .int y)] := hl
  refine lv_aload_n hx hb dX4_expected_0 rfl (lv_at hl 0 rfl) ?_
  refine lv_iload_n hx hb dX4_expected_1 rfl (lv_at hl 1 rfl) ?_
  refine lv_iload_n hx hb dX4_expected_2 rfl (lv_at hl 2 rfl) ?_
  refine rh_call (vx_runV (As := [.int x, .int y]) (rest := []) ⟨hx, hb, hml, hown, hts⟩ (ct_X4_pairAt l hlf hD x y) (cwV 2 hts gX4_expected_X4_pairAt rfl rfl rfl (by decide +kernel) ⟨by decide, by decide⟩) (rh_preV hE hS hA (hW.at 0 0 Nat.zero_lt_one) rfl hW) rfl rfl hl.1 rfl (lv_room (Nat.le_of_ble_eq_true rfl)) dX4_expected_3 ⟨by decide, by decide⟩) hS (fun E ce q9 H locs hX2 hS g1 g2 g3 => rh_out hex hlocks g1 g2 g3 ⟨hX2.1, hX2.2⟩ hS (by decide) (by decide)) (fun o H locs hN1 hS => ?_)
  obtain ⟨⟨h, k, hh, hk, hne, hxh, hyk, rfl⟩, hW⟩ := hN1
  refine W.eq (g2 := F0 m 6 ls [.ref (ad 6 (h * 4 + k))]) rfl ?_
  refine rh_get (ci := 3) (C := RX3) (T := TX3) (N := 7) (v := .int (v 6 (h * 4 + k) 1)) hx hb hts (fun _ h => List.mem_cons_of_mem _ (List.mem_append_left _ (List.mem_append_left _ (List.mem_append_left _ (List.mem_append_right _ (h)))))) hown hE (hW.at 6 (h * 4 + k) (rh_pq hh hk).2) rfl 1 (by decide) (hts (.fieldLink RX4 107 "RoamingHouse$Pair" "expectedNumber" "I") (by decide +kernel)) rfl dX4_expected_6 ?_
  exact rh_iret hx hb hr hlocks ⟨h, k, hh, hk, hne, hxh, hyk, rfl, hW⟩ hS (by decide) (by decide) dX4_expected_9
set_option maxHeartbeats 4000000 in
set_option maxRecDepth 100000 in
/-- how many numbers are lacking -/
theorem ct_X4_lacking (l : Launch) (hlf : l.stackTraces = false) {G : va_G} {ca : Nat → ClassId} {A : Nat → Prop} {ad : Nat → Nat → Nat} {nf nc : Nat} {r : rh_R} {v : rh_V} (hD : rh_D A ad (fun k i => i < rh_n nf nc k)) (hwf : rh_wf nf nc r v) (x y : Int32) : rh_M l yX4_lacking wsX4_lacking ({ frames := 8, cells := 5, slots := 40, locals := 240 } : Room) G ca A [.ref (ad 0 0), .int x, .int y] (rh_W G ca ad nf nc r v) (fun o H => (∃ h k : Nat, h < 4 ∧ k < 4 ∧ h ≠ k ∧ x = nI h ∧ y = nI k ∧ o = some (.int (if c_wn r v (h * 4 + k) nf = 0 then 0 else c_wg r v (h * 4 + k) nf - v 6 (h * 4 + k) 1 + 1 - c_wn r v (h * 4 + k) nf)) ∧ rh_W G ca ad nf nc r v H)) (fun E H => (E = exn 1 ∧ ¬ (ix x 4 ∧ ix y 4) ∨ E = exn 2 ∧ ix x 4 ∧ ix y 4 ∧ x = y) ∧ rh_W G ca ad nf nc r v H) 5 40 := by
  obtain ⟨hnf, hnc, hr8, hr9, hfc, hcc, hst, ⟨tt, htt, hnow⟩, hai⟩ := id hwf
  refine rh_enter (cc := cX4_lacking) (maxL := 8) (ret := (some .int)) (by decide) rfl (Nat.le_of_ble_eq_true rfl) ?_
  intro p e s m below meth c ls hx hb hr hml hown hts hlocks hex hin hE hA hW hl
  have hS : va_S A s.heap s.heap [] := va_S.rf
  have hl : lv_has ls 8 [(0, .ref (ad 0 0)), (1, .int x), (2, .int y)] := hl
  refine lv_aload_n hx hb dX4_lacking_0 rfl (lv_at hl 0 rfl) ?_
  refine lv_iload_n hx hb dX4_lacking_1 rfl (lv_at hl 1 rfl) ?_
  refine lv_iload_n hx hb dX4_lacking_2 rfl (lv_at hl 2 rfl) ?_
  refine rh_call (vx_runV (As := [.int x, .int y]) (rest := []) ⟨hx, hb, hml, hown, hts⟩ (ct_X4_pairAt l hlf hD x y) (cwV 2 hts gX4_lacking_X4_pairAt rfl rfl rfl (by decide +kernel) ⟨by decide, by decide⟩) (rh_preV hE hS hA (hW.at 0 0 Nat.zero_lt_one) rfl hW) rfl rfl hl.1 rfl (lv_room (Nat.le_of_ble_eq_true rfl)) dX4_lacking_3 ⟨by decide, by decide⟩) hS (fun E ce q9 H locs hX2 hS g1 g2 g3 => rh_out hex hlocks g1 g2 g3 ⟨hX2.1, hX2.2⟩ hS (by decide) (by decide)) (fun o H locs hN1 hS => ?_)
  obtain ⟨⟨h, k, hh, hk, hne, hxh, hyk, rfl⟩, hW⟩ := hN1
  refine W.eq (g2 := F0 m 6 ls [.ref (ad 6 (h * 4 + k))]) rfl ?_
  refine lv_astore_n (lv' := [(3, .ref (ad 6 (h * 4 + k))), (0, .ref (ad 0 0)), (1, .int x), (2, .int y)]) hx hb dX4_lacking_6 rfl hl (by decide) rfl (fun ls hl => ?_)
  refine lv_iconst (v := 0) hx hb dX4_lacking_7 (by decide) ?_
  refine lv_istore (lv' := [(4, .int 0), (3, .ref (ad 6 (h * 4 + k))), (0, .ref (ad 0 0)), (1, .int x), (2, .int y)]) hx hb dX4_lacking_8 hl (by decide) rfl (fun ls hl => ?_)
  refine lv_iconst (v := 0) hx hb dX4_lacking_10 (by decide) ?_
  refine lv_istore (lv' := [(5, .int 0), (4, .int 0), (3, .ref (ad 6 (h * 4 + k))), (0, .ref (ad 0 0)), (1, .int x), (2, .int y)]) hx hb dX4_lacking_11 hl (by decide) rfl (fun ls hl => ?_)
  refine lv_iconst (v := 0) hx hb dX4_lacking_13 (by decide) ?_
  refine lv_istore (lv' := [(6, .int 0), (5, .int 0), (4, .int 0), (3, .ref (ad 6 (h * 4 + k))), (0, .ref (ad 0 0)), (1, .int x), (2, .int y)]) hx hb dX4_lacking_14 hl (by decide) rfl (fun ls hl => ?_)
  have loop16 : ∀ (n : Nat) (j : Nat) (w : Int32) (g : Int32) (H : Heap) (locs : List Loc) (ls : Array Slot), nf + 1 ≤ j + n → j ≤ nf → w = c_wn r v (h * 4 + k) j → g = c_wg r v (h * 4 + k) j → rh_W G ca ad nf nc r v H → va_S A s.heap H locs → lv_has ls 8 [(0, .ref (ad 0 0)), (1, .int x), (2, .int y), (3, .ref (ad 6 (h * 4 + k))), (4, .int w), (5, .int g), (6, .int (nI j))] → W p l e ({ frames := 8, cells := 5, slots := 40, locals := 240 } : Room) s m ([.ref (ad 0 0), .int x, .int y] : List Value).toArray below meth c H locs (0 + 1) (0 + 6) (vx_MQ below (rh_Q A (fun o H => (∃ h k : Nat, h < 4 ∧ k < 4 ∧ h ≠ k ∧ x = nI h ∧ y = nI k ∧ o = some (.int (if c_wn r v (h * 4 + k) nf = 0 then 0 else c_wg r v (h * 4 + k) nf - v 6 (h * 4 + k) 1 + 1 - c_wn r v (h * 4 + k) nf)) ∧ rh_W G ca ad nf nc r v H))) (rh_XC A (fun E H => (E = exn 1 ∧ ¬ (ix x 4 ∧ ix y 4) ∨ E = exn 2 ∧ ix x 4 ∧ ix y 4 ∧ x = y) ∧ rh_W G ca ad nf nc r v H)) ([.ref (ad 0 0), .int x, .int y] : List Value).toArray s 5 40 A) (F0 m 16 ls []) := by
    intro n
    induction n with
    | zero => intro j w g H locs ls hjn hj hw hg hW hS hl; exact absurd hjn (by omega)
    | succ n ih =>
      intro j w g H locs ls hjn hj hw hg hW hS hl
      refine lv_iload hx hb dX4_lacking_16 (lv_at hl 6 rfl) ?_
      refine lv_aload_n hx hb dX4_lacking_18 rfl (lv_at hl 0 rfl) ?_
      refine rh_get (ci := 4) (C := RX4) (T := TX4) (N := 7) (v := .int (v 0 0 3)) hx hb hts (fun _ h => List.mem_cons_of_mem _ (List.mem_append_left _ (List.mem_append_left _ (List.mem_append_left _ (List.mem_append_left _ (List.mem_append_right _ (h))))))) hown hE (hW.at 0 0 Nat.zero_lt_one) rfl 3 (by decide) (hts (.fieldLink RX4 27 "RoamingHouse" "fileCount" "I") (by decide +kernel)) rfl dX4_lacking_19 ?_
      refine lv_icmp_ge (tgt := 73) hx hb dX4_lacking_22 (by decide) (fun c3 => ?_) (fun c3 => ?_)
      · have hjf : j = nf := by
          rcases Nat.lt_or_ge j nf with z | z
          · exact absurd (by rw [← hfc]; exact c3) (nI_ge z (by omega))
          · omega
        refine lv_iload hx hb dX4_lacking_73 (lv_at hl 4 rfl) ?_
        refine lv_if_ne (tgt := 82) hx hb dX4_lacking_75 (by decide) (fun c4 => ?_) (fun c4 => ?_)
        · have hz : ¬ c_wn r v (h * 4 + k) nf = 0 := by rw [← hjf, ← hw]; exact c4
          refine lv_iload hx hb dX4_lacking_82 (lv_at hl 5 rfl) ?_
          refine lv_aload_n hx hb dX4_lacking_84 rfl (lv_at hl 3 rfl) ?_
          refine rh_get (ci := 3) (C := RX3) (T := TX3) (N := 7) (v := .int (v 6 (h * 4 + k) 1)) hx hb hts (fun _ h => List.mem_cons_of_mem _ (List.mem_append_left _ (List.mem_append_left _ (List.mem_append_right _ (h))))) hown hE (hW.at 6 (h * 4 + k) (rh_pq hh hk).2) rfl 1 (by decide) (hts (.fieldLink RX4 107 "RoamingHouse$Pair" "expectedNumber" "I") (by decide +kernel)) rfl dX4_lacking_85 ?_
          refine lv_isub hx hb dX4_lacking_88 ?_
          refine lv_iconst (v := 1) hx hb dX4_lacking_89 (by decide) ?_
          refine lv_iadd hx hb dX4_lacking_90 ?_
          refine lv_iload hx hb dX4_lacking_91 (lv_at hl 4 rfl) ?_
          refine lv_isub hx hb dX4_lacking_93 ?_
          exact rh_iret hx hb hr hlocks ⟨h, k, hh, hk, hne, hxh, hyk, by rw [if_neg hz, hw, hg, hjf], hW⟩ hS (by decide) (by decide) dX4_lacking_94
        · have hz : c_wn r v (h * 4 + k) nf = 0 := by rw [← hjf, ← hw]; exact c4
          refine lv_iconst (v := 0) hx hb dX4_lacking_78 (by decide) ?_
          refine lv_goto (tgt := 94) hx hb dX4_lacking_79 (by decide) ?_
          exact rh_iret hx hb hr hlocks ⟨h, k, hh, hk, hne, hxh, hyk, by rw [if_pos hz], hW⟩ hS (by decide) (by decide) dX4_lacking_94
      · have hjl : j < nf := by
          rcases Nat.lt_or_ge j nf with z | z
          · exact z
          · exact absurd (by rw [hfc]; exact nI_le z (by omega)) c3
        refine lv_aload_n hx hb dX4_lacking_25 rfl (lv_at hl 0 rfl) ?_
        refine rh_get (ci := 4) (C := RX4) (T := TX4) (N := 7) (v := .ref (ad 3 0)) hx hb hts (fun _ h => List.mem_cons_of_mem _ (List.mem_append_left _ (List.mem_append_left _ (List.mem_append_left _ (List.mem_append_left _ (List.mem_append_right _ (h))))))) hown hE (hW.at 0 0 Nat.zero_lt_one) rfl 2 (by decide) (hts (.fieldLink RX4 23 "RoamingHouse" "fileRows" "[LRoamingHouse$CallFile;") (by decide +kernel)) rfl dX4_lacking_26 ?_
        refine lv_iload hx hb dX4_lacking_29 (lv_at hl 6 rfl) ?_
        refine rh_qald hx hb hE 5 rfl (hW.at 3 0 Nat.zero_lt_one) j (by omega) (by decide) rfl (q := ad 8 j) (if_pos hjl) dX4_lacking_31 ?_
        refine lv_astore (lv' := [(7, .ref (ad 8 j)), (0, .ref (ad 0 0)), (1, .int x), (2, .int y), (3, .ref (ad 6 (h * 4 + k))), (4, .int w), (5, .int g), (6, .int (nI j))]) hx hb dX4_lacking_32 hl (by decide) rfl (fun ls hl => ?_)
        refine lv_aload hx hb dX4_lacking_34 (lv_at hl 0 rfl) ?_
        refine rh_get (ci := 1) (C := RX1) (T := TX1) (N := 5) (v := .ref (ad 6 (r 8 j))) hx hb hts (fun _ h => List.mem_cons_of_mem _ (List.mem_append_left _ (List.mem_append_left _ (List.mem_append_left _ (List.mem_append_right _ (h)))))) hown hE (hW.at 8 j hjl) rfl 0 (by decide) (hts (.fieldLink RX4 103 "RoamingHouse$CallFile" "pair" "LRoamingHouse$Pair;") (by decide +kernel)) rfl dX4_lacking_36 ?_
        refine lv_aload_n hx hb dX4_lacking_39 rfl (lv_at hl 4 rfl) ?_
        refine lv_acmp_ne (rx := (some (ad 6 (r 8 j)))) (ry := (some (ad 6 (h * 4 + k)))) (tgt := 67) hx hb dX4_lacking_40 (by decide) (fun c5 => ?_) (fun c5 => ?_)
        · refine lv_iinc (v := nI (j + 1)) (lv' := [(6, .int (nI (j + 1))), (7, .ref (ad 8 j)), (0, .ref (ad 0 0)), (1, .int x), (2, .int y), (3, .ref (ad 6 (h * 4 + k))), (4, .int w), (5, .int g)]) hx hb dX4_lacking_67 hl (k := 7) rfl (nI_1 j) (by decide) rfl (fun ls hl => ?_)
          refine lv_goto (tgt := 16) hx hb dX4_lacking_70 (by decide) ?_
          exact ih (j + 1) w g _ _ _ (by omega) (by omega) (by rw [hw]; exact (if_neg (fun z => c5 (congrArg (fun y => some (ad 6 y)) z.1))).symm) (by rw [hg]; exact (if_neg (fun z => c5 (congrArg (fun y => some (ad 6 y)) z.1))).symm) hW hS (lv_sub hl [2, 3, 4, 5, 6, 7, 0] rfl)
        · have hpq : r 8 j = h * 4 + k := (hD.1 6 (r 8 j) 6 (h * 4 + k) (hr8 _ hjl) (rh_pq hh hk).2 (Option.some.inj c5)).2
          refine lv_aload hx hb dX4_lacking_43 (lv_at hl 0 rfl) ?_
          refine rh_get (ci := 1) (C := RX1) (T := TX1) (N := 5) (v := .int (v 8 j 2)) hx hb hts (fun _ h => List.mem_cons_of_mem _ (List.mem_append_left _ (List.mem_append_left _ (List.mem_append_left _ (List.mem_append_right _ (h)))))) hown hE (hW.at 8 j hjl) rfl 2 (by decide) (hts (.fieldLink RX4 88 "RoamingHouse$CallFile" "state" "I") (by decide +kernel)) rfl dX4_lacking_45 ?_
          refine lv_iconst (v := 2) hx hb dX4_lacking_48 (by decide) ?_
          refine lv_icmp_ne (tgt := 67) hx hb dX4_lacking_49 (by decide) (fun c6 => ?_) (fun c6 => ?_)
          · refine lv_iinc (v := nI (j + 1)) (lv' := [(6, .int (nI (j + 1))), (7, .ref (ad 8 j)), (0, .ref (ad 0 0)), (1, .int x), (2, .int y), (3, .ref (ad 6 (h * 4 + k))), (4, .int w), (5, .int g)]) hx hb dX4_lacking_67 hl (k := 7) rfl (nI_1 j) (by decide) rfl (fun ls hl => ?_)
            refine lv_goto (tgt := 16) hx hb dX4_lacking_70 (by decide) ?_
            exact ih (j + 1) w g _ _ _ (by omega) (by omega) (by rw [hw]; exact (if_neg (fun z => c6 z.2)).symm) (by rw [hg]; exact (if_neg (fun z => c6 z.2)).symm) hW hS (lv_sub hl [2, 3, 4, 5, 6, 7, 0] rfl)
          · refine lv_iinc (v := (w + 1)) (lv' := [(4, .int (w + 1)), (7, .ref (ad 8 j)), (0, .ref (ad 0 0)), (1, .int x), (2, .int y), (3, .ref (ad 6 (h * 4 + k))), (5, .int g), (6, .int (nI j))]) hx hb dX4_lacking_52 hl (k := 5) rfl rfl (by decide) rfl (fun ls hl => ?_)
            refine lv_iload hx hb dX4_lacking_55 (lv_at hl 6 rfl) ?_
            refine lv_aload hx hb dX4_lacking_57 (lv_at hl 1 rfl) ?_
            refine rh_get (ci := 1) (C := RX1) (T := TX1) (N := 5) (v := .int (v 8 j 4)) hx hb hts (fun _ h => List.mem_cons_of_mem _ (List.mem_append_left _ (List.mem_append_left _ (List.mem_append_left _ (List.mem_append_right _ (h)))))) hown hE (hW.at 8 j hjl) rfl 4 (by decide) (hts (.fieldLink RX4 114 "RoamingHouse$CallFile" "number" "I") (by decide +kernel)) rfl dX4_lacking_59 ?_
            refine va_mmax hx hb (hml.trans hl.1.symm) hown (hts (.methodLink RX4 121 Lib.Math.max.name) (by decide +kernel)) (hts (.static Lib.Math.max.name) (by decide +kernel)) (hts (.initialized "java/lang/Math") (by decide +kernel)) (hts (.code Lib.Math.max.name Lib.Math.max.code 2 (some .int)) (by decide +kernel)) (by decide) (Nat.le_of_ble_eq_true rfl) (by decide) (by decide) dX4_lacking_62 ?_
            refine lv_istore (lv' := [(5, .int (if g < v 8 j 4 then v 8 j 4 else g)), (4, .int (w + 1)), (7, .ref (ad 8 j)), (0, .ref (ad 0 0)), (1, .int x), (2, .int y), (3, .ref (ad 6 (h * 4 + k))), (6, .int (nI j))]) hx hb dX4_lacking_65 hl (by decide) rfl (fun ls hl => ?_)
            refine lv_iinc (v := nI (j + 1)) (lv' := [(6, .int (nI (j + 1))), (5, .int (if g < v 8 j 4 then v 8 j 4 else g)), (4, .int (w + 1)), (7, .ref (ad 8 j)), (0, .ref (ad 0 0)), (1, .int x), (2, .int y), (3, .ref (ad 6 (h * 4 + k)))]) hx hb dX4_lacking_67 hl (k := 7) rfl (nI_1 j) (by decide) rfl (fun ls hl => ?_)
            refine lv_goto (tgt := 16) hx hb dX4_lacking_70 (by decide) ?_
            exact ih (j + 1) (w + 1) (if g < v 8 j 4 then v 8 j 4 else g) _ _ _ (by omega) (by omega) (by rw [hw]; exact (if_pos ⟨hpq, c6⟩).symm) (by rw [hg]; exact (if_pos ⟨hpq, c6⟩).symm) hW hS (lv_sub hl [4, 5, 6, 7, 2, 1, 0] rfl)
  exact loop16 (nf + 1) 0 0 0 _ _ _ (by omega) (by omega) rfl rfl hW hS (lv_sub hl [4, 5, 6, 3, 2, 1, 0] rfl)
set_option maxHeartbeats 4000000 in
set_option maxRecDepth 100000 in
/-- a number of the house -/
theorem ct_X4_calls (l : Launch) {G : va_G} {ca : Nat → ClassId} {A : Nat → Prop} {ad : Nat → Nat → Nat} {nf nc : Nat} {r : rh_R} {v : rh_V} (hD : rh_D A ad (fun k i => i < rh_n nf nc k))  : rh_M l yX4_calls wsX4_calls ({ frames := 0, cells := 0, slots := 0, locals := 0 } : Room) G ca A [.ref (ad 0 0)] (rh_W G ca ad nf nc r v) (fun o H => o = some (.int (v 0 0 5)) ∧ rh_W G ca ad nf nc r v H) rh_no 0 0 := by
  refine rh_enter (cc := cX4_calls) (maxL := 1) (ret := (some .int)) (by decide) rfl (Nat.le_of_ble_eq_true rfl) ?_
  intro p e s m below meth c ls hx hb hr hml hown hts hlocks hex hin hE hA hW hl
  have hS : va_S A s.heap s.heap [] := va_S.rf
  have hl : lv_has ls 1 [(0, .ref (ad 0 0))] := hl
  refine lv_aload_n hx hb dX4_calls_0 rfl (lv_at hl 0 rfl) ?_
  refine rh_get (ci := 4) (C := RX4) (T := TX4) (N := 7) (v := .int (v 0 0 5)) hx hb hts (fun _ h => List.mem_cons_of_mem _ (List.mem_append_right _ (h))) hown hE (hW.at 0 0 Nat.zero_lt_one) rfl 5 (by decide) (hts (.fieldLink RX4 37 "RoamingHouse" "callCount" "I") (by decide +kernel)) rfl dX4_calls_1 ?_
  exact rh_iret hx hb hr hlocks ⟨rfl, hW⟩ hS (by decide) (by decide) dX4_calls_4
set_option maxHeartbeats 4000000 in
set_option maxRecDepth 100000 in
/-- a number of the house -/
theorem ct_X4_month (l : Launch) {G : va_G} {ca : Nat → ClassId} {A : Nat → Prop} {ad : Nat → Nat → Nat} {nf nc : Nat} {r : rh_R} {v : rh_V} (hD : rh_D A ad (fun k i => i < rh_n nf nc k))  : rh_M l yX4_month wsX4_month ({ frames := 0, cells := 0, slots := 0, locals := 0 } : Room) G ca A [.ref (ad 0 0)] (rh_W G ca ad nf nc r v) (fun o H => o = some (.int (v 0 0 6)) ∧ rh_W G ca ad nf nc r v H) rh_no 0 0 := by
  refine rh_enter (cc := cX4_month) (maxL := 1) (ret := (some .int)) (by decide) rfl (Nat.le_of_ble_eq_true rfl) ?_
  intro p e s m below meth c ls hx hb hr hml hown hts hlocks hex hin hE hA hW hl
  have hS : va_S A s.heap s.heap [] := va_S.rf
  have hl : lv_has ls 1 [(0, .ref (ad 0 0))] := hl
  refine lv_aload_n hx hb dX4_month_0 rfl (lv_at hl 0 rfl) ?_
  refine rh_get (ci := 4) (C := RX4) (T := TX4) (N := 7) (v := .int (v 0 0 6)) hx hb hts (fun _ h => List.mem_cons_of_mem _ (List.mem_append_right _ (h))) hown hE (hW.at 0 0 Nat.zero_lt_one) rfl 6 (by decide) (hts (.fieldLink RX4 40 "RoamingHouse" "now" "I") (by decide +kernel)) rfl dX4_month_1 ?_
  exact rh_iret hx hb hr hlocks ⟨rfl, hW⟩ hS (by decide) (by decide) dX4_month_4
set_option maxHeartbeats 4000000 in
set_option maxRecDepth 100000 in
/-- a call, told -/
theorem ct_X4_call (l : Launch) (hlf : l.stackTraces = false) {G : va_G} {ca : Nat → ClassId} {A : Nat → Prop} {ad : Nat → Nat → Nat} {nf nc : Nat} {r : rh_R} {v : rh_V} (hD : rh_D A ad (fun k i => i < rh_n nf nc k)) (hwf : rh_wf nf nc r v) (x : Int32) : rh_M l yX4_call wsX4_call ({ frames := 8, cells := 5, slots := 40, locals := 240 } : Room) G ca A [.ref (ad 0 0), .int x] (rh_W G ca ad nf nc r v) (fun o H => (∃ i : Nat, i < nc ∧ x = nI i ∧ o = some (.int (v 9 i 3)) ∧ rh_W G ca ad nf nc r v H)) (fun E H => (E = exn 1 ∧ ¬ ix x nc) ∧ rh_W G ca ad nf nc r v H) 5 40 := by
  obtain ⟨hnf, hnc, hr8, hr9, hfc, hcc, hst, ⟨tt, htt, hnow⟩, hai⟩ := id hwf
  refine rh_enter (cc := cX4_call) (maxL := 2) (ret := (some .int)) (by decide) rfl (Nat.le_of_ble_eq_true rfl) ?_
  intro p e s m below meth c ls hx hb hr hml hown hts hlocks hex hin hE hA hW hl
  have hS : va_S A s.heap s.heap [] := va_S.rf
  have hl : lv_has ls 2 [(0, .ref (ad 0 0)), (1, .int x)] := hl
  refine lv_aload_n hx hb dX4_call_0 rfl (lv_at hl 0 rfl) ?_
  refine lv_iload_n hx hb dX4_call_1 rfl (lv_at hl 1 rfl) ?_
  refine rh_call (vx_runV (As := [.int x]) (rest := []) ⟨hx, hb, hml, hown, hts⟩ (ct_X4_callAt l hlf hD hwf x) (cwV 1 hts gX4_call_X4_callAt rfl rfl rfl (by decide +kernel) ⟨by decide, by decide⟩) (rh_preV hE hS hA (hW.at 0 0 Nat.zero_lt_one) rfl hW) rfl rfl hl.1 rfl (lv_room (Nat.le_of_ble_eq_true rfl)) dX4_call_2 ⟨by decide, by decide⟩) hS (fun E ce q9 H locs hX2 hS g1 g2 g3 => rh_out hex hlocks g1 g2 g3 ⟨hX2.1, hX2.2⟩ hS (by decide) (by decide)) (fun o H locs hN1 hS => ?_)
  obtain ⟨⟨i, hi, he, rfl⟩, hW⟩ := hN1
  refine W.eq (g2 := F0 m 5 ls [.ref (ad 9 i)]) rfl ?_
  refine rh_get (ci := 0) (C := RX0) (T := TX0) (N := 7) (v := .int (v 9 i 3)) hx hb hts (fun _ h => List.mem_cons_of_mem _ (List.mem_append_left _ (List.mem_append_left _ (List.mem_append_right _ (h))))) hown hE (hW.at 9 i hi) rfl 3 (by decide) (hts (.fieldLink RX4 131 "RoamingHouse$Call" "state" "I") (by decide +kernel)) rfl dX4_call_5 ?_
  exact rh_iret hx hb hr hlocks ⟨i, hi, he, rfl, hW⟩ hS (by decide) (by decide) dX4_call_8
set_option maxHeartbeats 4000000 in
set_option maxRecDepth 100000 in
/-- a call, told -/
theorem ct_X4_monthOf (l : Launch) (hlf : l.stackTraces = false) {G : va_G} {ca : Nat → ClassId} {A : Nat → Prop} {ad : Nat → Nat → Nat} {nf nc : Nat} {r : rh_R} {v : rh_V} (hD : rh_D A ad (fun k i => i < rh_n nf nc k)) (hwf : rh_wf nf nc r v) (x : Int32) : rh_M l yX4_monthOf wsX4_monthOf ({ frames := 8, cells := 5, slots := 40, locals := 240 } : Room) G ca A [.ref (ad 0 0), .int x] (rh_W G ca ad nf nc r v) (fun o H => (∃ i : Nat, i < nc ∧ x = nI i ∧ o = some (.int (v 9 i 4)) ∧ rh_W G ca ad nf nc r v H)) (fun E H => (E = exn 1 ∧ ¬ ix x nc) ∧ rh_W G ca ad nf nc r v H) 5 40 := by
  obtain ⟨hnf, hnc, hr8, hr9, hfc, hcc, hst, ⟨tt, htt, hnow⟩, hai⟩ := id hwf
  refine rh_enter (cc := cX4_monthOf) (maxL := 2) (ret := (some .int)) (by decide) rfl (Nat.le_of_ble_eq_true rfl) ?_
  intro p e s m below meth c ls hx hb hr hml hown hts hlocks hex hin hE hA hW hl
  have hS : va_S A s.heap s.heap [] := va_S.rf
  have hl : lv_has ls 2 [(0, .ref (ad 0 0)), (1, .int x)] := hl
  refine lv_aload_n hx hb dX4_monthOf_0 rfl (lv_at hl 0 rfl) ?_
  refine lv_iload_n hx hb dX4_monthOf_1 rfl (lv_at hl 1 rfl) ?_
  refine rh_call (vx_runV (As := [.int x]) (rest := []) ⟨hx, hb, hml, hown, hts⟩ (ct_X4_callAt l hlf hD hwf x) (cwV 1 hts gX4_monthOf_X4_callAt rfl rfl rfl (by decide +kernel) ⟨by decide, by decide⟩) (rh_preV hE hS hA (hW.at 0 0 Nat.zero_lt_one) rfl hW) rfl rfl hl.1 rfl (lv_room (Nat.le_of_ble_eq_true rfl)) dX4_monthOf_2 ⟨by decide, by decide⟩) hS (fun E ce q9 H locs hX2 hS g1 g2 g3 => rh_out hex hlocks g1 g2 g3 ⟨hX2.1, hX2.2⟩ hS (by decide) (by decide)) (fun o H locs hN1 hS => ?_)
  obtain ⟨⟨i, hi, he, rfl⟩, hW⟩ := hN1
  refine W.eq (g2 := F0 m 5 ls [.ref (ad 9 i)]) rfl ?_
  refine rh_get (ci := 0) (C := RX0) (T := TX0) (N := 7) (v := .int (v 9 i 4)) hx hb hts (fun _ h => List.mem_cons_of_mem _ (List.mem_append_left _ (List.mem_append_left _ (List.mem_append_right _ (h))))) hown hE (hW.at 9 i hi) rfl 4 (by decide) (hts (.fieldLink RX4 132 "RoamingHouse$Call" "acceptedIn" "I") (by decide +kernel)) rfl dX4_monthOf_5 ?_
  exact rh_iret hx hb hr hlocks ⟨i, hi, he, rfl, hW⟩ hS (by decide) (by decide) dX4_monthOf_8
set_option maxHeartbeats 4000000 in
set_option maxRecDepth 100000 in
/-- what is owed for a call -/
theorem ct_X4_owedFor (l : Launch) (hlf : l.stackTraces = false) {G : va_G} {ca : Nat → ClassId} {A : Nat → Prop} {ad : Nat → Nat → Nat} {nf nc : Nat} {r : rh_R} {v : rh_V} (hD : rh_D A ad (fun k i => i < rh_n nf nc k)) (hwf : rh_wf nf nc r v) (x : Int32) : rh_M l yX4_owedFor wsX4_owedFor ({ frames := 8, cells := 5, slots := 40, locals := 240 } : Room) G ca A [.ref (ad 0 0), .int x] (rh_W G ca ad nf nc r v) (fun o H => (∃ i : Nat, i < nc ∧ x = nI i ∧ o = some (.int (c_amt r v i)) ∧ rh_W G ca ad nf nc r v H)) (fun E H => (E = exn 1 ∧ ¬ ix x nc) ∧ rh_W G ca ad nf nc r v H) 5 40 := by
  obtain ⟨hnf, hnc, hr8, hr9, hfc, hcc, hst, ⟨tt, htt, hnow⟩, hai⟩ := id hwf
  refine rh_enter (cc := cX4_owedFor) (maxL := 2) (ret := (some .int)) (by decide) rfl (Nat.le_of_ble_eq_true rfl) ?_
  intro p e s m below meth c ls hx hb hr hml hown hts hlocks hex hin hE hA hW hl
  have hS : va_S A s.heap s.heap [] := va_S.rf
  have hl : lv_has ls 2 [(0, .ref (ad 0 0)), (1, .int x)] := hl
  refine lv_aload_n hx hb dX4_owedFor_0 rfl (lv_at hl 0 rfl) ?_
  refine lv_iload_n hx hb dX4_owedFor_1 rfl (lv_at hl 1 rfl) ?_
  refine rh_call (vx_runV (As := [.int x]) (rest := []) ⟨hx, hb, hml, hown, hts⟩ (ct_X4_callAt l hlf hD hwf x) (cwV 1 hts gX4_owedFor_X4_callAt rfl rfl rfl (by decide +kernel) ⟨by decide, by decide⟩) (rh_preV hE hS hA (hW.at 0 0 Nat.zero_lt_one) rfl hW) rfl rfl hl.1 rfl (lv_room (Nat.le_of_ble_eq_true rfl)) dX4_owedFor_2 ⟨by decide, by decide⟩) hS (fun E ce q9 H locs hX2 hS g1 g2 g3 => rh_out hex hlocks g1 g2 g3 ⟨hX2.1, hX2.2⟩ hS (by decide) (by decide)) (fun o H locs hN1 hS => ?_)
  obtain ⟨⟨i, hi, he, rfl⟩, hW⟩ := hN1
  refine W.eq (g2 := F0 m 5 ls [.ref (ad 9 i)]) rfl ?_
  refine rh_calln (vx_runV (As := []) (rest := []) ⟨hx, hb, hml, hown, hts⟩ (ct_X0_amount l hD hwf i hi) (cwV 0 hts gX4_owedFor_X0_amount rfl rfl rfl (by decide +kernel) ⟨by decide, by decide⟩) (rh_preV hE hS hA (hW.at 9 i hi) rfl hW) rfl rfl hl.1 rfl (lv_room (Nat.le_of_ble_eq_true rfl)) dX4_owedFor_5 ⟨by decide, by decide⟩) hS (fun o H locs hN3 hS => ?_)
  obtain ⟨rfl, hW⟩ := hN3
  refine W.eq (g2 := F0 m 8 ls [.int (c_amt r v i)]) rfl ?_
  exact rh_iret hx hb hr hlocks ⟨i, hi, he, rfl, hW⟩ hS (by decide) (by decide) dX4_owedFor_8
end
