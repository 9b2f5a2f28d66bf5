/-! ===== the frame of this proof: a world by kinds and places; contracts over the whole world ===== -/
section RHA
/-! cells by kind and place; addresses by kind and place -/
def rh_P (G : va_G) (ad : Nat → Nat → Nat) (ce : Nat → Nat → Option va_E) (H : Heap) : Prop := ∀ (k i : Nat) (e : va_E), ce k i = some e → va_at G vwCl (ad k i, e) H
/-- apart, and of a kind -/
def rh_D (A : Nat → Prop) (ad : Nat → Nat → Nat) (ok : Nat → Nat → Prop) : Prop := (∀ k i k' i' : Nat, ok k i → ok k' i' → ad k i = ad k' i' → k = k' ∧ i = i') ∧ ∀ k i : Nat, ok k i → A (ad k i)
def rh_up (ce : Nat → Nat → Option va_E) (k i : Nat) (e : va_E) : Nat → Nat → Option va_E := fun a b => if a = k ∧ b = i then some e else ce a b
theorem rh_P.set {G : va_G} {ad : Nat → Nat → Nat} {ce : Nat → Nat → Option va_E} {A : Nat → Prop} {H H1 : Heap} (h : rh_P G ad ce H) {ok : Nat → Nat → Prop} (hok : ∀ k i e, ce k i = some e → ok k i) (hD : rh_D A ad ok) {k i : Nat} (hki : ok k i) {e : va_E} (he : va_at G vwCl (ad k i, e) H1) (oq : ∀ q : Nat, q ≠ ad k i → H1[q]? = H[q]?) : rh_P G ad (rh_up ce k i e) H1 := by
  intro a b e' h'
  by_cases hab : a = k ∧ b = i
  · obtain ⟨rfl, rfl⟩ := hab
    simp [rh_up] at h'
    rw [← h']
    exact he
  · simp [rh_up, hab] at h'
    exact (h a b e' h').kept (oq _ (fun z => hab (hD.1 a b k i (hok a b e' h') hki z)))
theorem rh_P.kept {G : va_G} {ad : Nat → Nat → Nat} {ce : Nat → Nat → Option va_E} {H H1 : Heap} (h : rh_P G ad ce H) (hq : ∀ k i e, ce k i = some e → H1[ad k i]? = H[ad k i]?) : rh_P G ad ce H1 := fun k i e he => (h k i e he).kept (hq k i e he)
theorem rh_P.to {G : va_G} {ad : Nat → Nat → Nat} {ce ce' : Nat → Nat → Option va_E} {H : Heap} (h : rh_P G ad ce H) (hc : ∀ k i e, ce' k i = some e → ce k i = some e) : rh_P G ad ce' H := fun k i e he => h k i e (hc k i e he)
theorem rh_one {G : va_G} {a : Nat} {e : va_E} {H : Heap} (h : va_at G vwCl (a, e) H) : va_P G vwCl [(a, e)] H := by
  intro k q hk
  have hz : k < 1 := (List.getElem?_eq_some_iff.mp hk).1
  rw [show k = 0 by omega] at hk
  cases hk
  exact h
/-! what the house throws -/
def rh_e1 : String := "java/lang/IndexOutOfBoundsException"
def rh_e2 : String := "java/lang/IllegalArgumentException"
def rh_e3 : String := "java/lang/IllegalStateException"
def rh_ex : List String := ["java/lang/IndexOutOfBoundsException", "java/lang/IllegalArgumentException", "java/lang/IllegalStateException"]
def rh_sup : List String := ["java/lang/RuntimeException", "java/lang/Exception", "java/lang/Throwable"]
def rh_own : List String := [RX2, RX3, RX1, RX0]
def rh_tx : List (Nat × String) := [(75, "there are 30 files"), (91, "the file is not a draft"), (93, "there are 60 calls"), (101, "the file is not a draft, or has no calls"), (139, "the call is not owed"), (141, "the call was accepted more than a month ago"), (146, "the call is not in dispute"), (167, "it is the last month"), (179, "the year is not over"), (190, "an argument is out of its range"), (199, "there is no such operator"), (202, "host and home are the same"), (204, "there is no such file"), (206, "there is no such call")]
/-- the array kinds: int, int, long, and the four of the house's own -/
def rh_ty (ca : Nat → ClassId) : List (ClassId × FieldType) := [(ca 0, .int), (ca 1, .int), (ca 2, .long), (ca 3, .object "RoamingHouse$Operator"), (ca 4, .object "RoamingHouse$Pair"), (ca 5, .object "RoamingHouse$CallFile"), (ca 6, .object "RoamingHouse$Call")]
/-- what a method knows of the machine at its start; cells of A may change -/
def rh_E (G : va_G) (ca : Nat → ClassId) (A : Nat → Prop) (U : State) : Prop :=
  va_K G vwCl (rh_ty ca) U ∧ vx_Zq Bundle.tN "UNASSIGNED_STACK" Bundle.steD A U U.heap ∧ vx_Zq Bundle.tN "SUPPRESSED_SENTINEL" Bundle.listD A U U.heap ∧
    (∀ E ∈ rh_ex, va_Nw (.castable E E) U) ∧ (∀ q ∈ rh_tx, ∃ a : Nat, vk_R RX4 q.1 q.2 a U) ∧ va_Nw (.methodLinkNest RX0 52 yX4_yearOf RX4) U ∧ va_Nw (.methodLinkNest RX4 43 yX2_init RX4) U ∧ (∀ Y ∈ rh_sup, va_Nw (.declares (Bundle.initS Y)) U) ∧ (∀ C ∈ rh_own, va_AO C U)
theorem rh_E.warm {G : va_G} {ca : Nat → ClassId} {A : Nat → Prop} {s U : State} {locs : List Loc} (h : rh_E G ca A s) (hS : va_S A s.heap U.heap locs) (hW : s.WarmedH U.vm) : rh_E G ca A U := by
  obtain ⟨h1, h2, h3, h4, h5, h6, h7, h8, h9⟩ := h
  refine ⟨va_K.moved hW.alike h1, ?_, ?_, fun E hE => va_Nw.warmC hW (h4 E hE), fun q hq => ?_, va_Nw.warmM hW h6, va_Nw.warmM hW h7, fun Y hY => va_Nw.warmD hW (h8 Y hY), fun C hC => va_AO.moved hW.alike (h9 C hC)⟩
  · exact vx_Zq.moved hW.alike (vx_Zq.kept h2 (fun a ha hn => hS.2.1 a ha hn))
  · exact vx_Zq.moved hW.alike (vx_Zq.kept h3 (fun a ha hn => hS.2.1 a ha hn))
  · obtain ⟨a, ha⟩ := h5 q hq
    exact ⟨a, vk_R.warm hW ha⟩
/-! contracts -/
def rh_Pc (G : va_G) (ca : Nat → ClassId) (A : Nat → Prop) (av : List Value) (Φ : Heap → Prop) : Array Value → State → Prop := va_Pc av (fun U => rh_E G ca A U ∧ (∀ q : Nat, U.heap.size ≤ q → A q) ∧ Φ U.heap)
def rh_Q (A : Nat → Prop) (N : Option Value → Heap → Prop) : Array Value → State → Outcome → State → Prop := fun _ st oc t => (∃ v : Option Value, oc = .returned v ∧ N v t.heap) ∧ va_F A st t
def rh_XC (A : Nat → Prop) (X : String → Heap → Prop) : String → State → State → Prop := fun E st t => X E t.heap ∧ va_F A st t
def rh_M (l : Launch) (y : MethodName) (ws : List Cond) (rm : Room) (G : va_G) (ca : Nat → ClassId) (A : Nat → Prop) (av : List Value) (Φ : Heap → Prop) (N : Option Value → Heap → Prop) (X : String → Heap → Prop) (mc ms : Nat) : Prop :=
  vx_Met l y ws rm (rh_Pc G ca A av Φ) (rh_Q A N) (rh_XC A X) mc ms A
/-- nothing is thrown -/
def rh_no : String → Heap → Prop := fun _ _ => False
theorem rh_blind {G : va_G} {ca : Nat → ClassId} {A : Nat → Prop} {av : List Value} {Φ : Heap → Prop} : FrameBlind (rh_Pc G ca A av Φ) := by
  intro a U g mk h
  obtain ⟨h1, ⟨e1, e2, e3, e4, e5, e6, e7, e8, e9⟩, h3, h4⟩ := h
  have hvm : (U.calling g mk a).vm = U.vm := rfl
  refine ⟨h1, ⟨va_K.moved (u := U) (U := U.calling g mk a) (Vm.Alike.refl U.vm) e1, vx_Zq.moved (u := U) (U := U.calling g mk a) (Vm.Alike.refl U.vm) e2, vx_Zq.moved (u := U) (U := U.calling g mk a) (Vm.Alike.refl U.vm) e3, fun E hE => va_Nw.same rfl hvm.symm (e4 E hE), fun q hq => ?_, va_Nw.same rfl hvm.symm e6, va_Nw.same rfl hvm.symm e7, fun Y hY => va_Nw.same rfl hvm.symm (e8 Y hY), fun C hC => va_AO.moved (u := U) (U := U.calling g mk a) (Vm.Alike.refl U.vm) (e9 C hC)⟩, h3, h4⟩
  obtain ⟨b, hb⟩ := e5 q hq
  exact ⟨b, vk_R.same hvm hb⟩
theorem rh_pre {G : va_G} {ca : Nat → ClassId} {A : Nat → Prop} {s : State} {H : Heap} {locs : List Loc} {av : List Value} {Φ : Heap → Prop} (hE : rh_E G ca A s) (hS : va_S A s.heap H locs) (hB : (∀ q : Nat, s.heap.size ≤ q → A q)) (hΦ : Φ H) : PreS s H (rh_Pc G ca A av Φ) av :=
  ⟨rh_blind, fun U hU hW => ⟨rfl, hE.warm (by rw [hU]; exact hS) hW, by rw [hU]; exact fun q hq => hB q (Nat.le_trans hS.1 hq), by rw [hU]; exact hΦ⟩⟩
theorem rh_preV {G : va_G} {ca : Nat → ClassId} {A : Nat → Prop} {s : State} {H : Heap} {locs : List Loc} {b : Nat} {As : List Value} {Φ : Heap → Prop} {ci : Nat} {fs : List Value} {r : vw_C} (hE : rh_E G ca A s) (hS : va_S A s.heap H locs) (hB : (∀ q : Nat, s.heap.size ≤ q → A q)) (hat : va_at G vwCl (b, .inr (ci, fs)) H) (hc : vwCl[ci]? = some r) (hΦ : Φ H) : PreV s H r.1 b (rh_Pc G ca A (.ref b :: As) Φ) As :=
  ⟨rh_blind, va_recv hE.1 (rh_one hat) hc (q0 := 0) rfl, (rh_pre hE hS hB hΦ).2⟩
end RHA
section RHB
variable {p : Program} {l : Launch} {e : Env} {R : Room} {s : State} {m : MethodId} {args : Array Value} {below : List Frame} {meth : Method} {c : Code} {H : Heap} {locs : List Loc} {cells slots : Nat} {Q : State → Prop}
variable {pc : Nat} {ls : Array Slot} {rest st0 : List Value} {a : Array Value} {H0 : Heap} {mc ms : Nat} {A : Nat → Prop} {N : Option Value → Heap → Prop} {X : String → Heap → Prop}
/-- a call of a method that may throw -/
theorem rh_call (hr : vx_Run p l e R s m args below meth c H locs cells slots mc ms (F0 m pc ls st0) rest (rh_Q A N a) (rh_XC A X) A) (hS : va_S A H0 H locs)
    (kx : ∀ (E : String) (ce : Cell) (q9 : Addr) (H1 : Heap) (locs1 : List Loc), X E H1 → va_S A H0 H1 locs1 → H1[q9]? = some ce → ce.vm = .none → s.vm.findClass E = some ce.cls → vx_W p l e R s m args below meth c H1 locs1 (cells + mc) (slots + ms) Q (F0 m pc ls rest) q9)
    (kk : ∀ (v : Option Value) (H1 : Heap) (locs1 : List Loc), N v H1 → va_S A H0 H1 locs1 → W p l e R s m args below meth c H1 locs1 (cells + mc) (slots + ms) Q (F0 m (pc + 3) ls (v.toList ++ rest))) : W p l e R s m args below meth c H locs cells slots Q (F0 m pc ls st0) := by
  intro T hT X'
  rcases hr T hT X' with ⟨v, st₀, t, T', L, h0, Y, hL, e1, e2, ⟨⟨v', hv, hn⟩, hF⟩, st⟩ | ⟨q, st₀, t, T', L, E, ce, h0, Y, hL, e1, e2, ⟨hn, hF⟩, hce, hcv, hcl, st⟩
  · cases hv
    obtain ⟨k1, k2, k3⟩ := vx_keep h0 e1 hS (fun _ _ h => h) (fun _ h => h) hL hF
    obtain ⟨t2, a1, b1⟩ := kk v T'.heap (locs ++ L) (by rw [e1]; exact hn) k3 T' rfl Y
    exact ⟨t2, st t2 a1, b1⟩
  · obtain ⟨k1, k2, k3⟩ := vx_keep h0 e1 hS (fun _ _ h => h) (fun _ h => h) hL hF
    obtain ⟨t2, a1, b1⟩ := kx E ce q T'.heap (locs ++ L) (by rw [e1]; exact hn) k3 (by rw [e1]; exact hce) hcv hcl T' rfl Y
    exact ⟨t2, st.trans a1, b1⟩
/-- .. that does not -/
theorem rh_calln (hr : vx_Run p l e R s m args below meth c H locs cells slots mc ms (F0 m pc ls st0) rest (rh_Q A N a) (rh_XC A rh_no) A) (hS : va_S A H0 H locs)
    (kk : ∀ (v : Option Value) (H1 : Heap) (locs1 : List Loc), N v H1 → va_S A H0 H1 locs1 → W p l e R s m args below meth c H1 locs1 (cells + mc) (slots + ms) Q (F0 m (pc + 3) ls (v.toList ++ rest))) : W p l e R s m args below meth c H locs cells slots Q (F0 m pc ls st0) :=
  rh_call hr hS (fun _ _ _ _ _ h => h.elim) kk
/-- .. by a contract that speaks of answers alone -/
theorem rh_callm (hr : va_Run p l e R s m args below meth c H locs cells slots mc ms (F0 m pc ls st0) rest (rh_Q A N a) A) (hS : va_S A H0 H locs)
    (kk : ∀ (v : Option Value) (H1 : Heap) (locs1 : List Loc), N v H1 → va_S A H0 H1 locs1 → W p l e R s m args below meth c H1 locs1 (cells + mc) (slots + ms) Q (F0 m (pc + 3) ls (v.toList ++ rest))) : W p l e R s m args below meth c H locs cells slots Q (F0 m pc ls st0) := by
  intro T hT X'
  obtain ⟨v, st₀, t, T', L, h0, Y, hL, e1, e2, ⟨⟨v', hv, hn⟩, hF⟩, st⟩ := hr T hT X'
  cases hv
  obtain ⟨k1, k2, k3⟩ := vx_keep h0 e1 hS (fun _ _ h => h) (fun _ h => h) hL hF
  obtain ⟨t2, a1, b1⟩ := kk v T'.heap (locs ++ L) (by rw [e1]; exact hn) k3 T' rfl Y
  exact ⟨t2, st t2 a1, b1⟩
/-! ends -/
theorem rh_iretm {cc : ByteArray} {v : Int32} (hexec : p.tables.exec = Jvm.exec) (hb : c.code = cc) (hr : meth.sig.returnType = some .int) (hlocks : meth.locks = false) (hN : N (some (.int v)) H) (hS : va_S A s.heap H locs) (h1 : cells ≤ mc) (h2 : slots ≤ ms) (hdg : decode cc pc = .ok (.ireturn, 1)) :
    W p l e R s m args below meth c H locs cells slots (MQ below (rh_Q A N) args s mc ms A) (F0 m pc ls [.int v]) :=
  W.widen h1 h2 (W.iret hexec hb hr (fun t ht _ => ⟨⟨_, rfl, by rw [ht]; exact hN⟩, hS.F ht⟩) hS.2.2 hdg)
theorem rh_vretm {cc : ByteArray} (hexec : p.tables.exec = Jvm.exec) (hb : c.code = cc) (hr : meth.sig.returnType = none) (hlocks : meth.locks = false) (hN : N none H) (hS : va_S A s.heap H locs) (h1 : cells ≤ mc) (h2 : slots ≤ ms) (hdg : decode cc pc = .ok (.return_, 1)) :
    W p l e R s m args below meth c H locs cells slots (MQ below (rh_Q A N) args s mc ms A) (F0 m pc ls []) :=
  W.widen h1 h2 (W.vret hexec hb hr (fun t ht _ => ⟨⟨_, rfl, by rw [ht]; exact hN⟩, hS.F ht⟩) hS.2.2 hdg)
theorem rh_iret {cc : ByteArray} {v : Int32} (hexec : p.tables.exec = Jvm.exec) (hb : c.code = cc) (hr : meth.sig.returnType = some .int) (hlocks : meth.locks = false) (hN : N (some (.int v)) H) (hS : va_S A s.heap H locs) (h1 : cells ≤ mc) (h2 : slots ≤ ms) (hdg : decode cc pc = .ok (.ireturn, 1)) :
    W p l e R s m args below meth c H locs cells slots (vx_MQ below (rh_Q A N) (rh_XC A X) args s mc ms A) (F0 m pc ls [.int v]) :=
  W.widen h1 h2 (vx_ret (W.iret hexec hb hr (fun t ht _ => ⟨⟨_, rfl, by rw [ht]; exact hN⟩, hS.F ht⟩) hS.2.2 hdg))
theorem rh_zret {cc : ByteArray} {v : Int32} {ty : FieldType} (hexec : p.tables.exec = Jvm.exec) (hb : c.code = cc) (hr : meth.sig.returnType = some ty) (hlocks : meth.locks = false) (hn : narrow ty (.int v) = .int v) (hN : N (some (.int v)) H) (hS : va_S A s.heap H locs) (h1 : cells ≤ mc) (h2 : slots ≤ ms) (hdg : decode cc pc = .ok (.ireturn, 1)) :
    W p l e R s m args below meth c H locs cells slots (vx_MQ below (rh_Q A N) (rh_XC A X) args s mc ms A) (F0 m pc ls [.int v]) :=
  W.widen h1 h2 (vx_ret (W.zret hexec hb hr hn (fun t ht _ => ⟨⟨_, rfl, by rw [ht]; exact hN⟩, hS.F ht⟩) hS.2.2 hdg))
theorem rh_lret {cc : ByteArray} {v : Int64} (hexec : p.tables.exec = Jvm.exec) (hb : c.code = cc) (hr : meth.sig.returnType = some .long) (hlocks : meth.locks = false) (hN : N (some (.long v)) H) (hS : va_S A s.heap H locs) (h1 : cells ≤ mc) (h2 : slots ≤ ms) (hdg : decode cc pc = .ok (.lreturn, 1)) :
    W p l e R s m args below meth c H locs cells slots (vx_MQ below (rh_Q A N) (rh_XC A X) args s mc ms A) (F0 m pc ls [.long v]) :=
  W.widen h1 h2 (vx_ret (W.lret hexec hb hr (fun t ht _ => ⟨⟨_, rfl, by rw [ht]; exact hN⟩, hS.F ht⟩) hS.2.2 hdg))
theorem rh_vret {cc : ByteArray} (hexec : p.tables.exec = Jvm.exec) (hb : c.code = cc) (hr : meth.sig.returnType = none) (hlocks : meth.locks = false) (hN : N none H) (hS : va_S A s.heap H locs) (h1 : cells ≤ mc) (h2 : slots ≤ ms) (hdg : decode cc pc = .ok (.return_, 1)) :
    W p l e R s m args below meth c H locs cells slots (vx_MQ below (rh_Q A N) (rh_XC A X) args s mc ms A) (F0 m pc ls []) :=
  W.widen h1 h2 (vx_ret (W.vret hexec hb hr (fun t ht _ => ⟨⟨_, rfl, by rw [ht]; exact hN⟩, hS.F ht⟩) hS.2.2 hdg))
theorem rh_aret {cc : ByteArray} {v : Value} {C : String} (hexec : p.tables.exec = Jvm.exec) (hb : c.code = cc) (hr : meth.sig.returnType = some (.object C)) (hlocks : meth.locks = false) (hv : v = .null ∨ ∃ a, v = .ref a) (hN : N (some v) H) (hS : va_S A s.heap H locs) (h1 : cells ≤ mc) (h2 : slots ≤ ms) (hdg : decode cc pc = .ok (.areturn, 1)) :
    W p l e R s m args below meth c H locs cells slots (vx_MQ below (rh_Q A N) (rh_XC A X) args s mc ms A) (F0 m pc ls [v]) :=
  W.widen h1 h2 (vx_ret (W.aret hexec hb hr (Or.inl ⟨C, rfl⟩) hv (fun t ht _ => ⟨⟨_, rfl, by rw [ht]; exact hN⟩, hS.F ht⟩) hS.2.2 hdg))
/-- what was thrown goes on to the caller -/
theorem rh_out {E : String} {ce : Cell} {q : Addr} (hex : ∀ x ∈ c.exceptionTable.toList, False) (hlocks : meth.locks = false) (hcell : H[q]? = some ce) (hv : ce.vm = .none) (hcl : s.vm.findClass E = some ce.cls) (hX : X E H) (hS : va_S A s.heap H locs) (h1 : cells ≤ mc) (h2 : slots ≤ ms) :
    vx_W p l e R s m args below meth c H locs cells slots (vx_MQ below (rh_Q A N) (rh_XC A X) args s mc ms A) (F0 m pc ls rest) q :=
  vx_out (fun x hx => (hex x hx).elim) hlocks hcell hv hcl (fun t ht _ => ⟨by rw [ht]; exact hX, hS.F ht⟩) hS.2.2 h1 h2
end RHB
/-- a method's start -/
theorem rh_enter {l : Launch} {y : MethodName} {ws ws' : List Cond} {rm : Room} {G : va_G} {ca : Nat → ClassId} {A : Nat → Prop} {av : List Value} {Φ : Heap → Prop} {N : Option Value → Heap → Prop} {X : String → Heap → Prop} {mc ms : Nat} {cc : ByteArray} {maxL : Nat} {ret : Option FieldType}
    (hy : plainName y.cls = true) (hw : ws = Cond.code y cc maxL ret :: ws') (hlen : (lg_sl av).length ≤ maxL)
    (body : ∀ (p : Program) (e : Env) (s : State) (m : MethodId) (below : List Frame) (meth : Method) (c : Code) (ls : Array Slot), p.tables.exec = Jvm.exec → c.code = cc → meth.sig.returnType = ret → c.maxLocals = maxL → s.vm.findClass y.cls = some m.cls → (∀ w ∈ ws, w.before av.toArray s = true) → meth.locks = false → (∀ x ∈ c.exceptionTable.toList, False) → meth.name = y.name →
      rh_E G ca A s → (∀ q : Nat, s.heap.size ≤ q → A q) → Φ s.heap → lv_has ls maxL (lv_args 0 av) →
      W p l e rm s m av.toArray below meth c s.heap [] 0 0 (vx_MQ below (rh_Q A N) (rh_XC A X) av.toArray s mc ms A) (F0 m 0 ls [])) : rh_M l y ws rm G ca A av Φ N X mc ms := by
  refine vx_ofW hy hw ?_
  intro p e s m args below meth c s₁ Bd hml hex hv
  obtain ⟨rfl, hE, hB, hΦ⟩ := hv
  rw [lg_entry_eq]
  exact body p e s m below meth c _ Bd.exec Bd.bytes Bd.returns hml (findClass_of_methodNamed Bd.named) (atoms_spec (ws := ws) Bd.pre) Bd.notSynchronized hex (name_of_methodNamed Bd.named Bd.method).1 hE hB hΦ (lv_entry av hlen)
/-- .. of a contract that speaks of answers alone -/
theorem rh_enterm {l : Launch} {y : MethodName} {ws ws' : List Cond} {rm : Room} {G : va_G} {ca : Nat → ClassId} {A : Nat → Prop} {av : List Value} {Φ : Heap → Prop} {N : Option Value → Heap → Prop} {mc ms : Nat} {cc : ByteArray} {maxL : Nat} {ret : Option FieldType}
    (hy : plainName y.cls = true) (hw : ws = Cond.code y cc maxL ret :: ws') (hlen : (lg_sl av).length ≤ maxL)
    (body : ∀ (p : Program) (e : Env) (s : State) (m : MethodId) (below : List Frame) (meth : Method) (c : Code) (ls : Array Slot), p.tables.exec = Jvm.exec → c.code = cc → meth.sig.returnType = ret → c.maxLocals = maxL → s.vm.findClass y.cls = some m.cls → (∀ w ∈ ws, w.before av.toArray s = true) → meth.locks = false → meth.name = y.name →
      rh_E G ca A s → (∀ q : Nat, s.heap.size ≤ q → A q) → Φ s.heap → lv_has ls maxL (lv_args 0 av) →
      W p l e rm s m av.toArray below meth c s.heap [] 0 0 (MQ below (rh_Q A N) av.toArray s mc ms A) (F0 m 0 ls [])) : Met l y ws rm (rh_Pc G ca A av Φ) (rh_Q A N) mc ms A := by
  refine Met.ofW hy hw ?_
  intro p e s m args below meth c s₁ Bd hml hv
  obtain ⟨rfl, hE, hB, hΦ⟩ := hv
  rw [lg_entry_eq]
  exact body p e s m below meth c _ Bd.exec Bd.bytes Bd.returns hml (findClass_of_methodNamed Bd.named) (atoms_spec (ws := ws) Bd.pre) Bd.notSynchronized (name_of_methodNamed Bd.named Bd.method).1 hE hB hΦ (lv_entry av hlen)
