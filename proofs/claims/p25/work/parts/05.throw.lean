/-! ===== the three throws of the house ===== -/
abbrev rh_nx : List String := ["java/lang/RuntimeException", "java/lang/Exception"]
/-- the words of a throw that are not in the methods' lists -/
def rh_ng (E : String) : List Cond := [Cond.castable E E, Cond.declares (Bundle.initS "java/lang/RuntimeException"), Cond.declares (Bundle.initS "java/lang/Exception"), Cond.declares (Bundle.initS "java/lang/Throwable")]
theorem rh_nxfit : ∀ n ∈ rh_nx, Bundle.fit n = true := by decide +kernel
set_option maxRecDepth 20000 in
theorem rh_t1b : ∀ w ∈ (vx_atS RX4 201 "java/lang/IndexOutOfBoundsException" ["java/lang/RuntimeException", "java/lang/Exception"]).filter (fun w => !goodWord w), w ∈ rh_ng "java/lang/IndexOutOfBoundsException" := by decide +kernel
set_option maxRecDepth 20000 in
theorem rh_t2b : ∀ w ∈ (vx_atS RX4 192 "java/lang/IllegalArgumentException" ["java/lang/RuntimeException", "java/lang/Exception"]).filter (fun w => !goodWord w), w ∈ rh_ng "java/lang/IllegalArgumentException" := by decide +kernel
set_option maxRecDepth 20000 in
theorem rh_t3b : ∀ w ∈ (vx_atS RX4 77 "java/lang/IllegalStateException" ["java/lang/RuntimeException", "java/lang/Exception"]).filter (fun w => !goodWord w), w ∈ rh_ng "java/lang/IllegalStateException" := by decide +kernel
set_option maxRecDepth 20000 in
theorem rh_t1g : ∀ w ∈ Cond.classLink RX4 197 "java/lang/IndexOutOfBoundsException" :: Cond.initialized "java/lang/IndexOutOfBoundsException" :: vx_atS RX4 201 "java/lang/IndexOutOfBoundsException" ["java/lang/RuntimeException", "java/lang/Exception"], vx_ot w = true := by decide +kernel
set_option maxRecDepth 20000 in
theorem rh_t2g : ∀ w ∈ Cond.classLink RX4 188 "java/lang/IllegalArgumentException" :: Cond.initialized "java/lang/IllegalArgumentException" :: vx_atS RX4 192 "java/lang/IllegalArgumentException" ["java/lang/RuntimeException", "java/lang/Exception"], vx_ot w = true := by decide +kernel
set_option maxRecDepth 20000 in
theorem rh_t3g : ∀ w ∈ Cond.classLink RX4 73 "java/lang/IllegalStateException" :: Cond.initialized "java/lang/IllegalStateException" :: vx_atS RX4 77 "java/lang/IllegalStateException" ["java/lang/RuntimeException", "java/lang/Exception"], vx_ot w = true := by decide +kernel
section RHT
variable {p : Program} {l : Launch} {e : Env} {R : Room} {s : State} {m : MethodId} {args : Array Value} {below : List Frame} {meth : Method} {c : Code} {H : Heap} {locs : List Loc} {cells slots : Nat}
variable {cc : ByteArray} {pc : Nat} {ls : Array Slot} {rest : List Value} {G : va_G} {ca : Nat → ClassId} {A : Nat → Prop} {mc ms : Nat} {N : Option Value → Heap → Prop} {X : String → Heap → Prop}
theorem rh_throw (hexec : p.tables.exec = Jvm.exec) (hb : c.code = cc) (hl : l.stackTraces = false) (E text : String) (ik is ic : Nat) (hEx : E ∈ rh_ex) (hq : (is, text) ∈ rh_tx) (hcls : Bundle.fit E = true)
    (h2 : ∀ w ∈ (vx_atS RX4 ic E ["java/lang/RuntimeException", "java/lang/Exception"]).filter (fun w => !goodWord w), w ∈ rh_ng E)
    (hgood : ∀ w ∈ Cond.classLink RX4 ik E :: Cond.initialized E :: vx_atS RX4 ic E ["java/lang/RuntimeException", "java/lang/Exception"], vx_ot w = true)
    (hown : s.vm.findClass RX4 = some m.cls) (hk : (Cond.classLink RX4 ik E).before args s = true) (hini : (Cond.initialized E).before args s = true)
    (h1 : ∀ w ∈ (vx_atS RX4 ic E ["java/lang/RuntimeException", "java/lang/Exception"]).filter goodWord, w.before args s = true)
    (hE : rh_E G ca A s) (hS : va_S A s.heap H locs) (hsize : ls.size = c.maxLocals)
    (d0 : decode cc pc = .ok (.new ik, 3)) (d3 : decode cc (pc + 3) = .ok (.dup, 1)) (d4 : decode cc (pc + 4) = .ok (.ldc is, 2)) (d6 : decode cc (pc + 6) = .ok (.invokespecial ic, 3)) (d9 : decode cc (pc + 9) = .ok (.athrow, 1))
    (hex : ∀ x ∈ c.exceptionTable.toList, False) (hlocks : meth.locks = false) (hRf : 5 < R.frames) (hRl : (rest.map fun v => v.category).sum + 82 ≤ R.locals) (hRc : cells + 1 ≤ R.cells) (hRs : slots + 6 ≤ R.slots)
    (hX : ∀ H1 : Heap, H.size ≤ H1.size → (∀ q : Nat, q < H.size → H1[q]? = H[q]?) → X E H1) (hc : cells + 1 ≤ mc) (hs : slots + 6 ≤ ms) :
    W p l e R s m args below meth c H locs cells slots (vx_MQ below (rh_Q A N) (rh_XC A X) args s mc ms A) (F0 m pc ls rest) := by
  obtain ⟨-, hU, hN, h4, h5, -, -, h8, -⟩ := hE
  obtain ⟨sa, hstr⟩ := h5 _ hq
  exact vx_throwS hexec hb hl (own := RX4) (cls := E) (text := text) (names := rh_nx) (A := A) hown hcls rh_nxfit hk hini hstr (vx_hat h1 h2 (vx_c (va_Nw.use rfl (h4 E hEx)) (vx_c (va_Nw.use rfl (h8 _ (by decide))) (vx_c (va_Nw.use rfl (h8 _ (by decide))) (vx_c (va_Nw.use rfl (h8 _ (by decide))) vx_n))))) hgood hU hN hS hsize d0 d3 d4 d6 d9
    (fun x hx => (hex x hx).elim) hRf hRl hRc hRs hlocks
    (fun t _ hz hk => ⟨hX t.heap hz hk, Nat.le_trans hS.1 hz, fun q hq hA => (hk q (Nat.lt_of_lt_of_le hq hS.1)).trans (hS.2.1 q hq hA)⟩) hS.2.2 hc hs
end RHT
theorem rh_W.grow {G : va_G} {ca : Nat → ClassId} {ad : Nat → Nat → Nat} {nf nc : Nat} {r : Nat → Nat → Nat} {v : Nat → Nat → Nat → Int32} {H H1 : Heap} (h : rh_W G ca ad nf nc r v H) (hk : ∀ q : Nat, q < H.size → H1[q]? = H[q]?) : rh_W G ca ad nf nc r v H1 :=
  rh_P.kept h (fun k i e he => hk _ (h k i e he).lt)
