/-! ===== the law's helpers ===== -/
def rh_nc : List (String × String) := [(exn 2, exn 1), (exn 3, exn 1), (exn 3, exn 2)]
def rh_Pl (G : va_G) (ca : Nat → ClassId) (A : Nat → Prop) (av : List Value) (Φ : Heap → Prop) : Array Value → State → Prop := va_Pc av (fun U => rh_E G ca A U ∧ (∀ x ∈ rh_nc, va_Nc x.1 x.2 U) ∧ (∀ q : Nat, U.heap.size ≤ q → A q) ∧ Φ U.heap)
theorem rh_blindl {G : va_G} {ca : Nat → ClassId} {A : Nat → Prop} {av : List Value} {Φ : Heap → Prop} : FrameBlind (rh_Pl G ca A av Φ) := by
  intro a U g mk h
  obtain ⟨h1, h2, hn, h3, h4⟩ := h
  obtain ⟨-, h2', -, -⟩ := rh_blind (G := G) (ca := ca) (A := A) (av := av) (Φ := fun _ => True) a U g mk ⟨h1, h2, h3, trivial⟩
  exact ⟨h1, h2', fun x hx => va_Nc.moved (u := U) (U := U.calling g mk a) (Vm.Alike.refl U.vm) (hn x hx), h3, h4⟩
theorem rh_prel {G : va_G} {ca : Nat → ClassId} {A A1 : Nat → Prop} {s : State} {H : Heap} {locs : List Loc} {av : List Value} {Φ : Heap → Prop} (hE : rh_E G ca A s) (hn : ∀ x ∈ rh_nc, va_Nc x.1 x.2 s) (hS : va_S A s.heap H locs) (hA : ∀ q, A1 q → A q) (hB : ∀ q : Nat, H.size ≤ q → A1 q) (hΦ : Φ H) : PreS s H (rh_Pl G ca A1 av Φ) av :=
  ⟨rh_blindl, fun U hU hW => ⟨rfl, (hE.warm (by rw [hU]; exact hS) hW).narrow hA, fun x hx => va_Nc.moved hW.alike (hn x hx), by rw [hU]; exact hB, by rw [hU]; exact hΦ⟩⟩
theorem rh_preV2 {G : va_G} {ca : Nat → ClassId} {A A1 : Nat → Prop} {s : State} {H : Heap} {locs : List Loc} {b : Nat} {As : List Value} {Φ : Heap → Prop} {ci : Nat} {fs : List Value} {r : vw_C} (hE : rh_E G ca A s) (hS : va_S A s.heap H locs) (hA : ∀ q, A1 q → A q) (hB : ∀ q : Nat, H.size ≤ q → A1 q) (hat : va_at G vwCl (b, .inr (ci, fs)) H) (hc : vwCl[ci]? = some r) (hΦ : Φ H) : PreV s H r.1 b (rh_Pc G ca A1 (.ref b :: As) Φ) As :=
  ⟨rh_blind, va_recv hE.1 (rh_one hat) hc (q0 := 0) rfl, (rh_pre2 hE hS hA hB hΦ).2⟩
/-- a helper's start -/
theorem rh_enterl {l : Launch} {y : MethodName} {ws ws' : List Cond} {rm : Room} {G : va_G} {ca : Nat → ClassId} {A : Nat → Prop} {av : List Value} {Φ : Heap → Prop} {N : Option Value → Heap → Prop} {X : String → Heap → Prop} {mc ms : Nat} {cc : ByteArray} {maxL : Nat} {ret : Option FieldType} {hh : List (Nat × Nat × Nat × Nat)}
    (hy : plainName y.cls = true) (hw : ws = Cond.codeWith y cc maxL ret hh :: ws') (hlen : (lg_sl av).length ≤ maxL)
    (body : ∀ (p : Program) (e : Env) (s : State) (m : MethodId) (below : List Frame) (meth : Method) (c : Code) (ls : Array Slot), p.tables.exec = Jvm.exec → c.code = cc → meth.sig.returnType = ret → c.maxLocals = maxL → s.vm.findClass y.cls = some m.cls → (∀ w ∈ ws, w.before av.toArray s = true) → meth.locks = false → c.exceptionTable.toList = tableOf hh → meth.name = y.name →
      rh_E G ca A s → (∀ x ∈ rh_nc, va_Nc x.1 x.2 s) → (∀ q : Nat, s.heap.size ≤ q → A q) → Φ s.heap → lv_has ls maxL (lv_args 0 av) →
      W p l e rm s m av.toArray below meth c s.heap [] 0 0 (vx_MQ below (rh_Q A N) (rh_XC A X) av.toArray s mc ms A) (F0 m 0 ls [])) : vx_Met l y ws rm (rh_Pl G ca A av Φ) (rh_Q A N) (rh_XC A X) mc ms A := by
  refine vx_ofWH hy hw ?_
  intro p e s m args below meth c s₁ Bd hml hv
  obtain ⟨rfl, hE, hn, hB, hΦ⟩ := hv
  rw [lg_entry_eq]
  have hts := atoms_spec (ws := ws) Bd.pre
  exact body p e s m below meth c _ Bd.exec Bd.bytes Bd.returns hml (findClass_of_methodNamed Bd.named) hts Bd.notSynchronized (vx_table (x := y) Bd (hts _ (by rw [hw]; exact List.mem_cons_self))) (name_of_methodNamed Bd.named Bd.method).1 hE hn hB hΦ (lv_entry av hlen)
section RHL
variable {p : Program} {l : Launch} {e : Env} {R : Room} {s : State} {m : MethodId} {args : Array Value} {below : List Frame} {meth : Method} {c : Code} {H : Heap} {locs : List Loc} {cells slots : Nat} {Q : State → Prop}
variable {pc : Nat} {ls : Array Slot} {rest st0 : List Value} {a : Array Value} {H0 : Heap} {mc ms : Nat} {A A1 : Nat → Prop} {N : Option Value → Heap → Prop} {X : String → Heap → Prop}
/-- a call that may throw and may change fewer cells -/
theorem rh_call2 (hr : vx_Run p l e R s m args below meth c H locs cells slots mc ms (F0 m pc ls st0) rest (rh_Q A1 N a) (rh_XC A1 X) A1) (hS : va_S A H0 H locs) (hA : ∀ q, A1 q → A q)
    (kx : ∀ (E : String) (ce : Cell) (q9 : Addr) (H1 : Heap) (locs1 : List Loc), X E H1 → H.size ≤ H1.size → (∀ q : Nat, q < H.size → ¬ A1 q → H1[q]? = H[q]?) → va_S A H0 H1 locs1 → H1[q9]? = some ce → ce.vm = .none → s.vm.findClass E = some ce.cls → vx_W p l e R s m args below meth c H1 locs1 (cells + mc) (slots + ms) Q (F0 m pc ls rest) q9)
    (kk : ∀ (v : Option Value) (H1 : Heap) (locs1 : List Loc), N v H1 → H.size ≤ H1.size → (∀ q : Nat, q < H.size → ¬ A1 q → H1[q]? = H[q]?) → va_S A H0 H1 locs1 → W p l e R s m args below meth c H1 locs1 (cells + mc) (slots + ms) Q (F0 m (pc + 3) ls (v.toList ++ rest))) : W p l e R s m args below meth c H locs cells slots Q (F0 m pc ls st0) := by
  intro T hT X'
  rcases hr T hT X' with ⟨v, st₀, t, T', L, h0, Y, hL, e1, e2, ⟨⟨v', hv, hn⟩, hF⟩, st⟩ | ⟨q, st₀, t, T', L, E, ce, h0, Y, hL, e1, e2, ⟨hn, hF⟩, hce, hcv, hcl, st⟩
  · cases hv
    obtain ⟨k1, k2, k3⟩ := vx_keep h0 e1 hS (fun q _ h => hA q h) hA hL hF
    obtain ⟨t2, a1, b1⟩ := kk v T'.heap (locs ++ L) (by rw [e1]; exact hn) k1 k2 k3 T' rfl Y
    exact ⟨t2, st t2 a1, b1⟩
  · obtain ⟨k1, k2, k3⟩ := vx_keep h0 e1 hS (fun q _ h => hA q h) hA hL hF
    obtain ⟨t2, a1, b1⟩ := kx E ce q T'.heap (locs ++ L) (by rw [e1]; exact hn) k1 k2 k3 (by rw [e1]; exact hce) hcv hcl T' rfl Y
    exact ⟨t2, st.trans a1, b1⟩
end RHL
