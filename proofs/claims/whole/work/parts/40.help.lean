/-! ===== the law's helpers ===== -/
def rh_nc : List (String × String) := [(exn 2, exn 1), (exn 3, exn 1), (exn 3, exn 2)]
def rh_A1 (A : Nat → Prop) (oa : Nat) (q : Nat) : Prop := A q ∧ q ≠ oa
/-- the law's one long -/
def rh_o (G : va_G) (ca : Nat → ClassId) (oa : Nat) (f : Nat → Int64) (H : Heap) : Prop := va_at G vwCl (oa, .inl (ca 2, 1, .inr (.inl f))) H
theorem rh_o.lt {G : va_G} {ca : Nat → ClassId} {oa : Nat} {f : Nat → Int64} {H : Heap} (h : rh_o G ca oa f H) : oa < H.size := va_at.lt h
theorem rh_o.kept {G : va_G} {ca : Nat → ClassId} {oa : Nat} {f : Nat → Int64} {H H1 : Heap} (h : rh_o G ca oa f H) (hq : H1[oa]? = H[oa]?) : rh_o G ca oa f H1 := va_at.kept h hq
theorem rh_W.keptD {G : va_G} {ca : Nat → ClassId} {A : Nat → Prop} {ad : Nat → Nat → Nat} {nf nc : Nat} {r : rh_R} {v : rh_V} {H H1 : Heap} {oa : Nat} (h : rh_W G ca ad nf nc r v H) (hD : rh_D (rh_A1 A oa) ad (fun k i => i < rh_n nf nc k)) (ho : ∀ q : Nat, q ≠ oa → H1[q]? = H[q]?) : rh_W G ca ad nf nc r v H1 := by
  refine rh_P.kept h (fun k i e he => ho _ (hD.2 k i ?_).2)
  unfold rh_ce at he
  by_cases hb : i < rh_n nf nc k
  · exact hb
  · rw [if_neg hb] at he; cases he
def rh_Pl (G : va_G) (ca : Nat → ClassId) (A : Nat → Prop) (av : List Value) (Φ : Heap → Prop) : Array Value → State → Prop := va_Pc av (fun U => rh_E G ca A U ∧ (∀ x ∈ rh_nc, va_Nc x.1 x.2 U) ∧ (∀ q : Nat, U.heap.size ≤ q → A q) ∧ Φ U.heap)
theorem rh_blindl {G : va_G} {ca : Nat → ClassId} {A : Nat → Prop} {av : List Value} {Φ : Heap → Prop} : FrameBlind (rh_Pl G ca A av Φ) := by
  intro a U g mk h
  obtain ⟨h1, h2, hn, h3, h4⟩ := h
  obtain ⟨-, h2', -, -⟩ := rh_blind (G := G) (ca := ca) (A := A) (av := av) (Φ := fun _ => True) a U g mk ⟨h1, h2, h3, trivial⟩
  exact ⟨h1, h2', fun x hx => va_Nc.moved (u := U) (U := U.calling g mk a) (Vm.Alike.refl U.vm) (hn x hx), h3, h4⟩
theorem rh_prel {G : va_G} {ca : Nat → ClassId} {A A1 : Nat → Prop} {s : State} {H : Heap} {locs : List Loc} {av : List Value} {Φ : Heap → Prop} (hE : rh_E G ca A s) (hn : ∀ x ∈ rh_nc, va_Nc x.1 x.2 s) (hS : va_S A s.heap H locs) (hA : ∀ q, A1 q → A q) (hB : ∀ q : Nat, H.size ≤ q → A1 q) (hΦ : Φ H) : PreS s H (rh_Pl G ca A1 av Φ) av :=
  ⟨rh_blindl, fun U hU hW => ⟨rfl, (hE.warm (by rw [hU]; exact hS) hW).narrow hA, fun x hx => va_Nc.moved hW.alike (hn x hx), by rw [hU]; exact hB, by rw [hU]; exact hΦ⟩⟩
theorem rh_preV2 {G : va_G} {ca : Nat → ClassId} {A A1 : Nat → Prop} {s : State} {H : Heap} {locs : List Loc} {b : Nat} {As : List Value} {Φ : Heap → Prop} {ci : Nat} {fs : List Value} {r : vw_C} (hE : rh_E G ca A s) (hS : va_S A s.heap H locs) (hA : ∀ q, A1 q → A q) (hB : ∀ q : Nat, H.size ≤ q → A1 q) (hat : va_at G vwCl (b, .inr (ci, fs)) H) (hc : vwCl[ci]? = some r) (hΦ : Φ H) : PreV s H r.1 b (rh_Pc G ca A1 (.ref b :: As) Φ) As :=
  ⟨rh_blind, va_recv hE.1 (rh_one hat) hc (q0 := 0) rfl, (rh_pre2 hE hS hA hB hΦ).2⟩
/-- a helper's start -/
theorem rh_enterl {l : Launch} {y : MethodName} {ws ws' : List Cond} {rm : Room} {G : va_G} {ca : Nat → ClassId} {A : Nat → Prop} {av : List Value} {Φ : Heap → Prop} {N : Option Value → Heap → Prop} {X : String → Heap → Prop} {mc ms : Nat} {cc : ByteArray} {maxL : Nat} {ret : Option FieldType} {hh : List (Nat × Nat × Nat × Nat)}
    (hy : plainName y.cls = true) (hw : ws = Cond.codeWith y cc maxL ret hh :: ws') (hlen : (lg_sl av).length ≤ maxL)
    (body : ∀ (p : Program) (e : Env) (s : State) (m : MethodId) (below : List Frame) (meth : Method) (c : Code) (ls : Array Slot), p.tables.exec = Jvm.exec → c.code = cc → meth.sig.returnType = ret → c.maxLocals = maxL → s.vm.findClass y.cls = some m.cls → (∀ w ∈ ws, w.before av.toArray s = true) → meth.locks = false → c.exceptionTable.toList = tableOf hh → meth.name = y.name →
      rh_E G ca A s → (∀ x ∈ rh_nc, va_Nc x.1 x.2 s) → (∀ q : Nat, s.heap.size ≤ q → A q) → Φ s.heap → lv_has ls maxL (lv_args 0 av) →
      W p l e rm s m av.toArray below meth c s.heap [] 0 0 (vx_MQ below (rh_Q A N) (rh_XC A X) av.toArray s mc ms A) (F0 m 0 ls [])) : vx_Met l y ws rm (rh_Pl G ca A av Φ) (rh_Q A N) (rh_XC A X) mc ms A := by
  refine vx_ofWH hy hw ?_
  intro p e s m args below meth c s₁ Bd hml hv
  obtain ⟨rfl, hE, hn, hB, hΦ⟩ := hv
  rw [lg_entry_eq]
  have hts := atoms_spec (ws := ws) Bd.pre
  exact body p e s m below meth c _ Bd.exec Bd.bytes Bd.returns hml (findClass_of_methodNamed Bd.named) hts Bd.notSynchronized (vx_table (x := y) Bd (hts _ (by rw [hw]; exact List.mem_cons_self))) (name_of_methodNamed Bd.named Bd.method).1 hE hn hB hΦ (lv_entry av hlen)
section RHL
variable {p : Program} {l : Launch} {e : Env} {R : Room} {s : State} {m : MethodId} {args : Array Value} {below : List Frame} {meth : Method} {c : Code} {H : Heap} {locs : List Loc} {cells slots : Nat} {Q : State → Prop}
variable {pc : Nat} {ls : Array Slot} {rest st0 : List Value} {a : Array Value} {H0 : Heap} {mc ms : Nat} {A A1 : Nat → Prop} {N : Option Value → Heap → Prop} {X : String → Heap → Prop}
/-- a call that may throw and may change fewer cells -/
theorem rh_call2 (hr : vx_Run p l e R s m args below meth c H locs cells slots mc ms (F0 m pc ls st0) rest (rh_Q A1 N a) (rh_XC A1 X) A1) (hS : va_S A H0 H locs) (hA : ∀ q, A1 q → A q)
    (kx : ∀ (E : String) (ce : Cell) (q9 : Addr) (H1 : Heap) (locs1 : List Loc), X E H1 → H.size ≤ H1.size → (∀ q : Nat, q < H.size → ¬ A1 q → H1[q]? = H[q]?) → va_S A H0 H1 locs1 → H1[q9]? = some ce → ce.vm = .none → s.vm.findClass E = some ce.cls → vx_W p l e R s m args below meth c H1 locs1 (cells + mc) (slots + ms) Q (F0 m pc ls rest) q9)
    (kk : ∀ (v : Option Value) (H1 : Heap) (locs1 : List Loc), N v H1 → H.size ≤ H1.size → (∀ q : Nat, q < H.size → ¬ A1 q → H1[q]? = H[q]?) → va_S A H0 H1 locs1 → W p l e R s m args below meth c H1 locs1 (cells + mc) (slots + ms) Q (F0 m (pc + 3) ls (v.toList ++ rest))) : W p l e R s m args below meth c H locs cells slots Q (F0 m pc ls st0) := by
  intro T hT X'
  rcases hr T hT X' with ⟨v, st₀, t, T', L, h0, Y, hL, e1, e2, ⟨⟨v', hv, hn⟩, hF⟩, st⟩ | ⟨q, st₀, t, T', L, E, ce, h0, Y, hL, e1, e2, ⟨hn, hF⟩, hce, hcv, hcl, st⟩
  · cases hv
    obtain ⟨k1, k2, k3⟩ := vx_keep h0 e1 hS (fun q _ h => hA q h) hA hL hF
    obtain ⟨t2, a1, b1⟩ := kk v T'.heap (locs ++ L) (by rw [e1]; exact hn) k1 k2 k3 T' rfl Y
    exact ⟨t2, st t2 a1, b1⟩
  · obtain ⟨k1, k2, k3⟩ := vx_keep h0 e1 hS (fun q _ h => hA q h) hA hL hF
    obtain ⟨t2, a1, b1⟩ := kx E ce q T'.heap (locs ++ L) (by rw [e1]; exact hn) k1 k2 k3 (by rw [e1]; exact hce) hcv hcl T' rfl Y
    exact ⟨t2, st.trans a1, b1⟩
end RHL
set_option maxHeartbeats 4000000 in
set_option maxRecDepth 100000 in
theorem hl_setTariff (l : Launch) (hlf : l.stackTraces = false) {G : va_G} {ca : Nat → ClassId} {A : Nat → Prop} {ad : Nat → Nat → Nat} {nf nc : Nat} {r : rh_R} {v : rh_V} {oa : Nat} {f : Nat → Int64} (hAo : A oa) (hD : rh_D (rh_A1 A oa) ad (fun k i => i < rh_n nf nc k)) (hwf : rh_wf nf nc r v) (x st pr bg : Int32) : vx_Met l yL_setTariff wsL_setTariff ({ frames := 9, cells := 5, slots := 40, locals := 270 } : Room) (rh_Pl G ca A [.ref (ad 0 0), .int x, .int st, .int pr, .int bg, .ref oa] (fun H => rh_W G ca ad nf nc r v H ∧ rh_o G ca oa f H)) (rh_Q A (fun o H => (∃ i : Nat, i < 4 ∧ x = nI i ∧ rng st 1 600 ∧ rng pr 0 1000 ∧ rng bg 0 1000 ∧ o = some (.int 0) ∧ (∃ f9 : Nat → Int64, f9 0 = ((v 5 i 1)).toInt64 ∧ rh_o G ca oa f9 H) ∧ rh_W G ca ad nf nc r (wr (wr (wr v 5 i 0 st) 5 i 1 pr) 5 i 2 bg) H) ∨ ((¬ ix x 4) ∧ o = some (.int 1) ∧ (∃ f9 : Nat → Int64, rh_o G ca oa f9 H) ∧ rh_W G ca ad nf nc r v H) ∨ ((ix x 4 ∧ ¬ (rng st 1 600 ∧ rng pr 0 1000 ∧ rng bg 0 1000)) ∧ o = some (.int 2) ∧ (∃ f9 : Nat → Int64, rh_o G ca oa f9 H) ∧ rh_W G ca ad nf nc r v H))) (rh_XC A rh_no) 5 40 A := by
  refine rh_enterl (cc := cL_setTariff) (maxL := 7) (ret := (some .int)) (hh := [(0, 14, 17, 13), (0, 14, 21, 15)]) (by decide) rfl (Nat.le_of_ble_eq_true rfl) ?_
  intro p e s m below meth c ls hx hb hr hml hown hts hlocks hex hin hE hnc9 hA hΦ hl
  obtain ⟨hW, hout⟩ := hΦ
  have hlo9 : oa < s.heap.size := hout.lt
  have hS : va_S A s.heap s.heap [] := va_S.rf
  have hl : lv_has ls 7 [(0, .ref (ad 0 0)), (1, .int x), (2, .int st), (3, .int pr), (4, .int bg), (5, .ref oa)] := hl
  refine lv_aload hx hb dL_setTariff_0 (lv_at hl 5 rfl) ?_
  refine lv_iconst (v := 0) hx hb dL_setTariff_2 (by decide) ?_
  refine lv_aload_n hx hb dL_setTariff_3 rfl (lv_at hl 0 rfl) ?_
  refine lv_iload_n hx hb dL_setTariff_4 rfl (lv_at hl 1 rfl) ?_
  refine lv_iload_n hx hb dL_setTariff_5 rfl (lv_at hl 2 rfl) ?_
  refine lv_iload_n hx hb dL_setTariff_6 rfl (lv_at hl 3 rfl) ?_
  refine lv_iload hx hb dL_setTariff_7 (lv_at hl 4 rfl) ?_
  have hA19 : ∀ q, rh_A1 A oa q → A q := fun q h => h.1
  have hB19 : ∀ q : Nat, s.heap.size ≤ q → rh_A1 A oa q := fun q h => ⟨hA q h, by omega⟩
  refine rh_call2 (vx_runV (As := [.int x, .int st, .int pr, .int bg]) (rest := [.int 0, .ref oa]) ⟨hx, hb, hml, hown, hts⟩ (ct_X4_setTariff l hlf hD hwf x st pr bg) (cwV 4 hts gL_setTariff_X4_setTariff rfl rfl rfl (by decide +kernel) ⟨by decide, by decide⟩) (rh_preV2 hE hS hA19 hB19 (hW.at 0 0 Nat.zero_lt_one) rfl hW) rfl rfl hl.1 rfl (lv_room (Nat.le_of_ble_eq_true rfl)) dL_setTariff_9 ⟨by decide, by decide⟩) hS hA19 (fun E ce q9 H locs hX9 hz9 hk9 hS g1 g2 g3 => ?_) (fun o H locs hN9 hz9 hk9 hS => ?_)
  · obtain ⟨hX9, hW⟩ := hX9
    have hout := hout.kept (hk9 _ hlo9 (fun z => z.2 rfl))
    rcases hX9 with ⟨rfl, hc9⟩ | ⟨rfl, hc9⟩
    · refine vx_catch (name := exn 1) hown [] ⟨0, 14, 17, 13⟩ [⟨0, 14, 21, 15⟩] (hex.trans rfl) (fun z hz => absurd hz (List.not_mem_nil)) (by decide) (by decide) (hts (.classLink RL 13 (exn 1)) (by decide +kernel)) (va_Nw.use rfl (hE.2.2.2.1 (exn 1) (by decide))) g1 g2 g3 ?_
      refine W.eq (g2 := F0 m 17 ls [.ref q9]) rfl ?_
      refine lv_astore (lv' := [(6, .ref q9), (0, .ref (ad 0 0)), (1, .int x), (2, .int st), (3, .int pr), (4, .int bg), (5, .ref oa)]) hx hb dL_setTariff_17 hl (by decide) rfl (fun ls hl => ?_)
      refine lv_iconst (v := 1) hx hb dL_setTariff_19 (by decide) ?_
      exact rh_iret hx hb hr hlocks (Or.inr (Or.inl ⟨hc9, rfl, ⟨_, hout⟩, hW⟩)) hS (by decide) (by decide) dL_setTariff_20
    · refine vx_catch (name := exn 2) hown [⟨0, 14, 17, 13⟩] ⟨0, 14, 21, 15⟩ [] (hex.trans rfl) (fun z hz => by rw [List.mem_singleton] at hz; subst hz; exact Or.inr ⟨by decide, exn 1, (hts (.classLink RL 13 (exn 1)) (by decide +kernel)), hnc9 (exn 2, exn 1) (by decide)⟩) (by decide) (by decide) (hts (.classLink RL 15 (exn 2)) (by decide +kernel)) (va_Nw.use rfl (hE.2.2.2.1 (exn 2) (by decide))) g1 g2 g3 ?_
      refine W.eq (g2 := F0 m 21 ls [.ref q9]) rfl ?_
      refine lv_astore (lv' := [(6, .ref q9), (0, .ref (ad 0 0)), (1, .int x), (2, .int st), (3, .int pr), (4, .int bg), (5, .ref oa)]) hx hb dL_setTariff_21 hl (by decide) rfl (fun ls hl => ?_)
      refine lv_iconst (v := 2) hx hb dL_setTariff_23 (by decide) ?_
      exact rh_iret hx hb hr hlocks (Or.inr (Or.inr (⟨hc9, rfl, ⟨_, hout⟩, hW⟩))) hS (by decide) (by decide) dL_setTariff_24
  · obtain ⟨i9, hc0, hc1, hc2, hc3, hc4, rfl, hW⟩ := hN9
    have hout := hout.kept (hk9 _ hlo9 (fun z => z.2 rfl))
    refine W.eq (g2 := F0 m 12 ls [.int (v 5 i9 1), .int 0, .ref oa]) rfl ?_
    refine lv_i2l hx hb dL_setTariff_12 rfl ?_
    refine rh_last0 (x := (((v 5 i9 1)).toInt64)) hx hb hE hout hS hAo 0 (by decide) (by decide) rfl dL_setTariff_13 (fun H1 locs hout hz8 ho8 hS => ?_)
    have hW := hW.keptD hD ho8
    refine lv_goto (tgt := 25) hx hb dL_setTariff_14 (by decide) ?_
    refine lv_iconst (v := 0) hx hb dL_setTariff_25 (by decide) ?_
    exact rh_iret hx hb hr hlocks (Or.inl ⟨i9, hc0, hc1, hc2, hc3, hc4, rfl, ⟨_, if_pos rfl, hout⟩, hW⟩) hS (by decide) (by decide) dL_setTariff_26
set_option maxHeartbeats 4000000 in
set_option maxRecDepth 100000 in
theorem hl_charge (l : Launch) (hlf : l.stackTraces = false) {G : va_G} {ca : Nat → ClassId} {A : Nat → Prop} {ad : Nat → Nat → Nat} {nf nc : Nat} {r : rh_R} {v : rh_V} {oa : Nat} {f : Nat → Int64} (hAo : A oa) (hD : rh_D (rh_A1 A oa) ad (fun k i => i < rh_n nf nc k)) (hwf : rh_wf nf nc r v) (x y : Int32) : vx_Met l yL_charge wsL_charge ({ frames := 9, cells := 5, slots := 40, locals := 270 } : Room) (rh_Pl G ca A [.ref (ad 0 0), .int x, .int y, .ref oa] (fun H => rh_W G ca ad nf nc r v H ∧ rh_o G ca oa f H)) (rh_Q A (fun o H => (∃ i : Nat, i < 4 ∧ x = nI i ∧ rng y 1 36000 ∧ o = some (.int 0) ∧ (∃ f9 : Nat → Int64, f9 0 = ((c_ch v i y)).toInt64 ∧ rh_o G ca oa f9 H) ∧ rh_W G ca ad nf nc r v H) ∨ ((¬ ix x 4) ∧ o = some (.int 1) ∧ (∃ f9 : Nat → Int64, rh_o G ca oa f9 H) ∧ rh_W G ca ad nf nc r v H) ∨ ((ix x 4 ∧ ¬ rng y 1 36000) ∧ o = some (.int 2) ∧ (∃ f9 : Nat → Int64, rh_o G ca oa f9 H) ∧ rh_W G ca ad nf nc r v H))) (rh_XC A rh_no) 5 40 A := by
  refine rh_enterl (cc := cL_charge) (maxL := 5) (ret := (some .int)) (hh := [(0, 10, 13, 13), (0, 10, 17, 15)]) (by decide) rfl (Nat.le_of_ble_eq_true rfl) ?_
  intro p e s m below meth c ls hx hb hr hml hown hts hlocks hex hin hE hnc9 hA hΦ hl
  obtain ⟨hW, hout⟩ := hΦ
  have hlo9 : oa < s.heap.size := hout.lt
  have hS : va_S A s.heap s.heap [] := va_S.rf
  have hl : lv_has ls 5 [(0, .ref (ad 0 0)), (1, .int x), (2, .int y), (3, .ref oa)] := hl
  refine lv_aload_n hx hb dL_charge_0 rfl (lv_at hl 3 rfl) ?_
  refine lv_iconst (v := 0) hx hb dL_charge_1 (by decide) ?_
  refine lv_aload_n hx hb dL_charge_2 rfl (lv_at hl 0 rfl) ?_
  refine lv_iload_n hx hb dL_charge_3 rfl (lv_at hl 1 rfl) ?_
  refine lv_iload_n hx hb dL_charge_4 rfl (lv_at hl 2 rfl) ?_
  have hA19 : ∀ q, rh_A1 A oa q → A q := fun q h => h.1
  have hB19 : ∀ q : Nat, s.heap.size ≤ q → rh_A1 A oa q := fun q h => ⟨hA q h, by omega⟩
  refine rh_call2 (vx_runV (As := [.int x, .int y]) (rest := [.int 0, .ref oa]) ⟨hx, hb, hml, hown, hts⟩ (ct_X4_charge l hlf hD hwf x y) (cwV 2 hts gL_charge_X4_charge rfl rfl rfl (by decide +kernel) ⟨by decide, by decide⟩) (rh_preV2 hE hS hA19 hB19 (hW.at 0 0 Nat.zero_lt_one) rfl hW) rfl rfl hl.1 rfl (lv_room (Nat.le_of_ble_eq_true rfl)) dL_charge_5 ⟨by decide, by decide⟩) hS hA19 (fun E ce q9 H locs hX9 hz9 hk9 hS g1 g2 g3 => ?_) (fun o H locs hN9 hz9 hk9 hS => ?_)
  · obtain ⟨hX9, hW⟩ := hX9
    have hout := hout.kept (hk9 _ hlo9 (fun z => z.2 rfl))
    rcases hX9 with ⟨rfl, hc9⟩ | ⟨rfl, hc9⟩
    · refine vx_catch (name := exn 1) hown [] ⟨0, 10, 13, 13⟩ [⟨0, 10, 17, 15⟩] (hex.trans rfl) (fun z hz => absurd hz (List.not_mem_nil)) (by decide) (by decide) (hts (.classLink RL 13 (exn 1)) (by decide +kernel)) (va_Nw.use rfl (hE.2.2.2.1 (exn 1) (by decide))) g1 g2 g3 ?_
      refine W.eq (g2 := F0 m 13 ls [.ref q9]) rfl ?_
      refine lv_astore (lv' := [(4, .ref q9), (0, .ref (ad 0 0)), (1, .int x), (2, .int y), (3, .ref oa)]) hx hb dL_charge_13 hl (by decide) rfl (fun ls hl => ?_)
      refine lv_iconst (v := 1) hx hb dL_charge_15 (by decide) ?_
      exact rh_iret hx hb hr hlocks (Or.inr (Or.inl ⟨hc9, rfl, ⟨_, hout⟩, hW⟩)) hS (by decide) (by decide) dL_charge_16
    · refine vx_catch (name := exn 2) hown [⟨0, 10, 13, 13⟩] ⟨0, 10, 17, 15⟩ [] (hex.trans rfl) (fun z hz => by rw [List.mem_singleton] at hz; subst hz; exact Or.inr ⟨by decide, exn 1, (hts (.classLink RL 13 (exn 1)) (by decide +kernel)), hnc9 (exn 2, exn 1) (by decide)⟩) (by decide) (by decide) (hts (.classLink RL 15 (exn 2)) (by decide +kernel)) (va_Nw.use rfl (hE.2.2.2.1 (exn 2) (by decide))) g1 g2 g3 ?_
      refine W.eq (g2 := F0 m 17 ls [.ref q9]) rfl ?_
      refine lv_astore (lv' := [(4, .ref q9), (0, .ref (ad 0 0)), (1, .int x), (2, .int y), (3, .ref oa)]) hx hb dL_charge_17 hl (by decide) rfl (fun ls hl => ?_)
      refine lv_iconst (v := 2) hx hb dL_charge_19 (by decide) ?_
      exact rh_iret hx hb hr hlocks (Or.inr (Or.inr (⟨hc9, rfl, ⟨_, hout⟩, hW⟩))) hS (by decide) (by decide) dL_charge_20
  · obtain ⟨i9, hc0, hc1, hc2, rfl, hW⟩ := hN9
    have hout := hout.kept (hk9 _ hlo9 (fun z => z.2 rfl))
    refine W.eq (g2 := F0 m 8 ls [.int (c_ch v i9 y), .int 0, .ref oa]) rfl ?_
    refine lv_i2l hx hb dL_charge_8 rfl ?_
    refine rh_last0 (x := (((c_ch v i9 y)).toInt64)) hx hb hE hout hS hAo 0 (by decide) (by decide) rfl dL_charge_9 (fun H1 locs hout hz8 ho8 hS => ?_)
    have hW := hW.keptD hD ho8
    refine lv_goto (tgt := 21) hx hb dL_charge_10 (by decide) ?_
    refine lv_iconst (v := 0) hx hb dL_charge_21 (by decide) ?_
    exact rh_iret hx hb hr hlocks (Or.inl ⟨i9, hc0, hc1, hc2, rfl, ⟨_, if_pos rfl, hout⟩, hW⟩) hS (by decide) (by decide) dL_charge_22
set_option maxHeartbeats 4000000 in
set_option maxRecDepth 100000 in
theorem hl_begin (l : Launch) (hlf : l.stackTraces = false) {G : va_G} {ca : Nat → ClassId} {A : Nat → Prop} {ad : Nat → Nat → Nat} {nf nc : Nat} {r : rh_R} {v : rh_V} {oa : Nat} {f : Nat → Int64} (hAo : A oa) (hD : rh_D (rh_A1 A oa) ad (fun k i => i < rh_n nf nc k)) (hwf : rh_wf nf nc r v) (x y : Int32) : vx_Met l yL_begin wsL_begin ({ frames := 9, cells := 5, slots := 40, locals := 270 } : Room) (rh_Pl G ca A [.ref (ad 0 0), .int x, .int y, .ref oa] (fun H => rh_W G ca ad nf nc r v H ∧ rh_o G ca oa f H)) (rh_Q A (fun o H => (∃ h k : Nat, h < 4 ∧ k < 4 ∧ h ≠ k ∧ x = nI h ∧ y = nI k ∧ nf < 30 ∧ o = some (.int 0) ∧ (∃ f9 : Nat → Int64, f9 0 = ((nI nf)).toInt64 ∧ rh_o G ca oa f9 H) ∧ ∃ q : Nat, rh_W G ca (ad2 ad 8 nf q) (nf + 1) nc (ad2 r 8 nf (h * 4 + k)) (wr (c_file v nf (v 0 0 6)) 0 0 3 (nI (nf + 1))) H ∧ rh_D (rh_A1 A oa) (ad2 ad 8 nf q) (fun k i => i < rh_n (nf + 1) nc k)) ∨ ((¬ (ix x 4 ∧ ix y 4)) ∧ o = some (.int 1) ∧ (∃ f9 : Nat → Int64, rh_o G ca oa f9 H) ∧ rh_W G ca ad nf nc r v H) ∨ ((ix x 4 ∧ ix y 4 ∧ x = y) ∧ o = some (.int 2) ∧ (∃ f9 : Nat → Int64, rh_o G ca oa f9 H) ∧ rh_W G ca ad nf nc r v H) ∨ ((ix x 4 ∧ ix y 4 ∧ ¬ x = y ∧ 30 ≤ nf) ∧ o = some (.int 3) ∧ (∃ f9 : Nat → Int64, rh_o G ca oa f9 H) ∧ rh_W G ca ad nf nc r v H))) (rh_XC A rh_no) 5 40 A := by
  refine rh_enterl (cc := cL_begin) (maxL := 5) (ret := (some .int)) (hh := [(0, 10, 13, 13), (0, 10, 17, 15), (0, 10, 21, 24)]) (by decide) rfl (Nat.le_of_ble_eq_true rfl) ?_
  intro p e s m below meth c ls hx hb hr hml hown hts hlocks hex hin hE hnc9 hA hΦ hl
  obtain ⟨hW, hout⟩ := hΦ
  have hlo9 : oa < s.heap.size := hout.lt
  have hS : va_S A s.heap s.heap [] := va_S.rf
  have hl : lv_has ls 5 [(0, .ref (ad 0 0)), (1, .int x), (2, .int y), (3, .ref oa)] := hl
  refine lv_aload_n hx hb dL_begin_0 rfl (lv_at hl 3 rfl) ?_
  refine lv_iconst (v := 0) hx hb dL_begin_1 (by decide) ?_
  refine lv_aload_n hx hb dL_begin_2 rfl (lv_at hl 0 rfl) ?_
  refine lv_iload_n hx hb dL_begin_3 rfl (lv_at hl 1 rfl) ?_
  refine lv_iload_n hx hb dL_begin_4 rfl (lv_at hl 2 rfl) ?_
  have hA19 : ∀ q, rh_A1 A oa q → A q := fun q h => h.1
  have hB19 : ∀ q : Nat, s.heap.size ≤ q → rh_A1 A oa q := fun q h => ⟨hA q h, by omega⟩
  refine rh_call2 (vx_runV (As := [.int x, .int y]) (rest := [.int 0, .ref oa]) ⟨hx, hb, hml, hown, hts⟩ (ct_X4_begin l hlf hD hwf x y) (cwV 2 hts gL_begin_X4_begin rfl rfl rfl (by decide +kernel) ⟨by decide, by decide⟩) (rh_preV2 hE hS hA19 hB19 (hW.at 0 0 Nat.zero_lt_one) rfl hW) rfl rfl hl.1 rfl (lv_room (Nat.le_of_ble_eq_true rfl)) dL_begin_5 ⟨by decide, by decide⟩) hS hA19 (fun E ce q9 H locs hX9 hz9 hk9 hS g1 g2 g3 => ?_) (fun o H locs hN9 hz9 hk9 hS => ?_)
  · obtain ⟨hX9, hW⟩ := hX9
    have hout := hout.kept (hk9 _ hlo9 (fun z => z.2 rfl))
    rcases hX9 with ⟨rfl, hc9⟩ | ⟨rfl, hc9⟩ | ⟨rfl, hc9⟩
    · refine vx_catch (name := exn 1) hown [] ⟨0, 10, 13, 13⟩ [⟨0, 10, 17, 15⟩, ⟨0, 10, 21, 24⟩] (hex.trans rfl) (fun z hz => absurd hz (List.not_mem_nil)) (by decide) (by decide) (hts (.classLink RL 13 (exn 1)) (by decide +kernel)) (va_Nw.use rfl (hE.2.2.2.1 (exn 1) (by decide))) g1 g2 g3 ?_
      refine W.eq (g2 := F0 m 13 ls [.ref q9]) rfl ?_
      refine lv_astore (lv' := [(4, .ref q9), (0, .ref (ad 0 0)), (1, .int x), (2, .int y), (3, .ref oa)]) hx hb dL_begin_13 hl (by decide) rfl (fun ls hl => ?_)
      refine lv_iconst (v := 1) hx hb dL_begin_15 (by decide) ?_
      exact rh_iret hx hb hr hlocks (Or.inr (Or.inl ⟨hc9, rfl, ⟨_, hout⟩, hW⟩)) hS (by decide) (by decide) dL_begin_16
    · refine vx_catch (name := exn 2) hown [⟨0, 10, 13, 13⟩] ⟨0, 10, 17, 15⟩ [⟨0, 10, 21, 24⟩] (hex.trans rfl) (fun z hz => by rw [List.mem_singleton] at hz; subst hz; exact Or.inr ⟨by decide, exn 1, (hts (.classLink RL 13 (exn 1)) (by decide +kernel)), hnc9 (exn 2, exn 1) (by decide)⟩) (by decide) (by decide) (hts (.classLink RL 15 (exn 2)) (by decide +kernel)) (va_Nw.use rfl (hE.2.2.2.1 (exn 2) (by decide))) g1 g2 g3 ?_
      refine W.eq (g2 := F0 m 17 ls [.ref q9]) rfl ?_
      refine lv_astore (lv' := [(4, .ref q9), (0, .ref (ad 0 0)), (1, .int x), (2, .int y), (3, .ref oa)]) hx hb dL_begin_17 hl (by decide) rfl (fun ls hl => ?_)
      refine lv_iconst (v := 2) hx hb dL_begin_19 (by decide) ?_
      exact rh_iret hx hb hr hlocks (Or.inr (Or.inr (Or.inl ⟨hc9, rfl, ⟨_, hout⟩, hW⟩))) hS (by decide) (by decide) dL_begin_20
    · refine vx_catch (name := exn 3) hown [⟨0, 10, 13, 13⟩, ⟨0, 10, 17, 15⟩] ⟨0, 10, 21, 24⟩ [] (hex.trans rfl) (fun z hz => by rcases List.mem_cons.mp hz with rfl | hz; exact Or.inr ⟨by decide, exn 1, (hts (.classLink RL 13 (exn 1)) (by decide +kernel)), hnc9 (exn 3, exn 1) (by decide)⟩; rw [List.mem_singleton] at hz; subst hz; exact Or.inr ⟨by decide, exn 2, (hts (.classLink RL 15 (exn 2)) (by decide +kernel)), hnc9 (exn 3, exn 2) (by decide)⟩) (by decide) (by decide) (hts (.classLink RL 24 (exn 3)) (by decide +kernel)) (va_Nw.use rfl (hE.2.2.2.1 (exn 3) (by decide))) g1 g2 g3 ?_
      refine W.eq (g2 := F0 m 21 ls [.ref q9]) rfl ?_
      refine lv_astore (lv' := [(4, .ref q9), (0, .ref (ad 0 0)), (1, .int x), (2, .int y), (3, .ref oa)]) hx hb dL_begin_21 hl (by decide) rfl (fun ls hl => ?_)
      refine lv_iconst (v := 3) hx hb dL_begin_23 (by decide) ?_
      exact rh_iret hx hb hr hlocks (Or.inr (Or.inr (Or.inr (⟨hc9, rfl, ⟨_, hout⟩, hW⟩)))) hS (by decide) (by decide) dL_begin_24
  · obtain ⟨h9, k9, hc0, hc1, hc2, hc3, hc4, hc5, rfl, q8, hW, hD8⟩ := hN9
    have hout := hout.kept (hk9 _ hlo9 (fun z => z.2 rfl))
    refine W.eq (g2 := F0 m 8 ls [.int (nI nf), .int 0, .ref oa]) rfl ?_
    refine lv_i2l hx hb dL_begin_8 rfl ?_
    refine rh_last0 (x := (((nI nf)).toInt64)) hx hb hE hout hS hAo 0 (by decide) (by decide) rfl dL_begin_9 (fun H1 locs hout hz8 ho8 hS => ?_)
    have hW := hW.keptD hD8 ho8
    refine lv_goto (tgt := 25) hx hb dL_begin_10 (by decide) ?_
    refine lv_iconst (v := 0) hx hb dL_begin_25 (by decide) ?_
    exact rh_iret hx hb hr hlocks (Or.inl ⟨h9, k9, hc0, hc1, hc2, hc3, hc4, hc5, rfl, ⟨_, if_pos rfl, hout⟩, q8, hW, hD8⟩) hS (by decide) (by decide) dL_begin_26
set_option maxHeartbeats 4000000 in
set_option maxRecDepth 100000 in
theorem hl_enter (l : Launch) (hlf : l.stackTraces = false) {G : va_G} {ca : Nat → ClassId} {A : Nat → Prop} {ad : Nat → Nat → Nat} {nf nc : Nat} {r : rh_R} {v : rh_V} {oa : Nat} {f : Nat → Int64} (hAo : A oa) (hD : rh_D (rh_A1 A oa) ad (fun k i => i < rh_n nf nc k)) (hwf : rh_wf nf nc r v) (x se to : Int32) : vx_Met l yL_enter wsL_enter ({ frames := 9, cells := 5, slots := 40, locals := 270 } : Room) (rh_Pl G ca A [.ref (ad 0 0), .int x, .int se, .int to, .ref oa] (fun H => rh_W G ca ad nf nc r v H ∧ rh_o G ca oa f H)) (rh_Q A (fun o H => (∃ i : Nat, i < nf ∧ x = nI i ∧ rng se 1 36000 ∧ rng to 0 50000000 ∧ v 8 i 2 = 0 ∧ nc < 60 ∧ o = some (.int 0) ∧ (∃ f9 : Nat → Int64, f9 0 = ((nI nc)).toInt64 ∧ rh_o G ca oa f9 H) ∧ ∃ q : Nat, rh_W G ca (ad2 ad 9 nc q) nf (nc + 1) (ad2 r 9 nc i) (wr (wr (c_call v nc se to) 0 0 5 (nI (nc + 1))) 8 i 3 (v 8 i 3 + 1)) H ∧ rh_D (rh_A1 A oa) (ad2 ad 9 nc q) (fun k i => i < rh_n nf (nc + 1) k)) ∨ ((¬ ix x nf) ∧ o = some (.int 1) ∧ (∃ f9 : Nat → Int64, rh_o G ca oa f9 H) ∧ rh_W G ca ad nf nc r v H) ∨ ((ix x nf ∧ ¬ (rng se 1 36000 ∧ rng to 0 50000000)) ∧ o = some (.int 2) ∧ (∃ f9 : Nat → Int64, rh_o G ca oa f9 H) ∧ rh_W G ca ad nf nc r v H) ∨ ((∃ i : Nat, i < nf ∧ x = nI i ∧ rng se 1 36000 ∧ rng to 0 50000000 ∧ (¬ v 8 i 2 = 0 ∨ 60 ≤ nc)) ∧ o = some (.int 3) ∧ (∃ f9 : Nat → Int64, rh_o G ca oa f9 H) ∧ rh_W G ca ad nf nc r v H))) (rh_XC A rh_no) 5 40 A := by
  refine rh_enterl (cc := cL_enter) (maxL := 6) (ret := (some .int)) (hh := [(0, 12, 15, 13), (0, 12, 19, 15), (0, 12, 23, 24)]) (by decide) rfl (Nat.le_of_ble_eq_true rfl) ?_
  intro p e s m below meth c ls hx hb hr hml hown hts hlocks hex hin hE hnc9 hA hΦ hl
  obtain ⟨hW, hout⟩ := hΦ
  have hlo9 : oa < s.heap.size := hout.lt
  have hS : va_S A s.heap s.heap [] := va_S.rf
  have hl : lv_has ls 6 [(0, .ref (ad 0 0)), (1, .int x), (2, .int se), (3, .int to), (4, .ref oa)] := hl
  refine lv_aload hx hb dL_enter_0 (lv_at hl 4 rfl) ?_
  refine lv_iconst (v := 0) hx hb dL_enter_2 (by decide) ?_
  refine lv_aload_n hx hb dL_enter_3 rfl (lv_at hl 0 rfl) ?_
  refine lv_iload_n hx hb dL_enter_4 rfl (lv_at hl 1 rfl) ?_
  refine lv_iload_n hx hb dL_enter_5 rfl (lv_at hl 2 rfl) ?_
  refine lv_iload_n hx hb dL_enter_6 rfl (lv_at hl 3 rfl) ?_
  have hA19 : ∀ q, rh_A1 A oa q → A q := fun q h => h.1
  have hB19 : ∀ q : Nat, s.heap.size ≤ q → rh_A1 A oa q := fun q h => ⟨hA q h, by omega⟩
  refine rh_call2 (vx_runV (As := [.int x, .int se, .int to]) (rest := [.int 0, .ref oa]) ⟨hx, hb, hml, hown, hts⟩ (ct_X4_enter l hlf hD hwf x se to) (cwV 3 hts gL_enter_X4_enter rfl rfl rfl (by decide +kernel) ⟨by decide, by decide⟩) (rh_preV2 hE hS hA19 hB19 (hW.at 0 0 Nat.zero_lt_one) rfl hW) rfl rfl hl.1 rfl (lv_room (Nat.le_of_ble_eq_true rfl)) dL_enter_7 ⟨by decide, by decide⟩) hS hA19 (fun E ce q9 H locs hX9 hz9 hk9 hS g1 g2 g3 => ?_) (fun o H locs hN9 hz9 hk9 hS => ?_)
  · obtain ⟨hX9, hW⟩ := hX9
    have hout := hout.kept (hk9 _ hlo9 (fun z => z.2 rfl))
    rcases hX9 with ⟨rfl, hc9⟩ | ⟨rfl, hc9⟩ | ⟨rfl, hc9⟩
    · refine vx_catch (name := exn 1) hown [] ⟨0, 12, 15, 13⟩ [⟨0, 12, 19, 15⟩, ⟨0, 12, 23, 24⟩] (hex.trans rfl) (fun z hz => absurd hz (List.not_mem_nil)) (by decide) (by decide) (hts (.classLink RL 13 (exn 1)) (by decide +kernel)) (va_Nw.use rfl (hE.2.2.2.1 (exn 1) (by decide))) g1 g2 g3 ?_
      refine W.eq (g2 := F0 m 15 ls [.ref q9]) rfl ?_
      refine lv_astore (lv' := [(5, .ref q9), (0, .ref (ad 0 0)), (1, .int x), (2, .int se), (3, .int to), (4, .ref oa)]) hx hb dL_enter_15 hl (by decide) rfl (fun ls hl => ?_)
      refine lv_iconst (v := 1) hx hb dL_enter_17 (by decide) ?_
      exact rh_iret hx hb hr hlocks (Or.inr (Or.inl ⟨hc9, rfl, ⟨_, hout⟩, hW⟩)) hS (by decide) (by decide) dL_enter_18
    · refine vx_catch (name := exn 2) hown [⟨0, 12, 15, 13⟩] ⟨0, 12, 19, 15⟩ [⟨0, 12, 23, 24⟩] (hex.trans rfl) (fun z hz => by rw [List.mem_singleton] at hz; subst hz; exact Or.inr ⟨by decide, exn 1, (hts (.classLink RL 13 (exn 1)) (by decide +kernel)), hnc9 (exn 2, exn 1) (by decide)⟩) (by decide) (by decide) (hts (.classLink RL 15 (exn 2)) (by decide +kernel)) (va_Nw.use rfl (hE.2.2.2.1 (exn 2) (by decide))) g1 g2 g3 ?_
      refine W.eq (g2 := F0 m 19 ls [.ref q9]) rfl ?_
      refine lv_astore (lv' := [(5, .ref q9), (0, .ref (ad 0 0)), (1, .int x), (2, .int se), (3, .int to), (4, .ref oa)]) hx hb dL_enter_19 hl (by decide) rfl (fun ls hl => ?_)
      refine lv_iconst (v := 2) hx hb dL_enter_21 (by decide) ?_
      exact rh_iret hx hb hr hlocks (Or.inr (Or.inr (Or.inl ⟨hc9, rfl, ⟨_, hout⟩, hW⟩))) hS (by decide) (by decide) dL_enter_22
    · refine vx_catch (name := exn 3) hown [⟨0, 12, 15, 13⟩, ⟨0, 12, 19, 15⟩] ⟨0, 12, 23, 24⟩ [] (hex.trans rfl) (fun z hz => by rcases List.mem_cons.mp hz with rfl | hz; exact Or.inr ⟨by decide, exn 1, (hts (.classLink RL 13 (exn 1)) (by decide +kernel)), hnc9 (exn 3, exn 1) (by decide)⟩; rw [List.mem_singleton] at hz; subst hz; exact Or.inr ⟨by decide, exn 2, (hts (.classLink RL 15 (exn 2)) (by decide +kernel)), hnc9 (exn 3, exn 2) (by decide)⟩) (by decide) (by decide) (hts (.classLink RL 24 (exn 3)) (by decide +kernel)) (va_Nw.use rfl (hE.2.2.2.1 (exn 3) (by decide))) g1 g2 g3 ?_
      refine W.eq (g2 := F0 m 23 ls [.ref q9]) rfl ?_
      refine lv_astore (lv' := [(5, .ref q9), (0, .ref (ad 0 0)), (1, .int x), (2, .int se), (3, .int to), (4, .ref oa)]) hx hb dL_enter_23 hl (by decide) rfl (fun ls hl => ?_)
      refine lv_iconst (v := 3) hx hb dL_enter_25 (by decide) ?_
      exact rh_iret hx hb hr hlocks (Or.inr (Or.inr (Or.inr (⟨hc9, rfl, ⟨_, hout⟩, hW⟩)))) hS (by decide) (by decide) dL_enter_26
  · obtain ⟨i9, hc0, hc1, hc2, hc3, hc4, hc5, rfl, q8, hW, hD8⟩ := hN9
    have hout := hout.kept (hk9 _ hlo9 (fun z => z.2 rfl))
    refine W.eq (g2 := F0 m 10 ls [.int (nI nc), .int 0, .ref oa]) rfl ?_
    refine lv_i2l hx hb dL_enter_10 rfl ?_
    refine rh_last0 (x := (((nI nc)).toInt64)) hx hb hE hout hS hAo 0 (by decide) (by decide) rfl dL_enter_11 (fun H1 locs hout hz8 ho8 hS => ?_)
    have hW := hW.keptD hD8 ho8
    refine lv_goto (tgt := 27) hx hb dL_enter_12 (by decide) ?_
    refine lv_iconst (v := 0) hx hb dL_enter_27 (by decide) ?_
    exact rh_iret hx hb hr hlocks (Or.inl ⟨i9, hc0, hc1, hc2, hc3, hc4, hc5, rfl, ⟨_, if_pos rfl, hout⟩, q8, hW, hD8⟩) hS (by decide) (by decide) dL_enter_28
set_option maxHeartbeats 4000000 in
set_option maxRecDepth 100000 in
theorem hl_send (l : Launch) (hlf : l.stackTraces = false) {G : va_G} {ca : Nat → ClassId} {A : Nat → Prop} {ad : Nat → Nat → Nat} {nf nc : Nat} {r : rh_R} {v : rh_V} {oa : Nat} {f : Nat → Int64} (hAo : A oa) (hD : rh_D (rh_A1 A oa) ad (fun k i => i < rh_n nf nc k)) (hwf : rh_wf nf nc r v) (x y : Int32) : vx_Met l yL_send wsL_send ({ frames := 9, cells := 5, slots := 40, locals := 270 } : Room) (rh_Pl G ca A [.ref (ad 0 0), .int x, .int y, .ref oa] (fun H => rh_W G ca ad nf nc r v H ∧ rh_o G ca oa f H)) (rh_Q A (fun o H => (∃ i : Nat, i < nf ∧ x = nI i ∧ rng y 1 99 ∧ v 8 i 2 = 0 ∧ ¬ v 8 i 3 = 0 ∧ o = some (.int 0) ∧ (∃ f9 : Nat → Int64, f9 0 = ((c_send r v nf nc i y 8 i 2)).toInt64 ∧ rh_o G ca oa f9 H) ∧ rh_W G ca ad nf nc r (c_send r v nf nc i y) H) ∨ ((¬ ix x nf) ∧ o = some (.int 1) ∧ (∃ f9 : Nat → Int64, rh_o G ca oa f9 H) ∧ rh_W G ca ad nf nc r v H) ∨ ((ix x nf ∧ ¬ rng y 1 99) ∧ o = some (.int 2) ∧ (∃ f9 : Nat → Int64, rh_o G ca oa f9 H) ∧ rh_W G ca ad nf nc r v H) ∨ ((∃ i : Nat, i < nf ∧ x = nI i ∧ rng y 1 99 ∧ (¬ v 8 i 2 = 0 ∨ v 8 i 3 = 0)) ∧ o = some (.int 3) ∧ (∃ f9 : Nat → Int64, rh_o G ca oa f9 H) ∧ rh_W G ca ad nf nc r v H))) (rh_XC A rh_no) 5 40 A := by
  refine rh_enterl (cc := cL_send) (maxL := 5) (ret := (some .int)) (hh := [(0, 10, 13, 13), (0, 10, 17, 15), (0, 10, 21, 24)]) (by decide) rfl (Nat.le_of_ble_eq_true rfl) ?_
  intro p e s m below meth c ls hx hb hr hml hown hts hlocks hex hin hE hnc9 hA hΦ hl
  obtain ⟨hW, hout⟩ := hΦ
  have hlo9 : oa < s.heap.size := hout.lt
  have hS : va_S A s.heap s.heap [] := va_S.rf
  have hl : lv_has ls 5 [(0, .ref (ad 0 0)), (1, .int x), (2, .int y), (3, .ref oa)] := hl
  refine lv_aload_n hx hb dL_send_0 rfl (lv_at hl 3 rfl) ?_
  refine lv_iconst (v := 0) hx hb dL_send_1 (by decide) ?_
  refine lv_aload_n hx hb dL_send_2 rfl (lv_at hl 0 rfl) ?_
  refine lv_iload_n hx hb dL_send_3 rfl (lv_at hl 1 rfl) ?_
  refine lv_iload_n hx hb dL_send_4 rfl (lv_at hl 2 rfl) ?_
  have hA19 : ∀ q, rh_A1 A oa q → A q := fun q h => h.1
  have hB19 : ∀ q : Nat, s.heap.size ≤ q → rh_A1 A oa q := fun q h => ⟨hA q h, by omega⟩
  refine rh_call2 (vx_runV (As := [.int x, .int y]) (rest := [.int 0, .ref oa]) ⟨hx, hb, hml, hown, hts⟩ (ct_X4_send l hlf hD hwf x y) (cwV 2 hts gL_send_X4_send rfl rfl rfl (by decide +kernel) ⟨by decide, by decide⟩) (rh_preV2 hE hS hA19 hB19 (hW.at 0 0 Nat.zero_lt_one) rfl hW) rfl rfl hl.1 rfl (lv_room (Nat.le_of_ble_eq_true rfl)) dL_send_5 ⟨by decide, by decide⟩) hS hA19 (fun E ce q9 H locs hX9 hz9 hk9 hS g1 g2 g3 => ?_) (fun o H locs hN9 hz9 hk9 hS => ?_)
  · obtain ⟨hX9, hW⟩ := hX9
    have hout := hout.kept (hk9 _ hlo9 (fun z => z.2 rfl))
    rcases hX9 with ⟨rfl, hc9⟩ | ⟨rfl, hc9⟩ | ⟨rfl, hc9⟩
    · refine vx_catch (name := exn 1) hown [] ⟨0, 10, 13, 13⟩ [⟨0, 10, 17, 15⟩, ⟨0, 10, 21, 24⟩] (hex.trans rfl) (fun z hz => absurd hz (List.not_mem_nil)) (by decide) (by decide) (hts (.classLink RL 13 (exn 1)) (by decide +kernel)) (va_Nw.use rfl (hE.2.2.2.1 (exn 1) (by decide))) g1 g2 g3 ?_
      refine W.eq (g2 := F0 m 13 ls [.ref q9]) rfl ?_
      refine lv_astore (lv' := [(4, .ref q9), (0, .ref (ad 0 0)), (1, .int x), (2, .int y), (3, .ref oa)]) hx hb dL_send_13 hl (by decide) rfl (fun ls hl => ?_)
      refine lv_iconst (v := 1) hx hb dL_send_15 (by decide) ?_
      exact rh_iret hx hb hr hlocks (Or.inr (Or.inl ⟨hc9, rfl, ⟨_, hout⟩, hW⟩)) hS (by decide) (by decide) dL_send_16
    · refine vx_catch (name := exn 2) hown [⟨0, 10, 13, 13⟩] ⟨0, 10, 17, 15⟩ [⟨0, 10, 21, 24⟩] (hex.trans rfl) (fun z hz => by rw [List.mem_singleton] at hz; subst hz; exact Or.inr ⟨by decide, exn 1, (hts (.classLink RL 13 (exn 1)) (by decide +kernel)), hnc9 (exn 2, exn 1) (by decide)⟩) (by decide) (by decide) (hts (.classLink RL 15 (exn 2)) (by decide +kernel)) (va_Nw.use rfl (hE.2.2.2.1 (exn 2) (by decide))) g1 g2 g3 ?_
      refine W.eq (g2 := F0 m 17 ls [.ref q9]) rfl ?_
      refine lv_astore (lv' := [(4, .ref q9), (0, .ref (ad 0 0)), (1, .int x), (2, .int y), (3, .ref oa)]) hx hb dL_send_17 hl (by decide) rfl (fun ls hl => ?_)
      refine lv_iconst (v := 2) hx hb dL_send_19 (by decide) ?_
      exact rh_iret hx hb hr hlocks (Or.inr (Or.inr (Or.inl ⟨hc9, rfl, ⟨_, hout⟩, hW⟩))) hS (by decide) (by decide) dL_send_20
    · refine vx_catch (name := exn 3) hown [⟨0, 10, 13, 13⟩, ⟨0, 10, 17, 15⟩] ⟨0, 10, 21, 24⟩ [] (hex.trans rfl) (fun z hz => by rcases List.mem_cons.mp hz with rfl | hz; exact Or.inr ⟨by decide, exn 1, (hts (.classLink RL 13 (exn 1)) (by decide +kernel)), hnc9 (exn 3, exn 1) (by decide)⟩; rw [List.mem_singleton] at hz; subst hz; exact Or.inr ⟨by decide, exn 2, (hts (.classLink RL 15 (exn 2)) (by decide +kernel)), hnc9 (exn 3, exn 2) (by decide)⟩) (by decide) (by decide) (hts (.classLink RL 24 (exn 3)) (by decide +kernel)) (va_Nw.use rfl (hE.2.2.2.1 (exn 3) (by decide))) g1 g2 g3 ?_
      refine W.eq (g2 := F0 m 21 ls [.ref q9]) rfl ?_
      refine lv_astore (lv' := [(4, .ref q9), (0, .ref (ad 0 0)), (1, .int x), (2, .int y), (3, .ref oa)]) hx hb dL_send_21 hl (by decide) rfl (fun ls hl => ?_)
      refine lv_iconst (v := 3) hx hb dL_send_23 (by decide) ?_
      exact rh_iret hx hb hr hlocks (Or.inr (Or.inr (Or.inr (⟨hc9, rfl, ⟨_, hout⟩, hW⟩)))) hS (by decide) (by decide) dL_send_24
  · obtain ⟨i9, hc0, hc1, hc2, hc3, hc4, rfl, hW⟩ := hN9
    have hout := hout.kept (hk9 _ hlo9 (fun z => z.2 rfl))
    refine W.eq (g2 := F0 m 8 ls [.int (c_send r v nf nc i9 y 8 i9 2), .int 0, .ref oa]) rfl ?_
    refine lv_i2l hx hb dL_send_8 rfl ?_
    refine rh_last0 (x := (((c_send r v nf nc i9 y 8 i9 2)).toInt64)) hx hb hE hout hS hAo 0 (by decide) (by decide) rfl dL_send_9 (fun H1 locs hout hz8 ho8 hS => ?_)
    have hW := hW.keptD hD ho8
    refine lv_goto (tgt := 25) hx hb dL_send_10 (by decide) ?_
    refine lv_iconst (v := 0) hx hb dL_send_25 (by decide) ?_
    exact rh_iret hx hb hr hlocks (Or.inl ⟨i9, hc0, hc1, hc2, hc3, hc4, rfl, ⟨_, if_pos rfl, hout⟩, hW⟩) hS (by decide) (by decide) dL_send_26
set_option maxHeartbeats 4000000 in
set_option maxRecDepth 100000 in
theorem hl_stateOf (l : Launch) (hlf : l.stackTraces = false) {G : va_G} {ca : Nat → ClassId} {A : Nat → Prop} {ad : Nat → Nat → Nat} {nf nc : Nat} {r : rh_R} {v : rh_V} {oa : Nat} {f : Nat → Int64} (hAo : A oa) (hD : rh_D (rh_A1 A oa) ad (fun k i => i < rh_n nf nc k)) (hwf : rh_wf nf nc r v) (x : Int32) : vx_Met l yL_stateOf wsL_stateOf ({ frames := 9, cells := 5, slots := 40, locals := 270 } : Room) (rh_Pl G ca A [.ref (ad 0 0), .int x, .ref oa] (fun H => rh_W G ca ad nf nc r v H ∧ rh_o G ca oa f H)) (rh_Q A (fun o H => (∃ i : Nat, i < nf ∧ x = nI i ∧ o = some (.int 0) ∧ (∃ f9 : Nat → Int64, f9 0 = ((v 8 i 2)).toInt64 ∧ rh_o G ca oa f9 H) ∧ rh_W G ca ad nf nc r v H) ∨ ((¬ ix x nf) ∧ o = some (.int 1) ∧ (∃ f9 : Nat → Int64, rh_o G ca oa f9 H) ∧ rh_W G ca ad nf nc r v H))) (rh_XC A rh_no) 5 40 A := by
  refine rh_enterl (cc := cL_stateOf) (maxL := 4) (ret := (some .int)) (hh := [(0, 9, 12, 13)]) (by decide) rfl (Nat.le_of_ble_eq_true rfl) ?_
  intro p e s m below meth c ls hx hb hr hml hown hts hlocks hex hin hE hnc9 hA hΦ hl
  obtain ⟨hW, hout⟩ := hΦ
  have hlo9 : oa < s.heap.size := hout.lt
  have hS : va_S A s.heap s.heap [] := va_S.rf
  have hl : lv_has ls 4 [(0, .ref (ad 0 0)), (1, .int x), (2, .ref oa)] := hl
  refine lv_aload_n hx hb dL_stateOf_0 rfl (lv_at hl 2 rfl) ?_
  refine lv_iconst (v := 0) hx hb dL_stateOf_1 (by decide) ?_
  refine lv_aload_n hx hb dL_stateOf_2 rfl (lv_at hl 0 rfl) ?_
  refine lv_iload_n hx hb dL_stateOf_3 rfl (lv_at hl 1 rfl) ?_
  have hA19 : ∀ q, rh_A1 A oa q → A q := fun q h => h.1
  have hB19 : ∀ q : Nat, s.heap.size ≤ q → rh_A1 A oa q := fun q h => ⟨hA q h, by omega⟩
  refine rh_call2 (vx_runV (As := [.int x]) (rest := [.int 0, .ref oa]) ⟨hx, hb, hml, hown, hts⟩ (ct_X4_stateOf l hlf hD hwf x) (cwV 1 hts gL_stateOf_X4_stateOf rfl rfl rfl (by decide +kernel) ⟨by decide, by decide⟩) (rh_preV2 hE hS hA19 hB19 (hW.at 0 0 Nat.zero_lt_one) rfl hW) rfl rfl hl.1 rfl (lv_room (Nat.le_of_ble_eq_true rfl)) dL_stateOf_4 ⟨by decide, by decide⟩) hS hA19 (fun E ce q9 H locs hX9 hz9 hk9 hS g1 g2 g3 => ?_) (fun o H locs hN9 hz9 hk9 hS => ?_)
  · obtain ⟨hX9, hW⟩ := hX9
    have hout := hout.kept (hk9 _ hlo9 (fun z => z.2 rfl))
    obtain ⟨rfl, hc9⟩ := hX9
    refine vx_catch (name := exn 1) hown [] ⟨0, 9, 12, 13⟩ [] (hex.trans rfl) (fun z hz => absurd hz (List.not_mem_nil)) (by decide) (by decide) (hts (.classLink RL 13 (exn 1)) (by decide +kernel)) (va_Nw.use rfl (hE.2.2.2.1 (exn 1) (by decide))) g1 g2 g3 ?_
    refine W.eq (g2 := F0 m 12 ls [.ref q9]) rfl ?_
    refine lv_astore_n (lv' := [(3, .ref q9), (0, .ref (ad 0 0)), (1, .int x), (2, .ref oa)]) hx hb dL_stateOf_12 rfl hl (by decide) rfl (fun ls hl => ?_)
    refine lv_iconst (v := 1) hx hb dL_stateOf_13 (by decide) ?_
    exact rh_iret hx hb hr hlocks (Or.inr (⟨hc9, rfl, ⟨_, hout⟩, hW⟩)) hS (by decide) (by decide) dL_stateOf_14
  · obtain ⟨i9, hc0, hc1, rfl, hW⟩ := hN9
    have hout := hout.kept (hk9 _ hlo9 (fun z => z.2 rfl))
    refine W.eq (g2 := F0 m 7 ls [.int (v 8 i9 2), .int 0, .ref oa]) rfl ?_
    refine lv_i2l hx hb dL_stateOf_7 rfl ?_
    refine rh_last0 (x := (((v 8 i9 2)).toInt64)) hx hb hE hout hS hAo 0 (by decide) (by decide) rfl dL_stateOf_8 (fun H1 locs hout hz8 ho8 hS => ?_)
    have hW := hW.keptD hD ho8
    refine lv_goto (tgt := 15) hx hb dL_stateOf_9 (by decide) ?_
    refine lv_iconst (v := 0) hx hb dL_stateOf_15 (by decide) ?_
    exact rh_iret hx hb hr hlocks (Or.inl ⟨i9, hc0, hc1, rfl, ⟨_, if_pos rfl, hout⟩, hW⟩) hS (by decide) (by decide) dL_stateOf_16
set_option maxHeartbeats 4000000 in
set_option maxRecDepth 100000 in
theorem hl_expected (l : Launch) (hlf : l.stackTraces = false) {G : va_G} {ca : Nat → ClassId} {A : Nat → Prop} {ad : Nat → Nat → Nat} {nf nc : Nat} {r : rh_R} {v : rh_V} {oa : Nat} {f : Nat → Int64} (hAo : A oa) (hD : rh_D (rh_A1 A oa) ad (fun k i => i < rh_n nf nc k)) (hwf : rh_wf nf nc r v) (x y : Int32) : vx_Met l yL_expected wsL_expected ({ frames := 9, cells := 5, slots := 40, locals := 270 } : Room) (rh_Pl G ca A [.ref (ad 0 0), .int x, .int y, .ref oa] (fun H => rh_W G ca ad nf nc r v H ∧ rh_o G ca oa f H)) (rh_Q A (fun o H => (∃ h k : Nat, h < 4 ∧ k < 4 ∧ h ≠ k ∧ x = nI h ∧ y = nI k ∧ o = some (.int 0) ∧ (∃ f9 : Nat → Int64, f9 0 = ((v 6 (h * 4 + k) 1)).toInt64 ∧ rh_o G ca oa f9 H) ∧ rh_W G ca ad nf nc r v H) ∨ ((¬ (ix x 4 ∧ ix y 4)) ∧ o = some (.int 1) ∧ (∃ f9 : Nat → Int64, rh_o G ca oa f9 H) ∧ rh_W G ca ad nf nc r v H) ∨ ((ix x 4 ∧ ix y 4 ∧ x = y) ∧ o = some (.int 2) ∧ (∃ f9 : Nat → Int64, rh_o G ca oa f9 H) ∧ rh_W G ca ad nf nc r v H))) (rh_XC A rh_no) 5 40 A := by
  refine rh_enterl (cc := cL_expected) (maxL := 5) (ret := (some .int)) (hh := [(0, 10, 13, 13), (0, 10, 17, 15)]) (by decide) rfl (Nat.le_of_ble_eq_true rfl) ?_
  intro p e s m below meth c ls hx hb hr hml hown hts hlocks hex hin hE hnc9 hA hΦ hl
  obtain ⟨hW, hout⟩ := hΦ
  have hlo9 : oa < s.heap.size := hout.lt
  have hS : va_S A s.heap s.heap [] := va_S.rf
  have hl : lv_has ls 5 [(0, .ref (ad 0 0)), (1, .int x), (2, .int y), (3, .ref oa)] := hl
  refine lv_aload_n hx hb dL_expected_0 rfl (lv_at hl 3 rfl) ?_
  refine lv_iconst (v := 0) hx hb dL_expected_1 (by decide) ?_
  refine lv_aload_n hx hb dL_expected_2 rfl (lv_at hl 0 rfl) ?_
  refine lv_iload_n hx hb dL_expected_3 rfl (lv_at hl 1 rfl) ?_
  refine lv_iload_n hx hb dL_expected_4 rfl (lv_at hl 2 rfl) ?_
  have hA19 : ∀ q, rh_A1 A oa q → A q := fun q h => h.1
  have hB19 : ∀ q : Nat, s.heap.size ≤ q → rh_A1 A oa q := fun q h => ⟨hA q h, by omega⟩
  refine rh_call2 (vx_runV (As := [.int x, .int y]) (rest := [.int 0, .ref oa]) ⟨hx, hb, hml, hown, hts⟩ (ct_X4_expected l hlf hD hwf x y) (cwV 2 hts gL_expected_X4_expected rfl rfl rfl (by decide +kernel) ⟨by decide, by decide⟩) (rh_preV2 hE hS hA19 hB19 (hW.at 0 0 Nat.zero_lt_one) rfl hW) rfl rfl hl.1 rfl (lv_room (Nat.le_of_ble_eq_true rfl)) dL_expected_5 ⟨by decide, by decide⟩) hS hA19 (fun E ce q9 H locs hX9 hz9 hk9 hS g1 g2 g3 => ?_) (fun o H locs hN9 hz9 hk9 hS => ?_)
  · obtain ⟨hX9, hW⟩ := hX9
    have hout := hout.kept (hk9 _ hlo9 (fun z => z.2 rfl))
    rcases hX9 with ⟨rfl, hc9⟩ | ⟨rfl, hc9⟩
    · refine vx_catch (name := exn 1) hown [] ⟨0, 10, 13, 13⟩ [⟨0, 10, 17, 15⟩] (hex.trans rfl) (fun z hz => absurd hz (List.not_mem_nil)) (by decide) (by decide) (hts (.classLink RL 13 (exn 1)) (by decide +kernel)) (va_Nw.use rfl (hE.2.2.2.1 (exn 1) (by decide))) g1 g2 g3 ?_
      refine W.eq (g2 := F0 m 13 ls [.ref q9]) rfl ?_
      refine lv_astore (lv' := [(4, .ref q9), (0, .ref (ad 0 0)), (1, .int x), (2, .int y), (3, .ref oa)]) hx hb dL_expected_13 hl (by decide) rfl (fun ls hl => ?_)
      refine lv_iconst (v := 1) hx hb dL_expected_15 (by decide) ?_
      exact rh_iret hx hb hr hlocks (Or.inr (Or.inl ⟨hc9, rfl, ⟨_, hout⟩, hW⟩)) hS (by decide) (by decide) dL_expected_16
    · refine vx_catch (name := exn 2) hown [⟨0, 10, 13, 13⟩] ⟨0, 10, 17, 15⟩ [] (hex.trans rfl) (fun z hz => by rw [List.mem_singleton] at hz; subst hz; exact Or.inr ⟨by decide, exn 1, (hts (.classLink RL 13 (exn 1)) (by decide +kernel)), hnc9 (exn 2, exn 1) (by decide)⟩) (by decide) (by decide) (hts (.classLink RL 15 (exn 2)) (by decide +kernel)) (va_Nw.use rfl (hE.2.2.2.1 (exn 2) (by decide))) g1 g2 g3 ?_
      refine W.eq (g2 := F0 m 17 ls [.ref q9]) rfl ?_
      refine lv_astore (lv' := [(4, .ref q9), (0, .ref (ad 0 0)), (1, .int x), (2, .int y), (3, .ref oa)]) hx hb dL_expected_17 hl (by decide) rfl (fun ls hl => ?_)
      refine lv_iconst (v := 2) hx hb dL_expected_19 (by decide) ?_
      exact rh_iret hx hb hr hlocks (Or.inr (Or.inr (⟨hc9, rfl, ⟨_, hout⟩, hW⟩))) hS (by decide) (by decide) dL_expected_20
  · obtain ⟨h9, k9, hc0, hc1, hc2, hc3, hc4, rfl, hW⟩ := hN9
    have hout := hout.kept (hk9 _ hlo9 (fun z => z.2 rfl))
    refine W.eq (g2 := F0 m 8 ls [.int (v 6 (h9 * 4 + k9) 1), .int 0, .ref oa]) rfl ?_
    refine lv_i2l hx hb dL_expected_8 rfl ?_
    refine rh_last0 (x := (((v 6 (h9 * 4 + k9) 1)).toInt64)) hx hb hE hout hS hAo 0 (by decide) (by decide) rfl dL_expected_9 (fun H1 locs hout hz8 ho8 hS => ?_)
    have hW := hW.keptD hD ho8
    refine lv_goto (tgt := 21) hx hb dL_expected_10 (by decide) ?_
    refine lv_iconst (v := 0) hx hb dL_expected_21 (by decide) ?_
    exact rh_iret hx hb hr hlocks (Or.inl ⟨h9, k9, hc0, hc1, hc2, hc3, hc4, rfl, ⟨_, if_pos rfl, hout⟩, hW⟩) hS (by decide) (by decide) dL_expected_22
set_option maxHeartbeats 4000000 in
set_option maxRecDepth 100000 in
theorem hl_lacking (l : Launch) (hlf : l.stackTraces = false) {G : va_G} {ca : Nat → ClassId} {A : Nat → Prop} {ad : Nat → Nat → Nat} {nf nc : Nat} {r : rh_R} {v : rh_V} {oa : Nat} {f : Nat → Int64} (hAo : A oa) (hD : rh_D (rh_A1 A oa) ad (fun k i => i < rh_n nf nc k)) (hwf : rh_wf nf nc r v) (x y : Int32) : vx_Met l yL_lacking wsL_lacking ({ frames := 9, cells := 5, slots := 40, locals := 270 } : Room) (rh_Pl G ca A [.ref (ad 0 0), .int x, .int y, .ref oa] (fun H => rh_W G ca ad nf nc r v H ∧ rh_o G ca oa f H)) (rh_Q A (fun o H => (∃ h k : Nat, h < 4 ∧ k < 4 ∧ h ≠ k ∧ x = nI h ∧ y = nI k ∧ o = some (.int 0) ∧ (∃ f9 : Nat → Int64, f9 0 = ((if c_wn r v (h * 4 + k) nf = 0 then 0 else c_wg r v (h * 4 + k) nf - v 6 (h * 4 + k) 1 + 1 - c_wn r v (h * 4 + k) nf)).toInt64 ∧ rh_o G ca oa f9 H) ∧ rh_W G ca ad nf nc r v H) ∨ ((¬ (ix x 4 ∧ ix y 4)) ∧ o = some (.int 1) ∧ (∃ f9 : Nat → Int64, rh_o G ca oa f9 H) ∧ rh_W G ca ad nf nc r v H) ∨ ((ix x 4 ∧ ix y 4 ∧ x = y) ∧ o = some (.int 2) ∧ (∃ f9 : Nat → Int64, rh_o G ca oa f9 H) ∧ rh_W G ca ad nf nc r v H))) (rh_XC A rh_no) 5 40 A := by
  refine rh_enterl (cc := cL_lacking) (maxL := 5) (ret := (some .int)) (hh := [(0, 10, 13, 13), (0, 10, 17, 15)]) (by decide) rfl (Nat.le_of_ble_eq_true rfl) ?_
  intro p e s m below meth c ls hx hb hr hml hown hts hlocks hex hin hE hnc9 hA hΦ hl
  obtain ⟨hW, hout⟩ := hΦ
  have hlo9 : oa < s.heap.size := hout.lt
  have hS : va_S A s.heap s.heap [] := va_S.rf
  have hl : lv_has ls 5 [(0, .ref (ad 0 0)), (1, .int x), (2, .int y), (3, .ref oa)] := hl
  refine lv_aload_n hx hb dL_lacking_0 rfl (lv_at hl 3 rfl) ?_
  refine lv_iconst (v := 0) hx hb dL_lacking_1 (by decide) ?_
  refine lv_aload_n hx hb dL_lacking_2 rfl (lv_at hl 0 rfl) ?_
  refine lv_iload_n hx hb dL_lacking_3 rfl (lv_at hl 1 rfl) ?_
  refine lv_iload_n hx hb dL_lacking_4 rfl (lv_at hl 2 rfl) ?_
  have hA19 : ∀ q, rh_A1 A oa q → A q := fun q h => h.1
  have hB19 : ∀ q : Nat, s.heap.size ≤ q → rh_A1 A oa q := fun q h => ⟨hA q h, by omega⟩
  refine rh_call2 (vx_runV (As := [.int x, .int y]) (rest := [.int 0, .ref oa]) ⟨hx, hb, hml, hown, hts⟩ (ct_X4_lacking l hlf hD hwf x y) (cwV 2 hts gL_lacking_X4_lacking rfl rfl rfl (by decide +kernel) ⟨by decide, by decide⟩) (rh_preV2 hE hS hA19 hB19 (hW.at 0 0 Nat.zero_lt_one) rfl hW) rfl rfl hl.1 rfl (lv_room (Nat.le_of_ble_eq_true rfl)) dL_lacking_5 ⟨by decide, by decide⟩) hS hA19 (fun E ce q9 H locs hX9 hz9 hk9 hS g1 g2 g3 => ?_) (fun o H locs hN9 hz9 hk9 hS => ?_)
  · obtain ⟨hX9, hW⟩ := hX9
    have hout := hout.kept (hk9 _ hlo9 (fun z => z.2 rfl))
    rcases hX9 with ⟨rfl, hc9⟩ | ⟨rfl, hc9⟩
    · refine vx_catch (name := exn 1) hown [] ⟨0, 10, 13, 13⟩ [⟨0, 10, 17, 15⟩] (hex.trans rfl) (fun z hz => absurd hz (List.not_mem_nil)) (by decide) (by decide) (hts (.classLink RL 13 (exn 1)) (by decide +kernel)) (va_Nw.use rfl (hE.2.2.2.1 (exn 1) (by decide))) g1 g2 g3 ?_
      refine W.eq (g2 := F0 m 13 ls [.ref q9]) rfl ?_
      refine lv_astore (lv' := [(4, .ref q9), (0, .ref (ad 0 0)), (1, .int x), (2, .int y), (3, .ref oa)]) hx hb dL_lacking_13 hl (by decide) rfl (fun ls hl => ?_)
      refine lv_iconst (v := 1) hx hb dL_lacking_15 (by decide) ?_
      exact rh_iret hx hb hr hlocks (Or.inr (Or.inl ⟨hc9, rfl, ⟨_, hout⟩, hW⟩)) hS (by decide) (by decide) dL_lacking_16
    · refine vx_catch (name := exn 2) hown [⟨0, 10, 13, 13⟩] ⟨0, 10, 17, 15⟩ [] (hex.trans rfl) (fun z hz => by rw [List.mem_singleton] at hz; subst hz; exact Or.inr ⟨by decide, exn 1, (hts (.classLink RL 13 (exn 1)) (by decide +kernel)), hnc9 (exn 2, exn 1) (by decide)⟩) (by decide) (by decide) (hts (.classLink RL 15 (exn 2)) (by decide +kernel)) (va_Nw.use rfl (hE.2.2.2.1 (exn 2) (by decide))) g1 g2 g3 ?_
      refine W.eq (g2 := F0 m 17 ls [.ref q9]) rfl ?_
      refine lv_astore (lv' := [(4, .ref q9), (0, .ref (ad 0 0)), (1, .int x), (2, .int y), (3, .ref oa)]) hx hb dL_lacking_17 hl (by decide) rfl (fun ls hl => ?_)
      refine lv_iconst (v := 2) hx hb dL_lacking_19 (by decide) ?_
      exact rh_iret hx hb hr hlocks (Or.inr (Or.inr (⟨hc9, rfl, ⟨_, hout⟩, hW⟩))) hS (by decide) (by decide) dL_lacking_20
  · obtain ⟨h9, k9, hc0, hc1, hc2, hc3, hc4, rfl, hW⟩ := hN9
    have hout := hout.kept (hk9 _ hlo9 (fun z => z.2 rfl))
    refine W.eq (g2 := F0 m 8 ls [.int (if c_wn r v (h9 * 4 + k9) nf = 0 then 0 else c_wg r v (h9 * 4 + k9) nf - v 6 (h9 * 4 + k9) 1 + 1 - c_wn r v (h9 * 4 + k9) nf), .int 0, .ref oa]) rfl ?_
    refine lv_i2l hx hb dL_lacking_8 rfl ?_
    refine rh_last0 (x := (((if c_wn r v (h9 * 4 + k9) nf = 0 then 0 else c_wg r v (h9 * 4 + k9) nf - v 6 (h9 * 4 + k9) 1 + 1 - c_wn r v (h9 * 4 + k9) nf)).toInt64)) hx hb hE hout hS hAo 0 (by decide) (by decide) rfl dL_lacking_9 (fun H1 locs hout hz8 ho8 hS => ?_)
    have hW := hW.keptD hD ho8
    refine lv_goto (tgt := 21) hx hb dL_lacking_10 (by decide) ?_
    refine lv_iconst (v := 0) hx hb dL_lacking_21 (by decide) ?_
    exact rh_iret hx hb hr hlocks (Or.inl ⟨h9, k9, hc0, hc1, hc2, hc3, hc4, rfl, ⟨_, if_pos rfl, hout⟩, hW⟩) hS (by decide) (by decide) dL_lacking_22
set_option maxHeartbeats 4000000 in
set_option maxRecDepth 100000 in
theorem hl_call (l : Launch) (hlf : l.stackTraces = false) {G : va_G} {ca : Nat → ClassId} {A : Nat → Prop} {ad : Nat → Nat → Nat} {nf nc : Nat} {r : rh_R} {v : rh_V} {oa : Nat} {f : Nat → Int64} (hAo : A oa) (hD : rh_D (rh_A1 A oa) ad (fun k i => i < rh_n nf nc k)) (hwf : rh_wf nf nc r v) (x : Int32) : vx_Met l yL_call wsL_call ({ frames := 9, cells := 5, slots := 40, locals := 270 } : Room) (rh_Pl G ca A [.ref (ad 0 0), .int x, .ref oa] (fun H => rh_W G ca ad nf nc r v H ∧ rh_o G ca oa f H)) (rh_Q A (fun o H => (∃ i : Nat, i < nc ∧ x = nI i ∧ o = some (.int 0) ∧ (∃ f9 : Nat → Int64, f9 0 = ((v 9 i 3)).toInt64 ∧ rh_o G ca oa f9 H) ∧ rh_W G ca ad nf nc r v H) ∨ ((¬ ix x nc) ∧ o = some (.int 1) ∧ (∃ f9 : Nat → Int64, rh_o G ca oa f9 H) ∧ rh_W G ca ad nf nc r v H))) (rh_XC A rh_no) 5 40 A := by
  refine rh_enterl (cc := cL_call) (maxL := 4) (ret := (some .int)) (hh := [(0, 9, 12, 13)]) (by decide) rfl (Nat.le_of_ble_eq_true rfl) ?_
  intro p e s m below meth c ls hx hb hr hml hown hts hlocks hex hin hE hnc9 hA hΦ hl
  obtain ⟨hW, hout⟩ := hΦ
  have hlo9 : oa < s.heap.size := hout.lt
  have hS : va_S A s.heap s.heap [] := va_S.rf
  have hl : lv_has ls 4 [(0, .ref (ad 0 0)), (1, .int x), (2, .ref oa)] := hl
  refine lv_aload_n hx hb dL_call_0 rfl (lv_at hl 2 rfl) ?_
  refine lv_iconst (v := 0) hx hb dL_call_1 (by decide) ?_
  refine lv_aload_n hx hb dL_call_2 rfl (lv_at hl 0 rfl) ?_
  refine lv_iload_n hx hb dL_call_3 rfl (lv_at hl 1 rfl) ?_
  have hA19 : ∀ q, rh_A1 A oa q → A q := fun q h => h.1
  have hB19 : ∀ q : Nat, s.heap.size ≤ q → rh_A1 A oa q := fun q h => ⟨hA q h, by omega⟩
  refine rh_call2 (vx_runV (As := [.int x]) (rest := [.int 0, .ref oa]) ⟨hx, hb, hml, hown, hts⟩ (ct_X4_call l hlf hD hwf x) (cwV 1 hts gL_call_X4_call rfl rfl rfl (by decide +kernel) ⟨by decide, by decide⟩) (rh_preV2 hE hS hA19 hB19 (hW.at 0 0 Nat.zero_lt_one) rfl hW) rfl rfl hl.1 rfl (lv_room (Nat.le_of_ble_eq_true rfl)) dL_call_4 ⟨by decide, by decide⟩) hS hA19 (fun E ce q9 H locs hX9 hz9 hk9 hS g1 g2 g3 => ?_) (fun o H locs hN9 hz9 hk9 hS => ?_)
  · obtain ⟨hX9, hW⟩ := hX9
    have hout := hout.kept (hk9 _ hlo9 (fun z => z.2 rfl))
    obtain ⟨rfl, hc9⟩ := hX9
    refine vx_catch (name := exn 1) hown [] ⟨0, 9, 12, 13⟩ [] (hex.trans rfl) (fun z hz => absurd hz (List.not_mem_nil)) (by decide) (by decide) (hts (.classLink RL 13 (exn 1)) (by decide +kernel)) (va_Nw.use rfl (hE.2.2.2.1 (exn 1) (by decide))) g1 g2 g3 ?_
    refine W.eq (g2 := F0 m 12 ls [.ref q9]) rfl ?_
    refine lv_astore_n (lv' := [(3, .ref q9), (0, .ref (ad 0 0)), (1, .int x), (2, .ref oa)]) hx hb dL_call_12 rfl hl (by decide) rfl (fun ls hl => ?_)
    refine lv_iconst (v := 1) hx hb dL_call_13 (by decide) ?_
    exact rh_iret hx hb hr hlocks (Or.inr (⟨hc9, rfl, ⟨_, hout⟩, hW⟩)) hS (by decide) (by decide) dL_call_14
  · obtain ⟨i9, hc0, hc1, rfl, hW⟩ := hN9
    have hout := hout.kept (hk9 _ hlo9 (fun z => z.2 rfl))
    refine W.eq (g2 := F0 m 7 ls [.int (v 9 i9 3), .int 0, .ref oa]) rfl ?_
    refine lv_i2l hx hb dL_call_7 rfl ?_
    refine rh_last0 (x := (((v 9 i9 3)).toInt64)) hx hb hE hout hS hAo 0 (by decide) (by decide) rfl dL_call_8 (fun H1 locs hout hz8 ho8 hS => ?_)
    have hW := hW.keptD hD ho8
    refine lv_goto (tgt := 15) hx hb dL_call_9 (by decide) ?_
    refine lv_iconst (v := 0) hx hb dL_call_15 (by decide) ?_
    exact rh_iret hx hb hr hlocks (Or.inl ⟨i9, hc0, hc1, rfl, ⟨_, if_pos rfl, hout⟩, hW⟩) hS (by decide) (by decide) dL_call_16
set_option maxHeartbeats 4000000 in
set_option maxRecDepth 100000 in
theorem hl_monthOf (l : Launch) (hlf : l.stackTraces = false) {G : va_G} {ca : Nat → ClassId} {A : Nat → Prop} {ad : Nat → Nat → Nat} {nf nc : Nat} {r : rh_R} {v : rh_V} {oa : Nat} {f : Nat → Int64} (hAo : A oa) (hD : rh_D (rh_A1 A oa) ad (fun k i => i < rh_n nf nc k)) (hwf : rh_wf nf nc r v) (x : Int32) : vx_Met l yL_monthOf wsL_monthOf ({ frames := 9, cells := 5, slots := 40, locals := 270 } : Room) (rh_Pl G ca A [.ref (ad 0 0), .int x, .ref oa] (fun H => rh_W G ca ad nf nc r v H ∧ rh_o G ca oa f H)) (rh_Q A (fun o H => (∃ i : Nat, i < nc ∧ x = nI i ∧ o = some (.int 0) ∧ (∃ f9 : Nat → Int64, f9 0 = ((v 9 i 4)).toInt64 ∧ rh_o G ca oa f9 H) ∧ rh_W G ca ad nf nc r v H) ∨ ((¬ ix x nc) ∧ o = some (.int 1) ∧ (∃ f9 : Nat → Int64, rh_o G ca oa f9 H) ∧ rh_W G ca ad nf nc r v H))) (rh_XC A rh_no) 5 40 A := by
  refine rh_enterl (cc := cL_monthOf) (maxL := 4) (ret := (some .int)) (hh := [(0, 9, 12, 13)]) (by decide) rfl (Nat.le_of_ble_eq_true rfl) ?_
  intro p e s m below meth c ls hx hb hr hml hown hts hlocks hex hin hE hnc9 hA hΦ hl
  obtain ⟨hW, hout⟩ := hΦ
  have hlo9 : oa < s.heap.size := hout.lt
  have hS : va_S A s.heap s.heap [] := va_S.rf
  have hl : lv_has ls 4 [(0, .ref (ad 0 0)), (1, .int x), (2, .ref oa)] := hl
  refine lv_aload_n hx hb dL_monthOf_0 rfl (lv_at hl 2 rfl) ?_
  refine lv_iconst (v := 0) hx hb dL_monthOf_1 (by decide) ?_
  refine lv_aload_n hx hb dL_monthOf_2 rfl (lv_at hl 0 rfl) ?_
  refine lv_iload_n hx hb dL_monthOf_3 rfl (lv_at hl 1 rfl) ?_
  have hA19 : ∀ q, rh_A1 A oa q → A q := fun q h => h.1
  have hB19 : ∀ q : Nat, s.heap.size ≤ q → rh_A1 A oa q := fun q h => ⟨hA q h, by omega⟩
  refine rh_call2 (vx_runV (As := [.int x]) (rest := [.int 0, .ref oa]) ⟨hx, hb, hml, hown, hts⟩ (ct_X4_monthOf l hlf hD hwf x) (cwV 1 hts gL_monthOf_X4_monthOf rfl rfl rfl (by decide +kernel) ⟨by decide, by decide⟩) (rh_preV2 hE hS hA19 hB19 (hW.at 0 0 Nat.zero_lt_one) rfl hW) rfl rfl hl.1 rfl (lv_room (Nat.le_of_ble_eq_true rfl)) dL_monthOf_4 ⟨by decide, by decide⟩) hS hA19 (fun E ce q9 H locs hX9 hz9 hk9 hS g1 g2 g3 => ?_) (fun o H locs hN9 hz9 hk9 hS => ?_)
  · obtain ⟨hX9, hW⟩ := hX9
    have hout := hout.kept (hk9 _ hlo9 (fun z => z.2 rfl))
    obtain ⟨rfl, hc9⟩ := hX9
    refine vx_catch (name := exn 1) hown [] ⟨0, 9, 12, 13⟩ [] (hex.trans rfl) (fun z hz => absurd hz (List.not_mem_nil)) (by decide) (by decide) (hts (.classLink RL 13 (exn 1)) (by decide +kernel)) (va_Nw.use rfl (hE.2.2.2.1 (exn 1) (by decide))) g1 g2 g3 ?_
    refine W.eq (g2 := F0 m 12 ls [.ref q9]) rfl ?_
    refine lv_astore_n (lv' := [(3, .ref q9), (0, .ref (ad 0 0)), (1, .int x), (2, .ref oa)]) hx hb dL_monthOf_12 rfl hl (by decide) rfl (fun ls hl => ?_)
    refine lv_iconst (v := 1) hx hb dL_monthOf_13 (by decide) ?_
    exact rh_iret hx hb hr hlocks (Or.inr (⟨hc9, rfl, ⟨_, hout⟩, hW⟩)) hS (by decide) (by decide) dL_monthOf_14
  · obtain ⟨i9, hc0, hc1, rfl, hW⟩ := hN9
    have hout := hout.kept (hk9 _ hlo9 (fun z => z.2 rfl))
    refine W.eq (g2 := F0 m 7 ls [.int (v 9 i9 4), .int 0, .ref oa]) rfl ?_
    refine lv_i2l hx hb dL_monthOf_7 rfl ?_
    refine rh_last0 (x := (((v 9 i9 4)).toInt64)) hx hb hE hout hS hAo 0 (by decide) (by decide) rfl dL_monthOf_8 (fun H1 locs hout hz8 ho8 hS => ?_)
    have hW := hW.keptD hD ho8
    refine lv_goto (tgt := 15) hx hb dL_monthOf_9 (by decide) ?_
    refine lv_iconst (v := 0) hx hb dL_monthOf_15 (by decide) ?_
    exact rh_iret hx hb hr hlocks (Or.inl ⟨i9, hc0, hc1, rfl, ⟨_, if_pos rfl, hout⟩, hW⟩) hS (by decide) (by decide) dL_monthOf_16
set_option maxHeartbeats 4000000 in
set_option maxRecDepth 100000 in
theorem hl_owedFor (l : Launch) (hlf : l.stackTraces = false) {G : va_G} {ca : Nat → ClassId} {A : Nat → Prop} {ad : Nat → Nat → Nat} {nf nc : Nat} {r : rh_R} {v : rh_V} {oa : Nat} {f : Nat → Int64} (hAo : A oa) (hD : rh_D (rh_A1 A oa) ad (fun k i => i < rh_n nf nc k)) (hwf : rh_wf nf nc r v) (x : Int32) : vx_Met l yL_owedFor wsL_owedFor ({ frames := 9, cells := 5, slots := 40, locals := 270 } : Room) (rh_Pl G ca A [.ref (ad 0 0), .int x, .ref oa] (fun H => rh_W G ca ad nf nc r v H ∧ rh_o G ca oa f H)) (rh_Q A (fun o H => (∃ i : Nat, i < nc ∧ x = nI i ∧ o = some (.int 0) ∧ (∃ f9 : Nat → Int64, f9 0 = ((c_amt r v i)).toInt64 ∧ rh_o G ca oa f9 H) ∧ rh_W G ca ad nf nc r v H) ∨ ((¬ ix x nc) ∧ o = some (.int 1) ∧ (∃ f9 : Nat → Int64, rh_o G ca oa f9 H) ∧ rh_W G ca ad nf nc r v H))) (rh_XC A rh_no) 5 40 A := by
  refine rh_enterl (cc := cL_owedFor) (maxL := 4) (ret := (some .int)) (hh := [(0, 9, 12, 13)]) (by decide) rfl (Nat.le_of_ble_eq_true rfl) ?_
  intro p e s m below meth c ls hx hb hr hml hown hts hlocks hex hin hE hnc9 hA hΦ hl
  obtain ⟨hW, hout⟩ := hΦ
  have hlo9 : oa < s.heap.size := hout.lt
  have hS : va_S A s.heap s.heap [] := va_S.rf
  have hl : lv_has ls 4 [(0, .ref (ad 0 0)), (1, .int x), (2, .ref oa)] := hl
  refine lv_aload_n hx hb dL_owedFor_0 rfl (lv_at hl 2 rfl) ?_
  refine lv_iconst (v := 0) hx hb dL_owedFor_1 (by decide) ?_
  refine lv_aload_n hx hb dL_owedFor_2 rfl (lv_at hl 0 rfl) ?_
  refine lv_iload_n hx hb dL_owedFor_3 rfl (lv_at hl 1 rfl) ?_
  have hA19 : ∀ q, rh_A1 A oa q → A q := fun q h => h.1
  have hB19 : ∀ q : Nat, s.heap.size ≤ q → rh_A1 A oa q := fun q h => ⟨hA q h, by omega⟩
  refine rh_call2 (vx_runV (As := [.int x]) (rest := [.int 0, .ref oa]) ⟨hx, hb, hml, hown, hts⟩ (ct_X4_owedFor l hlf hD hwf x) (cwV 1 hts gL_owedFor_X4_owedFor rfl rfl rfl (by decide +kernel) ⟨by decide, by decide⟩) (rh_preV2 hE hS hA19 hB19 (hW.at 0 0 Nat.zero_lt_one) rfl hW) rfl rfl hl.1 rfl (lv_room (Nat.le_of_ble_eq_true rfl)) dL_owedFor_4 ⟨by decide, by decide⟩) hS hA19 (fun E ce q9 H locs hX9 hz9 hk9 hS g1 g2 g3 => ?_) (fun o H locs hN9 hz9 hk9 hS => ?_)
  · obtain ⟨hX9, hW⟩ := hX9
    have hout := hout.kept (hk9 _ hlo9 (fun z => z.2 rfl))
    obtain ⟨rfl, hc9⟩ := hX9
    refine vx_catch (name := exn 1) hown [] ⟨0, 9, 12, 13⟩ [] (hex.trans rfl) (fun z hz => absurd hz (List.not_mem_nil)) (by decide) (by decide) (hts (.classLink RL 13 (exn 1)) (by decide +kernel)) (va_Nw.use rfl (hE.2.2.2.1 (exn 1) (by decide))) g1 g2 g3 ?_
    refine W.eq (g2 := F0 m 12 ls [.ref q9]) rfl ?_
    refine lv_astore_n (lv' := [(3, .ref q9), (0, .ref (ad 0 0)), (1, .int x), (2, .ref oa)]) hx hb dL_owedFor_12 rfl hl (by decide) rfl (fun ls hl => ?_)
    refine lv_iconst (v := 1) hx hb dL_owedFor_13 (by decide) ?_
    exact rh_iret hx hb hr hlocks (Or.inr (⟨hc9, rfl, ⟨_, hout⟩, hW⟩)) hS (by decide) (by decide) dL_owedFor_14
  · obtain ⟨i9, hc0, hc1, rfl, hW⟩ := hN9
    have hout := hout.kept (hk9 _ hlo9 (fun z => z.2 rfl))
    refine W.eq (g2 := F0 m 7 ls [.int (c_amt r v i9), .int 0, .ref oa]) rfl ?_
    refine lv_i2l hx hb dL_owedFor_7 rfl ?_
    refine rh_last0 (x := (((c_amt r v i9)).toInt64)) hx hb hE hout hS hAo 0 (by decide) (by decide) rfl dL_owedFor_8 (fun H1 locs hout hz8 ho8 hS => ?_)
    have hW := hW.keptD hD ho8
    refine lv_goto (tgt := 15) hx hb dL_owedFor_9 (by decide) ?_
    refine lv_iconst (v := 0) hx hb dL_owedFor_15 (by decide) ?_
    exact rh_iret hx hb hr hlocks (Or.inl ⟨i9, hc0, hc1, rfl, ⟨_, if_pos rfl, hout⟩, hW⟩) hS (by decide) (by decide) dL_owedFor_16
set_option maxHeartbeats 4000000 in
set_option maxRecDepth 100000 in
theorem hl_dispute (l : Launch) (hlf : l.stackTraces = false) {G : va_G} {ca : Nat → ClassId} {A : Nat → Prop} {ad : Nat → Nat → Nat} {nf nc : Nat} {r : rh_R} {v : rh_V} (hD : rh_D A ad (fun k i => i < rh_n nf nc k)) (hwf : rh_wf nf nc r v) (x : Int32) : vx_Met l yL_dispute wsL_dispute ({ frames := 9, cells := 5, slots := 40, locals := 270 } : Room) (rh_Pl G ca A [.ref (ad 0 0), .int x] (fun H => rh_W G ca ad nf nc r v H)) (rh_Q A (fun o H => (∃ i : Nat, i < nc ∧ x = nI i ∧ v 9 i 3 = 1 ∧ ¬ 1 < v 0 0 6 - v 9 i 4 ∧ o = some (.int 0) ∧ rh_W G ca ad nf nc r (wr (wr v 9 i 3 2) 9 i 5 (v 0 0 6)) H) ∨ ((¬ ix x nc) ∧ o = some (.int 1) ∧ rh_W G ca ad nf nc r v H) ∨ ((∃ i : Nat, i < nc ∧ x = nI i ∧ ¬ (v 9 i 3 = 1 ∧ ¬ 1 < v 0 0 6 - v 9 i 4)) ∧ o = some (.int 2) ∧ rh_W G ca ad nf nc r v H))) (rh_XC A rh_no) 5 40 A := by
  refine rh_enterl (cc := cL_dispute) (maxL := 3) (ret := (some .int)) (hh := [(0, 5, 8, 13), (0, 5, 11, 24)]) (by decide) rfl (Nat.le_of_ble_eq_true rfl) ?_
  intro p e s m below meth c ls hx hb hr hml hown hts hlocks hex hin hE hnc9 hA hΦ hl
  have hW := hΦ
  have hS : va_S A s.heap s.heap [] := va_S.rf
  have hl : lv_has ls 3 [(0, .ref (ad 0 0)), (1, .int x)] := hl
  refine lv_aload_n hx hb dL_dispute_0 rfl (lv_at hl 0 rfl) ?_
  refine lv_iload_n hx hb dL_dispute_1 rfl (lv_at hl 1 rfl) ?_
  have hA19 : ∀ q, A q → A q := fun q h => h
  have hB19 : ∀ q : Nat, s.heap.size ≤ q → A q := hA
  refine rh_call2 (vx_runV (As := [.int x]) (rest := []) ⟨hx, hb, hml, hown, hts⟩ (ct_X4_dispute l hlf hD hwf x) (cwV 1 hts gL_dispute_X4_dispute rfl rfl rfl (by decide +kernel) ⟨by decide, by decide⟩) (rh_preV2 hE hS hA19 hB19 (hW.at 0 0 Nat.zero_lt_one) rfl hW) rfl rfl hl.1 rfl (lv_room (Nat.le_of_ble_eq_true rfl)) dL_dispute_2 ⟨by decide, by decide⟩) hS hA19 (fun E ce q9 H locs hX9 hz9 hk9 hS g1 g2 g3 => ?_) (fun o H locs hN9 hz9 hk9 hS => ?_)
  · obtain ⟨hX9, hW⟩ := hX9
    rcases hX9 with ⟨rfl, hc9⟩ | ⟨rfl, hc9⟩
    · refine vx_catch (name := exn 1) hown [] ⟨0, 5, 8, 13⟩ [⟨0, 5, 11, 24⟩] (hex.trans rfl) (fun z hz => absurd hz (List.not_mem_nil)) (by decide) (by decide) (hts (.classLink RL 13 (exn 1)) (by decide +kernel)) (va_Nw.use rfl (hE.2.2.2.1 (exn 1) (by decide))) g1 g2 g3 ?_
      refine W.eq (g2 := F0 m 8 ls [.ref q9]) rfl ?_
      refine lv_astore_n (lv' := [(2, .ref q9), (0, .ref (ad 0 0)), (1, .int x)]) hx hb dL_dispute_8 rfl hl (by decide) rfl (fun ls hl => ?_)
      refine lv_iconst (v := 1) hx hb dL_dispute_9 (by decide) ?_
      exact rh_iret hx hb hr hlocks (Or.inr (Or.inl ⟨hc9, rfl, hW⟩)) hS (by decide) (by decide) dL_dispute_10
    · refine vx_catch (name := exn 3) hown [⟨0, 5, 8, 13⟩] ⟨0, 5, 11, 24⟩ [] (hex.trans rfl) (fun z hz => by rw [List.mem_singleton] at hz; subst hz; exact Or.inr ⟨by decide, exn 1, (hts (.classLink RL 13 (exn 1)) (by decide +kernel)), hnc9 (exn 3, exn 1) (by decide)⟩) (by decide) (by decide) (hts (.classLink RL 24 (exn 3)) (by decide +kernel)) (va_Nw.use rfl (hE.2.2.2.1 (exn 3) (by decide))) g1 g2 g3 ?_
      refine W.eq (g2 := F0 m 11 ls [.ref q9]) rfl ?_
      refine lv_astore_n (lv' := [(2, .ref q9), (0, .ref (ad 0 0)), (1, .int x)]) hx hb dL_dispute_11 rfl hl (by decide) rfl (fun ls hl => ?_)
      refine lv_iconst (v := 2) hx hb dL_dispute_12 (by decide) ?_
      exact rh_iret hx hb hr hlocks (Or.inr (Or.inr (⟨hc9, rfl, hW⟩))) hS (by decide) (by decide) dL_dispute_13
  · obtain ⟨i9, hc0, hc1, hc2, hc3, rfl, hW⟩ := hN9
    refine W.eq (g2 := F0 m 5 ls []) rfl ?_
    refine lv_goto (tgt := 14) hx hb dL_dispute_5 (by decide) ?_
    refine lv_iconst (v := 0) hx hb dL_dispute_14 (by decide) ?_
    exact rh_iret hx hb hr hlocks (Or.inl ⟨i9, hc0, hc1, hc2, hc3, rfl, hW⟩) hS (by decide) (by decide) dL_dispute_15
set_option maxHeartbeats 4000000 in
set_option maxRecDepth 100000 in
theorem hl_answer (l : Launch) (hlf : l.stackTraces = false) {G : va_G} {ca : Nat → ClassId} {A : Nat → Prop} {ad : Nat → Nat → Nat} {nf nc : Nat} {r : rh_R} {v : rh_V} (hD : rh_D A ad (fun k i => i < rh_n nf nc k)) (hwf : rh_wf nf nc r v) (x bk : Int32) : vx_Met l yL_answer wsL_answer ({ frames := 9, cells := 5, slots := 40, locals := 270 } : Room) (rh_Pl G ca A [.ref (ad 0 0), .int x, .int bk] (fun H => rh_W G ca ad nf nc r v H)) (rh_Q A (fun o H => (∃ i : Nat, i < nc ∧ x = nI i ∧ v 9 i 3 = 2 ∧ o = some (.int 0) ∧ rh_W G ca ad nf nc r (wr v 9 i 3 (if bk = 0 then 4 else 3)) H) ∨ ((¬ ix x nc) ∧ o = some (.int 1) ∧ rh_W G ca ad nf nc r v H) ∨ ((∃ i : Nat, i < nc ∧ x = nI i ∧ ¬ v 9 i 3 = 2) ∧ o = some (.int 2) ∧ rh_W G ca ad nf nc r v H))) (rh_XC A rh_no) 5 40 A := by
  refine rh_enterl (cc := cL_answer) (maxL := 4) (ret := (some .int)) (hh := [(0, 6, 9, 13), (0, 6, 12, 24)]) (by decide) rfl (Nat.le_of_ble_eq_true rfl) ?_
  intro p e s m below meth c ls hx hb hr hml hown hts hlocks hex hin hE hnc9 hA hΦ hl
  have hW := hΦ
  have hS : va_S A s.heap s.heap [] := va_S.rf
  have hl : lv_has ls 4 [(0, .ref (ad 0 0)), (1, .int x), (2, .int bk)] := hl
  refine lv_aload_n hx hb dL_answer_0 rfl (lv_at hl 0 rfl) ?_
  refine lv_iload_n hx hb dL_answer_1 rfl (lv_at hl 1 rfl) ?_
  refine lv_iload_n hx hb dL_answer_2 rfl (lv_at hl 2 rfl) ?_
  have hA19 : ∀ q, A q → A q := fun q h => h
  have hB19 : ∀ q : Nat, s.heap.size ≤ q → A q := hA
  refine rh_call2 (vx_runV (As := [.int x, .int bk]) (rest := []) ⟨hx, hb, hml, hown, hts⟩ (ct_X4_answer l hlf hD hwf x bk) (cwV 2 hts gL_answer_X4_answer rfl rfl rfl (by decide +kernel) ⟨by decide, by decide⟩) (rh_preV2 hE hS hA19 hB19 (hW.at 0 0 Nat.zero_lt_one) rfl hW) rfl rfl hl.1 rfl (lv_room (Nat.le_of_ble_eq_true rfl)) dL_answer_3 ⟨by decide, by decide⟩) hS hA19 (fun E ce q9 H locs hX9 hz9 hk9 hS g1 g2 g3 => ?_) (fun o H locs hN9 hz9 hk9 hS => ?_)
  · obtain ⟨hX9, hW⟩ := hX9
    rcases hX9 with ⟨rfl, hc9⟩ | ⟨rfl, hc9⟩
    · refine vx_catch (name := exn 1) hown [] ⟨0, 6, 9, 13⟩ [⟨0, 6, 12, 24⟩] (hex.trans rfl) (fun z hz => absurd hz (List.not_mem_nil)) (by decide) (by decide) (hts (.classLink RL 13 (exn 1)) (by decide +kernel)) (va_Nw.use rfl (hE.2.2.2.1 (exn 1) (by decide))) g1 g2 g3 ?_
      refine W.eq (g2 := F0 m 9 ls [.ref q9]) rfl ?_
      refine lv_astore_n (lv' := [(3, .ref q9), (0, .ref (ad 0 0)), (1, .int x), (2, .int bk)]) hx hb dL_answer_9 rfl hl (by decide) rfl (fun ls hl => ?_)
      refine lv_iconst (v := 1) hx hb dL_answer_10 (by decide) ?_
      exact rh_iret hx hb hr hlocks (Or.inr (Or.inl ⟨hc9, rfl, hW⟩)) hS (by decide) (by decide) dL_answer_11
    · refine vx_catch (name := exn 3) hown [⟨0, 6, 9, 13⟩] ⟨0, 6, 12, 24⟩ [] (hex.trans rfl) (fun z hz => by rw [List.mem_singleton] at hz; subst hz; exact Or.inr ⟨by decide, exn 1, (hts (.classLink RL 13 (exn 1)) (by decide +kernel)), hnc9 (exn 3, exn 1) (by decide)⟩) (by decide) (by decide) (hts (.classLink RL 24 (exn 3)) (by decide +kernel)) (va_Nw.use rfl (hE.2.2.2.1 (exn 3) (by decide))) g1 g2 g3 ?_
      refine W.eq (g2 := F0 m 12 ls [.ref q9]) rfl ?_
      refine lv_astore_n (lv' := [(3, .ref q9), (0, .ref (ad 0 0)), (1, .int x), (2, .int bk)]) hx hb dL_answer_12 rfl hl (by decide) rfl (fun ls hl => ?_)
      refine lv_iconst (v := 2) hx hb dL_answer_13 (by decide) ?_
      exact rh_iret hx hb hr hlocks (Or.inr (Or.inr (⟨hc9, rfl, hW⟩))) hS (by decide) (by decide) dL_answer_14
  · obtain ⟨i9, hc0, hc1, hc2, rfl, hW⟩ := hN9
    refine W.eq (g2 := F0 m 6 ls []) rfl ?_
    refine lv_goto (tgt := 15) hx hb dL_answer_6 (by decide) ?_
    refine lv_iconst (v := 0) hx hb dL_answer_15 (by decide) ?_
    exact rh_iret hx hb hr hlocks (Or.inl ⟨i9, hc0, hc1, hc2, rfl, hW⟩) hS (by decide) (by decide) dL_answer_16
set_option maxHeartbeats 4000000 in
set_option maxRecDepth 100000 in
theorem hl_agree (l : Launch) (hlf : l.stackTraces = false) {G : va_G} {ca : Nat → ClassId} {A : Nat → Prop} {ad : Nat → Nat → Nat} {nf nc : Nat} {r : rh_R} {v : rh_V} (hD : rh_D A ad (fun k i => i < rh_n nf nc k)) (hwf : rh_wf nf nc r v) (x y vo rt bk : Int32) (hbk : bk = 0 ∨ bk = 1) : vx_Met l yL_agree wsL_agree ({ frames := 9, cells := 5, slots := 40, locals := 270 } : Room) (rh_Pl G ca A [.ref (ad 0 0), .int x, .int y, .int vo, .int rt, .int bk] (fun H => rh_W G ca ad nf nc r v H)) (rh_Q A (fun o H => (∃ h k : Nat, h < 4 ∧ k < 4 ∧ h ≠ k ∧ x = nI h ∧ y = nI k ∧ rng vo 0 1000000 ∧ rng rt 0 10000 ∧ o = some (.int 0) ∧ rh_W G ca ad nf nc r (wr (wr (wr v 6 (h * 4 + k) 3 vo) 6 (h * 4 + k) 4 rt) 6 (h * 4 + k) 5 bk) H) ∨ ((¬ (ix x 4 ∧ ix y 4)) ∧ o = some (.int 1) ∧ rh_W G ca ad nf nc r v H) ∨ ((ix x 4 ∧ ix y 4 ∧ (x = y ∨ ¬ (rng vo 0 1000000 ∧ rng rt 0 10000))) ∧ o = some (.int 2) ∧ rh_W G ca ad nf nc r v H))) (rh_XC A rh_no) 5 40 A := by
  refine rh_enterl (cc := cL_agree) (maxL := 7) (ret := (some .int)) (hh := [(0, 11, 14, 13), (0, 11, 18, 15)]) (by decide) rfl (Nat.le_of_ble_eq_true rfl) ?_
  intro p e s m below meth c ls hx hb hr hml hown hts hlocks hex hin hE hnc9 hA hΦ hl
  have hW := hΦ
  have hS : va_S A s.heap s.heap [] := va_S.rf
  have hl : lv_has ls 7 [(0, .ref (ad 0 0)), (1, .int x), (2, .int y), (3, .int vo), (4, .int rt), (5, .int bk)] := hl
  refine lv_aload_n hx hb dL_agree_0 rfl (lv_at hl 0 rfl) ?_
  refine lv_iload_n hx hb dL_agree_1 rfl (lv_at hl 1 rfl) ?_
  refine lv_iload_n hx hb dL_agree_2 rfl (lv_at hl 2 rfl) ?_
  refine lv_iload_n hx hb dL_agree_3 rfl (lv_at hl 3 rfl) ?_
  refine lv_iload hx hb dL_agree_4 (lv_at hl 4 rfl) ?_
  refine lv_iload hx hb dL_agree_6 (lv_at hl 5 rfl) ?_
  have hA19 : ∀ q, A q → A q := fun q h => h
  have hB19 : ∀ q : Nat, s.heap.size ≤ q → A q := hA
  refine rh_call2 (vx_runV (As := [.int x, .int y, .int vo, .int rt, .int bk]) (rest := []) ⟨hx, hb, hml, hown, hts⟩ (ct_X4_agree l hlf hD hwf x y vo rt bk hbk) (cwV 5 hts gL_agree_X4_agree rfl rfl rfl (by decide +kernel) ⟨by decide, by decide⟩) (rh_preV2 hE hS hA19 hB19 (hW.at 0 0 Nat.zero_lt_one) rfl hW) rfl rfl hl.1 rfl (lv_room (Nat.le_of_ble_eq_true rfl)) dL_agree_8 ⟨by decide, by decide⟩) hS hA19 (fun E ce q9 H locs hX9 hz9 hk9 hS g1 g2 g3 => ?_) (fun o H locs hN9 hz9 hk9 hS => ?_)
  · obtain ⟨hX9, hW⟩ := hX9
    rcases hX9 with ⟨rfl, hc9⟩ | ⟨rfl, hc9⟩
    · refine vx_catch (name := exn 1) hown [] ⟨0, 11, 14, 13⟩ [⟨0, 11, 18, 15⟩] (hex.trans rfl) (fun z hz => absurd hz (List.not_mem_nil)) (by decide) (by decide) (hts (.classLink RL 13 (exn 1)) (by decide +kernel)) (va_Nw.use rfl (hE.2.2.2.1 (exn 1) (by decide))) g1 g2 g3 ?_
      refine W.eq (g2 := F0 m 14 ls [.ref q9]) rfl ?_
      refine lv_astore (lv' := [(6, .ref q9), (0, .ref (ad 0 0)), (1, .int x), (2, .int y), (3, .int vo), (4, .int rt), (5, .int bk)]) hx hb dL_agree_14 hl (by decide) rfl (fun ls hl => ?_)
      refine lv_iconst (v := 1) hx hb dL_agree_16 (by decide) ?_
      exact rh_iret hx hb hr hlocks (Or.inr (Or.inl ⟨hc9, rfl, hW⟩)) hS (by decide) (by decide) dL_agree_17
    · refine vx_catch (name := exn 2) hown [⟨0, 11, 14, 13⟩] ⟨0, 11, 18, 15⟩ [] (hex.trans rfl) (fun z hz => by rw [List.mem_singleton] at hz; subst hz; exact Or.inr ⟨by decide, exn 1, (hts (.classLink RL 13 (exn 1)) (by decide +kernel)), hnc9 (exn 2, exn 1) (by decide)⟩) (by decide) (by decide) (hts (.classLink RL 15 (exn 2)) (by decide +kernel)) (va_Nw.use rfl (hE.2.2.2.1 (exn 2) (by decide))) g1 g2 g3 ?_
      refine W.eq (g2 := F0 m 18 ls [.ref q9]) rfl ?_
      refine lv_astore (lv' := [(6, .ref q9), (0, .ref (ad 0 0)), (1, .int x), (2, .int y), (3, .int vo), (4, .int rt), (5, .int bk)]) hx hb dL_agree_18 hl (by decide) rfl (fun ls hl => ?_)
      refine lv_iconst (v := 2) hx hb dL_agree_20 (by decide) ?_
      exact rh_iret hx hb hr hlocks (Or.inr (Or.inr (⟨hc9, rfl, hW⟩))) hS (by decide) (by decide) dL_agree_21
  · obtain ⟨h9, k9, hc0, hc1, hc2, hc3, hc4, hc5, hc6, rfl, hW⟩ := hN9
    refine W.eq (g2 := F0 m 11 ls []) rfl ?_
    refine lv_goto (tgt := 22) hx hb dL_agree_11 (by decide) ?_
    refine lv_iconst (v := 0) hx hb dL_agree_22 (by decide) ?_
    exact rh_iret hx hb hr hlocks (Or.inl ⟨h9, k9, hc0, hc1, hc2, hc3, hc4, hc5, hc6, rfl, hW⟩) hS (by decide) (by decide) dL_agree_23
set_option maxHeartbeats 4000000 in
set_option maxRecDepth 100000 in
theorem hl_promise (l : Launch) (hlf : l.stackTraces = false) {G : va_G} {ca : Nat → ClassId} {A : Nat → Prop} {ad : Nat → Nat → Nat} {nf nc : Nat} {r : rh_R} {v : rh_V} {oa : Nat} {f : Nat → Int64} (hAo : A oa) (hD : rh_D (rh_A1 A oa) ad (fun k i => i < rh_n nf nc k)) (hwf : rh_wf nf nc r v) (x y pm : Int32) : vx_Met l yL_promise wsL_promise ({ frames := 9, cells := 5, slots := 40, locals := 270 } : Room) (rh_Pl G ca A [.ref (ad 0 0), .int x, .int y, .int pm, .ref oa] (fun H => rh_W G ca ad nf nc r v H ∧ rh_o G ca oa f H)) (rh_Q A (fun o H => (∃ h k : Nat, h < 4 ∧ k < 4 ∧ h ≠ k ∧ x = nI h ∧ y = nI k ∧ rng pm 0 100000000 ∧ o = some (.int 0) ∧ (∃ f9 : Nat → Int64, f9 0 = ((v 6 (h * 4 + k) 2)).toInt64 ∧ rh_o G ca oa f9 H) ∧ rh_W G ca ad nf nc r (wr v 6 (h * 4 + k) 2 pm) H) ∨ ((¬ (ix x 4 ∧ ix y 4)) ∧ o = some (.int 1) ∧ (∃ f9 : Nat → Int64, rh_o G ca oa f9 H) ∧ rh_W G ca ad nf nc r v H) ∨ ((ix x 4 ∧ ix y 4 ∧ (x = y ∨ ¬ rng pm 0 100000000)) ∧ o = some (.int 2) ∧ (∃ f9 : Nat → Int64, rh_o G ca oa f9 H) ∧ rh_W G ca ad nf nc r v H))) (rh_XC A rh_no) 5 40 A := by
  refine rh_enterl (cc := cL_promise) (maxL := 6) (ret := (some .int)) (hh := [(0, 12, 15, 13), (0, 12, 19, 15)]) (by decide) rfl (Nat.le_of_ble_eq_true rfl) ?_
  intro p e s m below meth c ls hx hb hr hml hown hts hlocks hex hin hE hnc9 hA hΦ hl
  obtain ⟨hW, hout⟩ := hΦ
  have hlo9 : oa < s.heap.size := hout.lt
  have hS : va_S A s.heap s.heap [] := va_S.rf
  have hl : lv_has ls 6 [(0, .ref (ad 0 0)), (1, .int x), (2, .int y), (3, .int pm), (4, .ref oa)] := hl
  refine lv_aload hx hb dL_promise_0 (lv_at hl 4 rfl) ?_
  refine lv_iconst (v := 0) hx hb dL_promise_2 (by decide) ?_
  refine lv_aload_n hx hb dL_promise_3 rfl (lv_at hl 0 rfl) ?_
  refine lv_iload_n hx hb dL_promise_4 rfl (lv_at hl 1 rfl) ?_
  refine lv_iload_n hx hb dL_promise_5 rfl (lv_at hl 2 rfl) ?_
  refine lv_iload_n hx hb dL_promise_6 rfl (lv_at hl 3 rfl) ?_
  have hA19 : ∀ q, rh_A1 A oa q → A q := fun q h => h.1
  have hB19 : ∀ q : Nat, s.heap.size ≤ q → rh_A1 A oa q := fun q h => ⟨hA q h, by omega⟩
  refine rh_call2 (vx_runV (As := [.int x, .int y, .int pm]) (rest := [.int 0, .ref oa]) ⟨hx, hb, hml, hown, hts⟩ (ct_X4_promise l hlf hD hwf x y pm) (cwV 3 hts gL_promise_X4_promise rfl rfl rfl (by decide +kernel) ⟨by decide, by decide⟩) (rh_preV2 hE hS hA19 hB19 (hW.at 0 0 Nat.zero_lt_one) rfl hW) rfl rfl hl.1 rfl (lv_room (Nat.le_of_ble_eq_true rfl)) dL_promise_7 ⟨by decide, by decide⟩) hS hA19 (fun E ce q9 H locs hX9 hz9 hk9 hS g1 g2 g3 => ?_) (fun o H locs hN9 hz9 hk9 hS => ?_)
  · obtain ⟨hX9, hW⟩ := hX9
    have hout := hout.kept (hk9 _ hlo9 (fun z => z.2 rfl))
    rcases hX9 with ⟨rfl, hc9⟩ | ⟨rfl, hc9⟩
    · refine vx_catch (name := exn 1) hown [] ⟨0, 12, 15, 13⟩ [⟨0, 12, 19, 15⟩] (hex.trans rfl) (fun z hz => absurd hz (List.not_mem_nil)) (by decide) (by decide) (hts (.classLink RL 13 (exn 1)) (by decide +kernel)) (va_Nw.use rfl (hE.2.2.2.1 (exn 1) (by decide))) g1 g2 g3 ?_
      refine W.eq (g2 := F0 m 15 ls [.ref q9]) rfl ?_
      refine lv_astore (lv' := [(5, .ref q9), (0, .ref (ad 0 0)), (1, .int x), (2, .int y), (3, .int pm), (4, .ref oa)]) hx hb dL_promise_15 hl (by decide) rfl (fun ls hl => ?_)
      refine lv_iconst (v := 1) hx hb dL_promise_17 (by decide) ?_
      exact rh_iret hx hb hr hlocks (Or.inr (Or.inl ⟨hc9, rfl, ⟨_, hout⟩, hW⟩)) hS (by decide) (by decide) dL_promise_18
    · refine vx_catch (name := exn 2) hown [⟨0, 12, 15, 13⟩] ⟨0, 12, 19, 15⟩ [] (hex.trans rfl) (fun z hz => by rw [List.mem_singleton] at hz; subst hz; exact Or.inr ⟨by decide, exn 1, (hts (.classLink RL 13 (exn 1)) (by decide +kernel)), hnc9 (exn 2, exn 1) (by decide)⟩) (by decide) (by decide) (hts (.classLink RL 15 (exn 2)) (by decide +kernel)) (va_Nw.use rfl (hE.2.2.2.1 (exn 2) (by decide))) g1 g2 g3 ?_
      refine W.eq (g2 := F0 m 19 ls [.ref q9]) rfl ?_
      refine lv_astore (lv' := [(5, .ref q9), (0, .ref (ad 0 0)), (1, .int x), (2, .int y), (3, .int pm), (4, .ref oa)]) hx hb dL_promise_19 hl (by decide) rfl (fun ls hl => ?_)
      refine lv_iconst (v := 2) hx hb dL_promise_21 (by decide) ?_
      exact rh_iret hx hb hr hlocks (Or.inr (Or.inr (⟨hc9, rfl, ⟨_, hout⟩, hW⟩))) hS (by decide) (by decide) dL_promise_22
  · obtain ⟨h9, k9, hc0, hc1, hc2, hc3, hc4, hc5, rfl, hW⟩ := hN9
    have hout := hout.kept (hk9 _ hlo9 (fun z => z.2 rfl))
    refine W.eq (g2 := F0 m 10 ls [.int (v 6 (h9 * 4 + k9) 2), .int 0, .ref oa]) rfl ?_
    refine lv_i2l hx hb dL_promise_10 rfl ?_
    refine rh_last0 (x := (((v 6 (h9 * 4 + k9) 2)).toInt64)) hx hb hE hout hS hAo 0 (by decide) (by decide) rfl dL_promise_11 (fun H1 locs hout hz8 ho8 hS => ?_)
    have hW := hW.keptD hD ho8
    refine lv_goto (tgt := 23) hx hb dL_promise_12 (by decide) ?_
    refine lv_iconst (v := 0) hx hb dL_promise_23 (by decide) ?_
    exact rh_iret hx hb hr hlocks (Or.inl ⟨h9, k9, hc0, hc1, hc2, hc3, hc4, hc5, rfl, ⟨_, if_pos rfl, hout⟩, hW⟩) hS (by decide) (by decide) dL_promise_24
set_option maxHeartbeats 4000000 in
set_option maxRecDepth 100000 in
theorem hl_setRate (l : Launch) (hlf : l.stackTraces = false) {G : va_G} {ca : Nat → ClassId} {A : Nat → Prop} {ad : Nat → Nat → Nat} {nf nc : Nat} {r : rh_R} {v : rh_V} {oa : Nat} {f : Nat → Int64} (hAo : A oa) (hD : rh_D (rh_A1 A oa) ad (fun k i => i < rh_n nf nc k)) (hwf : rh_wf nf nc r v) (x y : Int32) : vx_Met l yL_setRate wsL_setRate ({ frames := 9, cells := 5, slots := 40, locals := 270 } : Room) (rh_Pl G ca A [.ref (ad 0 0), .int x, .int y, .ref oa] (fun H => rh_W G ca ad nf nc r v H ∧ rh_o G ca oa f H)) (rh_Q A (fun o H => (∃ i : Nat, i < 4 ∧ x = nI i ∧ rng y 1 100000 ∧ o = some (.int 0) ∧ (∃ f9 : Nat → Int64, f9 0 = ((v 5 i 3)).toInt64 ∧ rh_o G ca oa f9 H) ∧ rh_W G ca ad nf nc r (wr v 5 i 3 y) H) ∨ ((¬ ix x 4) ∧ o = some (.int 1) ∧ (∃ f9 : Nat → Int64, rh_o G ca oa f9 H) ∧ rh_W G ca ad nf nc r v H) ∨ ((ix x 4 ∧ ¬ rng y 1 100000) ∧ o = some (.int 2) ∧ (∃ f9 : Nat → Int64, rh_o G ca oa f9 H) ∧ rh_W G ca ad nf nc r v H))) (rh_XC A rh_no) 5 40 A := by
  refine rh_enterl (cc := cL_setRate) (maxL := 5) (ret := (some .int)) (hh := [(0, 10, 13, 13), (0, 10, 17, 15)]) (by decide) rfl (Nat.le_of_ble_eq_true rfl) ?_
  intro p e s m below meth c ls hx hb hr hml hown hts hlocks hex hin hE hnc9 hA hΦ hl
  obtain ⟨hW, hout⟩ := hΦ
  have hlo9 : oa < s.heap.size := hout.lt
  have hS : va_S A s.heap s.heap [] := va_S.rf
  have hl : lv_has ls 5 [(0, .ref (ad 0 0)), (1, .int x), (2, .int y), (3, .ref oa)] := hl
  refine lv_aload_n hx hb dL_setRate_0 rfl (lv_at hl 3 rfl) ?_
  refine lv_iconst (v := 0) hx hb dL_setRate_1 (by decide) ?_
  refine lv_aload_n hx hb dL_setRate_2 rfl (lv_at hl 0 rfl) ?_
  refine lv_iload_n hx hb dL_setRate_3 rfl (lv_at hl 1 rfl) ?_
  refine lv_iload_n hx hb dL_setRate_4 rfl (lv_at hl 2 rfl) ?_
  have hA19 : ∀ q, rh_A1 A oa q → A q := fun q h => h.1
  have hB19 : ∀ q : Nat, s.heap.size ≤ q → rh_A1 A oa q := fun q h => ⟨hA q h, by omega⟩
  refine rh_call2 (vx_runV (As := [.int x, .int y]) (rest := [.int 0, .ref oa]) ⟨hx, hb, hml, hown, hts⟩ (ct_X4_setRate l hlf hD hwf x y) (cwV 2 hts gL_setRate_X4_setRate rfl rfl rfl (by decide +kernel) ⟨by decide, by decide⟩) (rh_preV2 hE hS hA19 hB19 (hW.at 0 0 Nat.zero_lt_one) rfl hW) rfl rfl hl.1 rfl (lv_room (Nat.le_of_ble_eq_true rfl)) dL_setRate_5 ⟨by decide, by decide⟩) hS hA19 (fun E ce q9 H locs hX9 hz9 hk9 hS g1 g2 g3 => ?_) (fun o H locs hN9 hz9 hk9 hS => ?_)
  · obtain ⟨hX9, hW⟩ := hX9
    have hout := hout.kept (hk9 _ hlo9 (fun z => z.2 rfl))
    rcases hX9 with ⟨rfl, hc9⟩ | ⟨rfl, hc9⟩
    · refine vx_catch (name := exn 1) hown [] ⟨0, 10, 13, 13⟩ [⟨0, 10, 17, 15⟩] (hex.trans rfl) (fun z hz => absurd hz (List.not_mem_nil)) (by decide) (by decide) (hts (.classLink RL 13 (exn 1)) (by decide +kernel)) (va_Nw.use rfl (hE.2.2.2.1 (exn 1) (by decide))) g1 g2 g3 ?_
      refine W.eq (g2 := F0 m 13 ls [.ref q9]) rfl ?_
      refine lv_astore (lv' := [(4, .ref q9), (0, .ref (ad 0 0)), (1, .int x), (2, .int y), (3, .ref oa)]) hx hb dL_setRate_13 hl (by decide) rfl (fun ls hl => ?_)
      refine lv_iconst (v := 1) hx hb dL_setRate_15 (by decide) ?_
      exact rh_iret hx hb hr hlocks (Or.inr (Or.inl ⟨hc9, rfl, ⟨_, hout⟩, hW⟩)) hS (by decide) (by decide) dL_setRate_16
    · refine vx_catch (name := exn 2) hown [⟨0, 10, 13, 13⟩] ⟨0, 10, 17, 15⟩ [] (hex.trans rfl) (fun z hz => by rw [List.mem_singleton] at hz; subst hz; exact Or.inr ⟨by decide, exn 1, (hts (.classLink RL 13 (exn 1)) (by decide +kernel)), hnc9 (exn 2, exn 1) (by decide)⟩) (by decide) (by decide) (hts (.classLink RL 15 (exn 2)) (by decide +kernel)) (va_Nw.use rfl (hE.2.2.2.1 (exn 2) (by decide))) g1 g2 g3 ?_
      refine W.eq (g2 := F0 m 17 ls [.ref q9]) rfl ?_
      refine lv_astore (lv' := [(4, .ref q9), (0, .ref (ad 0 0)), (1, .int x), (2, .int y), (3, .ref oa)]) hx hb dL_setRate_17 hl (by decide) rfl (fun ls hl => ?_)
      refine lv_iconst (v := 2) hx hb dL_setRate_19 (by decide) ?_
      exact rh_iret hx hb hr hlocks (Or.inr (Or.inr (⟨hc9, rfl, ⟨_, hout⟩, hW⟩))) hS (by decide) (by decide) dL_setRate_20
  · obtain ⟨i9, hc0, hc1, hc2, rfl, hW⟩ := hN9
    have hout := hout.kept (hk9 _ hlo9 (fun z => z.2 rfl))
    refine W.eq (g2 := F0 m 8 ls [.int (v 5 i9 3), .int 0, .ref oa]) rfl ?_
    refine lv_i2l hx hb dL_setRate_8 rfl ?_
    refine rh_last0 (x := (((v 5 i9 3)).toInt64)) hx hb hE hout hS hAo 0 (by decide) (by decide) rfl dL_setRate_9 (fun H1 locs hout hz8 ho8 hS => ?_)
    have hW := hW.keptD hD ho8
    refine lv_goto (tgt := 21) hx hb dL_setRate_10 (by decide) ?_
    refine lv_iconst (v := 0) hx hb dL_setRate_21 (by decide) ?_
    exact rh_iret hx hb hr hlocks (Or.inl ⟨i9, hc0, hc1, hc2, rfl, ⟨_, if_pos rfl, hout⟩, hW⟩) hS (by decide) (by decide) dL_setRate_22
set_option maxHeartbeats 4000000 in
set_option maxRecDepth 100000 in
theorem hl_nextMonth (l : Launch) (hlf : l.stackTraces = false) {G : va_G} {ca : Nat → ClassId} {A : Nat → Prop} {ad : Nat → Nat → Nat} {nf nc : Nat} {r : rh_R} {v : rh_V} {oa : Nat} {f : Nat → Int64} (hAo : A oa) (hD : rh_D (rh_A1 A oa) ad (fun k i => i < rh_n nf nc k)) (hwf : rh_wf nf nc r v)  : vx_Met l yL_nextMonth wsL_nextMonth ({ frames := 9, cells := 5, slots := 40, locals := 270 } : Room) (rh_Pl G ca A [.ref (ad 0 0), .ref oa] (fun H => rh_W G ca ad nf nc r v H ∧ rh_o G ca oa f H)) (rh_Q A (fun o H => (v 0 0 6 < 35 ∧ o = some (.int 0) ∧ (∃ f9 : Nat → Int64, f9 0 = ((v 0 0 6 + 1)).toInt64 ∧ rh_o G ca oa f9 H) ∧ rh_W G ca ad nf nc r (c_gb (wr v 0 0 6 (v 0 0 6 + 1)) nc) H) ∨ ((¬ v 0 0 6 < 35) ∧ o = some (.int 1) ∧ (∃ f9 : Nat → Int64, rh_o G ca oa f9 H) ∧ rh_W G ca ad nf nc r v H))) (rh_XC A rh_no) 5 40 A := by
  refine rh_enterl (cc := cL_nextMonth) (maxL := 3) (ret := (some .int)) (hh := [(0, 8, 11, 24)]) (by decide) rfl (Nat.le_of_ble_eq_true rfl) ?_
  intro p e s m below meth c ls hx hb hr hml hown hts hlocks hex hin hE hnc9 hA hΦ hl
  obtain ⟨hW, hout⟩ := hΦ
  have hlo9 : oa < s.heap.size := hout.lt
  have hS : va_S A s.heap s.heap [] := va_S.rf
  have hl : lv_has ls 3 [(0, .ref (ad 0 0)), (1, .ref oa)] := hl
  refine lv_aload_n hx hb dL_nextMonth_0 rfl (lv_at hl 1 rfl) ?_
  refine lv_iconst (v := 0) hx hb dL_nextMonth_1 (by decide) ?_
  refine lv_aload_n hx hb dL_nextMonth_2 rfl (lv_at hl 0 rfl) ?_
  have hA19 : ∀ q, rh_A1 A oa q → A q := fun q h => h.1
  have hB19 : ∀ q : Nat, s.heap.size ≤ q → rh_A1 A oa q := fun q h => ⟨hA q h, by omega⟩
  refine rh_call2 (vx_runV (As := []) (rest := [.int 0, .ref oa]) ⟨hx, hb, hml, hown, hts⟩ (ct_X4_nextMonth l hlf hD hwf ) (cwV 0 hts gL_nextMonth_X4_nextMonth rfl rfl rfl (by decide +kernel) ⟨by decide, by decide⟩) (rh_preV2 hE hS hA19 hB19 (hW.at 0 0 Nat.zero_lt_one) rfl hW) rfl rfl hl.1 rfl (lv_room (Nat.le_of_ble_eq_true rfl)) dL_nextMonth_3 ⟨by decide, by decide⟩) hS hA19 (fun E ce q9 H locs hX9 hz9 hk9 hS g1 g2 g3 => ?_) (fun o H locs hN9 hz9 hk9 hS => ?_)
  · obtain ⟨hX9, hW⟩ := hX9
    have hout := hout.kept (hk9 _ hlo9 (fun z => z.2 rfl))
    obtain ⟨rfl, hc9⟩ := hX9
    refine vx_catch (name := exn 3) hown [] ⟨0, 8, 11, 24⟩ [] (hex.trans rfl) (fun z hz => absurd hz (List.not_mem_nil)) (by decide) (by decide) (hts (.classLink RL 24 (exn 3)) (by decide +kernel)) (va_Nw.use rfl (hE.2.2.2.1 (exn 3) (by decide))) g1 g2 g3 ?_
    refine W.eq (g2 := F0 m 11 ls [.ref q9]) rfl ?_
    refine lv_astore_n (lv' := [(2, .ref q9), (0, .ref (ad 0 0)), (1, .ref oa)]) hx hb dL_nextMonth_11 rfl hl (by decide) rfl (fun ls hl => ?_)
    refine lv_iconst (v := 1) hx hb dL_nextMonth_12 (by decide) ?_
    exact rh_iret hx hb hr hlocks (Or.inr (⟨hc9, rfl, ⟨_, hout⟩, hW⟩)) hS (by decide) (by decide) dL_nextMonth_13
  · obtain ⟨hc0, rfl, hW⟩ := hN9
    have hout := hout.kept (hk9 _ hlo9 (fun z => z.2 rfl))
    refine W.eq (g2 := F0 m 6 ls [.int (v 0 0 6 + 1), .int 0, .ref oa]) rfl ?_
    refine lv_i2l hx hb dL_nextMonth_6 rfl ?_
    refine rh_last0 (x := (((v 0 0 6 + 1)).toInt64)) hx hb hE hout hS hAo 0 (by decide) (by decide) rfl dL_nextMonth_7 (fun H1 locs hout hz8 ho8 hS => ?_)
    have hW := hW.keptD hD ho8
    refine lv_goto (tgt := 14) hx hb dL_nextMonth_8 (by decide) ?_
    refine lv_iconst (v := 0) hx hb dL_nextMonth_14 (by decide) ?_
    exact rh_iret hx hb hr hlocks (Or.inl ⟨hc0, rfl, ⟨_, if_pos rfl, hout⟩, hW⟩) hS (by decide) (by decide) dL_nextMonth_15
set_option maxHeartbeats 4000000 in
set_option maxRecDepth 100000 in
theorem hl_owed (l : Launch) (hlf : l.stackTraces = false) {G : va_G} {ca : Nat → ClassId} {A : Nat → Prop} {ad : Nat → Nat → Nat} {nf nc : Nat} {r : rh_R} {v : rh_V} {oa : Nat} {f : Nat → Int64} (hAo : A oa) (hD : rh_D (rh_A1 A oa) ad (fun k i => i < rh_n nf nc k)) (hwf : rh_wf nf nc r v) (x y mo : Int32) : vx_Met l yL_owed wsL_owed ({ frames := 9, cells := 5, slots := 40, locals := 270 } : Room) (rh_Pl G ca A [.ref (ad 0 0), .int x, .int y, .int mo, .ref oa] (fun H => rh_W G ca ad nf nc r v H ∧ rh_o G ca oa f H)) (rh_Q A (fun o H => (∃ h k : Nat, h < 4 ∧ k < 4 ∧ h ≠ k ∧ x = nI h ∧ y = nI k ∧ rng mo 0 (v 0 0 6) ∧ o = some (.int 0) ∧ (∃ f9 : Nat → Int64, f9 0 = (c_sum r v (h * 4 + k) mo mo nc) ∧ rh_o G ca oa f9 H) ∧ rh_W G ca ad nf nc r v H) ∨ ((¬ (ix x 4 ∧ ix y 4)) ∧ o = some (.int 1) ∧ (∃ f9 : Nat → Int64, rh_o G ca oa f9 H) ∧ rh_W G ca ad nf nc r v H) ∨ ((ix x 4 ∧ ix y 4 ∧ (x = y ∨ ¬ rng mo 0 (v 0 0 6))) ∧ o = some (.int 2) ∧ (∃ f9 : Nat → Int64, rh_o G ca oa f9 H) ∧ rh_W G ca ad nf nc r v H))) (rh_XC A rh_no) 5 40 A := by
  refine rh_enterl (cc := cL_owed) (maxL := 6) (ret := (some .int)) (hh := [(0, 11, 14, 13), (0, 11, 18, 15)]) (by decide) rfl (Nat.le_of_ble_eq_true rfl) ?_
  intro p e s m below meth c ls hx hb hr hml hown hts hlocks hex hin hE hnc9 hA hΦ hl
  obtain ⟨hW, hout⟩ := hΦ
  have hlo9 : oa < s.heap.size := hout.lt
  have hS : va_S A s.heap s.heap [] := va_S.rf
  have hl : lv_has ls 6 [(0, .ref (ad 0 0)), (1, .int x), (2, .int y), (3, .int mo), (4, .ref oa)] := hl
  refine lv_aload hx hb dL_owed_0 (lv_at hl 4 rfl) ?_
  refine lv_iconst (v := 0) hx hb dL_owed_2 (by decide) ?_
  refine lv_aload_n hx hb dL_owed_3 rfl (lv_at hl 0 rfl) ?_
  refine lv_iload_n hx hb dL_owed_4 rfl (lv_at hl 1 rfl) ?_
  refine lv_iload_n hx hb dL_owed_5 rfl (lv_at hl 2 rfl) ?_
  refine lv_iload_n hx hb dL_owed_6 rfl (lv_at hl 3 rfl) ?_
  have hA19 : ∀ q, rh_A1 A oa q → A q := fun q h => h.1
  have hB19 : ∀ q : Nat, s.heap.size ≤ q → rh_A1 A oa q := fun q h => ⟨hA q h, by omega⟩
  refine rh_call2 (vx_runV (As := [.int x, .int y, .int mo]) (rest := [.int 0, .ref oa]) ⟨hx, hb, hml, hown, hts⟩ (ct_X4_owed l hlf hD hwf x y mo) (cwV 3 hts gL_owed_X4_owed rfl rfl rfl (by decide +kernel) ⟨by decide, by decide⟩) (rh_preV2 hE hS hA19 hB19 (hW.at 0 0 Nat.zero_lt_one) rfl hW) rfl rfl hl.1 rfl (lv_room (Nat.le_of_ble_eq_true rfl)) dL_owed_7 ⟨by decide, by decide⟩) hS hA19 (fun E ce q9 H locs hX9 hz9 hk9 hS g1 g2 g3 => ?_) (fun o H locs hN9 hz9 hk9 hS => ?_)
  · obtain ⟨hX9, hW⟩ := hX9
    have hout := hout.kept (hk9 _ hlo9 (fun z => z.2 rfl))
    rcases hX9 with ⟨rfl, hc9⟩ | ⟨rfl, hc9⟩
    · refine vx_catch (name := exn 1) hown [] ⟨0, 11, 14, 13⟩ [⟨0, 11, 18, 15⟩] (hex.trans rfl) (fun z hz => absurd hz (List.not_mem_nil)) (by decide) (by decide) (hts (.classLink RL 13 (exn 1)) (by decide +kernel)) (va_Nw.use rfl (hE.2.2.2.1 (exn 1) (by decide))) g1 g2 g3 ?_
      refine W.eq (g2 := F0 m 14 ls [.ref q9]) rfl ?_
      refine lv_astore (lv' := [(5, .ref q9), (0, .ref (ad 0 0)), (1, .int x), (2, .int y), (3, .int mo), (4, .ref oa)]) hx hb dL_owed_14 hl (by decide) rfl (fun ls hl => ?_)
      refine lv_iconst (v := 1) hx hb dL_owed_16 (by decide) ?_
      exact rh_iret hx hb hr hlocks (Or.inr (Or.inl ⟨hc9, rfl, ⟨_, hout⟩, hW⟩)) hS (by decide) (by decide) dL_owed_17
    · refine vx_catch (name := exn 2) hown [⟨0, 11, 14, 13⟩] ⟨0, 11, 18, 15⟩ [] (hex.trans rfl) (fun z hz => by rw [List.mem_singleton] at hz; subst hz; exact Or.inr ⟨by decide, exn 1, (hts (.classLink RL 13 (exn 1)) (by decide +kernel)), hnc9 (exn 2, exn 1) (by decide)⟩) (by decide) (by decide) (hts (.classLink RL 15 (exn 2)) (by decide +kernel)) (va_Nw.use rfl (hE.2.2.2.1 (exn 2) (by decide))) g1 g2 g3 ?_
      refine W.eq (g2 := F0 m 18 ls [.ref q9]) rfl ?_
      refine lv_astore (lv' := [(5, .ref q9), (0, .ref (ad 0 0)), (1, .int x), (2, .int y), (3, .int mo), (4, .ref oa)]) hx hb dL_owed_18 hl (by decide) rfl (fun ls hl => ?_)
      refine lv_iconst (v := 2) hx hb dL_owed_20 (by decide) ?_
      exact rh_iret hx hb hr hlocks (Or.inr (Or.inr (⟨hc9, rfl, ⟨_, hout⟩, hW⟩))) hS (by decide) (by decide) dL_owed_21
  · obtain ⟨h9, k9, hc0, hc1, hc2, hc3, hc4, hc5, rfl, hW⟩ := hN9
    have hout := hout.kept (hk9 _ hlo9 (fun z => z.2 rfl))
    refine W.eq (g2 := F0 m 10 ls [.long (c_sum r v (h9 * 4 + k9) mo mo nc), .int 0, .ref oa]) rfl ?_
    refine rh_last0 (x := (c_sum r v (h9 * 4 + k9) mo mo nc)) hx hb hE hout hS hAo 0 (by decide) (by decide) rfl dL_owed_10 (fun H1 locs hout hz8 ho8 hS => ?_)
    have hW := hW.keptD hD ho8
    refine lv_goto (tgt := 22) hx hb dL_owed_11 (by decide) ?_
    refine lv_iconst (v := 0) hx hb dL_owed_22 (by decide) ?_
    exact rh_iret hx hb hr hlocks (Or.inl ⟨h9, k9, hc0, hc1, hc2, hc3, hc4, hc5, rfl, ⟨_, if_pos rfl, hout⟩, hW⟩) hS (by decide) (by decide) dL_owed_23
set_option maxHeartbeats 4000000 in
set_option maxRecDepth 100000 in
theorem hl_shortfall (l : Launch) (hlf : l.stackTraces = false) {G : va_G} {ca : Nat → ClassId} {A : Nat → Prop} {ad : Nat → Nat → Nat} {nf nc : Nat} {r : rh_R} {v : rh_V} {oa : Nat} {f : Nat → Int64} (hAo : A oa) (hD : rh_D (rh_A1 A oa) ad (fun k i => i < rh_n nf nc k)) (hwf : rh_wf nf nc r v) (x y ye : Int32) : vx_Met l yL_shortfall wsL_shortfall ({ frames := 9, cells := 5, slots := 40, locals := 270 } : Room) (rh_Pl G ca A [.ref (ad 0 0), .int x, .int y, .int ye, .ref oa] (fun H => rh_W G ca ad nf nc r v H ∧ rh_o G ca oa f H)) (rh_Q A (fun o H => (∃ h k : Nat, h < 4 ∧ k < 4 ∧ h ≠ k ∧ x = nI h ∧ y = nI k ∧ rng ye 0 1 ∧ ye < v 0 0 6 / 12 ∧ o = some (.int 0) ∧ (∃ f9 : Nat → Int64, f9 0 = (if ((v 6 (h * 4 + k) 2).toInt64 - c_sum r v (h * 4 + k) (ye * 12) (ye * 12 + 12 - 1) nc) < 0 then 0 else ((v 6 (h * 4 + k) 2).toInt64 - c_sum r v (h * 4 + k) (ye * 12) (ye * 12 + 12 - 1) nc)) ∧ rh_o G ca oa f9 H) ∧ rh_W G ca ad nf nc r v H) ∨ ((¬ (ix x 4 ∧ ix y 4)) ∧ o = some (.int 1) ∧ (∃ f9 : Nat → Int64, rh_o G ca oa f9 H) ∧ rh_W G ca ad nf nc r v H) ∨ ((ix x 4 ∧ ix y 4 ∧ (x = y ∨ ¬ rng ye 0 1)) ∧ o = some (.int 2) ∧ (∃ f9 : Nat → Int64, rh_o G ca oa f9 H) ∧ rh_W G ca ad nf nc r v H) ∨ ((ix x 4 ∧ ix y 4 ∧ ¬ x = y ∧ rng ye 0 1 ∧ ¬ ye < v 0 0 6 / 12) ∧ o = some (.int 3) ∧ (∃ f9 : Nat → Int64, rh_o G ca oa f9 H) ∧ rh_W G ca ad nf nc r v H))) (rh_XC A rh_no) 5 40 A := by
  refine rh_enterl (cc := cL_shortfall) (maxL := 6) (ret := (some .int)) (hh := [(0, 11, 14, 13), (0, 11, 18, 15), (0, 11, 22, 24)]) (by decide) rfl (Nat.le_of_ble_eq_true rfl) ?_
  intro p e s m below meth c ls hx hb hr hml hown hts hlocks hex hin hE hnc9 hA hΦ hl
  obtain ⟨hW, hout⟩ := hΦ
  have hlo9 : oa < s.heap.size := hout.lt
  have hS : va_S A s.heap s.heap [] := va_S.rf
  have hl : lv_has ls 6 [(0, .ref (ad 0 0)), (1, .int x), (2, .int y), (3, .int ye), (4, .ref oa)] := hl
  refine lv_aload hx hb dL_shortfall_0 (lv_at hl 4 rfl) ?_
  refine lv_iconst (v := 0) hx hb dL_shortfall_2 (by decide) ?_
  refine lv_aload_n hx hb dL_shortfall_3 rfl (lv_at hl 0 rfl) ?_
  refine lv_iload_n hx hb dL_shortfall_4 rfl (lv_at hl 1 rfl) ?_
  refine lv_iload_n hx hb dL_shortfall_5 rfl (lv_at hl 2 rfl) ?_
  refine lv_iload_n hx hb dL_shortfall_6 rfl (lv_at hl 3 rfl) ?_
  have hA19 : ∀ q, rh_A1 A oa q → A q := fun q h => h.1
  have hB19 : ∀ q : Nat, s.heap.size ≤ q → rh_A1 A oa q := fun q h => ⟨hA q h, by omega⟩
  refine rh_call2 (vx_runV (As := [.int x, .int y, .int ye]) (rest := [.int 0, .ref oa]) ⟨hx, hb, hml, hown, hts⟩ (ct_X4_shortfall l hlf hD hwf x y ye) (cwV 3 hts gL_shortfall_X4_shortfall rfl rfl rfl (by decide +kernel) ⟨by decide, by decide⟩) (rh_preV2 hE hS hA19 hB19 (hW.at 0 0 Nat.zero_lt_one) rfl hW) rfl rfl hl.1 rfl (lv_room (Nat.le_of_ble_eq_true rfl)) dL_shortfall_7 ⟨by decide, by decide⟩) hS hA19 (fun E ce q9 H locs hX9 hz9 hk9 hS g1 g2 g3 => ?_) (fun o H locs hN9 hz9 hk9 hS => ?_)
  · obtain ⟨hX9, hW⟩ := hX9
    have hout := hout.kept (hk9 _ hlo9 (fun z => z.2 rfl))
    rcases hX9 with ⟨rfl, hc9⟩ | ⟨rfl, hc9⟩ | ⟨rfl, hc9⟩
    · refine vx_catch (name := exn 1) hown [] ⟨0, 11, 14, 13⟩ [⟨0, 11, 18, 15⟩, ⟨0, 11, 22, 24⟩] (hex.trans rfl) (fun z hz => absurd hz (List.not_mem_nil)) (by decide) (by decide) (hts (.classLink RL 13 (exn 1)) (by decide +kernel)) (va_Nw.use rfl (hE.2.2.2.1 (exn 1) (by decide))) g1 g2 g3 ?_
      refine W.eq (g2 := F0 m 14 ls [.ref q9]) rfl ?_
      refine lv_astore (lv' := [(5, .ref q9), (0, .ref (ad 0 0)), (1, .int x), (2, .int y), (3, .int ye), (4, .ref oa)]) hx hb dL_shortfall_14 hl (by decide) rfl (fun ls hl => ?_)
      refine lv_iconst (v := 1) hx hb dL_shortfall_16 (by decide) ?_
      exact rh_iret hx hb hr hlocks (Or.inr (Or.inl ⟨hc9, rfl, ⟨_, hout⟩, hW⟩)) hS (by decide) (by decide) dL_shortfall_17
    · refine vx_catch (name := exn 2) hown [⟨0, 11, 14, 13⟩] ⟨0, 11, 18, 15⟩ [⟨0, 11, 22, 24⟩] (hex.trans rfl) (fun z hz => by rw [List.mem_singleton] at hz; subst hz; exact Or.inr ⟨by decide, exn 1, (hts (.classLink RL 13 (exn 1)) (by decide +kernel)), hnc9 (exn 2, exn 1) (by decide)⟩) (by decide) (by decide) (hts (.classLink RL 15 (exn 2)) (by decide +kernel)) (va_Nw.use rfl (hE.2.2.2.1 (exn 2) (by decide))) g1 g2 g3 ?_
      refine W.eq (g2 := F0 m 18 ls [.ref q9]) rfl ?_
      refine lv_astore (lv' := [(5, .ref q9), (0, .ref (ad 0 0)), (1, .int x), (2, .int y), (3, .int ye), (4, .ref oa)]) hx hb dL_shortfall_18 hl (by decide) rfl (fun ls hl => ?_)
      refine lv_iconst (v := 2) hx hb dL_shortfall_20 (by decide) ?_
      exact rh_iret hx hb hr hlocks (Or.inr (Or.inr (Or.inl ⟨hc9, rfl, ⟨_, hout⟩, hW⟩))) hS (by decide) (by decide) dL_shortfall_21
    · refine vx_catch (name := exn 3) hown [⟨0, 11, 14, 13⟩, ⟨0, 11, 18, 15⟩] ⟨0, 11, 22, 24⟩ [] (hex.trans rfl) (fun z hz => by rcases List.mem_cons.mp hz with rfl | hz; exact Or.inr ⟨by decide, exn 1, (hts (.classLink RL 13 (exn 1)) (by decide +kernel)), hnc9 (exn 3, exn 1) (by decide)⟩; rw [List.mem_singleton] at hz; subst hz; exact Or.inr ⟨by decide, exn 2, (hts (.classLink RL 15 (exn 2)) (by decide +kernel)), hnc9 (exn 3, exn 2) (by decide)⟩) (by decide) (by decide) (hts (.classLink RL 24 (exn 3)) (by decide +kernel)) (va_Nw.use rfl (hE.2.2.2.1 (exn 3) (by decide))) g1 g2 g3 ?_
      refine W.eq (g2 := F0 m 22 ls [.ref q9]) rfl ?_
      refine lv_astore (lv' := [(5, .ref q9), (0, .ref (ad 0 0)), (1, .int x), (2, .int y), (3, .int ye), (4, .ref oa)]) hx hb dL_shortfall_22 hl (by decide) rfl (fun ls hl => ?_)
      refine lv_iconst (v := 3) hx hb dL_shortfall_24 (by decide) ?_
      exact rh_iret hx hb hr hlocks (Or.inr (Or.inr (Or.inr (⟨hc9, rfl, ⟨_, hout⟩, hW⟩)))) hS (by decide) (by decide) dL_shortfall_25
  · obtain ⟨h9, k9, hc0, hc1, hc2, hc3, hc4, hc5, hc6, rfl, hW⟩ := hN9
    have hout := hout.kept (hk9 _ hlo9 (fun z => z.2 rfl))
    refine W.eq (g2 := F0 m 10 ls [.long (if ((v 6 (h9 * 4 + k9) 2).toInt64 - c_sum r v (h9 * 4 + k9) (ye * 12) (ye * 12 + 12 - 1) nc) < 0 then 0 else ((v 6 (h9 * 4 + k9) 2).toInt64 - c_sum r v (h9 * 4 + k9) (ye * 12) (ye * 12 + 12 - 1) nc)), .int 0, .ref oa]) rfl ?_
    refine rh_last0 (x := (if ((v 6 (h9 * 4 + k9) 2).toInt64 - c_sum r v (h9 * 4 + k9) (ye * 12) (ye * 12 + 12 - 1) nc) < 0 then 0 else ((v 6 (h9 * 4 + k9) 2).toInt64 - c_sum r v (h9 * 4 + k9) (ye * 12) (ye * 12 + 12 - 1) nc))) hx hb hE hout hS hAo 0 (by decide) (by decide) rfl dL_shortfall_10 (fun H1 locs hout hz8 ho8 hS => ?_)
    have hW := hW.keptD hD ho8
    refine lv_goto (tgt := 26) hx hb dL_shortfall_11 (by decide) ?_
    refine lv_iconst (v := 0) hx hb dL_shortfall_26 (by decide) ?_
    exact rh_iret hx hb hr hlocks (Or.inl ⟨h9, k9, hc0, hc1, hc2, hc3, hc4, hc5, hc6, rfl, ⟨_, if_pos rfl, hout⟩, hW⟩) hS (by decide) (by decide) dL_shortfall_27
set_option maxHeartbeats 4000000 in
set_option maxRecDepth 100000 in
theorem hl_net (l : Launch) (hlf : l.stackTraces = false) {G : va_G} {ca : Nat → ClassId} {A : Nat → Prop} {ad : Nat → Nat → Nat} {nf nc : Nat} {r : rh_R} {v : rh_V} {oa : Nat} {f : Nat → Int64} (hAo : A oa) (hD : rh_D (rh_A1 A oa) ad (fun k i => i < rh_n nf nc k)) (hwf : rh_wf nf nc r v) (x mo : Int32) : vx_Met l yL_net wsL_net ({ frames := 9, cells := 5, slots := 40, locals := 270 } : Room) (rh_Pl G ca A [.ref (ad 0 0), .int x, .int mo, .ref oa] (fun H => rh_W G ca ad nf nc r v H ∧ rh_o G ca oa f H)) (rh_Q A (fun o H => (∃ i : Nat, i < 4 ∧ x = nI i ∧ rng mo 0 (v 0 0 6) ∧ o = some (.int 0) ∧ (∃ f9 : Nat → Int64, f9 0 = (c_net r v nc i mo 4) ∧ rh_o G ca oa f9 H) ∧ rh_W G ca ad nf nc r v H) ∨ ((¬ ix x 4) ∧ o = some (.int 1) ∧ (∃ f9 : Nat → Int64, rh_o G ca oa f9 H) ∧ rh_W G ca ad nf nc r v H) ∨ ((ix x 4 ∧ ¬ rng mo 0 (v 0 0 6)) ∧ o = some (.int 2) ∧ (∃ f9 : Nat → Int64, rh_o G ca oa f9 H) ∧ rh_W G ca ad nf nc r v H))) (rh_XC A rh_no) 5 40 A := by
  refine rh_enterl (cc := cL_net) (maxL := 5) (ret := (some .int)) (hh := [(0, 9, 12, 13), (0, 9, 16, 15)]) (by decide) rfl (Nat.le_of_ble_eq_true rfl) ?_
  intro p e s m below meth c ls hx hb hr hml hown hts hlocks hex hin hE hnc9 hA hΦ hl
  obtain ⟨hW, hout⟩ := hΦ
  have hlo9 : oa < s.heap.size := hout.lt
  have hS : va_S A s.heap s.heap [] := va_S.rf
  have hl : lv_has ls 5 [(0, .ref (ad 0 0)), (1, .int x), (2, .int mo), (3, .ref oa)] := hl
  refine lv_aload_n hx hb dL_net_0 rfl (lv_at hl 3 rfl) ?_
  refine lv_iconst (v := 0) hx hb dL_net_1 (by decide) ?_
  refine lv_aload_n hx hb dL_net_2 rfl (lv_at hl 0 rfl) ?_
  refine lv_iload_n hx hb dL_net_3 rfl (lv_at hl 1 rfl) ?_
  refine lv_iload_n hx hb dL_net_4 rfl (lv_at hl 2 rfl) ?_
  have hA19 : ∀ q, rh_A1 A oa q → A q := fun q h => h.1
  have hB19 : ∀ q : Nat, s.heap.size ≤ q → rh_A1 A oa q := fun q h => ⟨hA q h, by omega⟩
  refine rh_call2 (vx_runV (As := [.int x, .int mo]) (rest := [.int 0, .ref oa]) ⟨hx, hb, hml, hown, hts⟩ (ct_X4_net l hlf hD hwf x mo) (cwV 2 hts gL_net_X4_net rfl rfl rfl (by decide +kernel) ⟨by decide, by decide⟩) (rh_preV2 hE hS hA19 hB19 (hW.at 0 0 Nat.zero_lt_one) rfl hW) rfl rfl hl.1 rfl (lv_room (Nat.le_of_ble_eq_true rfl)) dL_net_5 ⟨by decide, by decide⟩) hS hA19 (fun E ce q9 H locs hX9 hz9 hk9 hS g1 g2 g3 => ?_) (fun o H locs hN9 hz9 hk9 hS => ?_)
  · obtain ⟨hX9, hW⟩ := hX9
    have hout := hout.kept (hk9 _ hlo9 (fun z => z.2 rfl))
    rcases hX9 with ⟨rfl, hc9⟩ | ⟨rfl, hc9⟩
    · refine vx_catch (name := exn 1) hown [] ⟨0, 9, 12, 13⟩ [⟨0, 9, 16, 15⟩] (hex.trans rfl) (fun z hz => absurd hz (List.not_mem_nil)) (by decide) (by decide) (hts (.classLink RL 13 (exn 1)) (by decide +kernel)) (va_Nw.use rfl (hE.2.2.2.1 (exn 1) (by decide))) g1 g2 g3 ?_
      refine W.eq (g2 := F0 m 12 ls [.ref q9]) rfl ?_
      refine lv_astore (lv' := [(4, .ref q9), (0, .ref (ad 0 0)), (1, .int x), (2, .int mo), (3, .ref oa)]) hx hb dL_net_12 hl (by decide) rfl (fun ls hl => ?_)
      refine lv_iconst (v := 1) hx hb dL_net_14 (by decide) ?_
      exact rh_iret hx hb hr hlocks (Or.inr (Or.inl ⟨hc9, rfl, ⟨_, hout⟩, hW⟩)) hS (by decide) (by decide) dL_net_15
    · refine vx_catch (name := exn 2) hown [⟨0, 9, 12, 13⟩] ⟨0, 9, 16, 15⟩ [] (hex.trans rfl) (fun z hz => by rw [List.mem_singleton] at hz; subst hz; exact Or.inr ⟨by decide, exn 1, (hts (.classLink RL 13 (exn 1)) (by decide +kernel)), hnc9 (exn 2, exn 1) (by decide)⟩) (by decide) (by decide) (hts (.classLink RL 15 (exn 2)) (by decide +kernel)) (va_Nw.use rfl (hE.2.2.2.1 (exn 2) (by decide))) g1 g2 g3 ?_
      refine W.eq (g2 := F0 m 16 ls [.ref q9]) rfl ?_
      refine lv_astore (lv' := [(4, .ref q9), (0, .ref (ad 0 0)), (1, .int x), (2, .int mo), (3, .ref oa)]) hx hb dL_net_16 hl (by decide) rfl (fun ls hl => ?_)
      refine lv_iconst (v := 2) hx hb dL_net_18 (by decide) ?_
      exact rh_iret hx hb hr hlocks (Or.inr (Or.inr (⟨hc9, rfl, ⟨_, hout⟩, hW⟩))) hS (by decide) (by decide) dL_net_19
  · obtain ⟨i9, hc0, hc1, hc2, rfl, hW⟩ := hN9
    have hout := hout.kept (hk9 _ hlo9 (fun z => z.2 rfl))
    refine W.eq (g2 := F0 m 8 ls [.long (c_net r v nc i9 mo 4), .int 0, .ref oa]) rfl ?_
    refine rh_last0 (x := (c_net r v nc i9 mo 4)) hx hb hE hout hS hAo 0 (by decide) (by decide) rfl dL_net_8 (fun H1 locs hout hz8 ho8 hS => ?_)
    have hW := hW.keptD hD ho8
    refine lv_goto (tgt := 20) hx hb dL_net_9 (by decide) ?_
    refine lv_iconst (v := 0) hx hb dL_net_20 (by decide) ?_
    exact rh_iret hx hb hr hlocks (Or.inl ⟨i9, hc0, hc1, hc2, rfl, ⟨_, if_pos rfl, hout⟩, hW⟩) hS (by decide) (by decide) dL_net_21
