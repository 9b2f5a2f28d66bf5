/-! ===== the house is as in the law's own ===== -/
def rh_A1 (A : Nat → Prop) (oa : Nat) (q : Nat) : Prop := A q ∧ q ≠ oa
theorem rh_W.keptD {G : va_G} {ca : Nat → ClassId} {A : Nat → Prop} {ad : Nat → Nat → Nat} {nf nc : Nat} {r : rh_R} {v : rh_V} {H H1 : Heap} {oa : Nat} (h : rh_W G ca ad nf nc r v H) (hD : rh_D (rh_A1 A oa) ad (fun k i => i < rh_n nf nc k)) (ho : ∀ q : Nat, q ≠ oa → H1[q]? = H[q]?) : rh_W G ca ad nf nc r v H1 := by
  refine rh_P.kept h (fun k i e he => ho _ (hD.2 k i ?_).2)
  unfold rh_ce at he
  by_cases hb : i < rh_n nf nc k
  · exact hb
  · rw [if_neg hb] at he; cases he
theorem rh_enterp {l : Launch} {y : MethodName} {ws ws' : List Cond} {rm : Room} {G : va_G} {ca : Nat → ClassId} {A : Nat → Prop} {av : List Value} {Φ : Heap → Prop} {N : Option Value → Heap → Prop} {X : String → Heap → Prop} {mc ms : Nat} {cc : ByteArray} {maxL : Nat} {ret : Option FieldType}
    (hy : plainName y.cls = true) (hw : ws = Cond.code y cc maxL ret :: ws') (hlen : (lg_sl av).length ≤ maxL)
    (body : ∀ (p : Program) (e : Env) (s : State) (m : MethodId) (below : List Frame) (meth : Method) (c : Code) (ls : Array Slot), p.tables.exec = Jvm.exec → c.code = cc → meth.sig.returnType = ret → c.maxLocals = maxL → s.vm.findClass y.cls = some m.cls → (∀ w ∈ ws, w.before av.toArray s = true) → meth.locks = false → (∀ x ∈ c.exceptionTable.toList, False) → meth.name = y.name →
      rh_E G ca A s → (∀ x ∈ rh_nc, va_Nc x.1 x.2 s) → (∀ q : Nat, s.heap.size ≤ q → A q) → Φ s.heap → lv_has ls maxL (lv_args 0 av) →
      W p l e rm s m av.toArray below meth c s.heap [] 0 0 (vx_MQ below (rh_Q A N) (rh_XC A X) av.toArray s mc ms A) (F0 m 0 ls [])) : vx_Met l y ws rm (rh_Pl G ca A av Φ) (rh_Q A N) (rh_XC A X) mc ms A := by
  refine vx_ofW hy hw ?_
  intro p e s m args below meth c s₁ Bd hml hex hv
  obtain ⟨rfl, hE, hn, hB, hΦ⟩ := hv
  rw [lg_entry_eq]
  exact body p e s m below meth c _ Bd.exec Bd.bytes Bd.returns hml (findClass_of_methodNamed Bd.named) (atoms_spec (ws := ws) Bd.pre) Bd.notSynchronized hex (name_of_methodNamed Bd.named Bd.method).1 hE hn hB hΦ (lv_entry av hlen)
section RLZ
variable {p : Program} {l : Launch} {e : Env} {R : Room} {s : State} {m : MethodId} {args : Array Value} {below : List Frame} {meth : Method} {c : Code} {H : Heap} {locs : List Loc} {cells slots : Nat} {Q : State → Prop}
variable {cc : ByteArray} {pc : Nat} {ls : Array Slot} {rest : List Value} {G : va_G} {H0 : Heap} {A : Nat → Prop} {ca : Nat → ClassId}
/-- a new long array -/
theorem rh_newl0 (hexec : p.tables.exec = Jvm.exec) (hb : c.code = cc) (harr : (Cond.arrayClass .long).before args s = true) (hE : rh_E G ca A s) (hS : va_S A H0 H locs)
    {n : Int32} (N' : Nat) (hn : ¬ n < 0) (hN : n.toNatClampNeg = N') (hbytes : N' * componentBytes (newarray.typeOf .long) ≤ 536870912) (hcells : cells + 1 ≤ R.cells) (hslots : slots + N' ≤ R.slots) (hdg : decode cc pc = .ok (.newarray .long, 2))
    (kk : ∀ (q : Nat) (H1 : Heap), q = H.size → va_at G vwCl (q, .inl (ca 2, N', .inr (.inl (fun _ => 0)))) H1 → H1.size = H.size + 1 → (∀ x : Nat, x < H.size → H1[x]? = H[x]?) → va_S A H0 H1 locs →
      W p l e R s m args below meth c H1 locs (cells + 1) (slots + N') Q (F0 m (pc + 2) ls (.ref q :: rest))) : W p l e R s m args below meth c H locs cells slots Q (F0 m pc ls (.int n :: rest)) := by
  refine va_newaK (atype := .long) hexec hb harr rfl hdg rfl hn hN hbytes hcells hslots rfl fun H1 cA e1 z1 o1 hAr hNm => ?_
  have hI : s.vm.findClass ("[" ++ FieldType.long.toString) = some (ca 2) := (hE.1.2 2 _ rfl).2
  have hca : cA = ca 2 := Option.some.inj (hNm.symm.trans hI)
  subst hca
  refine kk H.size H1 rfl ?_ z1 o1 ⟨Nat.le_trans hS.1 (by omega), fun x h1 h2 => (o1 x (Nat.lt_of_lt_of_le h1 hS.1)).trans (hS.2.1 x h1 h2), hS.2.2⟩
  show H1[H.size]? = some (vp_cell _ _)
  rw [vp_cell_l]
  exact e1
end RLZ
theorem u_sh1 {d : Int64} (h : ¬ lg_cmp d (lN 0) ≤ 0) : (if d < 0 then 0 else d) = d := by
  have h1 : ¬ d ≤ 0 := fun z => h ((lg_cmp_le _ _).mpr z)
  rw [if_neg (fun z => h1 (Int64.le_of_lt z))]
theorem u_sh2 {d : Int64} (h : lg_cmp d (lN 0) ≤ 0) : (if d < 0 then 0 else d) = lN 0 := by
  have h1 : d ≤ 0 := (lg_cmp_le _ _).mp h
  by_cases h2 : d < 0
  · rw [if_pos h2]; rfl
  · rw [if_neg h2]; exact Int64.le_antisymm h1 (Int64.not_lt.mp h2)
theorem u_lk_le (L : u_L) (q n i : Nat) : u_lk L q n i ≤ i := by
  have := sm_le (F := fun t => if u_wt L q (99 - t) n = 0 ∧ 0 < u_ab L q (99 - t) n then 1 else 0) (b := 1) i (fun k _ => by
    show (if u_wt L q (99 - k) n = 0 ∧ 0 < u_ab L q (99 - k) n then 1 else 0) ≤ 1
    split <;> omega)
  unfold u_lk
  omega
theorem u_rngs {x : Nat} (h1 : 1 ≤ x) (h2 : x ≤ 36000) : rng (nI x) 1 36000 := ⟨nI_le (a := 1) h1 (by omega), nI_le (b := 36000) h2 (by decide)⟩
set_option maxHeartbeats 16000000 in
set_option maxRecDepth 100000 in
/-- the house is as in the law's own -/
theorem ct_L_isHouse (l : Launch) (hlf : l.stackTraces = false) {G : va_G} {ca : Nat → ClassId} {A : Nat → Prop} {ua : Nat → Nat} {L : u_L} {ad : Nat → Nat → Nat} {nf nc : Nat} {r : rh_R} {v : rh_V} {w : rh_Wm} (x : Nat) (hx9 : x < 1000000000) (hD : rh_D A ad (fun k i => i < rh_n nf nc k)) (hUA : ∀ k : Nat, k < 9 → ¬ A (ua k)) (hinv : inv nf nc r v w) (hlr : lr nf nc r w L) (h7 : le7 nf L) : vx_Met l yL_isHouse wsL_isHouse ({ frames := 10, cells := 1100, slots := 9000, locals := 310 } : Room) (rh_Pl G ca A [.ref (ad 0 0), .ref (ua 0), .ref (ua 1), .ref (ua 2), .ref (ua 3), .ref (ua 4), .ref (ua 5), .ref (ua 6), .ref (ua 7), .ref (ua 8), .int (nI x)] (fun H => rh_W G ca ad nf nc r v H ∧ u_W G ca ua L H)) (rh_Q A (fun o H => o = some (.int 1) ∧ rh_W G ca ad nf nc r v H)) (rh_XC A rh_no) 1100 9000 A := by
  have hub := hlr.1
  have hla := hlr.2.2.1
  have hn00 := hlr.2.1.1.1
  have hn16 := hlr.2.1.1.2
  have hn01 := hlr.2.1.2.1.1
  have hn40 := hlr.2.1.2.1.2
  have hlk := o_lk hinv hlr
  have hnow := o_now hinv hlr
  have hncv := hinv.1.2.2.2.2.2.1
  refine rh_enterp (cc := cL_isHouse) (maxL := 22) (ret := (some .boolean)) (by decide) rfl (Nat.le_of_ble_eq_true rfl) ?_
  intro p e s m below meth c ls hx hb hr hml hown hts hlocks hex hin hE hnc9 hA hΦ hl
  obtain ⟨hW, hU⟩ := hΦ
  have hS : va_S A s.heap s.heap [] := va_S.rf
  have hl : lv_has ls 22 [(0, .ref (ad 0 0)), (1, .ref (ua 0)), (2, .ref (ua 1)), (3, .ref (ua 2)), (4, .ref (ua 3)), (5, .ref (ua 4)), (6, .ref (ua 5)), (7, .ref (ua 6)), (8, .ref (ua 7)), (9, .ref (ua 8)), (10, .int (nI x))] := hl
  refine lv_aload_n hx hb dL_isHouse_0 rfl (lv_at hl 0 rfl) ?_
  have hA19 : ∀ q, A q → A q := fun q h => h
  have hB19 : ∀ q : Nat, s.heap.size ≤ q → A q := fun q h => hA q (Nat.le_trans hS.1 h)
  refine rh_call2 (vx_runV (As := []) (rest := []) ⟨hx, hb, hml, hown, hts⟩ (ct_X4_calls l hD) (cwV 0 hts gL_isHouse_X4_calls rfl rfl rfl (by decide +kernel) ⟨by decide, by decide⟩) (rh_preV2 hE hS hA19 hB19 (hW.at 0 0 Nat.zero_lt_one) rfl hW) rfl rfl hl.1 rfl (lv_room (Nat.le_of_ble_eq_true rfl)) dL_isHouse_1 ⟨show 0 + 0 ≤ 1100 by omega, show 0 + 0 ≤ 9000 by omega⟩) hS hA19 (fun _ _ _ _ _ hX9 _ _ _ _ _ _ => hX9.elim) (fun o H locs hN9 hz9 hk9 hS => ?_)
  obtain ⟨rfl, hW⟩ := hN9
  have hU := hU.kept (fun k hk => hk9 _ (hU.lt hk) (fun z => hUA k hk z))
  refine W.eq (g2 := F0 m 4 ls [.int (v 0 0 5)]) rfl ?_
  refine un_top (y := nI nc) hncv ?_
  refine lv_aload_n hx hb dL_isHouse_4 rfl (lv_at hl 1 rfl) ?_
  refine lv_iconst (v := nI 1) hx hb dL_isHouse_5 (by decide) ?_
  have hb6_10 := hub 0 1
  refine un_ald (L := L) hx hb hE hU 0 (by decide) 1 (show 1 < 4 from (by decide)) dL_isHouse_6 ?_
  refine un_cne (tgt := 24) hx hb dL_isHouse_7 (by decide) (by omega) (by omega) (fun c1 => absurd hn01.symm c1) (fun c1 => ?_)
  refine lv_aload_n hx hb dL_isHouse_10 rfl (lv_at hl 0 rfl) ?_
  have hA19 : ∀ q, A q → A q := fun q h => h
  have hB19 : ∀ q : Nat, H.size ≤ q → A q := fun q h => hA q (Nat.le_trans hS.1 h)
  refine rh_call2 (vx_runV (As := []) (rest := []) ⟨hx, hb, hml, hown, hts⟩ (ct_X4_month l hD) (cwV 0 hts gL_isHouse_X4_month rfl rfl rfl (by decide +kernel) ⟨by decide, by decide⟩) (rh_preV2 hE hS hA19 hB19 (hW.at 0 0 Nat.zero_lt_one) rfl hW) rfl rfl hl.1 rfl (lv_room (Nat.le_of_ble_eq_true rfl)) dL_isHouse_11 ⟨show 0 + 0 ≤ 1100 by omega, show 0 + 0 ≤ 9000 by omega⟩) hS hA19 (fun _ _ _ _ _ hX9 _ _ _ _ _ _ => hX9.elim) (fun o H locs hN9 hz9 hk9 hS => ?_)
  obtain ⟨rfl, hW⟩ := hN9
  have hU := hU.kept (fun k hk => hk9 _ (hU.lt hk) (fun z => hUA k hk z))
  refine W.eq (g2 := F0 m 14 ls [.int (v 0 0 6)]) rfl ?_
  refine un_top (y := nI (L 0 3)) hnow.1 ?_
  refine lv_aload_n hx hb dL_isHouse_14 rfl (lv_at hl 1 rfl) ?_
  refine lv_iconst (v := nI 3) hx hb dL_isHouse_15 (by decide) ?_
  have hb16_23 := hub 0 3
  refine un_ald (L := L) hx hb hE hU 0 (by decide) 3 (show 3 < 4 from (by decide)) dL_isHouse_16 ?_
  refine un_cne (tgt := 24) hx hb dL_isHouse_17 (by decide) (by omega) (by omega) (fun c2 => absurd rfl c2) (fun c2 => ?_)
  refine lv_iconst (v := nI 1) hx hb dL_isHouse_20 (by decide) ?_
  refine lv_goto (tgt := 25) hx hb dL_isHouse_21 (by decide) ?_
  refine lv_istore (lv' := [(11, .int (nI 1)), (0, .ref (ad 0 0)), (1, .ref (ua 0)), (2, .ref (ua 1)), (3, .ref (ua 2)), (4, .ref (ua 3)), (5, .ref (ua 4)), (6, .ref (ua 5)), (7, .ref (ua 6)), (8, .ref (ua 7)), (9, .ref (ua 8)), (10, .int (nI x))]) hx hb dL_isHouse_25 hl (by decide) rfl (fun ls hl => ?_)
  refine lv_iconst (v := nI 0) hx hb dL_isHouse_27 (by decide) ?_
  refine lv_istore (lv' := [(12, .int (nI 0)), (11, .int (nI 1)), (0, .ref (ad 0 0)), (1, .ref (ua 0)), (2, .ref (ua 1)), (3, .ref (ua 2)), (4, .ref (ua 3)), (5, .ref (ua 4)), (6, .ref (ua 5)), (7, .ref (ua 6)), (8, .ref (ua 7)), (9, .ref (ua 8)), (10, .int (nI x))]) hx hb dL_isHouse_28 hl (by decide) rfl (fun ls hl => ?_)
  have loop30 : ∀ (n : Nat) (j : Nat) (H : Heap) (locs : List Loc) (ls : Array Slot), nf + 1 ≤ j + n → j ≤ nf → rh_W G ca ad nf nc r v H → u_W G ca ua L H → va_S A s.heap H locs → lv_has ls 22 [(0, .ref (ad 0 0)), (1, .ref (ua 0)), (2, .ref (ua 1)), (3, .ref (ua 2)), (4, .ref (ua 3)), (5, .ref (ua 4)), (6, .ref (ua 5)), (7, .ref (ua 6)), (8, .ref (ua 7)), (9, .ref (ua 8)), (10, .int (nI x)), (11, .int (nI 1)), (12, .int (nI j))] → W p l e ({ frames := 10, cells := 1100, slots := 9000, locals := 310 } : Room) s m ([.ref (ad 0 0), .ref (ua 0), .ref (ua 1), .ref (ua 2), .ref (ua 3), .ref (ua 4), .ref (ua 5), .ref (ua 6), .ref (ua 7), .ref (ua 8), .int (nI x)] : List Value).toArray below meth c H locs (5 * j) (40 * j) (vx_MQ below (rh_Q A (fun o H => o = some (.int 1) ∧ rh_W G ca ad nf nc r v H)) (rh_XC A rh_no) ([.ref (ad 0 0), .ref (ua 0), .ref (ua 1), .ref (ua 2), .ref (ua 3), .ref (ua 4), .ref (ua 5), .ref (ua 6), .ref (ua 7), .ref (ua 8), .int (nI x)] : List Value).toArray s 1100 9000 A) (F0 m 30 ls []) := by
    intro n
    induction n with
    | zero => intro j H locs ls hn hj hW hU hS hl; exfalso; omega
    | succ n ih30 =>
      intro j H locs ls hn hj hW hU hS hl
      refine lv_iload hx hb dL_isHouse_30 (lv_at hl 12 rfl) ?_
      refine lv_aload_n hx hb dL_isHouse_32 rfl (lv_at hl 1 rfl) ?_
      refine lv_iconst (v := nI 0) hx hb dL_isHouse_33 (by decide) ?_
      have hb34_40 := hub 0 0
      refine un_ald (L := L) hx hb hE hU 0 (by decide) 0 (show 0 < 4 from (by decide)) dL_isHouse_34 ?_
      refine un_cge (tgt := 73) hx hb dL_isHouse_35 (by decide) (by omega) (by omega) (fun c3 => ?_) (fun c3 => ?_)
      · have hjf : j = nf := by omega
        refine lv_iconst (v := nI 0) hx hb dL_isHouse_73 (by decide) ?_
        refine lv_istore (lv' := [(12, .int (nI 0)), (0, .ref (ad 0 0)), (1, .ref (ua 0)), (2, .ref (ua 1)), (3, .ref (ua 2)), (4, .ref (ua 3)), (5, .ref (ua 4)), (6, .ref (ua 5)), (7, .ref (ua 6)), (8, .ref (ua 7)), (9, .ref (ua 8)), (10, .int (nI x)), (11, .int (nI 1))]) hx hb dL_isHouse_74 hl (by decide) rfl (fun ls hl => ?_)
        have loop76 : ∀ (n : Nat) (j : Nat) (H : Heap) (locs : List Loc) (ls : Array Slot), nc + 1 ≤ j + n → j ≤ nc → rh_W G ca ad nf nc r v H → u_W G ca ua L H → va_S A s.heap H locs → lv_has ls 22 [(0, .ref (ad 0 0)), (1, .ref (ua 0)), (2, .ref (ua 1)), (3, .ref (ua 2)), (4, .ref (ua 3)), (5, .ref (ua 4)), (6, .ref (ua 5)), (7, .ref (ua 6)), (8, .ref (ua 7)), (9, .ref (ua 8)), (10, .int (nI x)), (11, .int (nI 1)), (12, .int (nI j))] → W p l e ({ frames := 10, cells := 1100, slots := 9000, locals := 310 } : Room) s m ([.ref (ad 0 0), .ref (ua 0), .ref (ua 1), .ref (ua 2), .ref (ua 3), .ref (ua 4), .ref (ua 5), .ref (ua 6), .ref (ua 7), .ref (ua 8), .int (nI x)] : List Value).toArray below meth c H locs (80 + 15 * j) (640 + 120 * j) (vx_MQ below (rh_Q A (fun o H => o = some (.int 1) ∧ rh_W G ca ad nf nc r v H)) (rh_XC A rh_no) ([.ref (ad 0 0), .ref (ua 0), .ref (ua 1), .ref (ua 2), .ref (ua 3), .ref (ua 4), .ref (ua 5), .ref (ua 6), .ref (ua 7), .ref (ua 8), .int (nI x)] : List Value).toArray s 1100 9000 A) (F0 m 76 ls []) := by
          intro n
          induction n with
          | zero => intro j H locs ls hn hj hW hU hS hl; exfalso; omega
          | succ n ih76 =>
            intro j H locs ls hn hj hW hU hS hl
            refine lv_iload hx hb dL_isHouse_76 (lv_at hl 12 rfl) ?_
            refine lv_aload_n hx hb dL_isHouse_78 rfl (lv_at hl 1 rfl) ?_
            refine lv_iconst (v := nI 1) hx hb dL_isHouse_79 (by decide) ?_
            have hb80_55 := hub 0 1
            refine un_ald (L := L) hx hb hE hU 0 (by decide) 1 (show 1 < 4 from (by decide)) dL_isHouse_80 ?_
            refine un_cge (tgt := 206) hx hb dL_isHouse_81 (by decide) (by omega) (by omega) (fun c4 => ?_) (fun c4 => ?_)
            · have hjf : j = nc := by omega
              refine lv_iload hx hb dL_isHouse_206 (lv_at hl 10 rfl) ?_
              refine lv_aload_n hx hb dL_isHouse_208 rfl (lv_at hl 1 rfl) ?_
              refine lv_iconst (v := nI 3) hx hb dL_isHouse_209 (by decide) ?_
              have hb210_62 := hub 0 3
              refine un_ald (L := L) hx hb hE hU 0 (by decide) 3 (show 3 < 4 from (by decide)) dL_isHouse_210 ?_
              refine lv_iconst (v := nI 1) hx hb dL_isHouse_211 (by decide) ?_
              refine un_add hx hb dL_isHouse_212 ?_
              refine un_rem hx hb dL_isHouse_213 (by omega) (by omega) (by omega) ?_
              obtain ⟨mo, hmov⟩ : ∃ z : Nat, z = (x % ((L 0 3) + 1)) := ⟨_, rfl⟩
              refine un_top (y := nI mo) (congrArg nI hmov.symm) ?_
              have hmol : mo ≤ L 0 3 := by have := Nat.mod_lt x (show L 0 3 + 1 > 0 by omega); omega
              have hrmo : rng (nI mo) 0 (v 0 0 6) := by
                rw [hnow.1]
                exact ⟨nI_pos' (by omega), nI_le hmol (by omega)⟩
              refine lv_istore (lv' := [(12, .int (nI mo)), (0, .ref (ad 0 0)), (1, .ref (ua 0)), (2, .ref (ua 1)), (3, .ref (ua 2)), (4, .ref (ua 3)), (5, .ref (ua 4)), (6, .ref (ua 5)), (7, .ref (ua 6)), (8, .ref (ua 7)), (9, .ref (ua 8)), (10, .int (nI x)), (11, .int (nI 1))]) hx hb dL_isHouse_214 hl (by decide) rfl (fun ls hl => ?_)
              refine lv_iconst (v := nI 4) hx hb dL_isHouse_216 (by decide) ?_
              have hAna : A H.size := hA _ hS.1
              have hltW : ∀ k i : Nat, i < rh_n nf nc k → ad k i < H.size := fun k i hi => (hW.at k i hi).lt
              have hltU : ∀ k : Nat, k < 9 → ua k < H.size := fun k hk => hU.lt hk
              refine rh_newl0 hx hb (hts (.arrayClass .long) (by decide +kernel)) hE hS 4 (by decide) (by decide) (by decide) (show (80 + 15 * j) + 1 ≤ 1100 by omega) (show (640 + 120 * j) + 4 ≤ 9000 by omega) dL_isHouse_217 (fun na H hna hO hz9 ho9 hS => ?_)
              have hW := hW.grow ho9
              have hU := hU.grow ho9
              have hAna : A na := hna ▸ hAna
              have hUn : ∀ k : Nat, k < 9 → ua k ≠ na := fun k hk z => by have := hltU k hk; omega
              have hDn : rh_D (rh_A1 A na) ad (fun k i => i < rh_n nf nc k) := ⟨hD.1, fun k i hi => ⟨hD.2 k i hi, fun z => by have := hltW k i hi; omega⟩⟩
              clear hltW hltU
              refine lv_astore (lv' := [(13, .ref na), (12, .int (nI mo)), (0, .ref (ad 0 0)), (1, .ref (ua 0)), (2, .ref (ua 1)), (3, .ref (ua 2)), (4, .ref (ua 3)), (5, .ref (ua 4)), (6, .ref (ua 5)), (7, .ref (ua 6)), (8, .ref (ua 7)), (9, .ref (ua 8)), (10, .int (nI x)), (11, .int (nI 1))]) hx hb dL_isHouse_219 hl (by decide) rfl (fun ls hl => ?_)
              refine lv_iconst (v := nI 0) hx hb dL_isHouse_221 (by decide) ?_
              refine lv_istore (lv' := [(14, .int (nI 0)), (13, .ref na), (12, .int (nI mo)), (0, .ref (ad 0 0)), (1, .ref (ua 0)), (2, .ref (ua 1)), (3, .ref (ua 2)), (4, .ref (ua 3)), (5, .ref (ua 4)), (6, .ref (ua 5)), (7, .ref (ua 6)), (8, .ref (ua 7)), (9, .ref (ua 8)), (10, .int (nI x)), (11, .int (nI 1))]) hx hb dL_isHouse_222 hl (by decide) rfl (fun ls hl => ?_)
              have loop224 : ∀ (n : Nat) (j : Nat) (H : Heap) (locs : List Loc) (ls : Array Slot), 17 ≤ j + n → j ≤ 16 → rh_W G ca ad nf nc r v H → u_W G ca ua L H → va_at G vwCl (na, .inl (ca 2, 4, .inr (.inl (u_nt (u_un L mo) j)))) H → va_S A s.heap H locs → lv_has ls 22 [(0, .ref (ad 0 0)), (1, .ref (ua 0)), (2, .ref (ua 1)), (3, .ref (ua 2)), (4, .ref (ua 3)), (5, .ref (ua 4)), (6, .ref (ua 5)), (7, .ref (ua 6)), (8, .ref (ua 7)), (9, .ref (ua 8)), (10, .int (nI x)), (11, .int (nI 1)), (12, .int (nI mo)), (13, .ref na), (14, .int (nI j))] → W p l e ({ frames := 10, cells := 1100, slots := 9000, locals := 310 } : Room) s m ([.ref (ad 0 0), .ref (ua 0), .ref (ua 1), .ref (ua 2), .ref (ua 3), .ref (ua 4), .ref (ua 5), .ref (ua 6), .ref (ua 7), .ref (ua 8), .int (nI x)] : List Value).toArray below meth c H locs (681 + 20 * j) (5444 + 160 * j) (vx_MQ below (rh_Q A (fun o H => o = some (.int 1) ∧ rh_W G ca ad nf nc r v H)) (rh_XC A rh_no) ([.ref (ad 0 0), .ref (ua 0), .ref (ua 1), .ref (ua 2), .ref (ua 3), .ref (ua 4), .ref (ua 5), .ref (ua 6), .ref (ua 7), .ref (ua 8), .int (nI x)] : List Value).toArray s 1100 9000 A) (F0 m 224 ls []) := by
                intro n
                induction n with
                | zero => intro j H locs ls hn hj hW hU hO hS hl; exfalso; omega
                | succ n ih224 =>
                  intro j H locs ls hn hj hW hU hO hS hl
                  refine lv_iload hx hb dL_isHouse_224 (lv_at hl 14 rfl) ?_
                  refine lv_bipush (v := nI 16) hx hb dL_isHouse_226 (by decide) ?_
                  refine un_cge (tgt := 488) hx hb dL_isHouse_228 (by decide) (by omega) (by decide) (fun c5 => ?_) (fun c5 => ?_)
                  · have hjf : j = 16 := by omega
                    have hO : va_at G vwCl (na, .inl (ca 2, 4, .inr (.inl (u_nt (u_un L mo) 16)))) H := by rw [← hjf]; exact hO
                    refine lv_iconst (v := nI 0) hx hb dL_isHouse_488 (by decide) ?_
                    refine lv_istore (lv' := [(14, .int (nI 0)), (0, .ref (ad 0 0)), (1, .ref (ua 0)), (2, .ref (ua 1)), (3, .ref (ua 2)), (4, .ref (ua 3)), (5, .ref (ua 4)), (6, .ref (ua 5)), (7, .ref (ua 6)), (8, .ref (ua 7)), (9, .ref (ua 8)), (10, .int (nI x)), (11, .int (nI 1)), (12, .int (nI mo)), (13, .ref na)]) hx hb dL_isHouse_489 hl (by decide) rfl (fun ls hl => ?_)
                    have loop491 : ∀ (n : Nat) (k : Nat) (H : Heap) (locs : List Loc) (ls : Array Slot), 5 ≤ k + n → k ≤ 4 → rh_W G ca ad nf nc r v H → u_W G ca ua L H → va_at G vwCl (na, .inl (ca 2, 4, .inr (.inl (u_nt (u_un L mo) 16)))) H → va_S A s.heap H locs → lv_has ls 22 [(0, .ref (ad 0 0)), (1, .ref (ua 0)), (2, .ref (ua 1)), (3, .ref (ua 2)), (4, .ref (ua 3)), (5, .ref (ua 4)), (6, .ref (ua 5)), (7, .ref (ua 6)), (8, .ref (ua 7)), (9, .ref (ua 8)), (10, .int (nI x)), (11, .int (nI 1)), (12, .int (nI mo)), (13, .ref na), (14, .int (nI k))] → W p l e ({ frames := 10, cells := 1100, slots := 9000, locals := 310 } : Room) s m ([.ref (ad 0 0), .ref (ua 0), .ref (ua 1), .ref (ua 2), .ref (ua 3), .ref (ua 4), .ref (ua 5), .ref (ua 6), .ref (ua 7), .ref (ua 8), .int (nI x)] : List Value).toArray below meth c H locs (1001 + 10 * k) (8004 + 80 * k) (vx_MQ below (rh_Q A (fun o H => o = some (.int 1) ∧ rh_W G ca ad nf nc r v H)) (rh_XC A rh_no) ([.ref (ad 0 0), .ref (ua 0), .ref (ua 1), .ref (ua 2), .ref (ua 3), .ref (ua 4), .ref (ua 5), .ref (ua 6), .ref (ua 7), .ref (ua 8), .int (nI x)] : List Value).toArray s 1100 9000 A) (F0 m 491 ls []) := by
                      intro n
                      induction n with
                      | zero => intro k H locs ls hn hk hW hU hO hS hl; exfalso; omega
                      | succ n ih491 =>
                        intro k H locs ls hn hk hW hU hO hS hl
                        refine lv_iload hx hb dL_isHouse_491 (lv_at hl 14 rfl) ?_
                        refine lv_iconst (v := nI 4) hx hb dL_isHouse_493 (by decide) ?_
                        refine un_cge (tgt := 561) hx hb dL_isHouse_494 (by decide) (by omega) (by decide) (fun c6 => ?_) (fun c6 => ?_)
                        · refine lv_iload hx hb dL_isHouse_561 (lv_at hl 11 rfl) ?_
                          exact rh_zret hx hb hr hlocks rfl ⟨rfl, hW⟩ hS (by omega) (by omega) dL_isHouse_563
                        · have hk4 : k < 4 := by omega
                          have hchb := u_ch_le hla hk4 (s := 1 + x % 36000) (by omega)
                          refine lv_iload hx hb dL_isHouse_497 (lv_at hl 11 rfl) ?_
                          refine un_ieq (tgt := 561) hx hb dL_isHouse_499 (by decide) (by decide) (fun c7 => absurd (show (1 : Nat) = 0 from c7) (by decide)) (fun c7 => ?_)
                          refine lv_aload_n hx hb dL_isHouse_502 rfl (lv_at hl 0 rfl) ?_
                          refine lv_iload hx hb dL_isHouse_503 (lv_at hl 14 rfl) ?_
                          refine lv_iload hx hb dL_isHouse_505 (lv_at hl 12 rfl) ?_
                          have hlo9 : na < H.size := va_at.lt hO
                          have hA19 : ∀ q, rh_A1 A na q → A q := fun q h => h.1
                          have hB19 : ∀ q : Nat, H.size ≤ q → rh_A1 A na q := fun q h => ⟨hA q (Nat.le_trans hS.1 h), by omega⟩
                          refine rh_call2 (vx_runV (As := [.int (nI k), .int (nI mo)]) (rest := []) ⟨hx, hb, hml, hown, hts⟩ (ct_X4_net l hlf hDn hinv.1 (nI k) (nI mo)) (cwV 2 hts gL_isHouse_X4_net rfl rfl rfl (by decide +kernel) ⟨by decide, by decide⟩) (rh_preV2 hE hS hA19 hB19 (hW.at 0 0 Nat.zero_lt_one) rfl hW) rfl rfl hl.1 rfl (lv_room (Nat.le_of_ble_eq_true rfl)) dL_isHouse_507 ⟨show (1001 + 10 * k) + 5 ≤ 1100 by omega, show (8004 + 80 * k) + 40 ≤ 9000 by omega⟩) hS hA19 (fun E ce q9 H locs hX9 hz9 hk9 hS g1 g2 g3 => ?_) (fun o H locs hN9 hz9 hk9 hS => ?_)
                          · obtain ⟨hX9, -⟩ := hX9
                            rcases hX9 with ⟨-, z⟩ | ⟨-, -, z⟩
                            · exact absurd (ix_nI (by omega) (by decide)) z
                            · exact absurd hrmo z
                          obtain ⟨i9, hi9, e9, hr9, rfl, hW⟩ := hN9
                          have hU := hU.kept (fun k hk => hk9 _ (hU.lt hk) (fun z => hUA k hk z.1))
                          have hO := va_at.kept hO (hk9 _ hlo9 (fun z => z.2 rfl))
                          obtain rfl : k = i9 := m_inj (by omega) (by omega) e9
                          refine W.eq (g2 := F0 m 510 ls [.long (c_net r v nc k (nI mo) 4)]) rfl ?_
                          refine un_topl (y := (u_nt (u_un L mo) 16 k)) (o_net hinv hlr hk4 (by omega)) ?_
                          refine lv_aload hx hb dL_isHouse_510 (lv_at hl 13 rfl) ?_
                          refine lv_iload hx hb dL_isHouse_512 (lv_at hl 14 rfl) ?_
                          refine rh_lald hx hb hE hO k (show k < 4 by omega) (by decide) rfl dL_isHouse_514 ?_
                          refine W.lcmp hx hb dL_isHouse_515 ?_
                          refine un_top (y := nI 0) ((lg_cmp_eq _ _).mpr rfl) ?_
                          refine un_ine (tgt := 552) hx hb dL_isHouse_516 (by decide) (by decide) (fun c8 => absurd (show ¬ (0 : Nat) = 0 from c8) (by decide)) (fun c8 => ?_)
                          refine lv_aload_n hx hb dL_isHouse_519 rfl (lv_at hl 0 rfl) ?_
                          refine lv_iload hx hb dL_isHouse_520 (lv_at hl 14 rfl) ?_
                          refine lv_iconst (v := nI 1) hx hb dL_isHouse_522 (by decide) ?_
                          refine lv_iload hx hb dL_isHouse_523 (lv_at hl 10 rfl) ?_
                          refine lv_ldc (v := 36000) hx hb hown (hts (.constant RL 110 (36000)) (by decide +kernel)) dL_isHouse_525 ?_
                          refine un_top (y := nI 36000) rfl ?_
                          refine un_rem hx hb dL_isHouse_527 (by omega) (by decide) (by decide) ?_
                          refine un_add hx hb dL_isHouse_528 ?_
                          have hlo9 : na < H.size := va_at.lt hO
                          have hA19 : ∀ q, rh_A1 A na q → A q := fun q h => h.1
                          have hB19 : ∀ q : Nat, H.size ≤ q → rh_A1 A na q := fun q h => ⟨hA q (Nat.le_trans hS.1 h), by omega⟩
                          refine rh_call2 (vx_runV (As := [.int (nI k), .int (nI (1 + (x % 36000)))]) (rest := []) ⟨hx, hb, hml, hown, hts⟩ (ct_X4_charge l hlf hDn hinv.1 (nI k) (nI (1 + (x % 36000)))) (cwV 2 hts gL_isHouse_X4_charge rfl rfl rfl (by decide +kernel) ⟨by decide, by decide⟩) (rh_preV2 hE hS hA19 hB19 (hW.at 0 0 Nat.zero_lt_one) rfl hW) rfl rfl hl.1 rfl (lv_room (Nat.le_of_ble_eq_true rfl)) dL_isHouse_529 ⟨show ((1001 + 10 * k) + 5) + 5 ≤ 1100 by omega, show ((8004 + 80 * k) + 40) + 40 ≤ 9000 by omega⟩) hS hA19 (fun E ce q9 H locs hX9 hz9 hk9 hS g1 g2 g3 => ?_) (fun o H locs hN9 hz9 hk9 hS => ?_)
                          · obtain ⟨hX9, -⟩ := hX9
                            rcases hX9 with ⟨-, z⟩ | ⟨-, -, z⟩
                            · exact absurd (ix_nI (by omega) (by decide)) z
                            · exact absurd (u_rngs (by omega) (by omega)) z
                          obtain ⟨i9, hi9, e9, hr9, rfl, hW⟩ := hN9
                          have hU := hU.kept (fun k hk => hk9 _ (hU.lt hk) (fun z => hUA k hk z.1))
                          have hO := va_at.kept hO (hk9 _ hlo9 (fun z => z.2 rfl))
                          obtain rfl : k = i9 := m_inj (by omega) (by omega) e9
                          refine W.eq (g2 := F0 m 532 ls [.int (c_ch v k (nI (1 + x % 36000)))]) rfl ?_
                          refine un_top (y := nI (u_ch L k (1 + x % 36000))) (o_ch hinv hlr hk4 (by omega) (by omega)) ?_
                          refine lv_aload_n hx hb dL_isHouse_532 rfl (lv_at hl 2 rfl) ?_
                          refine lv_iload hx hb dL_isHouse_533 (lv_at hl 14 rfl) ?_
                          refine lv_iconst (v := nI 1) hx hb dL_isHouse_535 (by decide) ?_
                          refine lv_iload hx hb dL_isHouse_536 (lv_at hl 10 rfl) ?_
                          refine lv_ldc (v := 36000) hx hb hown (hts (.constant RL 110 (36000)) (by decide +kernel)) dL_isHouse_538 ?_
                          refine un_top (y := nI 36000) rfl ?_
                          refine un_rem hx hb dL_isHouse_540 (by omega) (by decide) (by decide) ?_
                          refine un_add hx hb dL_isHouse_541 ?_
                          have hAn : ∀ q : Nat, H.size ≤ q → A q := fun q h => hA q (Nat.le_trans hS.1 h)
                          refine rh_call2 (vx_runS (As := [.ref (ua 1), .int (nI k), .int (nI (1 + (x % 36000)))]) (rest := [.int (nI (u_ch L k (1 + x % 36000)))]) ⟨hx, hb, hml, hown, hts⟩ (ct_L_charge l k hk4 (1 + (x % 36000)) (by omega) hub hla) (va_cwS 3 hts gL_isHouse_L_charge rfl rfl rfl (by decide +kernel) ⟨by decide, by decide⟩) (rh_pre2 hE hS hAn (fun q h => h) hU) rfl rfl hl.1 rfl (lv_room (Nat.le_of_ble_eq_true rfl)) dL_isHouse_542 ⟨show (((1001 + 10 * k) + 5) + 5) + 0 ≤ 1100 by omega, show (((8004 + 80 * k) + 40) + 40) + 0 ≤ 9000 by omega⟩) hS hAn (fun _ _ _ _ _ hX9 _ _ _ _ _ _ => hX9.elim) (fun o H locs hN9 hz9 hk9 hS => ?_)
                          have hN9 := hN9
                          subst hN9
                          have hk9 := fun q hq => hk9 q hq (Nat.not_le.mpr hq)
                          have hW := hW.grow hk9
                          have hU := hU.grow hk9
                          have hO := va_at.kept hO (hk9 _ (va_at.lt hO))
                          refine W.eq (g2 := F0 m 545 ls [.int (nI (u_ch L k (1 + (x % 36000)))), .int (nI (u_ch L k (1 + x % 36000)))]) rfl ?_
                          refine un_cne (tgt := 552) hx hb dL_isHouse_545 (by decide) (by omega) (by omega) (fun c9 => absurd rfl c9) (fun c9 => ?_)
                          refine lv_iconst (v := nI 1) hx hb dL_isHouse_548 (by decide) ?_
                          refine lv_goto (tgt := 553) hx hb dL_isHouse_549 (by decide) ?_
                          refine lv_istore (lv' := [(11, .int (nI 1)), (0, .ref (ad 0 0)), (1, .ref (ua 0)), (2, .ref (ua 1)), (3, .ref (ua 2)), (4, .ref (ua 3)), (5, .ref (ua 4)), (6, .ref (ua 5)), (7, .ref (ua 6)), (8, .ref (ua 7)), (9, .ref (ua 8)), (10, .int (nI x)), (12, .int (nI mo)), (13, .ref na), (14, .int (nI k))]) hx hb dL_isHouse_553 hl (by decide) rfl (fun ls hl => ?_)
                          refine lv_iinc (v := nI (k + 1)) (lv' := [(14, .int (nI (k + 1))), (11, .int (nI 1)), (0, .ref (ad 0 0)), (1, .ref (ua 0)), (2, .ref (ua 1)), (3, .ref (ua 2)), (4, .ref (ua 3)), (5, .ref (ua 4)), (6, .ref (ua 5)), (7, .ref (ua 6)), (8, .ref (ua 7)), (9, .ref (ua 8)), (10, .int (nI x)), (12, .int (nI mo)), (13, .ref na)]) hx hb dL_isHouse_555 hl (k := 14) rfl (nI_add k 1) (by decide) rfl (fun ls hl => ?_)
                          refine lv_goto (tgt := 491) hx hb dL_isHouse_558 (by decide) ?_
                          exact W.widen (by omega) (by omega) (ih491 (k + 1) _ _ _ (by omega) (by omega) hW hU hO hS (lv_sub hl [2, 3, 4, 5, 6, 7, 8, 9, 10, 11, 12, 1, 13, 14, 0] rfl))
                    exact W.widen (by omega) (by omega) (loop491 (5) 0 _ _ _ (by omega) (by omega) hW hU hO hS (lv_sub hl [1, 2, 3, 4, 5, 6, 7, 8, 9, 10, 11, 12, 13, 14, 0] rfl))
                  · have hj16 : j < 16 := by omega
                    have hob8 := hub 8 (32 + j)
                    have hlk17 := le7_le h7 hn16 hj16
                    have hlkb := u_lk_le L j nf (100 - L 7 j)
                    refine lv_iload hx hb dL_isHouse_231 (lv_at hl 11 rfl) ?_
                    refine un_ieq (tgt := 488) hx hb dL_isHouse_233 (by decide) (by decide) (fun c10 => absurd (show (1 : Nat) = 0 from c10) (by decide)) (fun c10 => ?_)
                    refine lv_iload hx hb dL_isHouse_236 (lv_at hl 14 rfl) ?_
                    refine lv_iconst (v := nI 4) hx hb dL_isHouse_238 (by decide) ?_
                    refine un_rem hx hb dL_isHouse_239 (by omega) (by decide) (by decide) ?_
                    refine lv_istore (lv' := [(15, .int (nI (j % 4))), (0, .ref (ad 0 0)), (1, .ref (ua 0)), (2, .ref (ua 1)), (3, .ref (ua 2)), (4, .ref (ua 3)), (5, .ref (ua 4)), (6, .ref (ua 5)), (7, .ref (ua 6)), (8, .ref (ua 7)), (9, .ref (ua 8)), (10, .int (nI x)), (11, .int (nI 1)), (12, .int (nI mo)), (13, .ref na), (14, .int (nI j))]) hx hb dL_isHouse_240 hl (by decide) rfl (fun ls hl => ?_)
                    refine lv_iload hx hb dL_isHouse_242 (lv_at hl 15 rfl) ?_
                    refine lv_iconst (v := nI 4) hx hb dL_isHouse_244 (by decide) ?_
                    refine un_div hx hb dL_isHouse_245 (by omega) (by decide) (by decide) ?_
                    refine lv_istore (lv' := [(16, .int (nI (j / 4))), (15, .int (nI (j % 4))), (0, .ref (ad 0 0)), (1, .ref (ua 0)), (2, .ref (ua 1)), (3, .ref (ua 2)), (4, .ref (ua 3)), (5, .ref (ua 4)), (6, .ref (ua 5)), (7, .ref (ua 6)), (8, .ref (ua 7)), (9, .ref (ua 8)), (10, .int (nI x)), (11, .int (nI 1)), (12, .int (nI mo)), (13, .ref na), (14, .int (nI j))]) hx hb dL_isHouse_246 hl (by decide) rfl (fun ls hl => ?_)
                    refine lv_iload hx hb dL_isHouse_248 (lv_at hl 1 rfl) ?_
                    refine lv_iload hx hb dL_isHouse_250 (lv_at hl 0 rfl) ?_
                    refine un_ceq (tgt := 482) hx hb dL_isHouse_252 (by decide) (by omega) (by omega) (fun c11 => ?_) (fun c11 => ?_)
                    · have heq : j % 4 = j / 4 := c11
                      refine lv_iinc (v := nI (j + 1)) (lv' := [(14, .int (nI (j + 1))), (16, .int (nI (j / 4))), (15, .int (nI (j % 4))), (0, .ref (ad 0 0)), (1, .ref (ua 0)), (2, .ref (ua 1)), (3, .ref (ua 2)), (4, .ref (ua 3)), (5, .ref (ua 4)), (6, .ref (ua 5)), (7, .ref (ua 6)), (8, .ref (ua 7)), (9, .ref (ua 8)), (10, .int (nI x)), (11, .int (nI 1)), (12, .int (nI mo)), (13, .ref na)]) hx hb dL_isHouse_482 hl (k := 16) rfl (nI_add j 1) (by decide) rfl (fun ls hl => ?_)
                      refine lv_goto (tgt := 224) hx hb dL_isHouse_485 (by decide) ?_
                      have hO : va_at G vwCl (na, .inl (ca 2, 4, .inr (.inl (u_nt (u_un L mo) (j + 1))))) H := by
                        rw [show u_nt (u_un L mo) (j + 1) = (u_nt (u_un L mo) j) from if_pos heq]
                        exact hO
                      exact W.widen (by omega) (by omega) (ih224 (j + 1) _ _ _ (by omega) (by omega) hW hU hO hS (lv_sub hl [3, 4, 5, 6, 7, 8, 9, 10, 11, 12, 13, 14, 15, 16, 0] rfl))
                    · have hne : ¬ j % 4 = j / 4 := c11
                      refine lv_aload_n hx hb dL_isHouse_255 rfl (lv_at hl 3 rfl) ?_
                      refine lv_aload_n hx hb dL_isHouse_256 rfl (lv_at hl 5 rfl) ?_
                      refine lv_aload hx hb dL_isHouse_257 (lv_at hl 6 rfl) ?_
                      refine lv_aload hx hb dL_isHouse_259 (lv_at hl 7 rfl) ?_
                      refine lv_aload hx hb dL_isHouse_261 (lv_at hl 8 rfl) ?_
                      refine lv_aload hx hb dL_isHouse_263 (lv_at hl 9 rfl) ?_
                      refine lv_aload hx hb dL_isHouse_265 (lv_at hl 11 rfl) ?_
                      refine lv_iload hx hb dL_isHouse_267 (lv_at hl 16 rfl) ?_
                      refine lv_iload hx hb dL_isHouse_269 (lv_at hl 14 rfl) ?_
                      refine lv_iload hx hb dL_isHouse_271 (lv_at hl 14 rfl) ?_
                      refine lv_iconst (v := -1) hx hb dL_isHouse_273 (by decide) ?_
                      have hAn : ∀ q : Nat, H.size ≤ q → A q := fun q h => hA q (Nat.le_trans hS.1 h)
                      refine rh_call2 (vx_runS (As := [.ref (ua 0), .ref (ua 2), .ref (ua 3), .ref (ua 4), .ref (ua 5), .ref (ua 6), .ref (ua 8), .int (nI j), .int (nI mo), .int (nI mo), .int (-1)]) (rest := []) ⟨hx, hb, hml, hown, hts⟩ (ct_L_owed0 l j mo mo hj16 (by omega) (by omega) rfl hlk) (va_cwS 11 hts gL_isHouse_L_owed rfl rfl rfl (by decide +kernel) ⟨by decide, by decide⟩) (rh_pre2 hE hS hAn (fun q h => h) hU) rfl rfl hl.1 rfl (lv_room (Nat.le_of_ble_eq_true rfl)) dL_isHouse_274 ⟨show (681 + 20 * j) + 0 ≤ 1100 by omega, show (5444 + 160 * j) + 0 ≤ 9000 by omega⟩) hS hAn (fun _ _ _ _ _ hX9 _ _ _ _ _ _ => hX9.elim) (fun o H locs hN9 hz9 hk9 hS => ?_)
                      have hN9 := hN9
                      subst hN9
                      have hk9 := fun q hq => hk9 q hq (Nat.not_le.mpr hq)
                      have hW := hW.grow hk9
                      have hU := hU.grow hk9
                      have hO := va_at.kept hO (hk9 _ (va_at.lt hO))
                      refine W.eq (g2 := F0 m 277 ls [.long (lN (u_ow L j mo mo none (L 0 2)))]) rfl ?_
                      refine lv_lstore (lv' := [(17, .long (lN (u_ow L j mo mo none (L 0 2)))), (16, .int (nI (j / 4))), (15, .int (nI (j % 4))), (0, .ref (ad 0 0)), (1, .ref (ua 0)), (2, .ref (ua 1)), (3, .ref (ua 2)), (4, .ref (ua 3)), (5, .ref (ua 4)), (6, .ref (ua 5)), (7, .ref (ua 6)), (8, .ref (ua 7)), (9, .ref (ua 8)), (10, .int (nI x)), (11, .int (nI 1)), (12, .int (nI mo)), (13, .ref na), (14, .int (nI j))]) hx hb dL_isHouse_277 hl (by decide) rfl (fun ls hl => ?_)
                      refine lv_iload hx hb dL_isHouse_279 (lv_at hl 13 rfl) ?_
                      refine lv_iload hx hb dL_isHouse_281 (lv_at hl 17 rfl) ?_
                      refine un_add hx hb dL_isHouse_283 ?_
                      refine lv_iconst (v := nI 2) hx hb dL_isHouse_284 (by decide) ?_
                      refine un_rem hx hb dL_isHouse_285 (by omega) (by decide) (by decide) ?_
                      obtain ⟨yr, hyrv⟩ : ∃ z : Nat, z = ((x + j) % 2) := ⟨_, rfl⟩
                      refine un_top (y := nI yr) (congrArg nI hyrv.symm) ?_
                      have hyr : yr ≤ 1 := by omega
                      have hpm9 : (v 6 (tr j) 2).toInt64 = lN (L 8 (32 + j)) := by rw [(o_prom hinv hlr hj16).1, nI_l (by have := (o_prom hinv hlr hj16).2; omega)]
                      have hsum9 : c_sum r v (tr j) (nI yr * 12) (nI yr * 12 + 12 - 1) nc = lN (u_ow L j (12 * yr) (12 * yr + 11) none (L 0 2)) := by
                        rw [(o_year hyr).2.1, (o_year hyr).1]
                        exact o_sum hinv hlr hj16 (by omega) (by omega) (o_year hyr).2.2
                      refine lv_istore (lv' := [(19, .int (nI yr)), (17, .long (lN (u_ow L j mo mo none (L 0 2)))), (16, .int (nI (j / 4))), (15, .int (nI (j % 4))), (0, .ref (ad 0 0)), (1, .ref (ua 0)), (2, .ref (ua 1)), (3, .ref (ua 2)), (4, .ref (ua 3)), (5, .ref (ua 4)), (6, .ref (ua 5)), (7, .ref (ua 6)), (8, .ref (ua 7)), (9, .ref (ua 8)), (10, .int (nI x)), (11, .int (nI 1)), (12, .int (nI mo)), (13, .ref na), (14, .int (nI j))]) hx hb dL_isHouse_286 hl (by decide) rfl (fun ls hl => ?_)
                      refine lv_aload hx hb dL_isHouse_288 (lv_at hl 13 rfl) ?_
                      refine lv_bipush (v := nI 32) hx hb dL_isHouse_290 (by decide) ?_
                      refine lv_iload hx hb dL_isHouse_292 (lv_at hl 18 rfl) ?_
                      refine un_add hx hb dL_isHouse_294 ?_
                      have hb295_249 := hub 8 (32 + j)
                      refine un_ald (L := L) hx hb hE hU 8 (by decide) (32 + j) (show (32 + j) < 48 from (by omega)) dL_isHouse_295 ?_
                      refine lv_i2l (v := lN (L 8 (32 + j))) hx hb dL_isHouse_296 (nI_l (by omega)) ?_
                      refine lv_aload_n hx hb dL_isHouse_297 rfl (lv_at hl 5 rfl) ?_
                      refine lv_aload_n hx hb dL_isHouse_298 rfl (lv_at hl 7 rfl) ?_
                      refine lv_aload hx hb dL_isHouse_299 (lv_at hl 8 rfl) ?_
                      refine lv_aload hx hb dL_isHouse_301 (lv_at hl 9 rfl) ?_
                      refine lv_aload hx hb dL_isHouse_303 (lv_at hl 10 rfl) ?_
                      refine lv_aload hx hb dL_isHouse_305 (lv_at hl 11 rfl) ?_
                      refine lv_aload hx hb dL_isHouse_307 (lv_at hl 13 rfl) ?_
                      refine lv_iload hx hb dL_isHouse_309 (lv_at hl 18 rfl) ?_
                      refine lv_bipush (v := nI 12) hx hb dL_isHouse_311 (by decide) ?_
                      refine lv_iload hx hb dL_isHouse_313 (lv_at hl 0 rfl) ?_
                      refine un_mul hx hb dL_isHouse_315 ?_
                      refine lv_bipush (v := nI 12) hx hb dL_isHouse_316 (by decide) ?_
                      refine lv_iload hx hb dL_isHouse_318 (lv_at hl 0 rfl) ?_
                      refine un_mul hx hb dL_isHouse_320 ?_
                      refine lv_bipush (v := nI 11) hx hb dL_isHouse_321 (by decide) ?_
                      refine un_add hx hb dL_isHouse_323 ?_
                      refine lv_iconst (v := -1) hx hb dL_isHouse_324 (by decide) ?_
                      have hAn : ∀ q : Nat, H.size ≤ q → A q := fun q h => hA q (Nat.le_trans hS.1 h)
                      refine rh_call2 (vx_runS (As := [.ref (ua 0), .ref (ua 2), .ref (ua 3), .ref (ua 4), .ref (ua 5), .ref (ua 6), .ref (ua 8), .int (nI j), .int (nI (12 * yr)), .int (nI ((12 * yr) + 11)), .int (-1)]) (rest := [.long (lN (L 8 (32 + j)))]) ⟨hx, hb, hml, hown, hts⟩ (ct_L_owed0 l j (12 * yr) ((12 * yr) + 11) hj16 (by omega) (by omega) (o_year hyr).2.2 hlk) (va_cwS 11 hts gL_isHouse_L_owed rfl rfl rfl (by decide +kernel) ⟨by decide, by decide⟩) (rh_pre2 hE hS hAn (fun q h => h) hU) rfl rfl hl.1 rfl (lv_room (Nat.le_of_ble_eq_true rfl)) dL_isHouse_325 ⟨show (681 + 20 * j) + 0 ≤ 1100 by omega, show (5444 + 160 * j) + 0 ≤ 9000 by omega⟩) hS hAn (fun _ _ _ _ _ hX9 _ _ _ _ _ _ => hX9.elim) (fun o H locs hN9 hz9 hk9 hS => ?_)
                      have hN9 := hN9
                      subst hN9
                      have hk9 := fun q hq => hk9 q hq (Nat.not_le.mpr hq)
                      have hW := hW.grow hk9
                      have hU := hU.grow hk9
                      have hO := va_at.kept hO (hk9 _ (va_at.lt hO))
                      refine W.eq (g2 := F0 m 328 ls [.long (lN (u_ow L j (12 * yr) ((12 * yr) + 11) none (L 0 2))), .long (lN (L 8 (32 + j)))]) rfl ?_
                      refine lv_lsub hx hb dL_isHouse_328 ?_
                      refine lv_lstore (lv' := [(20, .long (lN (L 8 (32 + j)) - lN (u_ow L j (12 * yr) ((12 * yr) + 11) none (L 0 2)))), (19, .int (nI yr)), (17, .long (lN (u_ow L j mo mo none (L 0 2)))), (16, .int (nI (j / 4))), (15, .int (nI (j % 4))), (0, .ref (ad 0 0)), (1, .ref (ua 0)), (2, .ref (ua 1)), (3, .ref (ua 2)), (4, .ref (ua 3)), (5, .ref (ua 4)), (6, .ref (ua 5)), (7, .ref (ua 6)), (8, .ref (ua 7)), (9, .ref (ua 8)), (10, .int (nI x)), (11, .int (nI 1)), (12, .int (nI mo)), (13, .ref na), (14, .int (nI j))]) hx hb dL_isHouse_329 hl (by decide) rfl (fun ls hl => ?_)
                      refine lv_aload_n hx hb dL_isHouse_331 rfl (lv_at hl 5 rfl) ?_
                      refine lv_iload hx hb dL_isHouse_332 (lv_at hl 4 rfl) ?_
                      refine lv_iload hx hb dL_isHouse_334 (lv_at hl 3 rfl) ?_
                      have hlo9 : na < H.size := va_at.lt hO
                      have hA19 : ∀ q, rh_A1 A na q → A q := fun q h => h.1
                      have hB19 : ∀ q : Nat, H.size ≤ q → rh_A1 A na q := fun q h => ⟨hA q (Nat.le_trans hS.1 h), by omega⟩
                      refine rh_call2 (vx_runV (As := [.int (nI (j % 4)), .int (nI (j / 4))]) (rest := []) ⟨hx, hb, hml, hown, hts⟩ (ct_X4_expected l hlf hDn hinv.1 (nI (j % 4)) (nI (j / 4))) (cwV 2 hts gL_isHouse_X4_expected rfl rfl rfl (by decide +kernel) ⟨by decide, by decide⟩) (rh_preV2 hE hS hA19 hB19 (hW.at 0 0 Nat.zero_lt_one) rfl hW) rfl rfl hl.1 rfl (lv_room (Nat.le_of_ble_eq_true rfl)) dL_isHouse_336 ⟨show (681 + 20 * j) + 5 ≤ 1100 by omega, show (5444 + 160 * j) + 40 ≤ 9000 by omega⟩) hS hA19 (fun E ce q9 H locs hX9 hz9 hk9 hS g1 g2 g3 => ?_) (fun o H locs hN9 hz9 hk9 hS => ?_)
                      · obtain ⟨hX9, -⟩ := hX9
                        rcases hX9 with ⟨-, z⟩ | ⟨-, -, -, z⟩
                        · exact absurd ⟨ix_nI (by omega) (by decide), ix_nI (by omega) (by decide)⟩ z
                        · exact absurd (m_inj (by omega) (by omega) z) hne
                      obtain ⟨h9, k9, hh9, hkx9, hne9, e9, f9, rfl, hW⟩ := hN9
                      have hU := hU.kept (fun k hk => hk9 _ (hU.lt hk) (fun z => hUA k hk z.1))
                      have hO := va_at.kept hO (hk9 _ hlo9 (fun z => z.2 rfl))
                      obtain rfl : (j % 4) = h9 := m_inj (by omega) (by omega) e9
                      obtain rfl : (j / 4) = k9 := m_inj (by omega) (by omega) f9
                      refine W.eq (g2 := F0 m 339 ls [.int (v 6 (j % 4 * 4 + j / 4) 1)]) rfl ?_
                      refine un_top (y := nI (L 7 j)) (o_exp hinv hlr hj16) ?_
                      refine lv_aload hx hb dL_isHouse_339 (lv_at hl 13 rfl) ?_
                      refine lv_iload hx hb dL_isHouse_341 (lv_at hl 19 rfl) ?_
                      have hb343_300 := hub 7 j
                      refine un_ald (L := L) hx hb hE hU 7 (by decide) j (show j < 16 from (by omega)) dL_isHouse_343 ?_
                      refine un_cne (tgt := 431) hx hb dL_isHouse_344 (by decide) (by omega) (by omega) (fun c12 => absurd rfl c12) (fun c12 => ?_)
                      refine lv_aload_n hx hb dL_isHouse_347 rfl (lv_at hl 5 rfl) ?_
                      refine lv_iload hx hb dL_isHouse_348 (lv_at hl 4 rfl) ?_
                      refine lv_iload hx hb dL_isHouse_350 (lv_at hl 3 rfl) ?_
                      have hlo9 : na < H.size := va_at.lt hO
                      have hA19 : ∀ q, rh_A1 A na q → A q := fun q h => h.1
                      have hB19 : ∀ q : Nat, H.size ≤ q → rh_A1 A na q := fun q h => ⟨hA q (Nat.le_trans hS.1 h), by omega⟩
                      refine rh_call2 (vx_runV (As := [.int (nI (j % 4)), .int (nI (j / 4))]) (rest := []) ⟨hx, hb, hml, hown, hts⟩ (ct_X4_lacking l hlf hDn hinv.1 (nI (j % 4)) (nI (j / 4))) (cwV 2 hts gL_isHouse_X4_lacking rfl rfl rfl (by decide +kernel) ⟨by decide, by decide⟩) (rh_preV2 hE hS hA19 hB19 (hW.at 0 0 Nat.zero_lt_one) rfl hW) rfl rfl hl.1 rfl (lv_room (Nat.le_of_ble_eq_true rfl)) dL_isHouse_352 ⟨show ((681 + 20 * j) + 5) + 5 ≤ 1100 by omega, show ((5444 + 160 * j) + 40) + 40 ≤ 9000 by omega⟩) hS hA19 (fun E ce q9 H locs hX9 hz9 hk9 hS g1 g2 g3 => ?_) (fun o H locs hN9 hz9 hk9 hS => ?_)
                      · obtain ⟨hX9, -⟩ := hX9
                        rcases hX9 with ⟨-, z⟩ | ⟨-, -, -, z⟩
                        · exact absurd ⟨ix_nI (by omega) (by decide), ix_nI (by omega) (by decide)⟩ z
                        · exact absurd (m_inj (by omega) (by omega) z) hne
                      obtain ⟨h9, k9, hh9, hkx9, hne9, e9, f9, rfl, hW⟩ := hN9
                      have hU := hU.kept (fun k hk => hk9 _ (hU.lt hk) (fun z => hUA k hk z.1))
                      have hO := va_at.kept hO (hk9 _ hlo9 (fun z => z.2 rfl))
                      obtain rfl : (j % 4) = h9 := m_inj (by omega) (by omega) e9
                      obtain rfl : (j / 4) = k9 := m_inj (by omega) (by omega) f9
                      refine W.eq (g2 := F0 m 355 ls [.int (if c_wn r v (j % 4 * 4 + j / 4) nf = 0 then 0 else c_wg r v (j % 4 * 4 + j / 4) nf - v 6 (j % 4 * 4 + j / 4) 1 + 1 - c_wn r v (j % 4 * 4 + j / 4) nf)]) rfl ?_
                      refine un_top (y := nI (u_lk L j nf (100 - L 7 j))) (o_lack hinv hlr h7 hj16) ?_
                      refine lv_aload_n hx hb dL_isHouse_355 rfl (lv_at hl 6 rfl) ?_
                      refine lv_aload_n hx hb dL_isHouse_356 rfl (lv_at hl 8 rfl) ?_
                      refine lv_aload hx hb dL_isHouse_357 (lv_at hl 13 rfl) ?_
                      refine lv_iload hx hb dL_isHouse_359 (lv_at hl 19 rfl) ?_
                      have hAn : ∀ q : Nat, H.size ≤ q → A q := fun q h => hA q (Nat.le_trans hS.1 h)
                      refine rh_call2 (vx_runS (As := [.ref (ua 0), .ref (ua 2), .ref (ua 7), .int (nI j)]) (rest := [.int (nI (u_lk L j nf (100 - L 7 j)))]) ⟨hx, hb, hml, hown, hts⟩ (ct_L_lacking l j hj16 hlr (le7_le h7 hn16 hj16)) (va_cwS 4 hts gL_isHouse_L_lacking rfl rfl rfl (by decide +kernel) ⟨by decide, by decide⟩) (rh_pre2 hE hS hAn (fun q h => h) hU) rfl rfl hl.1 rfl (lv_room (Nat.le_of_ble_eq_true rfl)) dL_isHouse_361 ⟨show (((681 + 20 * j) + 5) + 5) + 0 ≤ 1100 by omega, show (((5444 + 160 * j) + 40) + 40) + 0 ≤ 9000 by omega⟩) hS hAn (fun _ _ _ _ _ hX9 _ _ _ _ _ _ => hX9.elim) (fun o H locs hN9 hz9 hk9 hS => ?_)
                      have hN9 := hN9
                      subst hN9
                      have hk9 := fun q hq => hk9 q hq (Nat.not_le.mpr hq)
                      have hW := hW.grow hk9
                      have hU := hU.grow hk9
                      have hO := va_at.kept hO (hk9 _ (va_at.lt hO))
                      refine W.eq (g2 := F0 m 364 ls [.int (nI (u_lk L j nf (100 - L 7 j))), .int (nI (u_lk L j nf (100 - L 7 j)))]) rfl ?_
                      refine un_cne (tgt := 431) hx hb dL_isHouse_364 (by decide) (by omega) (by omega) (fun c13 => absurd rfl c13) (fun c13 => ?_)
                      refine lv_aload_n hx hb dL_isHouse_367 rfl (lv_at hl 5 rfl) ?_
                      refine lv_iload hx hb dL_isHouse_368 (lv_at hl 4 rfl) ?_
                      refine lv_iload hx hb dL_isHouse_370 (lv_at hl 3 rfl) ?_
                      refine lv_iload hx hb dL_isHouse_372 (lv_at hl 17 rfl) ?_
                      have hlo9 : na < H.size := va_at.lt hO
                      have hA19 : ∀ q, rh_A1 A na q → A q := fun q h => h.1
                      have hB19 : ∀ q : Nat, H.size ≤ q → rh_A1 A na q := fun q h => ⟨hA q (Nat.le_trans hS.1 h), by omega⟩
                      refine rh_call2 (vx_runV (As := [.int (nI (j % 4)), .int (nI (j / 4)), .int (nI mo)]) (rest := []) ⟨hx, hb, hml, hown, hts⟩ (ct_X4_owed l hlf hDn hinv.1 (nI (j % 4)) (nI (j / 4)) (nI mo)) (cwV 3 hts gL_isHouse_X4_owed rfl rfl rfl (by decide +kernel) ⟨by decide, by decide⟩) (rh_preV2 hE hS hA19 hB19 (hW.at 0 0 Nat.zero_lt_one) rfl hW) rfl rfl hl.1 rfl (lv_room (Nat.le_of_ble_eq_true rfl)) dL_isHouse_374 ⟨show (((681 + 20 * j) + 5) + 5) + 5 ≤ 1100 by omega, show (((5444 + 160 * j) + 40) + 40) + 40 ≤ 9000 by omega⟩) hS hA19 (fun E ce q9 H locs hX9 hz9 hk9 hS g1 g2 g3 => ?_) (fun o H locs hN9 hz9 hk9 hS => ?_)
                      · obtain ⟨hX9, -⟩ := hX9
                        rcases hX9 with ⟨-, z⟩ | ⟨-, -, -, z⟩
                        · exact absurd ⟨ix_nI (by omega) (by decide), ix_nI (by omega) (by decide)⟩ z
                        · exact z.elim (fun z => absurd (m_inj (by omega) (by omega) z) hne) (fun z => absurd hrmo z)
                      obtain ⟨h9, k9, hh9, hkx9, hne9, e9, f9, hr9, rfl, hW⟩ := hN9
                      have hU := hU.kept (fun k hk => hk9 _ (hU.lt hk) (fun z => hUA k hk z.1))
                      have hO := va_at.kept hO (hk9 _ hlo9 (fun z => z.2 rfl))
                      obtain rfl : (j % 4) = h9 := m_inj (by omega) (by omega) e9
                      obtain rfl : (j / 4) = k9 := m_inj (by omega) (by omega) f9
                      refine W.eq (g2 := F0 m 377 ls [.long (c_sum r v (j % 4 * 4 + j / 4) (nI mo) (nI mo) nc)]) rfl ?_
                      refine un_topl (y := lN (u_ow L j mo mo none (L 0 2))) (o_sum hinv hlr hj16 (by omega) (by omega) rfl) ?_
                      refine lv_lload hx hb dL_isHouse_377 (lv_at hl 2 rfl) ?_
                      refine W.lcmp hx hb dL_isHouse_379 ?_
                      refine un_top (y := nI 0) ((lg_cmp_eq _ _).mpr rfl) ?_
                      refine un_ine (tgt := 431) hx hb dL_isHouse_380 (by decide) (by decide) (fun c14 => absurd (show ¬ (0 : Nat) = 0 from c14) (by decide)) (fun c14 => ?_)
                      refine lv_aload_n hx hb dL_isHouse_383 rfl (lv_at hl 5 rfl) ?_
                      refine lv_iload hx hb dL_isHouse_384 (lv_at hl 4 rfl) ?_
                      refine lv_iload hx hb dL_isHouse_386 (lv_at hl 3 rfl) ?_
                      refine lv_iload hx hb dL_isHouse_388 (lv_at hl 1 rfl) ?_
                      have hlo9 : na < H.size := va_at.lt hO
                      have hA19 : ∀ q, rh_A1 A na q → A q := fun q h => h.1
                      have hB19 : ∀ q : Nat, H.size ≤ q → rh_A1 A na q := fun q h => ⟨hA q (Nat.le_trans hS.1 h), by omega⟩
                      refine rh_call2 (vx_runSX (As := [.ref (ad 0 0), .int (nI (j % 4)), .int (nI (j / 4)), .int (nI yr)]) (rest := []) ⟨hx, hb, hml, hown, hts⟩ (hl_short1 l hlf hDn hinv.1 (j % 4) (j / 4) yr (by omega) (by omega) hne hyr) (vx_cwSW 4 hts gL_isHouse_L_short1 rfl rfl rfl (by decide +kernel) ⟨by decide, by decide⟩) (rh_prel hE hnc9 hS hA19 hB19 hW) rfl rfl hl.1 rfl (lv_room (Nat.le_of_ble_eq_true rfl)) dL_isHouse_390 ⟨show ((((681 + 20 * j) + 5) + 5) + 5) + 5 ≤ 1100 by omega, show ((((5444 + 160 * j) + 40) + 40) + 40) + 40 ≤ 9000 by omega⟩) hS hA19 (fun _ _ _ _ _ hX9 _ _ _ _ _ _ => hX9.elim) (fun o H locs hN9 hz9 hk9 hS => ?_)
                      have hU := hU.kept (fun k hk => hk9 _ (hU.lt hk) (fun z => hUA k hk z.1))
                      have hO := va_at.kept hO (hk9 _ hlo9 (fun z => z.2 rfl))
                      rcases hN9 with ⟨h9, k9, hh9, hkx9, hne9, e9, f9, hr9, hy9, rfl, hW⟩ | ⟨⟨-, -, -, -, hy9⟩, rfl, hW⟩
                      · rw [hnow.1, show (12 : Int32) = nI 12 from rfl, pk_div (by omega) (by decide) (by decide), nI_ltI (by omega) (by omega)] at hy9
                        obtain rfl : (j % 4) = h9 := m_inj (by omega) (by omega) e9
                        obtain rfl : (j / 4) = k9 := m_inj (by omega) (by omega) f9
                        refine W.eq (g2 := F0 m 393 ls [.long (if ((v 6 (j % 4 * 4 + j / 4) 2).toInt64 - c_sum r v (j % 4 * 4 + j / 4) (nI yr * 12) (nI yr * 12 + 12 - 1) nc) < 0 then 0 else ((v 6 (j % 4 * 4 + j / 4) 2).toInt64 - c_sum r v (j % 4 * 4 + j / 4) (nI yr * 12) (nI yr * 12 + 12 - 1) nc))]) rfl ?_
                        refine un_topl (y := if (lN (L 8 (32 + j)) - lN (u_ow L j (12 * yr) (12 * yr + 11) none (L 0 2))) < 0 then 0 else (lN (L 8 (32 + j)) - lN (u_ow L j (12 * yr) (12 * yr + 11) none (L 0 2)))) (by rw [show (j % 4 * 4 + j / 4) = tr j from rfl, hpm9, hsum9]) ?_
                        refine lv_aload_n hx hb dL_isHouse_393 rfl (lv_at hl 6 rfl) ?_
                        refine lv_iconst (v := nI 3) hx hb dL_isHouse_394 (by decide) ?_
                        have hb395_376 := hub 0 3
                        refine un_ald (L := L) hx hb hE hU 0 (by decide) 3 (show 3 < 4 from (by decide)) dL_isHouse_395 ?_
                        refine lv_bipush (v := nI 12) hx hb dL_isHouse_396 (by decide) ?_
                        refine un_div hx hb dL_isHouse_398 (by omega) (by decide) (by decide) ?_
                        refine lv_iload hx hb dL_isHouse_399 (lv_at hl 1 rfl) ?_
                        refine un_cgt (tgt := 410) hx hb dL_isHouse_401 (by decide) (by omega) (by omega) (fun c15 => ?_) (fun c15 => (by exfalso; omega))
                        refine lv_lload hx hb dL_isHouse_410 (lv_at hl 0 rfl) ?_
                        refine lv_lconst (v := lN 0) hx hb dL_isHouse_412 rfl ?_
                        refine W.lcmp hx hb dL_isHouse_413 ?_
                        refine lv_if_le (tgt := 422) hx hb dL_isHouse_414 (by decide) (fun c16 => ?_) (fun c16 => ?_)
                        · have hls := c16
                          refine lv_lconst (v := lN 0) hx hb dL_isHouse_422 rfl ?_
                          refine W.lcmp hx hb dL_isHouse_423 ?_
                          refine un_top (y := nI 0) ((lg_cmp_eq _ _).mpr (u_sh2 hls)) ?_
                          refine un_ine (tgt := 431) hx hb dL_isHouse_424 (by decide) (by decide) (fun c17 => absurd (show ¬ (0 : Nat) = 0 from c17) (by decide)) (fun c17 => ?_)
                          refine lv_iconst (v := nI 1) hx hb dL_isHouse_427 (by decide) ?_
                          refine lv_goto (tgt := 432) hx hb dL_isHouse_428 (by decide) ?_
                          refine lv_istore (lv' := [(11, .int (nI 1)), (20, .long (lN (L 8 (32 + j)) - lN (u_ow L j (12 * yr) ((12 * yr) + 11) none (L 0 2)))), (19, .int (nI yr)), (17, .long (lN (u_ow L j mo mo none (L 0 2)))), (16, .int (nI (j / 4))), (15, .int (nI (j % 4))), (0, .ref (ad 0 0)), (1, .ref (ua 0)), (2, .ref (ua 1)), (3, .ref (ua 2)), (4, .ref (ua 3)), (5, .ref (ua 4)), (6, .ref (ua 5)), (7, .ref (ua 6)), (8, .ref (ua 7)), (9, .ref (ua 8)), (10, .int (nI x)), (12, .int (nI mo)), (13, .ref na), (14, .int (nI j))]) hx hb dL_isHouse_432 hl (by decide) rfl (fun ls hl => ?_)
                          refine lv_aload hx hb dL_isHouse_434 (lv_at hl 18 rfl) ?_
                          refine lv_iload hx hb dL_isHouse_436 (lv_at hl 5 rfl) ?_
                          refine lv_dup2_11 hx hb dL_isHouse_438 rfl rfl ?_
                          refine rh_lald hx hb hE hO (j % 4) (show (j % 4) < 4 by omega) (by decide) rfl dL_isHouse_439 ?_
                          refine lv_lload hx hb dL_isHouse_440 (lv_at hl 3 rfl) ?_
                          refine lv_aload_n hx hb dL_isHouse_442 rfl (lv_at hl 8 rfl) ?_
                          refine lv_iconst (v := nI 4) hx hb dL_isHouse_443 (by decide) ?_
                          refine lv_iload hx hb dL_isHouse_444 (lv_at hl 5 rfl) ?_
                          refine un_mul hx hb dL_isHouse_446 ?_
                          refine lv_iconst (v := nI 3) hx hb dL_isHouse_447 (by decide) ?_
                          refine un_add hx hb dL_isHouse_448 ?_
                          have hb449_405 := hub 1 ((4 * (j % 4)) + 3)
                          refine un_ald (L := L) hx hb hE hU 1 (by decide) ((4 * (j % 4)) + 3) (show ((4 * (j % 4)) + 3) < 16 from (by omega)) dL_isHouse_449 ?_
                          refine lv_i2l (v := lN (L 1 ((4 * (j % 4)) + 3))) hx hb dL_isHouse_450 (nI_l (by omega)) ?_
                          refine lv_lmul hx hb dL_isHouse_451 ?_
                          refine lv_ldc2 (v := 1000) hx hb hown (hts (.constantLong RL 104 (1000)) (by decide +kernel)) dL_isHouse_452 ?_
                          refine lv_ldiv hx hb dL_isHouse_455 (by decide) ?_
                          refine lv_ladd hx hb dL_isHouse_456 ?_
                          refine rh_last0 (x := (((u_nt (u_un L mo) j) (j % 4)) + ((lN (u_ow L j mo mo none (L 0 2)) * lN (L 1 ((4 * (j % 4)) + 3))) / 1000))) hx hb hE hO hS hAna (j % 4) (show (j % 4) < 4 by omega) (by decide) rfl dL_isHouse_457 (fun H locs hO hz9 ho9 hS => ?_)
                          have hW := hW.keptD hDn ho9
                          have hU := hU.kept (fun k hk => ho9 _ (hUn k hk))
                          refine lv_aload hx hb dL_isHouse_458 (lv_at hl 18 rfl) ?_
                          refine lv_iload hx hb dL_isHouse_460 (lv_at hl 4 rfl) ?_
                          refine lv_dup2_11 hx hb dL_isHouse_462 rfl rfl ?_
                          refine rh_lald hx hb hE hO (j / 4) (show (j / 4) < 4 by omega) (by decide) rfl dL_isHouse_463 ?_
                          refine lv_lload hx hb dL_isHouse_464 (lv_at hl 3 rfl) ?_
                          refine lv_aload_n hx hb dL_isHouse_466 rfl (lv_at hl 8 rfl) ?_
                          refine lv_iconst (v := nI 4) hx hb dL_isHouse_467 (by decide) ?_
                          refine lv_iload hx hb dL_isHouse_468 (lv_at hl 5 rfl) ?_
                          refine un_mul hx hb dL_isHouse_470 ?_
                          refine lv_iconst (v := nI 3) hx hb dL_isHouse_471 (by decide) ?_
                          refine un_add hx hb dL_isHouse_472 ?_
                          have hb473_426 := hub 1 ((4 * (j % 4)) + 3)
                          refine un_ald (L := L) hx hb hE hU 1 (by decide) ((4 * (j % 4)) + 3) (show ((4 * (j % 4)) + 3) < 16 from (by omega)) dL_isHouse_473 ?_
                          refine lv_i2l (v := lN (L 1 ((4 * (j % 4)) + 3))) hx hb dL_isHouse_474 (nI_l (by omega)) ?_
                          refine lv_lmul hx hb dL_isHouse_475 ?_
                          refine lv_ldc2 (v := 1000) hx hb hown (hts (.constantLong RL 104 (1000)) (by decide +kernel)) dL_isHouse_476 ?_
                          refine lv_ldiv hx hb dL_isHouse_479 (by decide) ?_
                          refine lv_lsub hx hb dL_isHouse_480 ?_
                          refine rh_last0 (x := (((va_up (u_nt (u_un L mo) j) (j % 4) (((u_nt (u_un L mo) j) (j % 4)) + ((lN (u_ow L j mo mo none (L 0 2)) * lN (L 1 ((4 * (j % 4)) + 3))) / 1000))) (j / 4)) - ((lN (u_ow L j mo mo none (L 0 2)) * lN (L 1 ((4 * (j % 4)) + 3))) / 1000))) hx hb hE hO hS hAna (j / 4) (show (j / 4) < 4 by omega) (by decide) rfl dL_isHouse_481 (fun H locs hO hz9 ho9 hS => ?_)
                          have hW := hW.keptD hDn ho9
                          have hU := hU.kept (fun k hk => ho9 _ (hUn k hk))
                          refine lv_iinc (v := nI (j + 1)) (lv' := [(14, .int (nI (j + 1))), (11, .int (nI 1)), (20, .long (lN (L 8 (32 + j)) - lN (u_ow L j (12 * yr) ((12 * yr) + 11) none (L 0 2)))), (19, .int (nI yr)), (17, .long (lN (u_ow L j mo mo none (L 0 2)))), (16, .int (nI (j / 4))), (15, .int (nI (j % 4))), (0, .ref (ad 0 0)), (1, .ref (ua 0)), (2, .ref (ua 1)), (3, .ref (ua 2)), (4, .ref (ua 3)), (5, .ref (ua 4)), (6, .ref (ua 5)), (7, .ref (ua 6)), (8, .ref (ua 7)), (9, .ref (ua 8)), (10, .int (nI x)), (12, .int (nI mo)), (13, .ref na)]) hx hb dL_isHouse_482 hl (k := 19) rfl (nI_add j 1) (by decide) rfl (fun ls hl => ?_)
                          refine lv_goto (tgt := 224) hx hb dL_isHouse_485 (by decide) ?_
                          have hO : va_at G vwCl (na, .inl (ca 2, 4, .inr (.inl (u_nt (u_un L mo) (j + 1))))) H := by
                            rw [show u_nt (u_un L mo) (j + 1) = va_up (va_up (u_nt (u_un L mo) j) (j % 4) ((u_nt (u_un L mo) j) (j % 4) + u_un L mo j)) (j / 4) (va_up (u_nt (u_un L mo) j) (j % 4) ((u_nt (u_un L mo) j) (j % 4) + u_un L mo j) (j / 4) - u_un L mo j) from if_neg hne]
                            exact hO
                          exact W.widen (by omega) (by omega) (ih224 (j + 1) _ _ _ (by omega) (by omega) hW hU hO hS (lv_sub hl [7, 8, 9, 10, 11, 12, 13, 14, 15, 16, 17, 1, 18, 19, 0] rfl))
                        · have hls := c16
                          refine lv_lload hx hb dL_isHouse_417 (lv_at hl 0 rfl) ?_
                          refine lv_goto (tgt := 423) hx hb dL_isHouse_419 (by decide) ?_
                          refine W.lcmp hx hb dL_isHouse_423 ?_
                          refine un_top (y := nI 0) ((lg_cmp_eq _ _).mpr (u_sh1 hls)) ?_
                          refine un_ine (tgt := 431) hx hb dL_isHouse_424 (by decide) (by decide) (fun c18 => absurd (show ¬ (0 : Nat) = 0 from c18) (by decide)) (fun c18 => ?_)
                          refine lv_iconst (v := nI 1) hx hb dL_isHouse_427 (by decide) ?_
                          refine lv_goto (tgt := 432) hx hb dL_isHouse_428 (by decide) ?_
                          refine lv_istore (lv' := [(11, .int (nI 1)), (20, .long (lN (L 8 (32 + j)) - lN (u_ow L j (12 * yr) ((12 * yr) + 11) none (L 0 2)))), (19, .int (nI yr)), (17, .long (lN (u_ow L j mo mo none (L 0 2)))), (16, .int (nI (j / 4))), (15, .int (nI (j % 4))), (0, .ref (ad 0 0)), (1, .ref (ua 0)), (2, .ref (ua 1)), (3, .ref (ua 2)), (4, .ref (ua 3)), (5, .ref (ua 4)), (6, .ref (ua 5)), (7, .ref (ua 6)), (8, .ref (ua 7)), (9, .ref (ua 8)), (10, .int (nI x)), (12, .int (nI mo)), (13, .ref na), (14, .int (nI j))]) hx hb dL_isHouse_432 hl (by decide) rfl (fun ls hl => ?_)
                          refine lv_aload hx hb dL_isHouse_434 (lv_at hl 18 rfl) ?_
                          refine lv_iload hx hb dL_isHouse_436 (lv_at hl 5 rfl) ?_
                          refine lv_dup2_11 hx hb dL_isHouse_438 rfl rfl ?_
                          refine rh_lald hx hb hE hO (j % 4) (show (j % 4) < 4 by omega) (by decide) rfl dL_isHouse_439 ?_
                          refine lv_lload hx hb dL_isHouse_440 (lv_at hl 3 rfl) ?_
                          refine lv_aload_n hx hb dL_isHouse_442 rfl (lv_at hl 8 rfl) ?_
                          refine lv_iconst (v := nI 4) hx hb dL_isHouse_443 (by decide) ?_
                          refine lv_iload hx hb dL_isHouse_444 (lv_at hl 5 rfl) ?_
                          refine un_mul hx hb dL_isHouse_446 ?_
                          refine lv_iconst (v := nI 3) hx hb dL_isHouse_447 (by decide) ?_
                          refine un_add hx hb dL_isHouse_448 ?_
                          have hb449_462 := hub 1 ((4 * (j % 4)) + 3)
                          refine un_ald (L := L) hx hb hE hU 1 (by decide) ((4 * (j % 4)) + 3) (show ((4 * (j % 4)) + 3) < 16 from (by omega)) dL_isHouse_449 ?_
                          refine lv_i2l (v := lN (L 1 ((4 * (j % 4)) + 3))) hx hb dL_isHouse_450 (nI_l (by omega)) ?_
                          refine lv_lmul hx hb dL_isHouse_451 ?_
                          refine lv_ldc2 (v := 1000) hx hb hown (hts (.constantLong RL 104 (1000)) (by decide +kernel)) dL_isHouse_452 ?_
                          refine lv_ldiv hx hb dL_isHouse_455 (by decide) ?_
                          refine lv_ladd hx hb dL_isHouse_456 ?_
                          refine rh_last0 (x := (((u_nt (u_un L mo) j) (j % 4)) + ((lN (u_ow L j mo mo none (L 0 2)) * lN (L 1 ((4 * (j % 4)) + 3))) / 1000))) hx hb hE hO hS hAna (j % 4) (show (j % 4) < 4 by omega) (by decide) rfl dL_isHouse_457 (fun H locs hO hz9 ho9 hS => ?_)
                          have hW := hW.keptD hDn ho9
                          have hU := hU.kept (fun k hk => ho9 _ (hUn k hk))
                          refine lv_aload hx hb dL_isHouse_458 (lv_at hl 18 rfl) ?_
                          refine lv_iload hx hb dL_isHouse_460 (lv_at hl 4 rfl) ?_
                          refine lv_dup2_11 hx hb dL_isHouse_462 rfl rfl ?_
                          refine rh_lald hx hb hE hO (j / 4) (show (j / 4) < 4 by omega) (by decide) rfl dL_isHouse_463 ?_
                          refine lv_lload hx hb dL_isHouse_464 (lv_at hl 3 rfl) ?_
                          refine lv_aload_n hx hb dL_isHouse_466 rfl (lv_at hl 8 rfl) ?_
                          refine lv_iconst (v := nI 4) hx hb dL_isHouse_467 (by decide) ?_
                          refine lv_iload hx hb dL_isHouse_468 (lv_at hl 5 rfl) ?_
                          refine un_mul hx hb dL_isHouse_470 ?_
                          refine lv_iconst (v := nI 3) hx hb dL_isHouse_471 (by decide) ?_
                          refine un_add hx hb dL_isHouse_472 ?_
                          have hb473_483 := hub 1 ((4 * (j % 4)) + 3)
                          refine un_ald (L := L) hx hb hE hU 1 (by decide) ((4 * (j % 4)) + 3) (show ((4 * (j % 4)) + 3) < 16 from (by omega)) dL_isHouse_473 ?_
                          refine lv_i2l (v := lN (L 1 ((4 * (j % 4)) + 3))) hx hb dL_isHouse_474 (nI_l (by omega)) ?_
                          refine lv_lmul hx hb dL_isHouse_475 ?_
                          refine lv_ldc2 (v := 1000) hx hb hown (hts (.constantLong RL 104 (1000)) (by decide +kernel)) dL_isHouse_476 ?_
                          refine lv_ldiv hx hb dL_isHouse_479 (by decide) ?_
                          refine lv_lsub hx hb dL_isHouse_480 ?_
                          refine rh_last0 (x := (((va_up (u_nt (u_un L mo) j) (j % 4) (((u_nt (u_un L mo) j) (j % 4)) + ((lN (u_ow L j mo mo none (L 0 2)) * lN (L 1 ((4 * (j % 4)) + 3))) / 1000))) (j / 4)) - ((lN (u_ow L j mo mo none (L 0 2)) * lN (L 1 ((4 * (j % 4)) + 3))) / 1000))) hx hb hE hO hS hAna (j / 4) (show (j / 4) < 4 by omega) (by decide) rfl dL_isHouse_481 (fun H locs hO hz9 ho9 hS => ?_)
                          have hW := hW.keptD hDn ho9
                          have hU := hU.kept (fun k hk => ho9 _ (hUn k hk))
                          refine lv_iinc (v := nI (j + 1)) (lv' := [(14, .int (nI (j + 1))), (11, .int (nI 1)), (20, .long (lN (L 8 (32 + j)) - lN (u_ow L j (12 * yr) ((12 * yr) + 11) none (L 0 2)))), (19, .int (nI yr)), (17, .long (lN (u_ow L j mo mo none (L 0 2)))), (16, .int (nI (j / 4))), (15, .int (nI (j % 4))), (0, .ref (ad 0 0)), (1, .ref (ua 0)), (2, .ref (ua 1)), (3, .ref (ua 2)), (4, .ref (ua 3)), (5, .ref (ua 4)), (6, .ref (ua 5)), (7, .ref (ua 6)), (8, .ref (ua 7)), (9, .ref (ua 8)), (10, .int (nI x)), (12, .int (nI mo)), (13, .ref na)]) hx hb dL_isHouse_482 hl (k := 19) rfl (nI_add j 1) (by decide) rfl (fun ls hl => ?_)
                          refine lv_goto (tgt := 224) hx hb dL_isHouse_485 (by decide) ?_
                          have hO : va_at G vwCl (na, .inl (ca 2, 4, .inr (.inl (u_nt (u_un L mo) (j + 1))))) H := by
                            rw [show u_nt (u_un L mo) (j + 1) = va_up (va_up (u_nt (u_un L mo) j) (j % 4) ((u_nt (u_un L mo) j) (j % 4) + u_un L mo j)) (j / 4) (va_up (u_nt (u_un L mo) j) (j % 4) ((u_nt (u_un L mo) j) (j % 4) + u_un L mo j) (j / 4) - u_un L mo j) from if_neg hne]
                            exact hO
                          exact W.widen (by omega) (by omega) (ih224 (j + 1) _ _ _ (by omega) (by omega) hW hU hO hS (lv_sub hl [7, 8, 9, 10, 11, 12, 13, 14, 15, 16, 17, 1, 18, 19, 0] rfl))
                      · rw [hnow.1, show (12 : Int32) = nI 12 from rfl, pk_div (by omega) (by decide) (by decide), nI_ltI (by omega) (by omega)] at hy9
                        refine W.eq (g2 := F0 m 393 ls [.long (-13)]) rfl ?_
                        refine lv_aload_n hx hb dL_isHouse_393 rfl (lv_at hl 6 rfl) ?_
                        refine lv_iconst (v := nI 3) hx hb dL_isHouse_394 (by decide) ?_
                        have hb395_503 := hub 0 3
                        refine un_ald (L := L) hx hb hE hU 0 (by decide) 3 (show 3 < 4 from (by decide)) dL_isHouse_395 ?_
                        refine lv_bipush (v := nI 12) hx hb dL_isHouse_396 (by decide) ?_
                        refine un_div hx hb dL_isHouse_398 (by omega) (by decide) (by decide) ?_
                        refine lv_iload hx hb dL_isHouse_399 (lv_at hl 1 rfl) ?_
                        refine un_cgt (tgt := 410) hx hb dL_isHouse_401 (by decide) (by omega) (by omega) (fun c19 => (by exfalso; omega)) (fun c19 => ?_)
                        refine lv_ldc2 (v := -13) hx hb hown (hts (.constantLong RL 65 (-13)) (by decide +kernel)) dL_isHouse_404 ?_
                        refine lv_goto (tgt := 423) hx hb dL_isHouse_407 (by decide) ?_
                        refine W.lcmp hx hb dL_isHouse_423 ?_
                        refine un_top (y := nI 0) ((lg_cmp_eq _ _).mpr rfl) ?_
                        refine un_ine (tgt := 431) hx hb dL_isHouse_424 (by decide) (by decide) (fun c20 => absurd (show ¬ (0 : Nat) = 0 from c20) (by decide)) (fun c20 => ?_)
                        refine lv_iconst (v := nI 1) hx hb dL_isHouse_427 (by decide) ?_
                        refine lv_goto (tgt := 432) hx hb dL_isHouse_428 (by decide) ?_
                        refine lv_istore (lv' := [(11, .int (nI 1)), (20, .long (lN (L 8 (32 + j)) - lN (u_ow L j (12 * yr) ((12 * yr) + 11) none (L 0 2)))), (19, .int (nI yr)), (17, .long (lN (u_ow L j mo mo none (L 0 2)))), (16, .int (nI (j / 4))), (15, .int (nI (j % 4))), (0, .ref (ad 0 0)), (1, .ref (ua 0)), (2, .ref (ua 1)), (3, .ref (ua 2)), (4, .ref (ua 3)), (5, .ref (ua 4)), (6, .ref (ua 5)), (7, .ref (ua 6)), (8, .ref (ua 7)), (9, .ref (ua 8)), (10, .int (nI x)), (12, .int (nI mo)), (13, .ref na), (14, .int (nI j))]) hx hb dL_isHouse_432 hl (by decide) rfl (fun ls hl => ?_)
                        refine lv_aload hx hb dL_isHouse_434 (lv_at hl 18 rfl) ?_
                        refine lv_iload hx hb dL_isHouse_436 (lv_at hl 5 rfl) ?_
                        refine lv_dup2_11 hx hb dL_isHouse_438 rfl rfl ?_
                        refine rh_lald hx hb hE hO (j % 4) (show (j % 4) < 4 by omega) (by decide) rfl dL_isHouse_439 ?_
                        refine lv_lload hx hb dL_isHouse_440 (lv_at hl 3 rfl) ?_
                        refine lv_aload_n hx hb dL_isHouse_442 rfl (lv_at hl 8 rfl) ?_
                        refine lv_iconst (v := nI 4) hx hb dL_isHouse_443 (by decide) ?_
                        refine lv_iload hx hb dL_isHouse_444 (lv_at hl 5 rfl) ?_
                        refine un_mul hx hb dL_isHouse_446 ?_
                        refine lv_iconst (v := nI 3) hx hb dL_isHouse_447 (by decide) ?_
                        refine un_add hx hb dL_isHouse_448 ?_
                        have hb449_528 := hub 1 ((4 * (j % 4)) + 3)
                        refine un_ald (L := L) hx hb hE hU 1 (by decide) ((4 * (j % 4)) + 3) (show ((4 * (j % 4)) + 3) < 16 from (by omega)) dL_isHouse_449 ?_
                        refine lv_i2l (v := lN (L 1 ((4 * (j % 4)) + 3))) hx hb dL_isHouse_450 (nI_l (by omega)) ?_
                        refine lv_lmul hx hb dL_isHouse_451 ?_
                        refine lv_ldc2 (v := 1000) hx hb hown (hts (.constantLong RL 104 (1000)) (by decide +kernel)) dL_isHouse_452 ?_
                        refine lv_ldiv hx hb dL_isHouse_455 (by decide) ?_
                        refine lv_ladd hx hb dL_isHouse_456 ?_
                        refine rh_last0 (x := (((u_nt (u_un L mo) j) (j % 4)) + ((lN (u_ow L j mo mo none (L 0 2)) * lN (L 1 ((4 * (j % 4)) + 3))) / 1000))) hx hb hE hO hS hAna (j % 4) (show (j % 4) < 4 by omega) (by decide) rfl dL_isHouse_457 (fun H locs hO hz9 ho9 hS => ?_)
                        have hW := hW.keptD hDn ho9
                        have hU := hU.kept (fun k hk => ho9 _ (hUn k hk))
                        refine lv_aload hx hb dL_isHouse_458 (lv_at hl 18 rfl) ?_
                        refine lv_iload hx hb dL_isHouse_460 (lv_at hl 4 rfl) ?_
                        refine lv_dup2_11 hx hb dL_isHouse_462 rfl rfl ?_
                        refine rh_lald hx hb hE hO (j / 4) (show (j / 4) < 4 by omega) (by decide) rfl dL_isHouse_463 ?_
                        refine lv_lload hx hb dL_isHouse_464 (lv_at hl 3 rfl) ?_
                        refine lv_aload_n hx hb dL_isHouse_466 rfl (lv_at hl 8 rfl) ?_
                        refine lv_iconst (v := nI 4) hx hb dL_isHouse_467 (by decide) ?_
                        refine lv_iload hx hb dL_isHouse_468 (lv_at hl 5 rfl) ?_
                        refine un_mul hx hb dL_isHouse_470 ?_
                        refine lv_iconst (v := nI 3) hx hb dL_isHouse_471 (by decide) ?_
                        refine un_add hx hb dL_isHouse_472 ?_
                        have hb473_549 := hub 1 ((4 * (j % 4)) + 3)
                        refine un_ald (L := L) hx hb hE hU 1 (by decide) ((4 * (j % 4)) + 3) (show ((4 * (j % 4)) + 3) < 16 from (by omega)) dL_isHouse_473 ?_
                        refine lv_i2l (v := lN (L 1 ((4 * (j % 4)) + 3))) hx hb dL_isHouse_474 (nI_l (by omega)) ?_
                        refine lv_lmul hx hb dL_isHouse_475 ?_
                        refine lv_ldc2 (v := 1000) hx hb hown (hts (.constantLong RL 104 (1000)) (by decide +kernel)) dL_isHouse_476 ?_
                        refine lv_ldiv hx hb dL_isHouse_479 (by decide) ?_
                        refine lv_lsub hx hb dL_isHouse_480 ?_
                        refine rh_last0 (x := (((va_up (u_nt (u_un L mo) j) (j % 4) (((u_nt (u_un L mo) j) (j % 4)) + ((lN (u_ow L j mo mo none (L 0 2)) * lN (L 1 ((4 * (j % 4)) + 3))) / 1000))) (j / 4)) - ((lN (u_ow L j mo mo none (L 0 2)) * lN (L 1 ((4 * (j % 4)) + 3))) / 1000))) hx hb hE hO hS hAna (j / 4) (show (j / 4) < 4 by omega) (by decide) rfl dL_isHouse_481 (fun H locs hO hz9 ho9 hS => ?_)
                        have hW := hW.keptD hDn ho9
                        have hU := hU.kept (fun k hk => ho9 _ (hUn k hk))
                        refine lv_iinc (v := nI (j + 1)) (lv' := [(14, .int (nI (j + 1))), (11, .int (nI 1)), (20, .long (lN (L 8 (32 + j)) - lN (u_ow L j (12 * yr) ((12 * yr) + 11) none (L 0 2)))), (19, .int (nI yr)), (17, .long (lN (u_ow L j mo mo none (L 0 2)))), (16, .int (nI (j / 4))), (15, .int (nI (j % 4))), (0, .ref (ad 0 0)), (1, .ref (ua 0)), (2, .ref (ua 1)), (3, .ref (ua 2)), (4, .ref (ua 3)), (5, .ref (ua 4)), (6, .ref (ua 5)), (7, .ref (ua 6)), (8, .ref (ua 7)), (9, .ref (ua 8)), (10, .int (nI x)), (12, .int (nI mo)), (13, .ref na)]) hx hb dL_isHouse_482 hl (k := 19) rfl (nI_add j 1) (by decide) rfl (fun ls hl => ?_)
                        refine lv_goto (tgt := 224) hx hb dL_isHouse_485 (by decide) ?_
                        have hO : va_at G vwCl (na, .inl (ca 2, 4, .inr (.inl (u_nt (u_un L mo) (j + 1))))) H := by
                          rw [show u_nt (u_un L mo) (j + 1) = va_up (va_up (u_nt (u_un L mo) j) (j % 4) ((u_nt (u_un L mo) j) (j % 4) + u_un L mo j)) (j / 4) (va_up (u_nt (u_un L mo) j) (j % 4) ((u_nt (u_un L mo) j) (j % 4) + u_un L mo j) (j / 4) - u_un L mo j) from if_neg hne]
                          exact hO
                        exact W.widen (by omega) (by omega) (ih224 (j + 1) _ _ _ (by omega) (by omega) hW hU hO hS (lv_sub hl [7, 8, 9, 10, 11, 12, 13, 14, 15, 16, 17, 1, 18, 19, 0] rfl))
              have hO : va_at G vwCl (na, .inl (ca 2, 4, .inr (.inl (u_nt (u_un L mo) 0)))) H := hO
              exact W.widen (by omega) (by omega) (loop224 (17) 0 _ _ _ (by omega) (by omega) hW hU hO hS (lv_sub hl [3, 4, 5, 6, 7, 8, 9, 10, 11, 12, 13, 14, 2, 1, 0] rfl))
            · have hjl : j < nc := by omega
              have hst4 := (o_call hinv hlr hjl).2
              refine lv_iload hx hb dL_isHouse_84 (lv_at hl 11 rfl) ?_
              refine un_ieq (tgt := 206) hx hb dL_isHouse_86 (by decide) (by decide) (fun c21 => absurd (show (1 : Nat) = 0 from c21) (by decide)) (fun c21 => ?_)
              refine lv_aload hx hb dL_isHouse_89 (lv_at hl 4 rfl) ?_
              refine lv_iload hx hb dL_isHouse_91 (lv_at hl 12 rfl) ?_
              have hAn : ∀ q : Nat, H.size ≤ q → A q := fun q h => hA q (Nat.le_trans hS.1 h)
              refine rh_call2 (vx_runS (As := [.ref (ua 3), .int (nI j)]) (rest := []) ⟨hx, hb, hml, hown, hts⟩ (ct_L_month l j (by omega) hub) (va_cwS 2 hts gL_isHouse_L_month rfl rfl rfl (by decide +kernel) ⟨by decide, by decide⟩) (rh_pre2 hE hS hAn (fun q h => h) hU) rfl rfl hl.1 rfl (lv_room (Nat.le_of_ble_eq_true rfl)) dL_isHouse_93 ⟨show (80 + 15 * j) + 0 ≤ 1100 by omega, show (640 + 120 * j) + 0 ≤ 9000 by omega⟩) hS hAn (fun _ _ _ _ _ hX9 _ _ _ _ _ _ => hX9.elim) (fun o H locs hN9 hz9 hk9 hS => ?_)
              have hN9 := hN9
              subst hN9
              have hk9 := fun q hq => hk9 q hq (Nat.not_le.mpr hq)
              have hW := hW.grow hk9
              have hU := hU.grow hk9
              refine W.eq (g2 := F0 m 96 ls [.int (nI (u_mo L j))]) rfl ?_
              refine lv_istore (lv' := [(13, .int (nI (u_mo L j))), (0, .ref (ad 0 0)), (1, .ref (ua 0)), (2, .ref (ua 1)), (3, .ref (ua 2)), (4, .ref (ua 3)), (5, .ref (ua 4)), (6, .ref (ua 5)), (7, .ref (ua 6)), (8, .ref (ua 7)), (9, .ref (ua 8)), (10, .int (nI x)), (11, .int (nI 1)), (12, .int (nI j))]) hx hb dL_isHouse_96 hl (by decide) rfl (fun ls hl => ?_)
              refine lv_aload_n hx hb dL_isHouse_98 rfl (lv_at hl 1 rfl) ?_
              refine lv_iload hx hb dL_isHouse_99 (lv_at hl 13 rfl) ?_
              have hA19 : ∀ q, A q → A q := fun q h => h
              have hB19 : ∀ q : Nat, H.size ≤ q → A q := fun q h => hA q (Nat.le_trans hS.1 h)
              refine rh_call2 (vx_runV (As := [.int (nI j)]) (rest := []) ⟨hx, hb, hml, hown, hts⟩ (ct_X4_call l hlf hD hinv.1 (nI j)) (cwV 1 hts gL_isHouse_X4_call rfl rfl rfl (by decide +kernel) ⟨by decide, by decide⟩) (rh_preV2 hE hS hA19 hB19 (hW.at 0 0 Nat.zero_lt_one) rfl hW) rfl rfl hl.1 rfl (lv_room (Nat.le_of_ble_eq_true rfl)) dL_isHouse_101 ⟨show (80 + 15 * j) + 5 ≤ 1100 by omega, show (640 + 120 * j) + 40 ≤ 9000 by omega⟩) hS hA19 (fun E ce q9 H locs hX9 hz9 hk9 hS g1 g2 g3 => ?_) (fun o H locs hN9 hz9 hk9 hS => ?_)
              · obtain ⟨hX9, -⟩ := hX9
                exact absurd (ix_nI hjl (by omega)) hX9.2
              obtain ⟨i9, hi9, e9, rfl, hW⟩ := hN9
              have hU := hU.kept (fun k hk => hk9 _ (hU.lt hk) (fun z => hUA k hk z))
              obtain rfl : j = i9 := m_inj (by omega) (by omega) e9
              refine W.eq (g2 := F0 m 104 ls [.int (v 9 j 3)]) rfl ?_
              refine un_top (y := nI (u_st L j)) (o_call hinv hlr hjl).1 ?_
              refine lv_aload hx hb dL_isHouse_104 (lv_at hl 5 rfl) ?_
              refine lv_iload hx hb dL_isHouse_106 (lv_at hl 13 rfl) ?_
              have hAn : ∀ q : Nat, H.size ≤ q → A q := fun q h => hA q (Nat.le_trans hS.1 h)
              refine rh_call2 (vx_runS (As := [.ref (ua 3), .int (nI j)]) (rest := [.int (nI (u_st L j))]) ⟨hx, hb, hml, hown, hts⟩ (ct_L_state l j (by omega) hub) (va_cwS 2 hts gL_isHouse_L_state rfl rfl rfl (by decide +kernel) ⟨by decide, by decide⟩) (rh_pre2 hE hS hAn (fun q h => h) hU) rfl rfl hl.1 rfl (lv_room (Nat.le_of_ble_eq_true rfl)) dL_isHouse_108 ⟨show ((80 + 15 * j) + 5) + 0 ≤ 1100 by omega, show ((640 + 120 * j) + 40) + 0 ≤ 9000 by omega⟩) hS hAn (fun _ _ _ _ _ hX9 _ _ _ _ _ _ => hX9.elim) (fun o H locs hN9 hz9 hk9 hS => ?_)
              have hN9 := hN9
              subst hN9
              have hk9 := fun q hq => hk9 q hq (Nat.not_le.mpr hq)
              have hW := hW.grow hk9
              have hU := hU.grow hk9
              refine W.eq (g2 := F0 m 111 ls [.int (nI (u_st L j)), .int (nI (u_st L j))]) rfl ?_
              refine un_cne (tgt := 197) hx hb dL_isHouse_111 (by decide) (by omega) (by omega) (fun c22 => absurd rfl c22) (fun c22 => ?_)
              refine lv_aload_n hx hb dL_isHouse_114 rfl (lv_at hl 1 rfl) ?_
              refine lv_iload hx hb dL_isHouse_115 (lv_at hl 13 rfl) ?_
              have hA19 : ∀ q, A q → A q := fun q h => h
              have hB19 : ∀ q : Nat, H.size ≤ q → A q := fun q h => hA q (Nat.le_trans hS.1 h)
              refine rh_call2 (vx_runV (As := [.int (nI j)]) (rest := []) ⟨hx, hb, hml, hown, hts⟩ (ct_X4_monthOf l hlf hD hinv.1 (nI j)) (cwV 1 hts gL_isHouse_X4_monthOf rfl rfl rfl (by decide +kernel) ⟨by decide, by decide⟩) (rh_preV2 hE hS hA19 hB19 (hW.at 0 0 Nat.zero_lt_one) rfl hW) rfl rfl hl.1 rfl (lv_room (Nat.le_of_ble_eq_true rfl)) dL_isHouse_117 ⟨show ((80 + 15 * j) + 5) + 5 ≤ 1100 by omega, show ((640 + 120 * j) + 40) + 40 ≤ 9000 by omega⟩) hS hA19 (fun E ce q9 H locs hX9 hz9 hk9 hS g1 g2 g3 => ?_) (fun o H locs hN9 hz9 hk9 hS => ?_)
              · obtain ⟨hX9, -⟩ := hX9
                exact absurd (ix_nI hjl (by omega)) hX9.2
              obtain ⟨i9, hi9, e9, rfl, hW⟩ := hN9
              have hU := hU.kept (fun k hk => hk9 _ (hU.lt hk) (fun z => hUA k hk z))
              obtain rfl : j = i9 := m_inj (by omega) (by omega) e9
              refine W.eq (g2 := F0 m 120 ls [.int (v 9 j 4)]) rfl ?_
              refine lv_aload hx hb dL_isHouse_120 (lv_at hl 5 rfl) ?_
              refine lv_iload hx hb dL_isHouse_122 (lv_at hl 13 rfl) ?_
              have hAn : ∀ q : Nat, H.size ≤ q → A q := fun q h => hA q (Nat.le_trans hS.1 h)
              refine rh_call2 (vx_runS (As := [.ref (ua 3), .int (nI j)]) (rest := [.int (v 9 j 4)]) ⟨hx, hb, hml, hown, hts⟩ (ct_L_state l j (by omega) hub) (va_cwS 2 hts gL_isHouse_L_state rfl rfl rfl (by decide +kernel) ⟨by decide, by decide⟩) (rh_pre2 hE hS hAn (fun q h => h) hU) rfl rfl hl.1 rfl (lv_room (Nat.le_of_ble_eq_true rfl)) dL_isHouse_124 ⟨show (((80 + 15 * j) + 5) + 5) + 0 ≤ 1100 by omega, show (((640 + 120 * j) + 40) + 40) + 0 ≤ 9000 by omega⟩) hS hAn (fun _ _ _ _ _ hX9 _ _ _ _ _ _ => hX9.elim) (fun o H locs hN9 hz9 hk9 hS => ?_)
              have hN9 := hN9
              subst hN9
              have hk9 := fun q hq => hk9 q hq (Nat.not_le.mpr hq)
              have hW := hW.grow hk9
              have hU := hU.grow hk9
              refine W.eq (g2 := F0 m 127 ls [.int (nI (u_st L j)), .int (v 9 j 4)]) rfl ?_
              refine un_ine (tgt := 134) hx hb dL_isHouse_127 (by decide) (by omega) (fun c23 => ?_) (fun c23 => ?_)
              · have hs9 : u_st L j ≠ 0 := c23
                obtain ⟨hcp1, hcp2, hcp3, hcp4, hcp5⟩ := lk_c hlk hjl hs9
                refine lv_iload hx hb dL_isHouse_134 (lv_at hl 0 rfl) ?_
                refine lv_icmp_ne (tgt := 197) hx hb dL_isHouse_136 (by decide) (fun c24 => absurd ((o_month hinv hlr hjl).2 hs9) c24) (fun c24 => ?_)
                refine lv_aload_n hx hb dL_isHouse_139 rfl (lv_at hl 1 rfl) ?_
                refine lv_iload hx hb dL_isHouse_140 (lv_at hl 13 rfl) ?_
                have hA19 : ∀ q, A q → A q := fun q h => h
                have hB19 : ∀ q : Nat, H.size ≤ q → A q := fun q h => hA q (Nat.le_trans hS.1 h)
                refine rh_call2 (vx_runV (As := [.int (nI j)]) (rest := []) ⟨hx, hb, hml, hown, hts⟩ (ct_X4_owedFor l hlf hD hinv.1 (nI j)) (cwV 1 hts gL_isHouse_X4_owedFor rfl rfl rfl (by decide +kernel) ⟨by decide, by decide⟩) (rh_preV2 hE hS hA19 hB19 (hW.at 0 0 Nat.zero_lt_one) rfl hW) rfl rfl hl.1 rfl (lv_room (Nat.le_of_ble_eq_true rfl)) dL_isHouse_142 ⟨show (((80 + 15 * j) + 5) + 5) + 5 ≤ 1100 by omega, show (((640 + 120 * j) + 40) + 40) + 40 ≤ 9000 by omega⟩) hS hA19 (fun E ce q9 H locs hX9 hz9 hk9 hS g1 g2 g3 => ?_) (fun o H locs hN9 hz9 hk9 hS => ?_)
                · obtain ⟨hX9, -⟩ := hX9
                  exact absurd (ix_nI hjl (by omega)) hX9.2
                obtain ⟨i9, hi9, e9, rfl, hW⟩ := hN9
                have hU := hU.kept (fun k hk => hk9 _ (hU.lt hk) (fun z => hUA k hk z))
                obtain rfl : j = i9 := m_inj (by omega) (by omega) e9
                refine W.eq (g2 := F0 m 145 ls [.int (c_amt r v j)]) rfl ?_
                refine lv_i2l hx hb dL_isHouse_145 rfl ?_
                refine lv_aload hx hb dL_isHouse_146 (lv_at hl 5 rfl) ?_
                refine lv_iload hx hb dL_isHouse_148 (lv_at hl 13 rfl) ?_
                have hAn : ∀ q : Nat, H.size ≤ q → A q := fun q h => hA q (Nat.le_trans hS.1 h)
                refine rh_call2 (vx_runS (As := [.ref (ua 3), .int (nI j)]) (rest := [.long (((c_amt r v j)).toInt64)]) ⟨hx, hb, hml, hown, hts⟩ (ct_L_state l j (by omega) hub) (va_cwS 2 hts gL_isHouse_L_state rfl rfl rfl (by decide +kernel) ⟨by decide, by decide⟩) (rh_pre2 hE hS hAn (fun q h => h) hU) rfl rfl hl.1 rfl (lv_room (Nat.le_of_ble_eq_true rfl)) dL_isHouse_150 ⟨show ((((80 + 15 * j) + 5) + 5) + 5) + 0 ≤ 1100 by omega, show ((((640 + 120 * j) + 40) + 40) + 40) + 0 ≤ 9000 by omega⟩) hS hAn (fun _ _ _ _ _ hX9 _ _ _ _ _ _ => hX9.elim) (fun o H locs hN9 hz9 hk9 hS => ?_)
                have hN9 := hN9
                subst hN9
                have hk9 := fun q hq => hk9 q hq (Nat.not_le.mpr hq)
                have hW := hW.grow hk9
                have hU := hU.grow hk9
                refine W.eq (g2 := F0 m 153 ls [.int (nI (u_st L j)), .long (((c_amt r v j)).toInt64)]) rfl ?_
                refine un_ine (tgt := 160) hx hb dL_isHouse_153 (by decide) (by omega) (fun c25 => ?_) (fun c25 => absurd c25 hs9)
                refine lv_aload_n hx hb dL_isHouse_160 rfl (lv_at hl 2 rfl) ?_
                refine lv_aload_n hx hb dL_isHouse_161 rfl (lv_at hl 4 rfl) ?_
                refine lv_aload hx hb dL_isHouse_162 (lv_at hl 5 rfl) ?_
                refine lv_aload hx hb dL_isHouse_164 (lv_at hl 6 rfl) ?_
                refine lv_aload hx hb dL_isHouse_166 (lv_at hl 7 rfl) ?_
                refine lv_aload hx hb dL_isHouse_168 (lv_at hl 8 rfl) ?_
                refine lv_aload hx hb dL_isHouse_170 (lv_at hl 10 rfl) ?_
                refine lv_aload hx hb dL_isHouse_172 (lv_at hl 5 rfl) ?_
                refine lv_aload_n hx hb dL_isHouse_174 rfl (lv_at hl 4 rfl) ?_
                refine lv_iload hx hb dL_isHouse_175 (lv_at hl 13 rfl) ?_
                have hAn : ∀ q : Nat, H.size ≤ q → A q := fun q h => hA q (Nat.le_trans hS.1 h)
                refine rh_call2 (un_runS (As := [.ref (ua 3), .ref (ua 2), .int (nI j)]) (rest := [.ref (ua 8), .ref (ua 6), .ref (ua 5), .ref (ua 4), .ref (ua 3), .ref (ua 2), .ref (ua 0), .long (((c_amt r v j)).toInt64)]) ⟨hx, hb, hml, hown, hts⟩ (ct_L_pair l j (by omega) hub) (va_cwS 3 hts gL_isHouse_L_pair rfl rfl rfl (by decide +kernel) ⟨by decide, by decide⟩) (rh_pre2 hE hS hAn (fun q h => h) hU) rfl rfl hl.1 rfl (un_room (Nat.le_of_ble_eq_true rfl)) (by decide) dL_isHouse_177 ⟨show ((((80 + 15 * j) + 5) + 5) + 5) + 0 ≤ 1100 by omega, show ((((640 + 120 * j) + 40) + 40) + 40) + 0 ≤ 9000 by omega⟩) hS hAn (fun _ _ _ _ _ hX9 _ _ _ _ _ _ => hX9.elim) (fun o H locs hN9 hz9 hk9 hS => ?_)
                have hN9 := hN9
                subst hN9
                have hk9 := fun q hq => hk9 q hq (Nat.not_le.mpr hq)
                have hW := hW.grow hk9
                have hU := hU.grow hk9
                refine W.eq (g2 := F0 m 180 ls [.int (nI (u_pr L j)), .ref (ua 8), .ref (ua 6), .ref (ua 5), .ref (ua 4), .ref (ua 3), .ref (ua 2), .ref (ua 0), .long (((c_amt r v j)).toInt64)]) rfl ?_
                refine lv_iload hx hb dL_isHouse_180 (lv_at hl 0 rfl) ?_
                refine lv_iload hx hb dL_isHouse_182 (lv_at hl 0 rfl) ?_
                refine lv_iload hx hb dL_isHouse_184 (lv_at hl 13 rfl) ?_
                have hAn : ∀ q : Nat, H.size ≤ q → A q := fun q h => hA q (Nat.le_trans hS.1 h)
                refine rh_call2 (vx_runS (As := [.ref (ua 0), .ref (ua 2), .ref (ua 3), .ref (ua 4), .ref (ua 5), .ref (ua 6), .ref (ua 8), .int (nI (u_pr L j)), .int (nI (u_mo L j)), .int (nI (u_mo L j)), .int (nI j)]) (rest := [.long (((c_amt r v j)).toInt64)]) ⟨hx, hb, hml, hown, hts⟩ (ct_L_owed1 l (u_pr L j) (u_mo L j) (u_mo L j) j hcp2 (by omega) (by omega) rfl (by omega) hlk) (va_cwS 11 hts gL_isHouse_L_owed rfl rfl rfl (by decide +kernel) ⟨by decide, by decide⟩) (rh_pre2 hE hS hAn (fun q h => h) hU) rfl rfl hl.1 rfl (lv_room (Nat.le_of_ble_eq_true rfl)) dL_isHouse_186 ⟨show ((((80 + 15 * j) + 5) + 5) + 5) + 0 ≤ 1100 by omega, show ((((640 + 120 * j) + 40) + 40) + 40) + 0 ≤ 9000 by omega⟩) hS hAn (fun _ _ _ _ _ hX9 _ _ _ _ _ _ => hX9.elim) (fun o H locs hN9 hz9 hk9 hS => ?_)
                have hN9 := hN9
                subst hN9
                have hk9 := fun q hq => hk9 q hq (Nat.not_le.mpr hq)
                have hW := hW.grow hk9
                have hU := hU.grow hk9
                refine W.eq (g2 := F0 m 189 ls [.long (lN (u_ow L (u_pr L j) (u_mo L j) (u_mo L j) (some j) (L 0 2))), .long (((c_amt r v j)).toInt64)]) rfl ?_
                refine W.lcmp hx hb dL_isHouse_189 ?_
                refine un_top (y := nI 0) ((lg_cmp_eq _ _).mpr ((o_amt hinv hlr hjl).2 hs9)) ?_
                refine un_ine (tgt := 197) hx hb dL_isHouse_190 (by decide) (by decide) (fun c26 => absurd (show ¬ (0 : Nat) = 0 from c26) (by decide)) (fun c26 => ?_)
                refine lv_iconst (v := nI 1) hx hb dL_isHouse_193 (by decide) ?_
                refine lv_goto (tgt := 198) hx hb dL_isHouse_194 (by decide) ?_
                refine lv_istore (lv' := [(11, .int (nI 1)), (13, .int (nI (u_mo L j))), (0, .ref (ad 0 0)), (1, .ref (ua 0)), (2, .ref (ua 1)), (3, .ref (ua 2)), (4, .ref (ua 3)), (5, .ref (ua 4)), (6, .ref (ua 5)), (7, .ref (ua 6)), (8, .ref (ua 7)), (9, .ref (ua 8)), (10, .int (nI x)), (12, .int (nI j))]) hx hb dL_isHouse_198 hl (by decide) rfl (fun ls hl => ?_)
                refine lv_iinc (v := nI (j + 1)) (lv' := [(12, .int (nI (j + 1))), (11, .int (nI 1)), (13, .int (nI (u_mo L j))), (0, .ref (ad 0 0)), (1, .ref (ua 0)), (2, .ref (ua 1)), (3, .ref (ua 2)), (4, .ref (ua 3)), (5, .ref (ua 4)), (6, .ref (ua 5)), (7, .ref (ua 6)), (8, .ref (ua 7)), (9, .ref (ua 8)), (10, .int (nI x))]) hx hb dL_isHouse_200 hl (k := 13) rfl (nI_add j 1) (by decide) rfl (fun ls hl => ?_)
                refine lv_goto (tgt := 76) hx hb dL_isHouse_203 (by decide) ?_
                exact W.widen (by omega) (by omega) (ih76 (j + 1) _ _ _ (by omega) (by omega) hW hU hS (lv_sub hl [3, 4, 5, 6, 7, 8, 9, 10, 11, 12, 13, 1, 0] rfl))
              · have hs9 : u_st L j = 0 := c23
                refine lv_iconst (v := -1) hx hb dL_isHouse_130 (by decide) ?_
                refine lv_goto (tgt := 136) hx hb dL_isHouse_131 (by decide) ?_
                refine lv_icmp_ne (tgt := 197) hx hb dL_isHouse_136 (by decide) (fun c27 => absurd ((o_month hinv hlr hjl).1 hs9) c27) (fun c27 => ?_)
                refine lv_aload_n hx hb dL_isHouse_139 rfl (lv_at hl 1 rfl) ?_
                refine lv_iload hx hb dL_isHouse_140 (lv_at hl 13 rfl) ?_
                have hA19 : ∀ q, A q → A q := fun q h => h
                have hB19 : ∀ q : Nat, H.size ≤ q → A q := fun q h => hA q (Nat.le_trans hS.1 h)
                refine rh_call2 (vx_runV (As := [.int (nI j)]) (rest := []) ⟨hx, hb, hml, hown, hts⟩ (ct_X4_owedFor l hlf hD hinv.1 (nI j)) (cwV 1 hts gL_isHouse_X4_owedFor rfl rfl rfl (by decide +kernel) ⟨by decide, by decide⟩) (rh_preV2 hE hS hA19 hB19 (hW.at 0 0 Nat.zero_lt_one) rfl hW) rfl rfl hl.1 rfl (lv_room (Nat.le_of_ble_eq_true rfl)) dL_isHouse_142 ⟨show (((80 + 15 * j) + 5) + 5) + 5 ≤ 1100 by omega, show (((640 + 120 * j) + 40) + 40) + 40 ≤ 9000 by omega⟩) hS hA19 (fun E ce q9 H locs hX9 hz9 hk9 hS g1 g2 g3 => ?_) (fun o H locs hN9 hz9 hk9 hS => ?_)
                · obtain ⟨hX9, -⟩ := hX9
                  exact absurd (ix_nI hjl (by omega)) hX9.2
                obtain ⟨i9, hi9, e9, rfl, hW⟩ := hN9
                have hU := hU.kept (fun k hk => hk9 _ (hU.lt hk) (fun z => hUA k hk z))
                obtain rfl : j = i9 := m_inj (by omega) (by omega) e9
                refine W.eq (g2 := F0 m 145 ls [.int (c_amt r v j)]) rfl ?_
                refine lv_i2l hx hb dL_isHouse_145 rfl ?_
                refine lv_aload hx hb dL_isHouse_146 (lv_at hl 5 rfl) ?_
                refine lv_iload hx hb dL_isHouse_148 (lv_at hl 13 rfl) ?_
                have hAn : ∀ q : Nat, H.size ≤ q → A q := fun q h => hA q (Nat.le_trans hS.1 h)
                refine rh_call2 (vx_runS (As := [.ref (ua 3), .int (nI j)]) (rest := [.long (((c_amt r v j)).toInt64)]) ⟨hx, hb, hml, hown, hts⟩ (ct_L_state l j (by omega) hub) (va_cwS 2 hts gL_isHouse_L_state rfl rfl rfl (by decide +kernel) ⟨by decide, by decide⟩) (rh_pre2 hE hS hAn (fun q h => h) hU) rfl rfl hl.1 rfl (lv_room (Nat.le_of_ble_eq_true rfl)) dL_isHouse_150 ⟨show ((((80 + 15 * j) + 5) + 5) + 5) + 0 ≤ 1100 by omega, show ((((640 + 120 * j) + 40) + 40) + 40) + 0 ≤ 9000 by omega⟩) hS hAn (fun _ _ _ _ _ hX9 _ _ _ _ _ _ => hX9.elim) (fun o H locs hN9 hz9 hk9 hS => ?_)
                have hN9 := hN9
                subst hN9
                have hk9 := fun q hq => hk9 q hq (Nat.not_le.mpr hq)
                have hW := hW.grow hk9
                have hU := hU.grow hk9
                refine W.eq (g2 := F0 m 153 ls [.int (nI (u_st L j)), .long (((c_amt r v j)).toInt64)]) rfl ?_
                refine un_ine (tgt := 160) hx hb dL_isHouse_153 (by decide) (by omega) (fun c28 => absurd hs9 c28) (fun c28 => ?_)
                refine lv_lconst (v := lN 0) hx hb dL_isHouse_156 rfl ?_
                refine lv_goto (tgt := 189) hx hb dL_isHouse_157 (by decide) ?_
                refine W.lcmp hx hb dL_isHouse_189 ?_
                refine un_top (y := nI 0) ((lg_cmp_eq _ _).mpr (by rw [(o_amt hinv hlr hjl).1 hs9]; rfl)) ?_
                refine un_ine (tgt := 197) hx hb dL_isHouse_190 (by decide) (by decide) (fun c29 => absurd (show ¬ (0 : Nat) = 0 from c29) (by decide)) (fun c29 => ?_)
                refine lv_iconst (v := nI 1) hx hb dL_isHouse_193 (by decide) ?_
                refine lv_goto (tgt := 198) hx hb dL_isHouse_194 (by decide) ?_
                refine lv_istore (lv' := [(11, .int (nI 1)), (13, .int (nI (u_mo L j))), (0, .ref (ad 0 0)), (1, .ref (ua 0)), (2, .ref (ua 1)), (3, .ref (ua 2)), (4, .ref (ua 3)), (5, .ref (ua 4)), (6, .ref (ua 5)), (7, .ref (ua 6)), (8, .ref (ua 7)), (9, .ref (ua 8)), (10, .int (nI x)), (12, .int (nI j))]) hx hb dL_isHouse_198 hl (by decide) rfl (fun ls hl => ?_)
                refine lv_iinc (v := nI (j + 1)) (lv' := [(12, .int (nI (j + 1))), (11, .int (nI 1)), (13, .int (nI (u_mo L j))), (0, .ref (ad 0 0)), (1, .ref (ua 0)), (2, .ref (ua 1)), (3, .ref (ua 2)), (4, .ref (ua 3)), (5, .ref (ua 4)), (6, .ref (ua 5)), (7, .ref (ua 6)), (8, .ref (ua 7)), (9, .ref (ua 8)), (10, .int (nI x))]) hx hb dL_isHouse_200 hl (k := 13) rfl (nI_add j 1) (by decide) rfl (fun ls hl => ?_)
                refine lv_goto (tgt := 76) hx hb dL_isHouse_203 (by decide) ?_
                exact W.widen (by omega) (by omega) (ih76 (j + 1) _ _ _ (by omega) (by omega) hW hU hS (lv_sub hl [3, 4, 5, 6, 7, 8, 9, 10, 11, 12, 13, 1, 0] rfl))
        exact W.widen (by omega) (by omega) (loop76 (nc + 1) 0 _ _ _ (by omega) (by omega) hW hU hS (lv_sub hl [1, 2, 3, 4, 5, 6, 7, 8, 9, 10, 11, 12, 0] rfl))
      · have hjl : j < nf := by omega
        refine lv_iload hx hb dL_isHouse_38 (lv_at hl 11 rfl) ?_
        refine un_ieq (tgt := 73) hx hb dL_isHouse_40 (by decide) (by decide) (fun c30 => absurd (show (1 : Nat) = 0 from c30) (by decide)) (fun c30 => ?_)
        refine lv_aload_n hx hb dL_isHouse_43 rfl (lv_at hl 0 rfl) ?_
        refine lv_iload hx hb dL_isHouse_44 (lv_at hl 12 rfl) ?_
        have hA19 : ∀ q, A q → A q := fun q h => h
        have hB19 : ∀ q : Nat, H.size ≤ q → A q := fun q h => hA q (Nat.le_trans hS.1 h)
        refine rh_call2 (vx_runV (As := [.int (nI j)]) (rest := []) ⟨hx, hb, hml, hown, hts⟩ (ct_X4_stateOf l hlf hD hinv.1 (nI j)) (cwV 1 hts gL_isHouse_X4_stateOf rfl rfl rfl (by decide +kernel) ⟨by decide, by decide⟩) (rh_preV2 hE hS hA19 hB19 (hW.at 0 0 Nat.zero_lt_one) rfl hW) rfl rfl hl.1 rfl (lv_room (Nat.le_of_ble_eq_true rfl)) dL_isHouse_46 ⟨show (5 * j) + 5 ≤ 1100 by omega, show (40 * j) + 40 ≤ 9000 by omega⟩) hS hA19 (fun E ce q9 H locs hX9 hz9 hk9 hS g1 g2 g3 => ?_) (fun o H locs hN9 hz9 hk9 hS => ?_)
        · obtain ⟨hX9, -⟩ := hX9
          exact absurd (ix_nI hjl (by omega)) hX9.2
        obtain ⟨i9, hi9, e9, rfl, hW⟩ := hN9
        have hU := hU.kept (fun k hk => hk9 _ (hU.lt hk) (fun z => hUA k hk z))
        obtain rfl : j = i9 := m_inj (by omega) (by omega) e9
        refine W.eq (g2 := F0 m 49 ls [.int (v 8 j 2)]) rfl ?_
        refine un_top (y := nI (L 2 (4 * j + 2))) (o_state hinv hlr hjl) ?_
        refine lv_aload_n hx hb dL_isHouse_49 rfl (lv_at hl 3 rfl) ?_
        refine lv_iconst (v := nI 4) hx hb dL_isHouse_50 (by decide) ?_
        refine lv_iload hx hb dL_isHouse_51 (lv_at hl 12 rfl) ?_
        refine un_mul hx hb dL_isHouse_53 ?_
        refine lv_iconst (v := nI 2) hx hb dL_isHouse_54 (by decide) ?_
        refine un_add hx hb dL_isHouse_55 ?_
        have hb56_752 := hub 2 ((4 * j) + 2)
        refine un_ald (L := L) hx hb hE hU 2 (by decide) ((4 * j) + 2) (show ((4 * j) + 2) < 64 from (by omega)) dL_isHouse_56 ?_
        refine un_cne (tgt := 64) hx hb dL_isHouse_57 (by decide) (by omega) (by omega) (fun c31 => absurd rfl c31) (fun c31 => ?_)
        refine lv_iconst (v := nI 1) hx hb dL_isHouse_60 (by decide) ?_
        refine lv_goto (tgt := 65) hx hb dL_isHouse_61 (by decide) ?_
        refine lv_istore (lv' := [(11, .int (nI 1)), (0, .ref (ad 0 0)), (1, .ref (ua 0)), (2, .ref (ua 1)), (3, .ref (ua 2)), (4, .ref (ua 3)), (5, .ref (ua 4)), (6, .ref (ua 5)), (7, .ref (ua 6)), (8, .ref (ua 7)), (9, .ref (ua 8)), (10, .int (nI x)), (12, .int (nI j))]) hx hb dL_isHouse_65 hl (by decide) rfl (fun ls hl => ?_)
        refine lv_iinc (v := nI (j + 1)) (lv' := [(12, .int (nI (j + 1))), (11, .int (nI 1)), (0, .ref (ad 0 0)), (1, .ref (ua 0)), (2, .ref (ua 1)), (3, .ref (ua 2)), (4, .ref (ua 3)), (5, .ref (ua 4)), (6, .ref (ua 5)), (7, .ref (ua 6)), (8, .ref (ua 7)), (9, .ref (ua 8)), (10, .int (nI x))]) hx hb dL_isHouse_67 hl (k := 12) rfl (nI_add j 1) (by decide) rfl (fun ls hl => ?_)
        refine lv_goto (tgt := 30) hx hb dL_isHouse_70 (by decide) ?_
        exact W.widen (by omega) (by omega) (ih30 (j + 1) _ _ _ (by omega) (by omega) hW hU hS (lv_sub hl [2, 3, 4, 5, 6, 7, 8, 9, 10, 11, 12, 1, 0] rfl))
  exact W.widen (by omega) (by omega) (loop30 (nf + 1) 0 _ _ _ (by omega) (by omega) hW hU hS (lv_sub hl [2, 3, 4, 5, 6, 7, 8, 9, 10, 11, 12, 1, 0] rfl))
