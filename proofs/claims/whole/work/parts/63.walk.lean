/-! ===== the law's walk ===== -/
section RLZ
variable {p : Program} {l : Launch} {e : Env} {R : Room} {s : State} {m : MethodId} {args : Array Value} {below : List Frame} {meth : Method} {c : Code} {H : Heap} {locs : List Loc} {cells slots : Nat} {Q : State → Prop}
variable {cc : ByteArray} {pc : Nat} {ls : Array Slot} {rest : List Value} {G : va_G} {H0 : Heap} {A : Nat → Prop} {ca : Nat → ClassId}
/-- a new long array -/
theorem rh_newl0 (hexec : p.tables.exec = Jvm.exec) (hb : c.code = cc) (harr : (Cond.arrayClass .long).before args s = true) (hE : rh_E G ca A s) (hS : va_S A H0 H locs)
    {n : Int32} (N' : Nat) (hn : ¬ n < 0) (hN : n.toNatClampNeg = N') (hbytes : N' * componentBytes (newarray.typeOf .long) ≤ 536870912) (hcells : cells + 1 ≤ R.cells) (hslots : slots + N' ≤ R.slots) (hdg : decode cc pc = .ok (.newarray .long, 2))
    (kk : ∀ (q : Nat) (H1 : Heap), q = H.size → va_at G vwCl (q, .inl (ca 2, N', .inr (.inl (fun _ => 0)))) H1 → H1.size = H.size + 1 → (∀ x : Nat, x < H.size → H1[x]? = H[x]?) → va_S A H0 H1 locs →
      W p l e R s m args below meth c H1 locs (cells + 1) (slots + N') Q (F0 m (pc + 2) ls (.ref q :: rest))) : W p l e R s m args below meth c H locs cells slots Q (F0 m pc ls (.int n :: rest)) := by
  refine va_newaK (atype := .long) hexec hb harr rfl hdg rfl hn hN hbytes hcells hslots rfl fun H1 cA e1 z1 o1 hAr hNm => ?_
  have hI : s.vm.findClass ("[" ++ FieldType.long.toString) = some (ca 2) := (hE.1.2 2 _ rfl).2
  have hca : cA = ca 2 := Option.some.inj (hNm.symm.trans hI)
  subst hca
  refine kk H.size H1 rfl ?_ z1 o1 ⟨Nat.le_trans hS.1 (by omega), fun x h1 h2 => (o1 x (Nat.lt_of_lt_of_le h1 hS.1)).trans (hS.2.1 x h1 h2), hS.2.2⟩
  show H1[H.size]? = some (vp_cell _ _)
  rw [vp_cell_l]
  exact e1
end RLZ
theorem rh_W.keep {G : va_G} {ca : Nat → ClassId} {ad : Nat → Nat → Nat} {nf nc : Nat} {r : rh_R} {v : rh_V} {H H1 : Heap} (h : rh_W G ca ad nf nc r v H) (hk : ∀ k i : Nat, i < rh_n nf nc k → H1[ad k i]? = H[ad k i]?) : rh_W G ca ad nf nc r v H1 := by
  refine rh_P.kept h (fun k i e he => hk k i ?_)
  unfold rh_ce at he
  by_cases hb : i < rh_n nf nc k
  · exact hb
  · rw [if_neg hb] at he; cases he
set_option maxHeartbeats 8000000 in
set_option maxRecDepth 100000 in
/-- the law's loop -/
theorem l_loop {p : Program} {e : Env} {s : State} {m : MethodId} {below : List Frame} {meth : Method} {c : Code} {l : Launch} {G : va_G} {ca : Nat → ClassId} {b L : Nat} {xs : Nat → Int32} (C : lwC p l s m c G ca (fun q => s.heap.size ≤ q) b L xs) (hr : meth.sig.returnType = ret) (hlocks : meth.locks = false) {h1 h2 h3 : Nat} : ∀ (n j : Nat) (ad adm : Nat → Nat → Nat) (nf nc : Nat) (r : rh_R) (v : rh_V) (w : rh_Wm) (th : Int32) (f : Nat → Int64) (H : Heap) (locs : List Loc) (ls : Array Slot), L + 1 ≤ 6 * j + n → 6 * j ≤ L → lwS G ca (fun q => s.heap.size ≤ q) h1 h2 h3 ad adm nf nc r v w th f H → va_S (fun q => s.heap.size ≤ q) s.heap H locs → lv_has ls 8 [(0, .ref b), (1, .ref h1), (2, .ref h2), (3, .ref h3), (4, .int (nI (6 * j)))] →
    W p l e room_1 s m #[Value.ref b] below meth c H locs (64 + 5 * j) (973 + 40 * j) (lw_Z below #[Value.ref b] s) (F0 m 23 ls []) := by
  obtain ⟨hx, hb, hml, hown, hts, hE, hnc9, hlf, hA0, hbA, hbl, hX, hLm⟩ := id C
  intro n
  induction n with
  | zero => intro j ad adm nf nc r v w th f H locs ls hn hj hLS hS hl; exact absurd hn (by omega)
  | succ n ih =>
    intro j ad adm nf nc r v w th f H locs ls hn hj hLS hS hl
    refine lv_iload hx hb dL_law_23 (lv_at hl 4 rfl) ?_
    refine lv_aload_n hx hb dL_law_25 rfl (lv_at hl 0 rfl) ?_
    refine va_slen hx hb hX hbl hbA hS dL_law_26 ?_
    refine lv_bipush (v := 6) hx hb dL_law_27 (by decide) ?_
    refine lv_isub hx hb dL_law_29 ?_
    have hcmp : (Int32.ofNat L - 6 < nI (6 * j)) ↔ L < 6 * j + 6 := by
      have := nI_sub_lt (a := L) (b := 6) (x := 6 * j) (by omega) (by decide) (by omega)
      rw [show L < 6 * j + 6 ↔ L < 6 + 6 * j by omega]
      exact this
    refine lv_icmp_gt (tgt := 1529) hx hb dL_law_30 (by decide) (fun c1 => ?_) (fun c1 => ?_)
    · refine lv_iconst (v := 1) hx hb dL_law_1529 (by decide) ?_
      refine va_forget (fun q hq => hS.2.2 q hq) ?_
      refine W.widen (k := 626516) (n := 7216556) (by omega) (by omega) ?_
      exact lw_ret hx hb hr hlocks dL_law_1530
    have hlt : ¬ L < 6 * j + 6 := fun z => c1 (hcmp.mpr z)
    refine lv_aload_n hx hb dL_law_33 rfl (lv_at hl 0 rfl) ?_
    refine lv_iload hx hb dL_law_34 (lv_at hl 4 rfl) ?_
    refine l_sld hx hb hX hbl hbA hS hLm (6 * j) (by omega) rfl dL_law_36 ?_
    refine lv_bipush (v := 31) hx hb dL_law_37 (by decide) ?_
    refine lv_iand hx hb dL_law_39 ?_
    have hK : lwK p l e s m below meth c G ca (fun q => s.heap.size ≤ q) b h1 h2 h3 (6 * j) (64 + 5 * j) (973 + 40 * j) (lw_Z below #[Value.ref b] s) := by
      intro ad adm nf nc r v w th f H locs ls hLS hS hl
      refine lv_iinc (v := nI (6 * j + 6)) (lv' := [(4, .int (nI (6 * j + 6))), (0, .ref b), (1, .ref h1), (2, .ref h2), (3, .ref h3)]) hx hb dL_law_1523 hl (k := 4) rfl (nI_add (6 * j) 6) (by decide) rfl (fun ls hl => ?_)
      refine lv_goto (tgt := 23) hx hb dL_law_1526 (by decide) ?_
      exact W.widen (by omega) (by omega) (ih (j + 1) ad adm nf nc r v w th f H locs ls (by omega) (by omega) hLS hS (lv_sub hl [1, 2, 3, 4, 0] rfl))
    generalize xs (6 * j) &&& 31 = y
    have hi5 : 6 * j + 5 < L := by omega
    have hc1 : 64 + 5 * j + 5 ≤ 626516 := by omega
    have hc2 : 973 + 40 * j + 40 ≤ 7216556 := by omega
    rcases (show y.toInt = 0 ∨ y.toInt = 1 ∨ y.toInt = 2 ∨ y.toInt = 3 ∨ y.toInt = 4 ∨ y.toInt = 5 ∨ y.toInt = 6 ∨ y.toInt = 7 ∨ y.toInt = 8 ∨ y.toInt = 9 ∨ y.toInt = 10 ∨ y.toInt = 11 ∨ y.toInt = 12 ∨ y.toInt = 13 ∨ y.toInt = 14 ∨ y.toInt = 15 ∨ y.toInt = 16 ∨ y.toInt = 17 ∨ y.toInt = 18 ∨ y.toInt = 19 ∨ y.toInt = 20 ∨ y.toInt = 21 ∨ (y.toInt < 0 ∨ 21 < y.toInt) by omega) with hk | hk | hk | hk | hk | hk | hk | hk | hk | hk | hk | hk | hk | hk | hk | hk | hk | hk | hk | hk | hk | hk | hk
    · exact lv_tableIn (off := 104) (tgt := 144) hx hb dL_law_40 (by rw [hk]; decide) (by rw [hk]; decide) (by rw [hk]; rfl) (by decide) (op_setTariff C hLS hS hl hi5 hc1 hc2 hK)
    · exact lv_tableIn (off := 196) (tgt := 236) hx hb dL_law_40 (by rw [hk]; decide) (by rw [hk]; decide) (by rw [hk]; rfl) (by decide) (op_charge C hLS hS hl hi5 hc1 hc2 hK)
    · exact lv_tableIn (off := 264) (tgt := 304) hx hb dL_law_40 (by rw [hk]; decide) (by rw [hk]; decide) (by rw [hk]; rfl) (by decide) (op_begin C hLS hS hl hi5 hc1 hc2 hK)
    · exact lv_tableIn (off := 332) (tgt := 372) hx hb dL_law_40 (by rw [hk]; decide) (by rw [hk]; decide) (by rw [hk]; rfl) (by decide) (op_enter C hLS hS hl hi5 hc1 hc2 hK)
    · exact lv_tableIn (off := 412) (tgt := 452) hx hb dL_law_40 (by rw [hk]; decide) (by rw [hk]; decide) (by rw [hk]; rfl) (by decide) (op_send C hLS hS hl hi5 hc1 hc2 hK)
    · exact lv_tableIn (off := 480) (tgt := 520) hx hb dL_law_40 (by rw [hk]; decide) (by rw [hk]; decide) (by rw [hk]; rfl) (by decide) (op_stateOf C hLS hS hl hi5 hc1 hc2 hK)
    · exact lv_tableIn (off := 536) (tgt := 576) hx hb dL_law_40 (by rw [hk]; decide) (by rw [hk]; decide) (by rw [hk]; rfl) (by decide) (op_expected C hLS hS hl hi5 hc1 hc2 hK)
    · exact lv_tableIn (off := 604) (tgt := 644) hx hb dL_law_40 (by rw [hk]; decide) (by rw [hk]; decide) (by rw [hk]; rfl) (by decide) (op_lacking C hLS hS hl hi5 hc1 hc2 hK)
    · exact lv_tableIn (off := 672) (tgt := 712) hx hb dL_law_40 (by rw [hk]; decide) (by rw [hk]; decide) (by rw [hk]; rfl) (by decide) (op_calls C hLS hS hl hi5 hc1 hc2 hK)
    · exact lv_tableIn (off := 685) (tgt := 725) hx hb dL_law_40 (by rw [hk]; decide) (by rw [hk]; decide) (by rw [hk]; rfl) (by decide) (op_call C hLS hS hl hi5 hc1 hc2 hK)
    · exact lv_tableIn (off := 741) (tgt := 781) hx hb dL_law_40 (by rw [hk]; decide) (by rw [hk]; decide) (by rw [hk]; rfl) (by decide) (op_monthOf C hLS hS hl hi5 hc1 hc2 hK)
    · exact lv_tableIn (off := 797) (tgt := 837) hx hb dL_law_40 (by rw [hk]; decide) (by rw [hk]; decide) (by rw [hk]; rfl) (by decide) (op_owedFor C hLS hS hl hi5 hc1 hc2 hK)
    · exact lv_tableIn (off := 853) (tgt := 893) hx hb dL_law_40 (by rw [hk]; decide) (by rw [hk]; decide) (by rw [hk]; rfl) (by decide) (op_dispute C hLS hS hl hi5 hc1 hc2 hK)
    · exact lv_tableIn (off := 889) (tgt := 929) hx hb dL_law_40 (by rw [hk]; decide) (by rw [hk]; decide) (by rw [hk]; rfl) (by decide) (op_answer C hLS hS hl hi5 hc1 hc2 hK)
    · exact lv_tableIn (off := 953) (tgt := 993) hx hb dL_law_40 (by rw [hk]; decide) (by rw [hk]; decide) (by rw [hk]; rfl) (by decide) (op_agree C hLS hS hl hi5 hc1 hc2 hK)
    · exact lv_tableIn (off := 1053) (tgt := 1093) hx hb dL_law_40 (by rw [hk]; decide) (by rw [hk]; decide) (by rw [hk]; rfl) (by decide) (op_promise C hLS hS hl hi5 hc1 hc2 hK)
    · exact lv_tableIn (off := 1133) (tgt := 1173) hx hb dL_law_40 (by rw [hk]; decide) (by rw [hk]; decide) (by rw [hk]; rfl) (by decide) (op_setRate C hLS hS hl hi5 hc1 hc2 hK)
    · exact lv_tableIn (off := 1201) (tgt := 1241) hx hb dL_law_40 (by rw [hk]; decide) (by rw [hk]; decide) (by rw [hk]; rfl) (by decide) (op_nextMonth C hLS hS hl hi5 hc1 hc2 hK)
    · exact lv_tableIn (off := 1245) (tgt := 1285) hx hb dL_law_40 (by rw [hk]; decide) (by rw [hk]; decide) (by rw [hk]; rfl) (by decide) (op_month C hLS hS hl hi5 hc1 hc2 hK)
    · exact lv_tableIn (off := 1258) (tgt := 1298) hx hb dL_law_40 (by rw [hk]; decide) (by rw [hk]; decide) (by rw [hk]; rfl) (by decide) (op_owed C hLS hS hl hi5 hc1 hc2 hK)
    · exact lv_tableIn (off := 1337) (tgt := 1377) hx hb dL_law_40 (by rw [hk]; decide) (by rw [hk]; decide) (by rw [hk]; rfl) (by decide) (op_shortfall C hLS hS hl hi5 hc1 hc2 hK)
    · exact lv_tableIn (off := 1416) (tgt := 1456) hx hb dL_law_40 (by rw [hk]; decide) (by rw [hk]; decide) (by rw [hk]; rfl) (by decide) (op_net C hLS hS hl hi5 hc1 hc2 hK)
    · refine lv_tableOut (tgt := 1523) hx hb dL_law_40 hk (by decide) ?_
      exact W.widen (by omega) (by omega) (hK ad adm nf nc r v w th f H locs ls hLS hS hl)
set_option maxHeartbeats 8000000 in
set_option maxRecDepth 100000 in
/-- from the entry, for every script of at most 3072 ints, the law comes to its end with true -/
theorem whole_start {p : Program} {e : Env} {s : State} {m : MethodId} {below : List Frame} {meth : Method} {c : Code} (l : Launch) (hflags : l.flags = flags0) {b L : Nat} {xs : Nat → Int32} (hL : L ≤ 3072) (C0 : lw_At p s m meth c b L xs) : W p l e room_1 s m #[Value.ref b] below meth c s.heap [] 0 0 (lw_Z below #[Value.ref b] s) (entryFrame m ([Value.ref b] : List Value).toArray 8) := by
  obtain ⟨-, -, hr, -, -, -, -, -, hlocks, -⟩ := id C0
  obtain ⟨G, ca, C⟩ := l_start l hflags hL C0
  obtain ⟨hx, hb, hml, hown, htsL, hE, hnc9, hlf, hA0, hbA, hbl, hX, hLm⟩ := id C
  have hl := lv_entry ([.ref b]) (n := 8) (Nat.le_of_ble_eq_true rfl)
  rw [lg_entry_eq]
  generalize (lg_sl ([.ref b]) ++ List.replicate (8 - (lg_sl ([.ref b])).length) Slot.unset).toArray = ls at hl ⊢
  have hl : lv_has ls 8 [(0, .ref b)] := hl
  have hS : va_S (fun q => s.heap.size ≤ q) s.heap s.heap [] := va_S.rf
  refine rh_new0 (ci := 4) (C := RX4) (T := TX4) (N := 7) hx hb htsL inlX4 tyX4 tyX4_ok hown (htsL (.classLink RL 8 RX4) (by decide +kernel)) (htsL (.instantiable RX4 7) (by decide +kernel)) (htsL (.initialized RX4) (by decide +kernel)) hE hS rfl [.null, .null, .null, .int 0, .null, .int 0, .int 0] (fun j hj => by rcases (show j = 0 ∨ j = 1 ∨ j = 2 ∨ j = 3 ∨ j = 4 ∨ j = 5 ∨ j = 6 by omega) with rfl | rfl | rfl | rfl | rfl | rfl | rfl <;> rfl) (by decide) (by decide) dL_law_0 (fun q1 H1 hq1 hat1 hz1 ho1 hS => ?_)
  have hA1 : ∀ z : Nat, (z = q1 ∨ H1.size ≤ z) → s.heap.size ≤ z := fun z hz9 => hz9.elim (fun e => by omega) (fun e => by omega)
  refine lv_dup hx hb dL_law_3 rfl ?_
  refine rh_callm2 (A1 := fun z => z = q1 ∨ H1.size ≤ z) (va_runI (As := []) (rest := [.ref q1]) ⟨hx, hb, hml, hown, htsL⟩ (ci_X4_init l q1 (Or.inl rfl) (fun _ _ => 0)) (cwI 0 htsL gL_law_X4_init rfl rfl rfl (htsL (.initialized RX4) (by decide +kernel)) (htsL (.methodLink RL 85 yX4_init) (by decide +kernel)) (htsL (.instanceMethod yX4_init) (by decide +kernel)) rfl (by decide +kernel) ⟨by decide, by decide⟩) (rh_pre2 hE hS hA1 (fun z hz9 => Or.inr hz9) hat1) rfl rfl hl.1 rfl (lv_room (Nat.le_of_ble_eq_true rfl)) dL_law_4 ⟨by decide, by decide⟩) hS hA1 (fun o H2 locs hN hz2 ho2 hS => ?_)
  obtain ⟨rfl, ad, had, hW, hD⟩ := hN
  refine W.eq (g2 := F0 m 7 ls [.ref q1]) rfl ?_
  refine lv_astore_n (lv' := [(1, .ref q1), (0, .ref b)]) hx hb dL_law_7 rfl hl (by decide) rfl (fun ls hl => ?_)
  have hlt2 : ∀ k i : Nat, i < rh_n 0 0 k → ad k i < H2.size := fun k i hi => (hW.at k i hi).lt
  have hs2 : s.heap.size ≤ H2.size := hS.1
  refine rh_new0 (ci := 5) (C := RX5) (T := TX5) (N := 26) hx hb htsL inlX5 tyX5 tyX5_ok hown (htsL (.classLink RL 86 RX5) (by decide +kernel)) (htsL (.instantiable RX5 26) (by decide +kernel)) (htsL (.initialized RX5) (by decide +kernel)) hE hS rfl [.null, .null, .null, .null, .int 0, .null, .null, .null, .null, .int 0, .null, .null, .null, .null, .null, .null, .int 0, .null, .null, .null, .null, .null, .null, .null, .int 0, .int 0] (fun j hj => by rcases (show j = 0 ∨ j = 1 ∨ j = 2 ∨ j = 3 ∨ j = 4 ∨ j = 5 ∨ j = 6 ∨ j = 7 ∨ j = 8 ∨ j = 9 ∨ j = 10 ∨ j = 11 ∨ j = 12 ∨ j = 13 ∨ j = 14 ∨ j = 15 ∨ j = 16 ∨ j = 17 ∨ j = 18 ∨ j = 19 ∨ j = 20 ∨ j = 21 ∨ j = 22 ∨ j = 23 ∨ j = 24 ∨ j = 25 by omega) with rfl | rfl | rfl | rfl | rfl | rfl | rfl | rfl | rfl | rfl | rfl | rfl | rfl | rfl | rfl | rfl | rfl | rfl | rfl | rfl | rfl | rfl | rfl | rfl | rfl | rfl <;> rfl) (by decide) (by decide) dL_law_8 (fun q2 H3 hq2 hat2 hz3 ho3 hS => ?_)
  have hW := hW.grow ho3
  have hA2 : ∀ z : Nat, (z = q2 ∨ H3.size ≤ z) → s.heap.size ≤ z := fun z hz9 => hz9.elim (fun e => by omega) (fun e => by omega)
  refine lv_dup hx hb dL_law_11 rfl ?_
  refine rh_callm2 (A1 := fun z => z = q2 ∨ H3.size ≤ z) (va_runI (As := []) (rest := [.ref q2]) ⟨hx, hb, hml, hown, htsL⟩ (ci_X5_init l q2 (Or.inl rfl)) (cwI 0 htsL gL_law_X5_init rfl rfl rfl (htsL (.initialized RX5) (by decide +kernel)) (htsL (.methodLink RL 88 yX5_init) (by decide +kernel)) (htsL (.instanceMethod yX5_init) (by decide +kernel)) rfl (by decide +kernel) ⟨by decide, by decide⟩) (rh_pre2 hE hS hA2 (fun z hz9 => Or.inr hz9) hat2) rfl rfl hl.1 rfl (lv_room (Nat.le_of_ble_eq_true rfl)) dL_law_12 ⟨by decide, by decide⟩) hS hA2 (fun o H4 locs hN hz4 ho4 hS => ?_)
  obtain ⟨rfl, adm, hadm, hM, hDm⟩ := hN
  have hW := hW.keep (H1 := H4) (fun k i hi => ho4 _ (by have := hlt2 k i hi; omega) (fun z => by
    have z : ad k i = q2 ∨ H3.size ≤ ad k i := z
    have := hlt2 k i hi
    omega))
  have hltm : ∀ k i : Nat, i < m_n k → adm k i < H4.size := fun k i hi => (hM k i hi).lt
  refine W.eq (g2 := F0 m 15 ls [.ref q2]) rfl ?_
  refine lv_astore_n (lv' := [(2, .ref q2), (1, .ref q1), (0, .ref b)]) hx hb dL_law_15 rfl hl (by decide) rfl (fun ls hl => ?_)
  refine lv_iconst (v := 1) hx hb dL_law_16 (by decide) ?_
  refine rh_newl0 hx hb (htsL (.arrayClass .long) (by decide +kernel)) hE hS 1 (by decide) (by decide) (by decide) (by decide) (by decide) dL_law_17 (fun q3 H5 hq3 hout hz5 ho5 hS => ?_)
  have hW := hW.grow ho5
  have hM : m_W G ca adm (m_w2 16) 0 H5 := fun k i hi => (hM k i hi).kept (ho5 _ (hM k i hi).lt)
  refine lv_astore_n (lv' := [(3, .ref q3), (2, .ref q2), (1, .ref q1), (0, .ref b)]) hx hb dL_law_19 rfl hl (by decide) rfl (fun ls hl => ?_)
  refine lv_iconst (v := 0) hx hb dL_law_20 (by decide) ?_
  refine lv_istore (lv' := [(4, .int 0), (3, .ref q3), (2, .ref q2), (1, .ref q1), (0, .ref b)]) hx hb dL_law_21 hl (by decide) rfl (fun ls hl => ?_)
  refine W.eq (g2 := F0 m 23 ls []) rfl ?_
  have hD9 : rh_D (rh_A1 (lA (fun q => s.heap.size ≤ q) adm) q3) ad (fun k i => i < rh_n 0 0 k) := by
    refine ⟨hD.1, fun k i hi => ⟨⟨hA1 _ (hD.2 k i hi), ?_⟩, ?_⟩⟩
    · rintro ⟨k', hk', e⟩
      have h1 : adm k' 0 = q2 ∨ H3.size ≤ adm k' 0 := hDm.2 k' 0 hk'
      have h2 := hlt2 k i hi
      omega
    · have h2 := hlt2 k i hi
      omega
  have hD8 : rh_D (fun q => s.heap.size ≤ q ∧ q ≠ q3) adm (fun k i => i < m_n k) := by
    refine ⟨hDm.1, fun k i hi => ⟨hA2 _ (hDm.2 k i hi), ?_⟩⟩
    have h2 := hltm k i hi
    omega
  have hs4 : s.heap.size ≤ q3 := by omega
  exact W.widen (by decide) (by decide) (l_loop C hr hlocks (L + 1) 0 ad adm 0 0 (fun _ _ => 0) v_init (m_w2 16) 0 (fun _ => 0) H5 _ _ (by omega) (by omega) ⟨had, hadm, hW, hM, hout, i_init _, hD9, hD8, hs4⟩ hS (lv_sub hl [4, 3, 2, 1, 0] rfl))
