/-! ===== the house: its face, continued ===== -/
def c_net (r : rh_R) (v : rh_V) (nc i : Nat) (mo : Int32) : Nat → Int64
  | 0 => 0
  | n + 1 => if n = i then c_net r v nc i mo n else c_net r v nc i mo n + c_units r v nc (i * 4 + n) mo - c_units r v nc (n * 4 + i) mo
theorem wf_next {nf nc : Nat} {r : rh_R} {v : rh_V} (h : rh_wf nf nc r v) (hlt : v 0 0 6 < 35) : rh_wf nf nc r (wr v 0 0 6 (v 0 0 6 + 1)) := by
  obtain ⟨a, b, c, d, e, f, g, ⟨t, ht, hn⟩, hh⟩ := h
  refine ⟨a, b, c, d, ?_, ?_, fun q hq => ?_, ⟨t + 1, ?_, ?_⟩, fun q hq => ?_⟩
  · rw [wr_at, if_neg (by omega)]; exact e
  · rw [wr_at, if_neg (by omega)]; exact f
  · rw [wr_at, if_neg (by omega)]; exact g q hq
  · rw [hn] at hlt
    have := (nI_ltI (a := t) (b := 35) (by omega) (by omega)).mp hlt
    omega
  · rw [wr_at, if_pos ⟨rfl, rfl, rfl⟩, hn]; exact nI_1 t
  · rw [wr_at, if_neg (by omega), wr_at, if_neg (by omega)]; exact hh q hq
set_option maxHeartbeats 4000000 in
set_option maxRecDepth 100000 in
/-- a call is disputed -/
theorem ct_X4_dispute (l : Launch) (hlf : l.stackTraces = false) {G : va_G} {ca : Nat → ClassId} {A : Nat → Prop} {ad : Nat → Nat → Nat} {nf nc : Nat} {r : rh_R} {v : rh_V} (hD : rh_D A ad (fun k i => i < rh_n nf nc k)) (hwf : rh_wf nf nc r v) (x : Int32) : rh_M l yX4_dispute wsX4_dispute ({ frames := 8, cells := 5, slots := 40, locals := 240 } : Room) G ca A [.ref (ad 0 0), .int x] (rh_W G ca ad nf nc r v) (fun o H => (∃ i : Nat, i < nc ∧ x = nI i ∧ v 9 i 3 = 1 ∧ ¬ 1 < v 0 0 6 - v 9 i 4 ∧ o = none ∧ rh_W G ca ad nf nc r (wr (wr v 9 i 3 2) 9 i 5 (v 0 0 6)) H)) (fun E H => (E = exn 1 ∧ ¬ ix x nc ∨ E = exn 3 ∧ ∃ i : Nat, i < nc ∧ x = nI i ∧ ¬ (v 9 i 3 = 1 ∧ ¬ 1 < v 0 0 6 - v 9 i 4)) ∧ rh_W G ca ad nf nc r v H) 5 40 := by
  obtain ⟨hnf, hnc, hr8, hr9, hfc, hcc, hst, ⟨tt, htt, hnow⟩, hai⟩ := id hwf
  refine rh_enter (cc := cX4_dispute) (maxL := 3) (ret := none) (by decide) rfl (Nat.le_of_ble_eq_true rfl) ?_
  intro p e s m below meth c ls hx hb hr hml hown hts hlocks hex hin hE hA hW hl
  have hS : va_S A s.heap s.heap [] := va_S.rf
  have hl : lv_has ls 3 [(0, .ref (ad 0 0)), (1, .int x)] := hl
  refine lv_aload_n hx hb dX4_dispute_0 rfl (lv_at hl 0 rfl) ?_
  refine lv_iload_n hx hb dX4_dispute_1 rfl (lv_at hl 1 rfl) ?_
  refine rh_call (vx_runV (As := [.int x]) (rest := []) ⟨hx, hb, hml, hown, hts⟩ (ct_X4_callAt l hlf hD hwf x) (cwV 1 hts gX4_dispute_X4_callAt rfl rfl rfl (by decide +kernel) ⟨by decide, by decide⟩) (rh_preV hE hS hA (hW.at 0 0 Nat.zero_lt_one) rfl hW) rfl rfl hl.1 rfl (lv_room (Nat.le_of_ble_eq_true rfl)) dX4_dispute_2 ⟨by decide, by decide⟩) hS (fun E ce q9 H locs hX2 hS g1 g2 g3 => rh_out hex hlocks g1 g2 g3 ⟨Or.inl hX2.1, hX2.2⟩ hS (by decide) (by decide)) (fun o H locs hN1 hS => ?_)
  obtain ⟨⟨i, hi, he, rfl⟩, hW⟩ := hN1
  refine W.eq (g2 := F0 m 5 ls [.ref (ad 9 i)]) rfl ?_
  refine lv_astore_n (lv' := [(2, .ref (ad 9 i)), (0, .ref (ad 0 0)), (1, .int x)]) hx hb dX4_dispute_5 rfl hl (by decide) rfl (fun ls hl => ?_)
  refine lv_aload_n hx hb dX4_dispute_6 rfl (lv_at hl 0 rfl) ?_
  refine rh_get (ci := 0) (C := RX0) (T := TX0) (N := 7) (v := .int (v 9 i 3)) hx hb hts (fun _ h => List.mem_cons_of_mem _ (List.mem_append_left _ (List.mem_append_left _ (List.mem_append_left _ (List.mem_append_right _ (h)))))) hown hE (hW.at 9 i hi) rfl 3 (by decide) (hts (.fieldLink RX4 131 "RoamingHouse$Call" "state" "I") (by decide +kernel)) rfl dX4_dispute_7 ?_
  refine lv_iconst (v := 1) hx hb dX4_dispute_10 (by decide) ?_
  refine lv_icmp_eq (tgt := 24) hx hb dX4_dispute_11 (by decide) (fun c3 => ?_) (fun c3 => ?_)
  · have hs1 := c3
    refine lv_aload_n hx hb dX4_dispute_24 rfl (lv_at hl 1 rfl) ?_
    refine rh_get (ci := 4) (C := RX4) (T := TX4) (N := 7) (v := .int (v 0 0 6)) hx hb hts (fun _ h => List.mem_cons_of_mem _ (List.mem_append_left _ (List.mem_append_left _ (List.mem_append_right _ (h))))) hown hE (hW.at 0 0 Nat.zero_lt_one) rfl 6 (by decide) (hts (.fieldLink RX4 40 "RoamingHouse" "now" "I") (by decide +kernel)) rfl dX4_dispute_25 ?_
    refine lv_aload_n hx hb dX4_dispute_28 rfl (lv_at hl 0 rfl) ?_
    refine rh_get (ci := 0) (C := RX0) (T := TX0) (N := 7) (v := .int (v 9 i 4)) hx hb hts (fun _ h => List.mem_cons_of_mem _ (List.mem_append_left _ (List.mem_append_left _ (List.mem_append_left _ (List.mem_append_right _ (h)))))) hown hE (hW.at 9 i hi) rfl 4 (by decide) (hts (.fieldLink RX4 132 "RoamingHouse$Call" "acceptedIn" "I") (by decide +kernel)) rfl dX4_dispute_29 ?_
    refine lv_isub hx hb dX4_dispute_32 ?_
    refine lv_iconst (v := 1) hx hb dX4_dispute_33 (by decide) ?_
    refine lv_icmp_le (tgt := 47) hx hb dX4_dispute_34 (by decide) (fun c4 => ?_) (fun c4 => ?_)
    · have hm1 := le_nlt c4
      refine lv_aload_n hx hb dX4_dispute_47 rfl (lv_at hl 0 rfl) ?_
      refine lv_iconst (v := 2) hx hb dX4_dispute_48 (by decide) ?_
      refine rh_put (ci := 0) (C := RX0) (T := TX0) (N := 7) (x := 2) hx hb hts (fun _ h => List.mem_cons_of_mem _ (List.mem_append_left _ (List.mem_append_left _ (List.mem_append_left _ (List.mem_append_right _ (h)))))) tyX0 tyX0_ok nmX0 hown hE hW hD hS rfl 9 i hi rfl 3 (by decide) (hts (.fieldLink RX4 131 "RoamingHouse$Call" "state" "I") (by decide +kernel)) rfl rfl rfl (Nat.le_of_ble_eq_true rfl) rfl dX4_dispute_49 (fun H locs hW hS => ?_)
      refine lv_aload_n hx hb dX4_dispute_52 rfl (lv_at hl 0 rfl) ?_
      refine lv_aload_n hx hb dX4_dispute_53 rfl (lv_at hl 1 rfl) ?_
      refine rh_get (ci := 4) (C := RX4) (T := TX4) (N := 7) (v := .int (v 0 0 6)) hx hb hts (fun _ h => List.mem_cons_of_mem _ (List.mem_append_left _ (List.mem_append_left _ (List.mem_append_right _ (h))))) hown hE (hW.at 0 0 Nat.zero_lt_one) rfl 6 (by decide) (hts (.fieldLink RX4 40 "RoamingHouse" "now" "I") (by decide +kernel)) rfl dX4_dispute_54 ?_
      refine rh_put (ci := 0) (C := RX0) (T := TX0) (N := 7) (x := (v 0 0 6)) hx hb hts (fun _ h => List.mem_cons_of_mem _ (List.mem_append_left _ (List.mem_append_left _ (List.mem_append_left _ (List.mem_append_right _ (h)))))) tyX0 tyX0_ok nmX0 hown hE hW hD hS rfl 9 i hi rfl 5 (by decide) (hts (.fieldLink RX4 143 "RoamingHouse$Call" "disputedIn" "I") (by decide +kernel)) rfl rfl rfl (Nat.le_of_ble_eq_true rfl) rfl dX4_dispute_57 (fun H locs hW hS => ?_)
      exact rh_vret hx hb hr hlocks ⟨i, hi, he, hs1, hm1, rfl, hW⟩ hS (by decide) (by decide) dX4_dispute_60
    · have hbad : ¬ (v 9 i 3 = 1 ∧ ¬ 1 < v 0 0 6 - v 9 i 4) := fun z => z.2 (nle_lt c4)
      exact rh_throw hx hb hlf "java/lang/IllegalStateException" "the call was accepted more than a month ago" 73 141 77 (by decide) (by decide) (by decide +kernel) rh_t3b rh_t3g hown (hts (.classLink RX4 73 "java/lang/IllegalStateException") (by decide +kernel)) (hts (.initialized "java/lang/IllegalStateException") (by decide +kernel)) (fun w h => hts w (List.mem_cons_of_mem _ (List.mem_append_left _ (List.mem_append_right _ (h))))) hE hS (hl.1.trans hml.symm) dX4_dispute_37 dX4_dispute_40 dX4_dispute_41 dX4_dispute_43 dX4_dispute_46 hex hlocks (by decide) (Nat.le_of_ble_eq_true rfl) (by decide) (by decide) (fun H1 _ hk9 => ⟨Or.inr ⟨rfl, i, hi, he, hbad⟩, hW.grow hk9⟩) (by decide) (by decide)
  · have hbad : ¬ (v 9 i 3 = 1 ∧ ¬ 1 < v 0 0 6 - v 9 i 4) := fun z => c3 z.1
    exact rh_throw hx hb hlf "java/lang/IllegalStateException" "the call is not owed" 73 139 77 (by decide) (by decide) (by decide +kernel) rh_t3b rh_t3g hown (hts (.classLink RX4 73 "java/lang/IllegalStateException") (by decide +kernel)) (hts (.initialized "java/lang/IllegalStateException") (by decide +kernel)) (fun w h => hts w (List.mem_cons_of_mem _ (List.mem_append_left _ (List.mem_append_right _ (h))))) hE hS (hl.1.trans hml.symm) dX4_dispute_14 dX4_dispute_17 dX4_dispute_18 dX4_dispute_20 dX4_dispute_23 hex hlocks (by decide) (Nat.le_of_ble_eq_true rfl) (by decide) (by decide) (fun H1 _ hk9 => ⟨Or.inr ⟨rfl, i, hi, he, hbad⟩, hW.grow hk9⟩) (by decide) (by decide)
set_option maxHeartbeats 4000000 in
set_option maxRecDepth 100000 in
/-- a dispute is answered -/
theorem ct_X4_answer (l : Launch) (hlf : l.stackTraces = false) {G : va_G} {ca : Nat → ClassId} {A : Nat → Prop} {ad : Nat → Nat → Nat} {nf nc : Nat} {r : rh_R} {v : rh_V} (hD : rh_D A ad (fun k i => i < rh_n nf nc k)) (hwf : rh_wf nf nc r v) (x bk : Int32) : rh_M l yX4_answer wsX4_answer ({ frames := 8, cells := 5, slots := 40, locals := 240 } : Room) G ca A [.ref (ad 0 0), .int x, .int bk] (rh_W G ca ad nf nc r v) (fun o H => (∃ i : Nat, i < nc ∧ x = nI i ∧ v 9 i 3 = 2 ∧ o = none ∧ rh_W G ca ad nf nc r (wr v 9 i 3 (if bk = 0 then 4 else 3)) H)) (fun E H => (E = exn 1 ∧ ¬ ix x nc ∨ E = exn 3 ∧ ∃ i : Nat, i < nc ∧ x = nI i ∧ ¬ v 9 i 3 = 2) ∧ rh_W G ca ad nf nc r v H) 5 40 := by
  obtain ⟨hnf, hnc, hr8, hr9, hfc, hcc, hst, ⟨tt, htt, hnow⟩, hai⟩ := id hwf
  refine rh_enter (cc := cX4_answer) (maxL := 4) (ret := none) (by decide) rfl (Nat.le_of_ble_eq_true rfl) ?_
  intro p e s m below meth c ls hx hb hr hml hown hts hlocks hex hin hE hA hW hl
  have hS : va_S A s.heap s.heap [] := va_S.rf
  have hl : lv_has ls 4 [(0, .ref (ad 0 0)), (1, .int x), (2, .int bk)] := hl
  refine lv_aload_n hx hb dX4_answer_0 rfl (lv_at hl 0 rfl) ?_
  refine lv_iload_n hx hb dX4_answer_1 rfl (lv_at hl 1 rfl) ?_
  refine rh_call (vx_runV (As := [.int x]) (rest := []) ⟨hx, hb, hml, hown, hts⟩ (ct_X4_callAt l hlf hD hwf x) (cwV 1 hts gX4_answer_X4_callAt rfl rfl rfl (by decide +kernel) ⟨by decide, by decide⟩) (rh_preV hE hS hA (hW.at 0 0 Nat.zero_lt_one) rfl hW) rfl rfl hl.1 rfl (lv_room (Nat.le_of_ble_eq_true rfl)) dX4_answer_2 ⟨by decide, by decide⟩) hS (fun E ce q9 H locs hX2 hS g1 g2 g3 => rh_out hex hlocks g1 g2 g3 ⟨Or.inl hX2.1, hX2.2⟩ hS (by decide) (by decide)) (fun o H locs hN1 hS => ?_)
  obtain ⟨⟨i, hi, he, rfl⟩, hW⟩ := hN1
  refine W.eq (g2 := F0 m 5 ls [.ref (ad 9 i)]) rfl ?_
  refine lv_astore_n (lv' := [(3, .ref (ad 9 i)), (0, .ref (ad 0 0)), (1, .int x), (2, .int bk)]) hx hb dX4_answer_5 rfl hl (by decide) rfl (fun ls hl => ?_)
  refine lv_aload_n hx hb dX4_answer_6 rfl (lv_at hl 0 rfl) ?_
  refine rh_get (ci := 0) (C := RX0) (T := TX0) (N := 7) (v := .int (v 9 i 3)) hx hb hts (fun _ h => List.mem_cons_of_mem _ (List.mem_append_left _ (List.mem_append_left _ (List.mem_append_left _ (List.mem_append_right _ (h)))))) hown hE (hW.at 9 i hi) rfl 3 (by decide) (hts (.fieldLink RX4 131 "RoamingHouse$Call" "state" "I") (by decide +kernel)) rfl dX4_answer_7 ?_
  refine lv_iconst (v := 2) hx hb dX4_answer_10 (by decide) ?_
  refine lv_icmp_eq (tgt := 24) hx hb dX4_answer_11 (by decide) (fun c3 => ?_) (fun c3 => ?_)
  · have hs2 := c3
    refine lv_aload_n hx hb dX4_answer_24 rfl (lv_at hl 0 rfl) ?_
    refine lv_iload_n hx hb dX4_answer_25 rfl (lv_at hl 3 rfl) ?_
    refine lv_if_eq (tgt := 33) hx hb dX4_answer_26 (by decide) (fun c4 => ?_) (fun c4 => ?_)
    · have hbk : (if bk = 0 then (4 : Int32) else 3) = 4 := if_pos c4
      refine lv_iconst (v := 4) hx hb dX4_answer_33 (by decide) ?_
      refine rh_put (ci := 0) (C := RX0) (T := TX0) (N := 7) (x := 4) hx hb hts (fun _ h => List.mem_cons_of_mem _ (List.mem_append_left _ (List.mem_append_left _ (List.mem_append_left _ (List.mem_append_right _ (h)))))) tyX0 tyX0_ok nmX0 hown hE hW hD hS rfl 9 i hi rfl 3 (by decide) (hts (.fieldLink RX4 131 "RoamingHouse$Call" "state" "I") (by decide +kernel)) rfl rfl rfl (Nat.le_of_ble_eq_true rfl) rfl dX4_answer_34 (fun H locs hW hS => ?_)
      exact rh_vret hx hb hr hlocks ⟨i, hi, he, hs2, rfl, by rw [hbk]; exact hW⟩ hS (by decide) (by decide) dX4_answer_37
    · have hbk : (if bk = 0 then (4 : Int32) else 3) = 3 := if_neg c4
      refine lv_iconst (v := 3) hx hb dX4_answer_29 (by decide) ?_
      refine lv_goto (tgt := 34) hx hb dX4_answer_30 (by decide) ?_
      refine rh_put (ci := 0) (C := RX0) (T := TX0) (N := 7) (x := 3) hx hb hts (fun _ h => List.mem_cons_of_mem _ (List.mem_append_left _ (List.mem_append_left _ (List.mem_append_left _ (List.mem_append_right _ (h)))))) tyX0 tyX0_ok nmX0 hown hE hW hD hS rfl 9 i hi rfl 3 (by decide) (hts (.fieldLink RX4 131 "RoamingHouse$Call" "state" "I") (by decide +kernel)) rfl rfl rfl (Nat.le_of_ble_eq_true rfl) rfl dX4_answer_34 (fun H locs hW hS => ?_)
      exact rh_vret hx hb hr hlocks ⟨i, hi, he, hs2, rfl, by rw [hbk]; exact hW⟩ hS (by decide) (by decide) dX4_answer_37
  · have hbad := c3
    exact rh_throw hx hb hlf "java/lang/IllegalStateException" "the call is not in dispute" 73 146 77 (by decide) (by decide) (by decide +kernel) rh_t3b rh_t3g hown (hts (.classLink RX4 73 "java/lang/IllegalStateException") (by decide +kernel)) (hts (.initialized "java/lang/IllegalStateException") (by decide +kernel)) (fun w h => hts w (List.mem_cons_of_mem _ (List.mem_append_left _ (List.mem_append_right _ (h))))) hE hS (hl.1.trans hml.symm) dX4_answer_14 dX4_answer_17 dX4_answer_18 dX4_answer_20 dX4_answer_23 hex hlocks (by decide) (Nat.le_of_ble_eq_true rfl) (by decide) (by decide) (fun H1 _ hk9 => ⟨Or.inr ⟨rfl, i, hi, he, hbad⟩, hW.grow hk9⟩) (by decide) (by decide)
set_option maxHeartbeats 4000000 in
set_option maxRecDepth 100000 in
/-- an agreement is made -/
theorem ct_X4_agree (l : Launch) (hlf : l.stackTraces = false) {G : va_G} {ca : Nat → ClassId} {A : Nat → Prop} {ad : Nat → Nat → Nat} {nf nc : Nat} {r : rh_R} {v : rh_V} (hD : rh_D A ad (fun k i => i < rh_n nf nc k)) (hwf : rh_wf nf nc r v) (x y vo rt bk : Int32) (hbk : bk = 0 ∨ bk = 1) : rh_M l yX4_agree wsX4_agree ({ frames := 8, cells := 5, slots := 40, locals := 240 } : Room) G ca A [.ref (ad 0 0), .int x, .int y, .int vo, .int rt, .int bk] (rh_W G ca ad nf nc r v) (fun o H => (∃ h k : Nat, h < 4 ∧ k < 4 ∧ h ≠ k ∧ x = nI h ∧ y = nI k ∧ rng vo 0 1000000 ∧ rng rt 0 10000 ∧ o = none ∧ rh_W G ca ad nf nc r (wr (wr (wr v 6 (h * 4 + k) 3 vo) 6 (h * 4 + k) 4 rt) 6 (h * 4 + k) 5 bk) H)) (fun E H => (E = exn 1 ∧ ¬ (ix x 4 ∧ ix y 4) ∨ E = exn 2 ∧ ix x 4 ∧ ix y 4 ∧ (x = y ∨ ¬ (rng vo 0 1000000 ∧ rng rt 0 10000))) ∧ rh_W G ca ad nf nc r v H) 5 40 := by
  obtain ⟨hnf, hnc, hr8, hr9, hfc, hcc, hst, ⟨tt, htt, hnow⟩, hai⟩ := id hwf
  refine rh_enter (cc := cX4_agree) (maxL := 7) (ret := none) (by decide) rfl (Nat.le_of_ble_eq_true rfl) ?_
  intro p e s m below meth c ls hx hb hr hml hown hts hlocks hex hin hE hA hW hl
  have hS : va_S A s.heap s.heap [] := va_S.rf
  have hl : lv_has ls 7 [(0, .ref (ad 0 0)), (1, .int x), (2, .int y), (3, .int vo), (4, .int rt), (5, .int bk)] := hl
  refine lv_aload_n hx hb dX4_agree_0 rfl (lv_at hl 0 rfl) ?_
  refine lv_iload_n hx hb dX4_agree_1 rfl (lv_at hl 1 rfl) ?_
  refine lv_iload_n hx hb dX4_agree_2 rfl (lv_at hl 2 rfl) ?_
  refine rh_call (vx_runV (As := [.int x, .int y]) (rest := []) ⟨hx, hb, hml, hown, hts⟩ (ct_X4_pairAt l hlf hD x y) (cwV 2 hts gX4_agree_X4_pairAt rfl rfl rfl (by decide +kernel) ⟨by decide, by decide⟩) (rh_preV hE hS hA (hW.at 0 0 Nat.zero_lt_one) rfl hW) rfl rfl hl.1 rfl (lv_room (Nat.le_of_ble_eq_true rfl)) dX4_agree_3 ⟨by decide, by decide⟩) hS (fun E ce q9 H locs hX2 hS g1 g2 g3 => rh_out hex hlocks g1 g2 g3 ⟨(hX2.1.elim Or.inl (fun z => Or.inr ⟨z.1, z.2.1, z.2.2.1, Or.inl z.2.2.2⟩)), hX2.2⟩ hS (by decide) (by decide)) (fun o H locs hN1 hS => ?_)
  obtain ⟨⟨h, k, hh, hk, hne, hxh, hyk, rfl⟩, hW⟩ := hN1
  refine W.eq (g2 := F0 m 6 ls [.ref (ad 6 (h * 4 + k))]) rfl ?_
  refine lv_astore (lv' := [(6, .ref (ad 6 (h * 4 + k))), (0, .ref (ad 0 0)), (1, .int x), (2, .int y), (3, .int vo), (4, .int rt), (5, .int bk)]) hx hb dX4_agree_6 hl (by decide) rfl (fun ls hl => ?_)
  refine lv_iload_n hx hb dX4_agree_8 rfl (lv_at hl 4 rfl) ?_
  refine lv_iconst (v := 0) hx hb dX4_agree_9 (by decide) ?_
  refine lv_ldc (v := 1000000) hx hb hown (hts (.constant RX4 148 (1000000)) (by decide +kernel)) dX4_agree_10 ?_
  refine rh_call (vx_runS (As := [.int vo, .int 0, .int 1000000]) (rest := []) ⟨hx, hb, hml, hown, hts⟩ (ct_X4_refuseOutside l hlf hD vo 0 1000000) (va_cwS 3 hts gX4_agree_X4_refuseOutside rfl rfl rfl (by decide +kernel) ⟨by decide, by decide⟩) (rh_pre hE hS hA hW) rfl rfl hl.1 rfl (lv_room (Nat.le_of_ble_eq_true rfl)) dX4_agree_12 ⟨by decide, by decide⟩) hS (fun E ce q9 H locs hX4 hS g1 g2 g3 => rh_out hex hlocks g1 g2 g3 ⟨Or.inr ⟨hX4.1.1, ((ix_iff (by decide)).mpr ⟨h, hh, hxh⟩), ((ix_iff (by decide)).mpr ⟨k, hk, hyk⟩), Or.inr (fun z => hX4.1.2 z.1)⟩, hX4.2⟩ hS (by decide) (by decide)) (fun o H locs hN3 hS => ?_)
  obtain ⟨⟨hg1, rfl⟩, hW⟩ := hN3
  refine W.eq (g2 := F0 m 15 ls []) rfl ?_
  refine lv_iload hx hb dX4_agree_15 (lv_at hl 5 rfl) ?_
  refine lv_iconst (v := 0) hx hb dX4_agree_17 (by decide) ?_
  refine lv_sipush (v := 10000) hx hb dX4_agree_18 (by decide) ?_
  refine rh_call (vx_runS (As := [.int rt, .int 0, .int 10000]) (rest := []) ⟨hx, hb, hml, hown, hts⟩ (ct_X4_refuseOutside l hlf hD rt 0 10000) (va_cwS 3 hts gX4_agree_X4_refuseOutside rfl rfl rfl (by decide +kernel) ⟨by decide, by decide⟩) (rh_pre hE hS hA hW) rfl rfl hl.1 rfl (lv_room (Nat.le_of_ble_eq_true rfl)) dX4_agree_21 ⟨by decide, by decide⟩) hS (fun E ce q9 H locs hX6 hS g1 g2 g3 => rh_out hex hlocks g1 g2 g3 ⟨Or.inr ⟨hX6.1.1, ((ix_iff (by decide)).mpr ⟨h, hh, hxh⟩), ((ix_iff (by decide)).mpr ⟨k, hk, hyk⟩), Or.inr (fun z => hX6.1.2 z.2)⟩, hX6.2⟩ hS (by decide) (by decide)) (fun o H locs hN5 hS => ?_)
  obtain ⟨⟨hg2, rfl⟩, hW⟩ := hN5
  refine W.eq (g2 := F0 m 24 ls []) rfl ?_
  refine lv_aload hx hb dX4_agree_24 (lv_at hl 0 rfl) ?_
  refine lv_iload_n hx hb dX4_agree_26 rfl (lv_at hl 4 rfl) ?_
  refine rh_put (ci := 3) (C := RX3) (T := TX3) (N := 7) (x := vo) hx hb hts (fun _ h => List.mem_cons_of_mem _ (List.mem_append_left _ (List.mem_append_left _ (List.mem_append_left _ (List.mem_append_right _ (h)))))) tyX3 tyX3_ok nmX3 hown hE hW hD hS rfl 6 (h * 4 + k) (rh_pq hh hk).2 rfl 3 (by decide) (hts (.fieldLink RX4 149 "RoamingHouse$Pair" "volume" "I") (by decide +kernel)) rfl rfl rfl (Nat.le_of_ble_eq_true rfl) rfl dX4_agree_27 (fun H locs hW hS => ?_)
  refine lv_aload hx hb dX4_agree_30 (lv_at hl 0 rfl) ?_
  refine lv_iload hx hb dX4_agree_32 (lv_at hl 5 rfl) ?_
  refine rh_put (ci := 3) (C := RX3) (T := TX3) (N := 7) (x := rt) hx hb hts (fun _ h => List.mem_cons_of_mem _ (List.mem_append_left _ (List.mem_append_left _ (List.mem_append_left _ (List.mem_append_right _ (h)))))) tyX3 tyX3_ok nmX3 hown hE hW hD hS rfl 6 (h * 4 + k) (rh_pq hh hk).2 rfl 4 (by decide) (hts (.fieldLink RX4 152 "RoamingHouse$Pair" "discountRate" "I") (by decide +kernel)) rfl rfl rfl (Nat.le_of_ble_eq_true rfl) rfl dX4_agree_34 (fun H locs hW hS => ?_)
  refine lv_aload hx hb dX4_agree_37 (lv_at hl 0 rfl) ?_
  refine lv_iload hx hb dX4_agree_39 (lv_at hl 6 rfl) ?_
  refine rh_put (ci := 3) (C := RX3) (T := TX3) (N := 7) (x := bk) hx hb hts (fun _ h => List.mem_cons_of_mem _ (List.mem_append_left _ (List.mem_append_left _ (List.mem_append_left _ (List.mem_append_right _ (h)))))) tyX3 tyX3_ok nmX3 hown hE hW hD hS rfl 6 (h * 4 + k) (rh_pq hh hk).2 rfl 5 (by decide) (hts (.fieldLink RX4 155 "RoamingHouse$Pair" "goesBack" "Z") (by decide +kernel)) rfl (by rcases hbk with rfl | rfl <;> rfl) (by rcases hbk with rfl | rfl <;> rfl) (Nat.le_of_ble_eq_true rfl) rfl dX4_agree_41 (fun H locs hW hS => ?_)
  exact rh_vret hx hb hr hlocks ⟨h, k, hh, hk, hne, hxh, hyk, hg1, hg2, rfl, hW⟩ hS (by decide) (by decide) dX4_agree_44
set_option maxHeartbeats 4000000 in
set_option maxRecDepth 100000 in
/-- a promise is set -/
theorem ct_X4_promise (l : Launch) (hlf : l.stackTraces = false) {G : va_G} {ca : Nat → ClassId} {A : Nat → Prop} {ad : Nat → Nat → Nat} {nf nc : Nat} {r : rh_R} {v : rh_V} (hD : rh_D A ad (fun k i => i < rh_n nf nc k)) (hwf : rh_wf nf nc r v) (x y pm : Int32) : rh_M l yX4_promise wsX4_promise ({ frames := 8, cells := 5, slots := 40, locals := 240 } : Room) G ca A [.ref (ad 0 0), .int x, .int y, .int pm] (rh_W G ca ad nf nc r v) (fun o H => (∃ h k : Nat, h < 4 ∧ k < 4 ∧ h ≠ k ∧ x = nI h ∧ y = nI k ∧ rng pm 0 100000000 ∧ o = some (.int (v 6 (h * 4 + k) 2)) ∧ rh_W G ca ad nf nc r (wr v 6 (h * 4 + k) 2 pm) H)) (fun E H => (E = exn 1 ∧ ¬ (ix x 4 ∧ ix y 4) ∨ E = exn 2 ∧ ix x 4 ∧ ix y 4 ∧ (x = y ∨ ¬ rng pm 0 100000000)) ∧ rh_W G ca ad nf nc r v H) 5 40 := by
  obtain ⟨hnf, hnc, hr8, hr9, hfc, hcc, hst, ⟨tt, htt, hnow⟩, hai⟩ := id hwf
  refine rh_enter (cc := cX4_promise) (maxL := 6) (ret := (some .int)) (by decide) rfl (Nat.le_of_ble_eq_true rfl) ?_
  intro p e s m below meth c ls hx hb hr hml hown hts hlocks hex hin hE hA hW hl
  have hS : va_S A s.heap s.heap [] := va_S.rf
  have hl : lv_has ls 6 [(0, .ref (ad 0 0)), (1, .int x), (2, .int y), (3, .int pm)] := hl
  refine lv_aload_n hx hb dX4_promise_0 rfl (lv_at hl 0 rfl) ?_
  refine lv_iload_n hx hb dX4_promise_1 rfl (lv_at hl 1 rfl) ?_
  refine lv_iload_n hx hb dX4_promise_2 rfl (lv_at hl 2 rfl) ?_
  refine rh_call (vx_runV (As := [.int x, .int y]) (rest := []) ⟨hx, hb, hml, hown, hts⟩ (ct_X4_pairAt l hlf hD x y) (cwV 2 hts gX4_promise_X4_pairAt rfl rfl rfl (by decide +kernel) ⟨by decide, by decide⟩) (rh_preV hE hS hA (hW.at 0 0 Nat.zero_lt_one) rfl hW) rfl rfl hl.1 rfl (lv_room (Nat.le_of_ble_eq_true rfl)) dX4_promise_3 ⟨by decide, by decide⟩) hS (fun E ce q9 H locs hX2 hS g1 g2 g3 => rh_out hex hlocks g1 g2 g3 ⟨(hX2.1.elim Or.inl (fun z => Or.inr ⟨z.1, z.2.1, z.2.2.1, Or.inl z.2.2.2⟩)), hX2.2⟩ hS (by decide) (by decide)) (fun o H locs hN1 hS => ?_)
  obtain ⟨⟨h, k, hh, hk, hne, hxh, hyk, rfl⟩, hW⟩ := hN1
  refine W.eq (g2 := F0 m 6 ls [.ref (ad 6 (h * 4 + k))]) rfl ?_
  refine lv_astore (lv' := [(4, .ref (ad 6 (h * 4 + k))), (0, .ref (ad 0 0)), (1, .int x), (2, .int y), (3, .int pm)]) hx hb dX4_promise_6 hl (by decide) rfl (fun ls hl => ?_)
  refine lv_iload_n hx hb dX4_promise_8 rfl (lv_at hl 4 rfl) ?_
  refine lv_iconst (v := 0) hx hb dX4_promise_9 (by decide) ?_
  refine lv_ldc (v := 100000000) hx hb hown (hts (.constant RX4 159 (100000000)) (by decide +kernel)) dX4_promise_10 ?_
  refine rh_call (vx_runS (As := [.int pm, .int 0, .int 100000000]) (rest := []) ⟨hx, hb, hml, hown, hts⟩ (ct_X4_refuseOutside l hlf hD pm 0 100000000) (va_cwS 3 hts gX4_promise_X4_refuseOutside rfl rfl rfl (by decide +kernel) ⟨by decide, by decide⟩) (rh_pre hE hS hA hW) rfl rfl hl.1 rfl (lv_room (Nat.le_of_ble_eq_true rfl)) dX4_promise_12 ⟨by decide, by decide⟩) hS (fun E ce q9 H locs hX4 hS g1 g2 g3 => rh_out hex hlocks g1 g2 g3 ⟨Or.inr ⟨hX4.1.1, ((ix_iff (by decide)).mpr ⟨h, hh, hxh⟩), ((ix_iff (by decide)).mpr ⟨k, hk, hyk⟩), Or.inr hX4.1.2⟩, hX4.2⟩ hS (by decide) (by decide)) (fun o H locs hN3 hS => ?_)
  obtain ⟨⟨hg1, rfl⟩, hW⟩ := hN3
  refine W.eq (g2 := F0 m 15 ls []) rfl ?_
  refine lv_aload hx hb dX4_promise_15 (lv_at hl 0 rfl) ?_
  refine rh_get (ci := 3) (C := RX3) (T := TX3) (N := 7) (v := .int (v 6 (h * 4 + k) 2)) hx hb hts (fun _ h => List.mem_cons_of_mem _ (List.mem_append_left _ (List.mem_append_left _ (List.mem_append_left _ (List.mem_append_right _ (h)))))) hown hE (hW.at 6 (h * 4 + k) (rh_pq hh hk).2) rfl 2 (by decide) (hts (.fieldLink RX4 160 "RoamingHouse$Pair" "promised" "I") (by decide +kernel)) rfl dX4_promise_17 ?_
  refine lv_istore (lv' := [(5, .int (v 6 (h * 4 + k) 2)), (4, .ref (ad 6 (h * 4 + k))), (0, .ref (ad 0 0)), (1, .int x), (2, .int y), (3, .int pm)]) hx hb dX4_promise_20 hl (by decide) rfl (fun ls hl => ?_)
  refine lv_aload hx hb dX4_promise_22 (lv_at hl 1 rfl) ?_
  refine lv_iload_n hx hb dX4_promise_24 rfl (lv_at hl 5 rfl) ?_
  refine rh_put (ci := 3) (C := RX3) (T := TX3) (N := 7) (x := pm) hx hb hts (fun _ h => List.mem_cons_of_mem _ (List.mem_append_left _ (List.mem_append_left _ (List.mem_append_left _ (List.mem_append_right _ (h)))))) tyX3 tyX3_ok nmX3 hown hE hW hD hS rfl 6 (h * 4 + k) (rh_pq hh hk).2 rfl 2 (by decide) (hts (.fieldLink RX4 160 "RoamingHouse$Pair" "promised" "I") (by decide +kernel)) rfl rfl rfl (Nat.le_of_ble_eq_true rfl) rfl dX4_promise_25 (fun H locs hW hS => ?_)
  refine lv_iload hx hb dX4_promise_28 (lv_at hl 0 rfl) ?_
  exact rh_iret hx hb hr hlocks ⟨h, k, hh, hk, hne, hxh, hyk, hg1, rfl, hW⟩ hS (by decide) (by decide) dX4_promise_30
set_option maxHeartbeats 4000000 in
set_option maxRecDepth 100000 in
/-- a rate is set -/
theorem ct_X4_setRate (l : Launch) (hlf : l.stackTraces = false) {G : va_G} {ca : Nat → ClassId} {A : Nat → Prop} {ad : Nat → Nat → Nat} {nf nc : Nat} {r : rh_R} {v : rh_V} (hD : rh_D A ad (fun k i => i < rh_n nf nc k)) (hwf : rh_wf nf nc r v) (x y : Int32) : rh_M l yX4_setRate wsX4_setRate ({ frames := 8, cells := 5, slots := 40, locals := 240 } : Room) G ca A [.ref (ad 0 0), .int x, .int y] (rh_W G ca ad nf nc r v) (fun o H => (∃ i : Nat, i < 4 ∧ x = nI i ∧ rng y 1 100000 ∧ o = some (.int (v 5 i 3)) ∧ rh_W G ca ad nf nc r (wr v 5 i 3 y) H)) (fun E H => (E = exn 1 ∧ ¬ ix x 4 ∨ E = exn 2 ∧ ix x 4 ∧ ¬ rng y 1 100000) ∧ rh_W G ca ad nf nc r v H) 5 40 := by
  obtain ⟨hnf, hnc, hr8, hr9, hfc, hcc, hst, ⟨tt, htt, hnow⟩, hai⟩ := id hwf
  refine rh_enter (cc := cX4_setRate) (maxL := 5) (ret := (some .int)) (by decide) rfl (Nat.le_of_ble_eq_true rfl) ?_
  intro p e s m below meth c ls hx hb hr hml hown hts hlocks hex hin hE hA hW hl
  have hS : va_S A s.heap s.heap [] := va_S.rf
  have hl : lv_has ls 5 [(0, .ref (ad 0 0)), (1, .int x), (2, .int y)] := hl
  refine lv_aload_n hx hb dX4_setRate_0 rfl (lv_at hl 0 rfl) ?_
  refine lv_iload_n hx hb dX4_setRate_1 rfl (lv_at hl 1 rfl) ?_
  refine rh_call (vx_runV (As := [.int x]) (rest := []) ⟨hx, hb, hml, hown, hts⟩ (ct_X4_operatorAt l hlf hD x) (cwV 1 hts gX4_setRate_X4_operatorAt rfl rfl rfl (by decide +kernel) ⟨by decide, by decide⟩) (rh_preV hE hS hA (hW.at 0 0 Nat.zero_lt_one) rfl hW) rfl rfl hl.1 rfl (lv_room (Nat.le_of_ble_eq_true rfl)) dX4_setRate_2 ⟨by decide, by decide⟩) hS (fun E ce q9 H locs hX2 hS g1 g2 g3 => rh_out hex hlocks g1 g2 g3 ⟨Or.inl hX2.1, hX2.2⟩ hS (by decide) (by decide)) (fun o H locs hN1 hS => ?_)
  obtain ⟨⟨i, hi, he, rfl⟩, hW⟩ := hN1
  refine W.eq (g2 := F0 m 5 ls [.ref (ad 5 i)]) rfl ?_
  refine lv_astore_n (lv' := [(3, .ref (ad 5 i)), (0, .ref (ad 0 0)), (1, .int x), (2, .int y)]) hx hb dX4_setRate_5 rfl hl (by decide) rfl (fun ls hl => ?_)
  refine lv_iload_n hx hb dX4_setRate_6 rfl (lv_at hl 3 rfl) ?_
  refine lv_iconst (v := 1) hx hb dX4_setRate_7 (by decide) ?_
  refine lv_ldc (v := 100000) hx hb hown (hts (.constant RX4 163 (100000)) (by decide +kernel)) dX4_setRate_8 ?_
  refine rh_call (vx_runS (As := [.int y, .int 1, .int 100000]) (rest := []) ⟨hx, hb, hml, hown, hts⟩ (ct_X4_refuseOutside l hlf hD y 1 100000) (va_cwS 3 hts gX4_setRate_X4_refuseOutside rfl rfl rfl (by decide +kernel) ⟨by decide, by decide⟩) (rh_pre hE hS hA hW) rfl rfl hl.1 rfl (lv_room (Nat.le_of_ble_eq_true rfl)) dX4_setRate_10 ⟨by decide, by decide⟩) hS (fun E ce q9 H locs hX4 hS g1 g2 g3 => rh_out hex hlocks g1 g2 g3 ⟨Or.inr ⟨hX4.1.1, ((ix_iff (by decide)).mpr ⟨i, hi, he⟩), hX4.1.2⟩, hX4.2⟩ hS (by decide) (by decide)) (fun o H locs hN3 hS => ?_)
  obtain ⟨⟨hg1, rfl⟩, hW⟩ := hN3
  refine W.eq (g2 := F0 m 13 ls []) rfl ?_
  refine lv_aload_n hx hb dX4_setRate_13 rfl (lv_at hl 0 rfl) ?_
  refine rh_get (ci := 2) (C := RX2) (T := TX2) (N := 4) (v := .int (v 5 i 3)) hx hb hts (fun _ h => List.mem_cons_of_mem _ (List.mem_append_left _ (List.mem_append_left _ (List.mem_append_left _ (List.mem_append_right _ (h)))))) hown hE (hW.at 5 i hi) rfl 3 (by decide) (hts (.fieldLink RX4 164 "RoamingHouse$Operator" "unitRate" "I") (by decide +kernel)) rfl dX4_setRate_14 ?_
  refine lv_istore (lv' := [(4, .int (v 5 i 3)), (3, .ref (ad 5 i)), (0, .ref (ad 0 0)), (1, .int x), (2, .int y)]) hx hb dX4_setRate_17 hl (by decide) rfl (fun ls hl => ?_)
  refine lv_aload_n hx hb dX4_setRate_19 rfl (lv_at hl 1 rfl) ?_
  refine lv_iload_n hx hb dX4_setRate_20 rfl (lv_at hl 4 rfl) ?_
  refine rh_put (ci := 2) (C := RX2) (T := TX2) (N := 4) (x := y) hx hb hts (fun _ h => List.mem_cons_of_mem _ (List.mem_append_left _ (List.mem_append_left _ (List.mem_append_left _ (List.mem_append_right _ (h)))))) tyX2 tyX2_ok nmX2 hown hE hW hD hS rfl 5 i hi rfl 3 (by decide) (hts (.fieldLink RX4 164 "RoamingHouse$Operator" "unitRate" "I") (by decide +kernel)) rfl rfl rfl (Nat.le_of_ble_eq_true rfl) rfl dX4_setRate_21 (fun H locs hW hS => ?_)
  refine lv_iload hx hb dX4_setRate_24 (lv_at hl 0 rfl) ?_
  exact rh_iret hx hb hr hlocks ⟨i, hi, he, hg1, rfl, hW⟩ hS (by decide) (by decide) dX4_setRate_26
set_option maxHeartbeats 4000000 in
set_option maxRecDepth 100000 in
/-- the next month begins -/
theorem ct_X4_nextMonth (l : Launch) (hlf : l.stackTraces = false) {G : va_G} {ca : Nat → ClassId} {A : Nat → Prop} {ad : Nat → Nat → Nat} {nf nc : Nat} {r : rh_R} {v : rh_V} (hD : rh_D A ad (fun k i => i < rh_n nf nc k)) (hwf : rh_wf nf nc r v)  : rh_M l yX4_nextMonth wsX4_nextMonth ({ frames := 8, cells := 5, slots := 40, locals := 240 } : Room) G ca A [.ref (ad 0 0)] (rh_W G ca ad nf nc r v) (fun o H => (v 0 0 6 < 35 ∧ o = some (.int (v 0 0 6 + 1)) ∧ rh_W G ca ad nf nc r (c_gb (wr v 0 0 6 (v 0 0 6 + 1)) nc) H)) (fun E H => (E = exn 3 ∧ ¬ v 0 0 6 < 35) ∧ rh_W G ca ad nf nc r v H) 5 40 := by
  obtain ⟨hnf, hnc, hr8, hr9, hfc, hcc, hst, ⟨tt, htt, hnow⟩, hai⟩ := id hwf
  refine rh_enter (cc := cX4_nextMonth) (maxL := 1) (ret := (some .int)) (by decide) rfl (Nat.le_of_ble_eq_true rfl) ?_
  intro p e s m below meth c ls hx hb hr hml hown hts hlocks hex hin hE hA hW hl
  have hS : va_S A s.heap s.heap [] := va_S.rf
  have hl : lv_has ls 1 [(0, .ref (ad 0 0))] := hl
  refine lv_aload_n hx hb dX4_nextMonth_0 rfl (lv_at hl 0 rfl) ?_
  refine rh_get (ci := 4) (C := RX4) (T := TX4) (N := 7) (v := .int (v 0 0 6)) hx hb hts (fun _ h => List.mem_cons_of_mem _ (List.mem_append_left _ (List.mem_append_left _ (List.mem_append_right _ (h))))) hown hE (hW.at 0 0 Nat.zero_lt_one) rfl 6 (by decide) (hts (.fieldLink RX4 40 "RoamingHouse" "now" "I") (by decide +kernel)) rfl dX4_nextMonth_1 ?_
  refine lv_bipush (v := 35) hx hb dX4_nextMonth_4 (by decide) ?_
  refine lv_icmp_lt (tgt := 19) hx hb dX4_nextMonth_6 (by decide) (fun c1 => ?_) (fun c1 => ?_)
  · have hlt := c1
    refine lv_aload_n hx hb dX4_nextMonth_19 rfl (lv_at hl 0 rfl) ?_
    refine lv_dup hx hb dX4_nextMonth_20 rfl ?_
    refine rh_get (ci := 4) (C := RX4) (T := TX4) (N := 7) (v := .int (v 0 0 6)) hx hb hts (fun _ h => List.mem_cons_of_mem _ (List.mem_append_left _ (List.mem_append_left _ (List.mem_append_right _ (h))))) hown hE (hW.at 0 0 Nat.zero_lt_one) rfl 6 (by decide) (hts (.fieldLink RX4 40 "RoamingHouse" "now" "I") (by decide +kernel)) rfl dX4_nextMonth_21 ?_
    refine lv_iconst (v := 1) hx hb dX4_nextMonth_24 (by decide) ?_
    refine lv_iadd hx hb dX4_nextMonth_25 ?_
    refine rh_put (ci := 4) (C := RX4) (T := TX4) (N := 7) (x := (v 0 0 6 + 1)) hx hb hts (fun _ h => List.mem_cons_of_mem _ (List.mem_append_left _ (List.mem_append_left _ (List.mem_append_right _ (h))))) tyX4 tyX4_ok nmX4 hown hE hW hD hS rfl 0 0 Nat.zero_lt_one rfl 6 (by decide) (hts (.fieldLink RX4 40 "RoamingHouse" "now" "I") (by decide +kernel)) rfl rfl rfl (Nat.le_of_ble_eq_true rfl) rfl dX4_nextMonth_26 (fun H locs hW hS => ?_)
    refine lv_aload_n hx hb dX4_nextMonth_29 rfl (lv_at hl 0 rfl) ?_
    refine rh_calln (vx_runV (As := []) (rest := []) ⟨hx, hb, hml, hown, hts⟩ (ct_X4_giveBackUnanswered l hD (wf_next hwf hlt)) (cwV 0 hts gX4_nextMonth_X4_giveBackUnanswered rfl rfl rfl (by decide +kernel) ⟨by decide, by decide⟩) (rh_preV hE hS hA (hW.at 0 0 Nat.zero_lt_one) rfl hW) rfl rfl hl.1 rfl (lv_room (Nat.le_of_ble_eq_true rfl)) dX4_nextMonth_30 ⟨by decide, by decide⟩) hS (fun o H locs hN2 hS => ?_)
    obtain ⟨rfl, hW⟩ := hN2
    refine W.eq (g2 := F0 m 33 ls []) rfl ?_
    refine lv_aload_n hx hb dX4_nextMonth_33 rfl (lv_at hl 0 rfl) ?_
    refine rh_get (ci := 4) (C := RX4) (T := TX4) (N := 7) (v := .int ((c_gb (wr v 0 0 6 (v 0 0 6 + 1)) nc) 0 0 6)) hx hb hts (fun _ h => List.mem_cons_of_mem _ (List.mem_append_left _ (List.mem_append_left _ (List.mem_append_right _ (h))))) hown hE (hW.at 0 0 Nat.zero_lt_one) rfl 6 (by decide) (hts (.fieldLink RX4 40 "RoamingHouse" "now" "I") (by decide +kernel)) rfl dX4_nextMonth_34 ?_
    exact rh_iret hx hb hr hlocks ⟨hlt, by rw [c_gb_now]; simp [wr_at], hW⟩ hS (by decide) (by decide) dX4_nextMonth_37
  · have hge := c1
    exact rh_throw hx hb hlf "java/lang/IllegalStateException" "it is the last month" 73 167 77 (by decide) (by decide) (by decide +kernel) rh_t3b rh_t3g hown (hts (.classLink RX4 73 "java/lang/IllegalStateException") (by decide +kernel)) (hts (.initialized "java/lang/IllegalStateException") (by decide +kernel)) (fun w h => hts w (List.mem_cons_of_mem _ (List.mem_append_right _ (h)))) hE hS (hl.1.trans hml.symm) dX4_nextMonth_9 dX4_nextMonth_12 dX4_nextMonth_13 dX4_nextMonth_15 dX4_nextMonth_18 hex hlocks (by decide) (Nat.le_of_ble_eq_true rfl) (by decide) (by decide) (fun H1 _ hk9 => ⟨⟨rfl, hge⟩, hW.grow hk9⟩) (by decide) (by decide)
set_option maxHeartbeats 4000000 in
set_option maxRecDepth 100000 in
/-- what is owed in a month -/
theorem ct_X4_owed (l : Launch) (hlf : l.stackTraces = false) {G : va_G} {ca : Nat → ClassId} {A : Nat → Prop} {ad : Nat → Nat → Nat} {nf nc : Nat} {r : rh_R} {v : rh_V} (hD : rh_D A ad (fun k i => i < rh_n nf nc k)) (hwf : rh_wf nf nc r v) (x y mo : Int32) : rh_M l yX4_owed wsX4_owed ({ frames := 8, cells := 5, slots := 40, locals := 240 } : Room) G ca A [.ref (ad 0 0), .int x, .int y, .int mo] (rh_W G ca ad nf nc r v) (fun o H => (∃ h k : Nat, h < 4 ∧ k < 4 ∧ h ≠ k ∧ x = nI h ∧ y = nI k ∧ rng mo 0 (v 0 0 6) ∧ o = some (.long (c_sum r v (h * 4 + k) mo mo nc)) ∧ rh_W G ca ad nf nc r v H)) (fun E H => (E = exn 1 ∧ ¬ (ix x 4 ∧ ix y 4) ∨ E = exn 2 ∧ ix x 4 ∧ ix y 4 ∧ (x = y ∨ ¬ rng mo 0 (v 0 0 6))) ∧ rh_W G ca ad nf nc r v H) 5 40 := by
  obtain ⟨hnf, hnc, hr8, hr9, hfc, hcc, hst, ⟨tt, htt, hnow⟩, hai⟩ := id hwf
  refine rh_enter (cc := cX4_owed) (maxL := 5) (ret := (some .long)) (by decide) rfl (Nat.le_of_ble_eq_true rfl) ?_
  intro p e s m below meth c ls hx hb hr hml hown hts hlocks hex hin hE hA hW hl
  have hS : va_S A s.heap s.heap [] := va_S.rf
  have hl : lv_has ls 5 [(0, .ref (ad 0 0)), (1, .int x), (2, .int y), (3, .int mo)] := hl
  refine lv_aload_n hx hb dX4_owed_0 rfl (lv_at hl 0 rfl) ?_
  refine lv_iload_n hx hb dX4_owed_1 rfl (lv_at hl 1 rfl) ?_
  refine lv_iload_n hx hb dX4_owed_2 rfl (lv_at hl 2 rfl) ?_
  refine rh_call (vx_runV (As := [.int x, .int y]) (rest := []) ⟨hx, hb, hml, hown, hts⟩ (ct_X4_pairAt l hlf hD x y) (cwV 2 hts gX4_owed_X4_pairAt rfl rfl rfl (by decide +kernel) ⟨by decide, by decide⟩) (rh_preV hE hS hA (hW.at 0 0 Nat.zero_lt_one) rfl hW) rfl rfl hl.1 rfl (lv_room (Nat.le_of_ble_eq_true rfl)) dX4_owed_3 ⟨by decide, by decide⟩) hS (fun E ce q9 H locs hX2 hS g1 g2 g3 => rh_out hex hlocks g1 g2 g3 ⟨(hX2.1.elim Or.inl (fun z => Or.inr ⟨z.1, z.2.1, z.2.2.1, Or.inl z.2.2.2⟩)), hX2.2⟩ hS (by decide) (by decide)) (fun o H locs hN1 hS => ?_)
  obtain ⟨⟨h, k, hh, hk, hne, hxh, hyk, rfl⟩, hW⟩ := hN1
  refine W.eq (g2 := F0 m 6 ls [.ref (ad 6 (h * 4 + k))]) rfl ?_
  refine lv_astore (lv' := [(4, .ref (ad 6 (h * 4 + k))), (0, .ref (ad 0 0)), (1, .int x), (2, .int y), (3, .int mo)]) hx hb dX4_owed_6 hl (by decide) rfl (fun ls hl => ?_)
  refine lv_iload_n hx hb dX4_owed_8 rfl (lv_at hl 4 rfl) ?_
  refine lv_iconst (v := 0) hx hb dX4_owed_9 (by decide) ?_
  refine lv_aload_n hx hb dX4_owed_10 rfl (lv_at hl 1 rfl) ?_
  refine rh_get (ci := 4) (C := RX4) (T := TX4) (N := 7) (v := .int (v 0 0 6)) hx hb hts (fun _ h => List.mem_cons_of_mem _ (List.mem_append_left _ (List.mem_append_left _ (List.mem_append_left _ (List.mem_append_left _ (List.mem_append_left _ (List.mem_append_right _ (h)))))))) hown hE (hW.at 0 0 Nat.zero_lt_one) rfl 6 (by decide) (hts (.fieldLink RX4 40 "RoamingHouse" "now" "I") (by decide +kernel)) rfl dX4_owed_11 ?_
  refine rh_call (vx_runS (As := [.int mo, .int 0, .int (v 0 0 6)]) (rest := []) ⟨hx, hb, hml, hown, hts⟩ (ct_X4_refuseOutside l hlf hD mo 0 (v 0 0 6)) (va_cwS 3 hts gX4_owed_X4_refuseOutside rfl rfl rfl (by decide +kernel) ⟨by decide, by decide⟩) (rh_pre hE hS hA hW) rfl rfl hl.1 rfl (lv_room (Nat.le_of_ble_eq_true rfl)) dX4_owed_14 ⟨by decide, by decide⟩) hS (fun E ce q9 H locs hX4 hS g1 g2 g3 => rh_out hex hlocks g1 g2 g3 ⟨Or.inr ⟨hX4.1.1, ((ix_iff (by decide)).mpr ⟨h, hh, hxh⟩), ((ix_iff (by decide)).mpr ⟨k, hk, hyk⟩), Or.inr hX4.1.2⟩, hX4.2⟩ hS (by decide) (by decide)) (fun o H locs hN3 hS => ?_)
  obtain ⟨⟨hg1, rfl⟩, hW⟩ := hN3
  refine W.eq (g2 := F0 m 17 ls []) rfl ?_
  refine lv_aload_n hx hb dX4_owed_17 rfl (lv_at hl 1 rfl) ?_
  refine lv_aload hx hb dX4_owed_18 (lv_at hl 0 rfl) ?_
  refine lv_iload_n hx hb dX4_owed_20 rfl (lv_at hl 4 rfl) ?_
  refine lv_iload_n hx hb dX4_owed_21 rfl (lv_at hl 4 rfl) ?_
  refine rh_calln (vx_runV (As := [.ref (ad 6 (h * 4 + k)), .int mo, .int mo]) (rest := []) ⟨hx, hb, hml, hown, hts⟩ (ct_X4_amountOfMonths l hD hwf (h * 4 + k) (rh_pq hh hk).2 mo mo) (cwV 3 hts gX4_owed_X4_amountOfMonths rfl rfl rfl (by decide +kernel) ⟨by decide, by decide⟩) (rh_preV hE hS hA (hW.at 0 0 Nat.zero_lt_one) rfl hW) rfl rfl hl.1 rfl (lv_room (Nat.le_of_ble_eq_true rfl)) dX4_owed_22 ⟨by decide, by decide⟩) hS (fun o H locs hN5 hS => ?_)
  obtain ⟨rfl, hW⟩ := hN5
  refine W.eq (g2 := F0 m 25 ls [.long (c_sum r v (h * 4 + k) mo mo nc)]) rfl ?_
  exact rh_lret hx hb hr hlocks ⟨h, k, hh, hk, hne, hxh, hyk, hg1, rfl, hW⟩ hS (by decide) (by decide) dX4_owed_25
set_option maxHeartbeats 4000000 in
set_option maxRecDepth 100000 in
/-- what falls short in a year -/
theorem ct_X4_shortfall (l : Launch) (hlf : l.stackTraces = false) {G : va_G} {ca : Nat → ClassId} {A : Nat → Prop} {ad : Nat → Nat → Nat} {nf nc : Nat} {r : rh_R} {v : rh_V} (hD : rh_D A ad (fun k i => i < rh_n nf nc k)) (hwf : rh_wf nf nc r v) (x y ye : Int32) : rh_M l yX4_shortfall wsX4_shortfall ({ frames := 8, cells := 5, slots := 40, locals := 240 } : Room) G ca A [.ref (ad 0 0), .int x, .int y, .int ye] (rh_W G ca ad nf nc r v) (fun o H => (∃ h k : Nat, h < 4 ∧ k < 4 ∧ h ≠ k ∧ x = nI h ∧ y = nI k ∧ rng ye 0 1 ∧ ye < v 0 0 6 / 12 ∧ o = some (.long (if ((v 6 (h * 4 + k) 2).toInt64 - c_sum r v (h * 4 + k) (ye * 12) (ye * 12 + 12 - 1) nc) < 0 then 0 else ((v 6 (h * 4 + k) 2).toInt64 - c_sum r v (h * 4 + k) (ye * 12) (ye * 12 + 12 - 1) nc))) ∧ rh_W G ca ad nf nc r v H)) (fun E H => (E = exn 1 ∧ ¬ (ix x 4 ∧ ix y 4) ∨ E = exn 2 ∧ ix x 4 ∧ ix y 4 ∧ (x = y ∨ ¬ rng ye 0 1) ∨ E = exn 3 ∧ ix x 4 ∧ ix y 4 ∧ ¬ x = y ∧ rng ye 0 1 ∧ ¬ ye < v 0 0 6 / 12) ∧ rh_W G ca ad nf nc r v H) 5 40 := by
  obtain ⟨hnf, hnc, hr8, hr9, hfc, hcc, hst, ⟨tt, htt, hnow⟩, hai⟩ := id hwf
  refine rh_enter (cc := cX4_shortfall) (maxL := 6) (ret := (some .long)) (by decide) rfl (Nat.le_of_ble_eq_true rfl) ?_
  intro p e s m below meth c ls hx hb hr hml hown hts hlocks hex hin hE hA hW hl
  have hS : va_S A s.heap s.heap [] := va_S.rf
  have hl : lv_has ls 6 [(0, .ref (ad 0 0)), (1, .int x), (2, .int y), (3, .int ye)] := hl
  refine lv_aload_n hx hb dX4_shortfall_0 rfl (lv_at hl 0 rfl) ?_
  refine lv_iload_n hx hb dX4_shortfall_1 rfl (lv_at hl 1 rfl) ?_
  refine lv_iload_n hx hb dX4_shortfall_2 rfl (lv_at hl 2 rfl) ?_
  refine rh_call (vx_runV (As := [.int x, .int y]) (rest := []) ⟨hx, hb, hml, hown, hts⟩ (ct_X4_pairAt l hlf hD x y) (cwV 2 hts gX4_shortfall_X4_pairAt rfl rfl rfl (by decide +kernel) ⟨by decide, by decide⟩) (rh_preV hE hS hA (hW.at 0 0 Nat.zero_lt_one) rfl hW) rfl rfl hl.1 rfl (lv_room (Nat.le_of_ble_eq_true rfl)) dX4_shortfall_3 ⟨by decide, by decide⟩) hS (fun E ce q9 H locs hX2 hS g1 g2 g3 => rh_out hex hlocks g1 g2 g3 ⟨(hX2.1.elim Or.inl (fun z => Or.inr (Or.inl ⟨z.1, z.2.1, z.2.2.1, Or.inl z.2.2.2⟩))), hX2.2⟩ hS (by decide) (by decide)) (fun o H locs hN1 hS => ?_)
  obtain ⟨⟨h, k, hh, hk, hne, hxh, hyk, rfl⟩, hW⟩ := hN1
  refine W.eq (g2 := F0 m 6 ls [.ref (ad 6 (h * 4 + k))]) rfl ?_
  refine lv_astore (lv' := [(4, .ref (ad 6 (h * 4 + k))), (0, .ref (ad 0 0)), (1, .int x), (2, .int y), (3, .int ye)]) hx hb dX4_shortfall_6 hl (by decide) rfl (fun ls hl => ?_)
  refine lv_iload_n hx hb dX4_shortfall_8 rfl (lv_at hl 4 rfl) ?_
  refine lv_iconst (v := 0) hx hb dX4_shortfall_9 (by decide) ?_
  refine lv_iconst (v := 1) hx hb dX4_shortfall_10 (by decide) ?_
  refine rh_call (vx_runS (As := [.int ye, .int 0, .int 1]) (rest := []) ⟨hx, hb, hml, hown, hts⟩ (ct_X4_refuseOutside l hlf hD ye 0 1) (va_cwS 3 hts gX4_shortfall_X4_refuseOutside rfl rfl rfl (by decide +kernel) ⟨by decide, by decide⟩) (rh_pre hE hS hA hW) rfl rfl hl.1 rfl (lv_room (Nat.le_of_ble_eq_true rfl)) dX4_shortfall_11 ⟨by decide, by decide⟩) hS (fun E ce q9 H locs hX4 hS g1 g2 g3 => rh_out hex hlocks g1 g2 g3 ⟨Or.inr (Or.inl ⟨hX4.1.1, ((ix_iff (by decide)).mpr ⟨h, hh, hxh⟩), ((ix_iff (by decide)).mpr ⟨k, hk, hyk⟩), Or.inr hX4.1.2⟩), hX4.2⟩ hS (by decide) (by decide)) (fun o H locs hN3 hS => ?_)
  obtain ⟨⟨hg1, rfl⟩, hW⟩ := hN3
  refine W.eq (g2 := F0 m 14 ls []) rfl ?_
  refine lv_aload_n hx hb dX4_shortfall_14 rfl (lv_at hl 1 rfl) ?_
  refine rh_get (ci := 4) (C := RX4) (T := TX4) (N := 7) (v := .int (v 0 0 6)) hx hb hts (fun _ h => List.mem_cons_of_mem _ (List.mem_append_left _ (List.mem_append_left _ (List.mem_append_left _ (List.mem_append_left _ (List.mem_append_left _ (List.mem_append_left _ (List.mem_append_right _ (h))))))))) hown hE (hW.at 0 0 Nat.zero_lt_one) rfl 6 (by decide) (hts (.fieldLink RX4 40 "RoamingHouse" "now" "I") (by decide +kernel)) rfl dX4_shortfall_15 ?_
  refine rh_calln (vx_runS (As := [.int (v 0 0 6)]) (rest := []) ⟨hx, hb, hml, hown, hts⟩ (ct_X4_yearOf l hD (v 0 0 6)) (va_cwS 1 hts gX4_shortfall_X4_yearOf rfl rfl rfl (by decide +kernel) ⟨by decide, by decide⟩) (rh_pre hE hS hA hW) rfl rfl hl.1 rfl (lv_room (Nat.le_of_ble_eq_true rfl)) dX4_shortfall_18 ⟨by decide, by decide⟩) hS (fun o H locs hN5 hS => ?_)
  obtain ⟨rfl, hW⟩ := hN5
  refine W.eq (g2 := F0 m 21 ls [.int ((v 0 0 6) / 12)]) rfl ?_
  refine lv_iload_n hx hb dX4_shortfall_21 rfl (lv_at hl 4 rfl) ?_
  refine lv_icmp_gt (tgt := 35) hx hb dX4_shortfall_22 (by decide) (fun c6 => ?_) (fun c6 => ?_)
  · have hov := c6
    refine lv_iload_n hx hb dX4_shortfall_35 rfl (lv_at hl 4 rfl) ?_
    refine lv_bipush (v := 12) hx hb dX4_shortfall_36 (by decide) ?_
    refine lv_imul hx hb dX4_shortfall_38 ?_
    refine lv_istore (lv' := [(5, .int (ye * 12)), (4, .ref (ad 6 (h * 4 + k))), (0, .ref (ad 0 0)), (1, .int x), (2, .int y), (3, .int ye)]) hx hb dX4_shortfall_39 hl (by decide) rfl (fun ls hl => ?_)
    refine lv_lconst (v := 0) hx hb dX4_shortfall_41 rfl ?_
    refine lv_aload hx hb dX4_shortfall_42 (lv_at hl 1 rfl) ?_
    refine rh_get (ci := 3) (C := RX3) (T := TX3) (N := 7) (v := .int (v 6 (h * 4 + k) 2)) hx hb hts (fun _ h => List.mem_cons_of_mem _ (List.mem_append_left _ (List.mem_append_left _ (List.mem_append_left _ (List.mem_append_left _ (List.mem_append_left _ (List.mem_append_right _ (h)))))))) hown hE (hW.at 6 (h * 4 + k) (rh_pq hh hk).2) rfl 2 (by decide) (hts (.fieldLink RX4 160 "RoamingHouse$Pair" "promised" "I") (by decide +kernel)) rfl dX4_shortfall_44 ?_
    refine lv_i2l hx hb dX4_shortfall_47 rfl ?_
    refine lv_aload_n hx hb dX4_shortfall_48 rfl (lv_at hl 2 rfl) ?_
    refine lv_aload hx hb dX4_shortfall_49 (lv_at hl 1 rfl) ?_
    refine lv_iload hx hb dX4_shortfall_51 (lv_at hl 0 rfl) ?_
    refine lv_iload hx hb dX4_shortfall_53 (lv_at hl 0 rfl) ?_
    refine lv_bipush (v := 12) hx hb dX4_shortfall_55 (by decide) ?_
    refine lv_iadd hx hb dX4_shortfall_57 ?_
    refine lv_iconst (v := 1) hx hb dX4_shortfall_58 (by decide) ?_
    refine lv_isub hx hb dX4_shortfall_59 ?_
    refine rh_calln (vx_runV (As := [.ref (ad 6 (h * 4 + k)), .int (ye * 12), .int (((ye * 12) + 12) - 1)]) (rest := [.long ((v 6 (h * 4 + k) 2).toInt64), .long 0]) ⟨hx, hb, hml, hown, hts⟩ (ct_X4_amountOfMonths l hD hwf (h * 4 + k) (rh_pq hh hk).2 (ye * 12) (((ye * 12) + 12) - 1)) (cwV 3 hts gX4_shortfall_X4_amountOfMonths rfl rfl rfl (by decide +kernel) ⟨by decide, by decide⟩) (rh_preV hE hS hA (hW.at 0 0 Nat.zero_lt_one) rfl hW) rfl rfl hl.1 rfl (lv_room (Nat.le_of_ble_eq_true rfl)) dX4_shortfall_60 ⟨by decide, by decide⟩) hS (fun o H locs hN7 hS => ?_)
    obtain ⟨rfl, hW⟩ := hN7
    refine W.eq (g2 := F0 m 63 ls [.long (c_sum r v (h * 4 + k) (ye * 12) (((ye * 12) + 12) - 1) nc), .long ((v 6 (h * 4 + k) 2).toInt64), .long 0]) rfl ?_
    refine lv_lsub hx hb dX4_shortfall_63 ?_
    refine va_mmax_long hx hb (hml.trans hl.1.symm) hown (hts (.methodLink RX4 181 Lib.MathLoose.max_long.x) (by decide +kernel)) (hts (.static Lib.MathLoose.max_long.x) (by decide +kernel)) (hts (.initialized "java/lang/Math") (by decide +kernel)) (hts (.code Lib.MathLoose.max_long.x Lib.MathLoose.max_long.code 4 (some .long)) (by decide +kernel)) (by decide) (Nat.le_of_ble_eq_true rfl) (by decide) (by decide) dX4_shortfall_64 ?_
    exact rh_lret hx hb hr hlocks ⟨h, k, hh, hk, hne, hxh, hyk, hg1, hov, rfl, hW⟩ hS (by decide) (by decide) dX4_shortfall_67
  · have hov := c6
    exact rh_throw hx hb hlf "java/lang/IllegalStateException" "the year is not over" 73 179 77 (by decide) (by decide) (by decide +kernel) rh_t3b rh_t3g hown (hts (.classLink RX4 73 "java/lang/IllegalStateException") (by decide +kernel)) (hts (.initialized "java/lang/IllegalStateException") (by decide +kernel)) (fun w h => hts w (List.mem_cons_of_mem _ (List.mem_append_left _ (List.mem_append_left _ (List.mem_append_right _ (h)))))) hE hS (hl.1.trans hml.symm) dX4_shortfall_25 dX4_shortfall_28 dX4_shortfall_29 dX4_shortfall_31 dX4_shortfall_34 hex hlocks (by decide) (Nat.le_of_ble_eq_true rfl) (by decide) (by decide) (fun H1 _ hk9 => ⟨Or.inr (Or.inr ⟨rfl, ((ix_iff (by decide)).mpr ⟨h, hh, hxh⟩), ((ix_iff (by decide)).mpr ⟨k, hk, hyk⟩), fun z => hne (by rw [hxh, hyk] at z; exact (nI_eq (by omega) (by omega)).mp z), hg1, hov⟩), hW.grow hk9⟩) (by decide) (by decide)
set_option maxHeartbeats 4000000 in
set_option maxRecDepth 100000 in
/-- the net of an operator -/
theorem ct_X4_net (l : Launch) (hlf : l.stackTraces = false) {G : va_G} {ca : Nat → ClassId} {A : Nat → Prop} {ad : Nat → Nat → Nat} {nf nc : Nat} {r : rh_R} {v : rh_V} (hD : rh_D A ad (fun k i => i < rh_n nf nc k)) (hwf : rh_wf nf nc r v) (x mo : Int32) : rh_M l yX4_net wsX4_net ({ frames := 8, cells := 5, slots := 40, locals := 240 } : Room) G ca A [.ref (ad 0 0), .int x, .int mo] (rh_W G ca ad nf nc r v) (fun o H => (∃ i : Nat, i < 4 ∧ x = nI i ∧ rng mo 0 (v 0 0 6) ∧ o = some (.long (c_net r v nc i mo 4)) ∧ rh_W G ca ad nf nc r v H)) (fun E H => (E = exn 1 ∧ ¬ ix x 4 ∨ E = exn 2 ∧ ix x 4 ∧ ¬ rng mo 0 (v 0 0 6)) ∧ rh_W G ca ad nf nc r v H) 5 40 := by
  obtain ⟨hnf, hnc, hr8, hr9, hfc, hcc, hst, ⟨tt, htt, hnow⟩, hai⟩ := id hwf
  refine rh_enter (cc := cX4_net) (maxL := 6) (ret := (some .long)) (by decide) rfl (Nat.le_of_ble_eq_true rfl) ?_
  intro p e s m below meth c ls hx hb hr hml hown hts hlocks hex hin hE hA hW hl
  have hS : va_S A s.heap s.heap [] := va_S.rf
  have hl : lv_has ls 6 [(0, .ref (ad 0 0)), (1, .int x), (2, .int mo)] := hl
  refine lv_aload_n hx hb dX4_net_0 rfl (lv_at hl 0 rfl) ?_
  refine lv_iload_n hx hb dX4_net_1 rfl (lv_at hl 1 rfl) ?_
  refine rh_call (vx_runV (As := [.int x]) (rest := []) ⟨hx, hb, hml, hown, hts⟩ (ct_X4_operatorAt l hlf hD x) (cwV 1 hts gX4_net_X4_operatorAt rfl rfl rfl (by decide +kernel) ⟨by decide, by decide⟩) (rh_preV hE hS hA (hW.at 0 0 Nat.zero_lt_one) rfl hW) rfl rfl hl.1 rfl (lv_room (Nat.le_of_ble_eq_true rfl)) dX4_net_2 ⟨by decide, by decide⟩) hS (fun E ce q9 H locs hX2 hS g1 g2 g3 => rh_out hex hlocks g1 g2 g3 ⟨Or.inl hX2.1, hX2.2⟩ hS (by decide) (by decide)) (fun o H locs hN1 hS => ?_)
  obtain ⟨⟨i, hi, he, rfl⟩, hW⟩ := hN1
  refine W.eq (g2 := F0 m 5 ls [.ref (ad 5 i)]) rfl ?_
  refine lv_pop hx hb dX4_net_5 rfl ?_
  refine lv_iload_n hx hb dX4_net_6 rfl (lv_at hl 2 rfl) ?_
  refine lv_iconst (v := 0) hx hb dX4_net_7 (by decide) ?_
  refine lv_aload_n hx hb dX4_net_8 rfl (lv_at hl 0 rfl) ?_
  refine rh_get (ci := 4) (C := RX4) (T := TX4) (N := 7) (v := .int (v 0 0 6)) hx hb hts (fun _ h => List.mem_cons_of_mem _ (List.mem_append_left _ (List.mem_append_left _ (List.mem_append_left _ (List.mem_append_left _ (List.mem_append_left _ (List.mem_append_left _ (List.mem_append_right _ (h))))))))) hown hE (hW.at 0 0 Nat.zero_lt_one) rfl 6 (by decide) (hts (.fieldLink RX4 40 "RoamingHouse" "now" "I") (by decide +kernel)) rfl dX4_net_9 ?_
  refine rh_call (vx_runS (As := [.int mo, .int 0, .int (v 0 0 6)]) (rest := []) ⟨hx, hb, hml, hown, hts⟩ (ct_X4_refuseOutside l hlf hD mo 0 (v 0 0 6)) (va_cwS 3 hts gX4_net_X4_refuseOutside rfl rfl rfl (by decide +kernel) ⟨by decide, by decide⟩) (rh_pre hE hS hA hW) rfl rfl hl.1 rfl (lv_room (Nat.le_of_ble_eq_true rfl)) dX4_net_12 ⟨by decide, by decide⟩) hS (fun E ce q9 H locs hX4 hS g1 g2 g3 => rh_out hex hlocks g1 g2 g3 ⟨Or.inr ⟨hX4.1.1, ((ix_iff (by decide)).mpr ⟨i, hi, he⟩), hX4.1.2⟩, hX4.2⟩ hS (by decide) (by decide)) (fun o H locs hN3 hS => ?_)
  obtain ⟨⟨hg1, rfl⟩, hW⟩ := hN3
  refine W.eq (g2 := F0 m 15 ls []) rfl ?_
  refine lv_lconst (v := 0) hx hb dX4_net_15 rfl ?_
  refine lv_lstore_n (lv' := [(3, .long 0), (0, .ref (ad 0 0)), (1, .int x), (2, .int mo)]) hx hb dX4_net_16 rfl hl (by decide) rfl (fun ls hl => ?_)
  refine lv_iconst (v := 0) hx hb dX4_net_17 (by decide) ?_
  refine lv_istore (lv' := [(5, .int 0), (3, .long 0), (0, .ref (ad 0 0)), (1, .int x), (2, .int mo)]) hx hb dX4_net_18 hl (by decide) rfl (fun ls hl => ?_)
  have loop20 : ∀ (n : Nat) (j : Nat) (w : Int64) (H : Heap) (locs : List Loc) (ls : Array Slot), 4 + 1 ≤ j + n → j ≤ 4 → w = c_net r v nc i mo j → rh_W G ca ad nf nc r v H → va_S A s.heap H locs → lv_has ls 6 [(0, .ref (ad 0 0)), (1, .int x), (2, .int mo), (3, .long w), (5, .int (nI j))] → W p l e ({ frames := 8, cells := 5, slots := 40, locals := 240 } : Room) s m ([.ref (ad 0 0), .int x, .int mo] : List Value).toArray below meth c H locs (0 + 1 + 1) (0 + 6 + 6) (vx_MQ below (rh_Q A (fun o H => (∃ i : Nat, i < 4 ∧ x = nI i ∧ rng mo 0 (v 0 0 6) ∧ o = some (.long (c_net r v nc i mo 4)) ∧ rh_W G ca ad nf nc r v H))) (rh_XC A (fun E H => (E = exn 1 ∧ ¬ ix x 4 ∨ E = exn 2 ∧ ix x 4 ∧ ¬ rng mo 0 (v 0 0 6)) ∧ rh_W G ca ad nf nc r v H)) ([.ref (ad 0 0), .int x, .int mo] : List Value).toArray s 5 40 A) (F0 m 20 ls []) := by
    intro n
    induction n with
    | zero => intro j w H locs ls hjn hj hw hW hS hl; exact absurd hjn (by omega)
    | succ n ih =>
      intro j w H locs ls hjn hj hw hW hS hl
      refine lv_iload hx hb dX4_net_20 (lv_at hl 4 rfl) ?_
      refine lv_iconst (v := 4) hx hb dX4_net_22 (by decide) ?_
      refine lv_icmp_ge (tgt := 76) hx hb dX4_net_23 (by decide) (fun c5 => ?_) (fun c5 => ?_)
      · have hjf : j = 4 := by
          rcases Nat.lt_or_ge j 4 with z | z
          · exact absurd c5 (nI_ge (b := 4) z (by decide))
          · omega
        refine lv_lload_n hx hb dX4_net_76 rfl (lv_at hl 3 rfl) ?_
        exact rh_lret hx hb hr hlocks ⟨i, hi, he, hg1, by rw [hw, hjf], hW⟩ hS (by decide) (by decide) dX4_net_77
      · have hjl : j < 4 := by
          rcases Nat.lt_or_ge j 4 with z | z
          · exact z
          · exact absurd (nI_le (a := 4) z (by omega)) c5
        refine lv_iload hx hb dX4_net_26 (lv_at hl 4 rfl) ?_
        refine lv_iload_n hx hb dX4_net_28 rfl (lv_at hl 1 rfl) ?_
        refine lv_icmp_eq (tgt := 70) hx hb dX4_net_29 (by decide) (fun c6 => ?_) (fun c6 => ?_)
        · refine lv_iinc (v := nI (j + 1)) (lv' := [(5, .int (nI (j + 1))), (0, .ref (ad 0 0)), (1, .int x), (2, .int mo), (3, .long w)]) hx hb dX4_net_70 hl (k := 4) rfl (nI_1 j) (by decide) rfl (fun ls hl => ?_)
          refine lv_goto (tgt := 20) hx hb dX4_net_73 (by decide) ?_
          exact ih (j + 1) w _ _ _ (by omega) (by omega) (by rw [hw]; exact (if_pos ((nI_eq (by omega) (by omega)).mp (by rw [← he]; exact c6))).symm) hW hS (lv_sub hl [1, 2, 3, 4, 0] rfl)
        · refine lv_lload_n hx hb dX4_net_32 rfl (lv_at hl 3 rfl) ?_
          refine lv_aload_n hx hb dX4_net_33 rfl (lv_at hl 0 rfl) ?_
          refine lv_aload_n hx hb dX4_net_34 rfl (lv_at hl 0 rfl) ?_
          refine rh_get (ci := 4) (C := RX4) (T := TX4) (N := 7) (v := .ref (ad 2 0)) hx hb hts (fun _ h => List.mem_cons_of_mem _ (List.mem_append_left _ (List.mem_append_left _ (List.mem_append_left _ (List.mem_append_left _ (List.mem_append_left _ (List.mem_append_left _ (List.mem_append_right _ (h))))))))) hown hE (hW.at 0 0 Nat.zero_lt_one) rfl 1 (by decide) (hts (.fieldLink RX4 17 "RoamingHouse" "pairs" "[LRoamingHouse$Pair;") (by decide +kernel)) rfl dX4_net_35 ?_
          refine lv_iload_n hx hb dX4_net_38 rfl (lv_at hl 1 rfl) ?_
          refine lv_iconst (v := 4) hx hb dX4_net_39 (by decide) ?_
          refine lv_imul hx hb dX4_net_40 ?_
          refine lv_iload hx hb dX4_net_41 (lv_at hl 4 rfl) ?_
          refine lv_iadd hx hb dX4_net_43 ?_
          refine rh_qald hx hb hE 4 rfl (hW.at 2 0 Nat.zero_lt_one) (i * 4 + j) (rh_pq hi hjl).2 (by decide) (by rw [he]; exact (rh_pq hi hjl).1) (q := ad 6 (i * 4 + j)) rfl dX4_net_44 ?_
          refine lv_iload_n hx hb dX4_net_45 rfl (lv_at hl 2 rfl) ?_
          refine rh_calln (vx_runV (As := [.ref (ad 6 (i * 4 + j)), .int mo]) (rest := [.long w]) ⟨hx, hb, hml, hown, hts⟩ (ct_X4_unitsOfMonth l hD hwf (i * 4 + j) (rh_pq hi hjl).2 mo) (cwV 2 hts gX4_net_X4_unitsOfMonth rfl rfl rfl (by decide +kernel) ⟨by decide, by decide⟩) (rh_preV hE hS hA (hW.at 0 0 Nat.zero_lt_one) rfl hW) rfl rfl hl.1 rfl (lv_room (Nat.le_of_ble_eq_true rfl)) dX4_net_46 ⟨by decide, by decide⟩) hS (fun o H locs hN7 hS => ?_)
          obtain ⟨rfl, hW⟩ := hN7
          refine W.eq (g2 := F0 m 49 ls [.long (c_units r v nc (i * 4 + j) mo), .long w]) rfl ?_
          refine lv_ladd hx hb dX4_net_49 ?_
          refine lv_lstore_n (lv' := [(3, .long (w + c_units r v nc (i * 4 + j) mo)), (0, .ref (ad 0 0)), (1, .int x), (2, .int mo), (5, .int (nI j))]) hx hb dX4_net_50 rfl hl (by decide) rfl (fun ls hl => ?_)
          refine lv_lload_n hx hb dX4_net_51 rfl (lv_at hl 0 rfl) ?_
          refine lv_aload_n hx hb dX4_net_52 rfl (lv_at hl 1 rfl) ?_
          refine lv_aload_n hx hb dX4_net_53 rfl (lv_at hl 1 rfl) ?_
          refine rh_get (ci := 4) (C := RX4) (T := TX4) (N := 7) (v := .ref (ad 2 0)) hx hb hts (fun _ h => List.mem_cons_of_mem _ (List.mem_append_left _ (List.mem_append_left _ (List.mem_append_left _ (List.mem_append_left _ (List.mem_append_left _ (List.mem_append_left _ (List.mem_append_right _ (h))))))))) hown hE (hW.at 0 0 Nat.zero_lt_one) rfl 1 (by decide) (hts (.fieldLink RX4 17 "RoamingHouse" "pairs" "[LRoamingHouse$Pair;") (by decide +kernel)) rfl dX4_net_54 ?_
          refine lv_iload hx hb dX4_net_57 (lv_at hl 4 rfl) ?_
          refine lv_iconst (v := 4) hx hb dX4_net_59 (by decide) ?_
          refine lv_imul hx hb dX4_net_60 ?_
          refine lv_iload_n hx hb dX4_net_61 rfl (lv_at hl 2 rfl) ?_
          refine lv_iadd hx hb dX4_net_62 ?_
          refine rh_qald hx hb hE 4 rfl (hW.at 2 0 Nat.zero_lt_one) (j * 4 + i) (rh_pq hjl hi).2 (by decide) (by rw [he]; exact (rh_pq hjl hi).1) (q := ad 6 (j * 4 + i)) rfl dX4_net_63 ?_
          refine lv_iload_n hx hb dX4_net_64 rfl (lv_at hl 3 rfl) ?_
          refine rh_calln (vx_runV (As := [.ref (ad 6 (j * 4 + i)), .int mo]) (rest := [.long (w + c_units r v nc (i * 4 + j) mo)]) ⟨hx, hb, hml, hown, hts⟩ (ct_X4_unitsOfMonth l hD hwf (j * 4 + i) (rh_pq hjl hi).2 mo) (cwV 2 hts gX4_net_X4_unitsOfMonth rfl rfl rfl (by decide +kernel) ⟨by decide, by decide⟩) (rh_preV hE hS hA (hW.at 0 0 Nat.zero_lt_one) rfl hW) rfl rfl hl.1 rfl (lv_room (Nat.le_of_ble_eq_true rfl)) dX4_net_65 ⟨by decide, by decide⟩) hS (fun o H locs hN8 hS => ?_)
          obtain ⟨rfl, hW⟩ := hN8
          refine W.eq (g2 := F0 m 68 ls [.long (c_units r v nc (j * 4 + i) mo), .long (w + c_units r v nc (i * 4 + j) mo)]) rfl ?_
          refine lv_lsub hx hb dX4_net_68 ?_
          refine lv_lstore_n (lv' := [(3, .long ((w + c_units r v nc (i * 4 + j) mo) - c_units r v nc (j * 4 + i) mo)), (0, .ref (ad 0 0)), (1, .int x), (2, .int mo), (5, .int (nI j))]) hx hb dX4_net_69 rfl hl (by decide) rfl (fun ls hl => ?_)
          refine lv_iinc (v := nI (j + 1)) (lv' := [(5, .int (nI (j + 1))), (3, .long ((w + c_units r v nc (i * 4 + j) mo) - c_units r v nc (j * 4 + i) mo)), (0, .ref (ad 0 0)), (1, .int x), (2, .int mo)]) hx hb dX4_net_70 hl (k := 4) rfl (nI_1 j) (by decide) rfl (fun ls hl => ?_)
          refine lv_goto (tgt := 20) hx hb dX4_net_73 (by decide) ?_
          exact ih (j + 1) (w + c_units r v nc (i * 4 + j) mo - c_units r v nc (j * 4 + i) mo) _ _ _ (by omega) (by omega) (by rw [hw]; exact (if_neg (fun z => c6 (by rw [he, z]))).symm) hW hS (lv_sub hl [2, 3, 4, 1, 0] rfl)
  exact loop20 (4 + 1) 0 0 _ _ _ (by omega) (by omega) rfl hW hS (lv_sub hl [2, 3, 4, 1, 0] rfl)
