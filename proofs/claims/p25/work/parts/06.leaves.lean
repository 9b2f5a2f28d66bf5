/-! ===== the house: its small methods ===== -/
set_option maxHeartbeats 4000000 in
set_option maxRecDepth 100000 in
/-- the charge of x seconds by the tariff of i -/
theorem ct_X2_chargeFor (l : Launch) {G : va_G} {ca : Nat → ClassId} {A : Nat → Prop} {ad : Nat → Nat → Nat} {nf nc : Nat} {r : rh_R} {v : rh_V} (hD : rh_D A ad (fun k i => i < rh_n nf nc k)) (hwf : rh_wf nf nc r v) (i : Nat) (hi : i < 4) (x : Int32) : rh_M l yX2_chargeFor wsX2_chargeFor ({ frames := 0, cells := 0, slots := 0, locals := 0 } : Room) G ca A [.ref (ad 5 i), .int x] (rh_W G ca ad nf nc r v) (fun o H => o = some (.int (c_ch v i x)) ∧ rh_W G ca ad nf nc r v H) rh_no 0 0 := by
  obtain ⟨hnf, hnc, hr8, hr9, hfc, hcc, hst, ⟨tt, htt, hnow⟩, hai⟩ := id hwf
  refine rh_enter (cc := cX2_chargeFor) (maxL := 3) (ret := (some .int)) (by decide) rfl (Nat.le_of_ble_eq_true rfl) ?_
  intro p e s m below meth c ls hx hb hr hml hown hts hlocks hex hin hE hA hW hl
  have hS : va_S A s.heap s.heap [] := va_S.rf
  have hl : lv_has ls 3 [(0, .ref (ad 5 i)), (1, .int x)] := hl
  refine lv_iload_n hx hb dX2_chargeFor_0 rfl (lv_at hl 1 rfl) ?_
  refine lv_aload_n hx hb dX2_chargeFor_1 rfl (lv_at hl 0 rfl) ?_
  refine rh_get (ci := 2) (C := RX2) (T := TX2) (N := 4) (v := .int (v 5 i 0)) hx hb hts (fun _ h => List.mem_cons_of_mem _ (List.mem_append_right _ (h))) hown hE (hW.at 5 i hi) rfl 0 (by decide) (hts (.fieldLink RX2 9 "RoamingHouse$Operator" "step" "I") (by decide +kernel)) rfl dX2_chargeFor_2 ?_
  refine lv_iadd hx hb dX2_chargeFor_5 ?_
  refine lv_iconst (v := 1) hx hb dX2_chargeFor_6 (by decide) ?_
  refine lv_isub hx hb dX2_chargeFor_7 ?_
  refine lv_aload_n hx hb dX2_chargeFor_8 rfl (lv_at hl 0 rfl) ?_
  refine rh_get (ci := 2) (C := RX2) (T := TX2) (N := 4) (v := .int (v 5 i 0)) hx hb hts (fun _ h => List.mem_cons_of_mem _ (List.mem_append_right _ (h))) hown hE (hW.at 5 i hi) rfl 0 (by decide) (hts (.fieldLink RX2 9 "RoamingHouse$Operator" "step" "I") (by decide +kernel)) rfl dX2_chargeFor_9 ?_
  refine lv_idiv hx hb dX2_chargeFor_12 (hst i hi) ?_
  refine lv_istore_n (lv' := [(2, .int (((x + v 5 i 0) - 1) / v 5 i 0)), (0, .ref (ad 5 i)), (1, .int x)]) hx hb dX2_chargeFor_13 rfl hl (by decide) rfl (fun ls hl => ?_)
  refine lv_aload_n hx hb dX2_chargeFor_14 rfl (lv_at hl 1 rfl) ?_
  refine rh_get (ci := 2) (C := RX2) (T := TX2) (N := 4) (v := .int (v 5 i 2)) hx hb hts (fun _ h => List.mem_cons_of_mem _ (List.mem_append_right _ (h))) hown hE (hW.at 5 i hi) rfl 2 (by decide) (hts (.fieldLink RX2 18 "RoamingHouse$Operator" "beginning" "I") (by decide +kernel)) rfl dX2_chargeFor_15 ?_
  refine lv_aload_n hx hb dX2_chargeFor_18 rfl (lv_at hl 1 rfl) ?_
  refine rh_get (ci := 2) (C := RX2) (T := TX2) (N := 4) (v := .int (v 5 i 1)) hx hb hts (fun _ h => List.mem_cons_of_mem _ (List.mem_append_right _ (h))) hown hE (hW.at 5 i hi) rfl 1 (by decide) (hts (.fieldLink RX2 15 "RoamingHouse$Operator" "price" "I") (by decide +kernel)) rfl dX2_chargeFor_19 ?_
  refine lv_iload_n hx hb dX2_chargeFor_22 rfl (lv_at hl 0 rfl) ?_
  refine lv_imul hx hb dX2_chargeFor_23 ?_
  refine lv_iadd hx hb dX2_chargeFor_24 ?_
  exact rh_iret hx hb hr hlocks ⟨rfl, hW⟩ hS (by decide) (by decide) dX2_chargeFor_25
set_option maxHeartbeats 4000000 in
set_option maxRecDepth 100000 in
/-- whether a call is right -/
theorem ct_X0_isRight (l : Launch) {G : va_G} {ca : Nat → ClassId} {A : Nat → Prop} {ad : Nat → Nat → Nat} {nf nc : Nat} {r : rh_R} {v : rh_V} (hD : rh_D A ad (fun k i => i < rh_n nf nc k)) (hwf : rh_wf nf nc r v) (k : Nat) (hk : k < nc) : rh_M l yX0_isRight wsX0_isRight ({ frames := 1, cells := 0, slots := 0, locals := 30 } : Room) G ca A [.ref (ad 9 k)] (rh_W G ca ad nf nc r v) (fun o H => ((c_right r v k ∧ o = some (.int 1)) ∨ (¬ c_right r v k ∧ o = some (.int 0))) ∧ rh_W G ca ad nf nc r v H) rh_no 0 0 := by
  obtain ⟨hnf, hnc, hr8, hr9, hfc, hcc, hst, ⟨tt, htt, hnow⟩, hai⟩ := id hwf
  refine rh_enter (cc := cX0_isRight) (maxL := 1) (ret := (some .boolean)) (by decide) rfl (Nat.le_of_ble_eq_true rfl) ?_
  intro p e s m below meth c ls hx hb hr hml hown hts hlocks hex hin hE hA hW hl
  have hS : va_S A s.heap s.heap [] := va_S.rf
  have hl : lv_has ls 1 [(0, .ref (ad 9 k))] := hl
  refine lv_aload_n hx hb dX0_isRight_0 rfl (lv_at hl 0 rfl) ?_
  refine rh_get (ci := 0) (C := RX0) (T := TX0) (N := 7) (v := .int (v 9 k 2)) hx hb hts (fun _ h => List.mem_cons_of_mem _ (List.mem_append_left _ (List.mem_append_left _ (List.mem_append_left _ (List.mem_append_right _ (h)))))) hown hE (hW.at 9 k hk) rfl 2 (by decide) (hts (.fieldLink RX0 31 "RoamingHouse$Call" "told" "I") (by decide +kernel)) rfl dX0_isRight_1 ?_
  refine lv_aload_n hx hb dX0_isRight_4 rfl (lv_at hl 0 rfl) ?_
  refine rh_get (ci := 0) (C := RX0) (T := TX0) (N := 7) (v := .ref (ad 8 (r 9 k))) hx hb hts (fun _ h => List.mem_cons_of_mem _ (List.mem_append_left _ (List.mem_append_left _ (List.mem_append_left _ (List.mem_append_right _ (h)))))) hown hE (hW.at 9 k hk) rfl 0 (by decide) (hts (.fieldLink RX0 24 "RoamingHouse$Call" "file" "LRoamingHouse$CallFile;") (by decide +kernel)) rfl dX0_isRight_5 ?_
  refine rh_get (ci := 1) (C := RX1) (T := TX1) (N := 5) (v := .ref (ad 6 (r 8 (r 9 k)))) hx hb hts (fun _ h => List.mem_cons_of_mem _ (List.mem_append_left _ (List.mem_append_left _ (List.mem_append_right _ (h))))) hown hE (hW.at 8 (r 9 k) (hr9 _ hk)) rfl 0 (by decide) (hts (.fieldLink RX0 34 "RoamingHouse$CallFile" "pair" "LRoamingHouse$Pair;") (by decide +kernel)) rfl dX0_isRight_8 ?_
  refine rh_get (ci := 3) (C := RX3) (T := TX3) (N := 7) (v := .ref (ad 5 ((r 8 (r 9 k)) / 4))) hx hb hts (fun _ h => List.mem_cons_of_mem _ (List.mem_append_left _ (List.mem_append_right _ (h)))) hown hE (hW.at 6 (r 8 (r 9 k)) (hr8 _ (hr9 _ hk))) rfl 0 (by decide) (hts (.fieldLink RX0 40 "RoamingHouse$Pair" "host" "LRoamingHouse$Operator;") (by decide +kernel)) rfl dX0_isRight_11 ?_
  refine lv_aload_n hx hb dX0_isRight_14 rfl (lv_at hl 0 rfl) ?_
  refine rh_get (ci := 0) (C := RX0) (T := TX0) (N := 7) (v := .int (v 9 k 1)) hx hb hts (fun _ h => List.mem_cons_of_mem _ (List.mem_append_left _ (List.mem_append_left _ (List.mem_append_left _ (List.mem_append_right _ (h)))))) hown hE (hW.at 9 k hk) rfl 1 (by decide) (hts (.fieldLink RX0 28 "RoamingHouse$Call" "seconds" "I") (by decide +kernel)) rfl dX0_isRight_15 ?_
  refine rh_calln (vx_runV (As := [.int (v 9 k 1)]) (rest := [.int (v 9 k 2)]) ⟨hx, hb, hml, hown, hts⟩ (ct_X2_chargeFor l hD hwf ((r 8 (r 9 k)) / 4) (rh_h4 (hr8 _ (hr9 _ hk))) (v 9 k 1)) (cwV 1 hts gX0_isRight_X2_chargeFor rfl rfl rfl (by decide +kernel) ⟨by decide, by decide⟩) (rh_preV hE hS hA (hW.at 5 ((r 8 (r 9 k)) / 4) (rh_h4 (hr8 _ (hr9 _ hk)))) rfl hW) rfl rfl hl.1 rfl (lv_room (Nat.le_of_ble_eq_true rfl)) dX0_isRight_18 ⟨by decide, by decide⟩) hS (fun o H locs hN1 hS => ?_)
  obtain ⟨rfl, hW⟩ := hN1
  refine W.eq (g2 := F0 m 21 ls [.int (c_ch v ((r 8 (r 9 k)) / 4) (v 9 k 1)), .int (v 9 k 2)]) rfl ?_
  refine lv_icmp_ne (tgt := 28) hx hb dX0_isRight_21 (by decide) (fun c2 => ?_) (fun c2 => ?_)
  · have hc : ¬ c_right r v k := c2
    refine lv_iconst (v := 0) hx hb dX0_isRight_28 (by decide) ?_
    exact rh_zret hx hb hr hlocks rfl ⟨Or.inr ⟨hc, rfl⟩, hW⟩ hS (by decide) (by decide) dX0_isRight_29
  · have hc : c_right r v k := c2
    refine lv_iconst (v := 1) hx hb dX0_isRight_24 (by decide) ?_
    refine lv_goto (tgt := 29) hx hb dX0_isRight_25 (by decide) ?_
    exact rh_zret hx hb hr hlocks rfl ⟨Or.inl ⟨hc, rfl⟩, hW⟩ hS (by decide) (by decide) dX0_isRight_29
set_option maxHeartbeats 4000000 in
set_option maxRecDepth 100000 in
/-- whether a number is an operator -/
theorem ct_X4_isOperator (l : Launch) {G : va_G} {ca : Nat → ClassId} {A : Nat → Prop} {ad : Nat → Nat → Nat} {nf nc : Nat} {r : rh_R} {v : rh_V} (hD : rh_D A ad (fun k i => i < rh_n nf nc k)) (x : Int32) : rh_M l yX4_isOperator wsX4_isOperator ({ frames := 0, cells := 0, slots := 0, locals := 0 } : Room) G ca A [.int x] (rh_W G ca ad nf nc r v) (fun o H => ((ix x 4 ∧ o = some (.int 1)) ∨ (¬ ix x 4 ∧ o = some (.int 0))) ∧ rh_W G ca ad nf nc r v H) rh_no 0 0 := by
  refine rh_enter (cc := cX4_isOperator) (maxL := 1) (ret := (some .boolean)) (by decide) rfl (Nat.le_of_ble_eq_true rfl) ?_
  intro p e s m below meth c ls hx hb hr hml hown hts hlocks hex hin hE hA hW hl
  have hS : va_S A s.heap s.heap [] := va_S.rf
  have hl : lv_has ls 1 [(0, .int x)] := hl
  refine lv_iload_n hx hb dX4_isOperator_0 rfl (lv_at hl 0 rfl) ?_
  refine lv_if_lt (tgt := 13) hx hb dX4_isOperator_1 (by decide) (fun c1 => ?_) (fun c1 => ?_)
  · have hc : ¬ ix x 4 := ix_not_neg (by decide) c1
    refine lv_iconst (v := 0) hx hb dX4_isOperator_13 (by decide) ?_
    exact rh_zret hx hb hr hlocks rfl ⟨Or.inr ⟨hc, rfl⟩, hW⟩ hS (by decide) (by decide) dX4_isOperator_14
  · refine lv_iload_n hx hb dX4_isOperator_4 rfl (lv_at hl 0 rfl) ?_
    refine lv_iconst (v := 4) hx hb dX4_isOperator_5 (by decide) ?_
    refine lv_icmp_ge (tgt := 13) hx hb dX4_isOperator_6 (by decide) (fun c2 => ?_) (fun c2 => ?_)
    · have hc : ¬ ix x 4 := ix_not_big (n := 4) (by decide) c2
      refine lv_iconst (v := 0) hx hb dX4_isOperator_13 (by decide) ?_
      exact rh_zret hx hb hr hlocks rfl ⟨Or.inr ⟨hc, rfl⟩, hW⟩ hS (by decide) (by decide) dX4_isOperator_14
    · have hc : ix x 4 := ix_of (n := 4) (by decide) c1 (nle_lt c2)
      refine lv_iconst (v := 1) hx hb dX4_isOperator_9 (by decide) ?_
      refine lv_goto (tgt := 14) hx hb dX4_isOperator_10 (by decide) ?_
      exact rh_zret hx hb hr hlocks rfl ⟨Or.inl ⟨hc, rfl⟩, hW⟩ hS (by decide) (by decide) dX4_isOperator_14
set_option maxHeartbeats 4000000 in
set_option maxRecDepth 100000 in
/-- the year of a month -/
theorem ct_X4_yearOf (l : Launch) {G : va_G} {ca : Nat → ClassId} {A : Nat → Prop} {ad : Nat → Nat → Nat} {nf nc : Nat} {r : rh_R} {v : rh_V} (hD : rh_D A ad (fun k i => i < rh_n nf nc k)) (x : Int32) : rh_M l yX4_yearOf wsX4_yearOf ({ frames := 0, cells := 0, slots := 0, locals := 0 } : Room) G ca A [.int x] (rh_W G ca ad nf nc r v) (fun o H => o = some (.int (x / 12)) ∧ rh_W G ca ad nf nc r v H) rh_no 0 0 := by
  refine rh_enter (cc := cX4_yearOf) (maxL := 1) (ret := (some .int)) (by decide) rfl (Nat.le_of_ble_eq_true rfl) ?_
  intro p e s m below meth c ls hx hb hr hml hown hts hlocks hex hin hE hA hW hl
  have hS : va_S A s.heap s.heap [] := va_S.rf
  have hl : lv_has ls 1 [(0, .int x)] := hl
  refine lv_iload_n hx hb dX4_yearOf_0 rfl (lv_at hl 0 rfl) ?_
  refine lv_bipush (v := 12) hx hb dX4_yearOf_1 (by decide) ?_
  refine lv_idiv hx hb dX4_yearOf_3 (by decide) ?_
  exact rh_iret hx hb hr hlocks ⟨rfl, hW⟩ hS (by decide) (by decide) dX4_yearOf_4
set_option maxHeartbeats 4000000 in
set_option maxRecDepth 100000 in
/-- the year of a month, by a nest mate -/
theorem mt_X4_yearOf (l : Launch) {G : va_G} {ca : Nat → ClassId} {A : Nat → Prop} {ad : Nat → Nat → Nat} {nf nc : Nat} {r : rh_R} {v : rh_V} (hD : rh_D A ad (fun k i => i < rh_n nf nc k)) (x : Int32) : Met l yX4_yearOf wsX4_yearOf ({ frames := 0, cells := 0, slots := 0, locals := 0 } : Room) (rh_Pc G ca A [.int x] (rh_W G ca ad nf nc r v)) (rh_Q A (fun o H => o = some (.int (x / 12)) ∧ rh_W G ca ad nf nc r v H)) 0 0 A := by
  refine rh_enterm (cc := cX4_yearOf) (maxL := 1) (ret := (some .int)) (by decide) rfl (Nat.le_of_ble_eq_true rfl) ?_
  intro p e s m below meth c ls hx hb hr hml hown hts hlocks hin hE hA hW hl
  have hS : va_S A s.heap s.heap [] := va_S.rf
  have hl : lv_has ls 1 [(0, .int x)] := hl
  refine lv_iload_n hx hb dX4_yearOf_0 rfl (lv_at hl 0 rfl) ?_
  refine lv_bipush (v := 12) hx hb dX4_yearOf_1 (by decide) ?_
  refine lv_idiv hx hb dX4_yearOf_3 (by decide) ?_
  exact rh_iretm hx hb hr hlocks ⟨rfl, hW⟩ hS (by decide) (by decide) dX4_yearOf_4
set_option maxHeartbeats 4000000 in
set_option maxRecDepth 100000 in
/-- an argument outside its range is refused -/
theorem ct_X4_refuseOutside (l : Launch) (hlf : l.stackTraces = false) {G : va_G} {ca : Nat → ClassId} {A : Nat → Prop} {ad : Nat → Nat → Nat} {nf nc : Nat} {r : rh_R} {v : rh_V} (hD : rh_D A ad (fun k i => i < rh_n nf nc k)) (x a b : Int32) : rh_M l yX4_refuseOutside wsX4_refuseOutside ({ frames := 6, cells := 1, slots := 6, locals := 180 } : Room) G ca A [.int x, .int a, .int b] (rh_W G ca ad nf nc r v) (fun o H => (rng x a b ∧ o = none) ∧ rh_W G ca ad nf nc r v H) (fun E H => (E = exn 2 ∧ ¬ rng x a b) ∧ rh_W G ca ad nf nc r v H) 1 6 := by
  refine rh_enter (cc := cX4_refuseOutside) (maxL := 3) (ret := none) (by decide) rfl (Nat.le_of_ble_eq_true rfl) ?_
  intro p e s m below meth c ls hx hb hr hml hown hts hlocks hex hin hE hA hW hl
  have hS : va_S A s.heap s.heap [] := va_S.rf
  have hl : lv_has ls 3 [(0, .int x), (1, .int a), (2, .int b)] := hl
  refine lv_iload_n hx hb dX4_refuseOutside_0 rfl (lv_at hl 0 rfl) ?_
  refine lv_iload_n hx hb dX4_refuseOutside_1 rfl (lv_at hl 1 rfl) ?_
  refine lv_icmp_lt (tgt := 10) hx hb dX4_refuseOutside_2 (by decide) (fun c1 => ?_) (fun c1 => ?_)
  · have hc : ¬ rng x a b := fun z => le_nlt z.1 c1
    exact rh_throw hx hb hlf "java/lang/IllegalArgumentException" "an argument is out of its range" 188 190 192 (by decide) (by decide) (by decide +kernel) rh_t2b rh_t2g hown (hts (.classLink RX4 188 "java/lang/IllegalArgumentException") (by decide +kernel)) (hts (.initialized "java/lang/IllegalArgumentException") (by decide +kernel)) (fun w h => hts w (List.mem_cons_of_mem _ (List.mem_append_right _ (h)))) hE hS (hl.1.trans hml.symm) dX4_refuseOutside_10 dX4_refuseOutside_13 dX4_refuseOutside_14 dX4_refuseOutside_16 dX4_refuseOutside_19 hex hlocks (by decide) (Nat.le_of_ble_eq_true rfl) (by decide) (by decide) (fun H1 _ hk => ⟨⟨rfl, hc⟩, hW.grow hk⟩) (by decide) (by decide)
  · refine lv_iload_n hx hb dX4_refuseOutside_5 rfl (lv_at hl 0 rfl) ?_
    refine lv_iload_n hx hb dX4_refuseOutside_6 rfl (lv_at hl 2 rfl) ?_
    refine lv_icmp_le (tgt := 20) hx hb dX4_refuseOutside_7 (by decide) (fun c2 => ?_) (fun c2 => ?_)
    · exact rh_vret hx hb hr hlocks ⟨⟨⟨nlt_le c1, c2⟩, rfl⟩, hW⟩ hS (by decide) (by decide) dX4_refuseOutside_20
    · have hc : ¬ rng x a b := fun z => c2 z.2
      exact rh_throw hx hb hlf "java/lang/IllegalArgumentException" "an argument is out of its range" 188 190 192 (by decide) (by decide) (by decide +kernel) rh_t2b rh_t2g hown (hts (.classLink RX4 188 "java/lang/IllegalArgumentException") (by decide +kernel)) (hts (.initialized "java/lang/IllegalArgumentException") (by decide +kernel)) (fun w h => hts w (List.mem_cons_of_mem _ (List.mem_append_right _ (h)))) hE hS (hl.1.trans hml.symm) dX4_refuseOutside_10 dX4_refuseOutside_13 dX4_refuseOutside_14 dX4_refuseOutside_16 dX4_refuseOutside_19 hex hlocks (by decide) (Nat.le_of_ble_eq_true rfl) (by decide) (by decide) (fun H1 _ hk => ⟨⟨rfl, hc⟩, hW.grow hk⟩) (by decide) (by decide)
set_option maxHeartbeats 4000000 in
set_option maxRecDepth 100000 in
/-- the operator of a number -/
theorem ct_X4_operatorAt (l : Launch) (hlf : l.stackTraces = false) {G : va_G} {ca : Nat → ClassId} {A : Nat → Prop} {ad : Nat → Nat → Nat} {nf nc : Nat} {r : rh_R} {v : rh_V} (hD : rh_D A ad (fun k i => i < rh_n nf nc k)) (x : Int32) : rh_M l yX4_operatorAt wsX4_operatorAt ({ frames := 7, cells := 1, slots := 6, locals := 210 } : Room) G ca A [.ref (ad 0 0), .int x] (rh_W G ca ad nf nc r v) (fun o H => (∃ i : Nat, i < 4 ∧ x = nI i ∧ o = some (.ref (ad 5 i))) ∧ rh_W G ca ad nf nc r v H) (fun E H => (E = exn 1 ∧ ¬ ix x 4) ∧ rh_W G ca ad nf nc r v H) 1 6 := by
  refine rh_enter (cc := cX4_operatorAt) (maxL := 2) (ret := (some (.object "RoamingHouse$Operator"))) (by decide) rfl (Nat.le_of_ble_eq_true rfl) ?_
  intro p e s m below meth c ls hx hb hr hml hown hts hlocks hex hin hE hA hW hl
  have hS : va_S A s.heap s.heap [] := va_S.rf
  have hl : lv_has ls 2 [(0, .ref (ad 0 0)), (1, .int x)] := hl
  refine lv_iload_n hx hb dX4_operatorAt_0 rfl (lv_at hl 1 rfl) ?_
  refine rh_calln (vx_runS (As := [.int x]) (rest := []) ⟨hx, hb, hml, hown, hts⟩ (ct_X4_isOperator l hD x) (va_cwS 1 hts gX4_operatorAt_X4_isOperator rfl rfl rfl (by decide +kernel) ⟨by decide, by decide⟩) (rh_pre hE hS hA hW) rfl rfl hl.1 rfl (lv_room (Nat.le_of_ble_eq_true rfl)) dX4_operatorAt_1 ⟨by decide, by decide⟩) hS (fun o H locs hN1 hS => ?_)
  obtain ⟨⟨ho2, rfl⟩ | ⟨ho2, rfl⟩, hW⟩ := hN1
  · have hop := ho2
    refine W.eq (g2 := F0 m 4 ls [.int 1]) rfl ?_
    refine lv_if_ne (tgt := 17) hx hb dX4_operatorAt_4 (by decide) (fun c3 => ?_) (fun c3 => absurd c3 (by decide))
    obtain ⟨i, hi, hxi⟩ := (ix_iff (by decide)).mp hop
    refine lv_aload_n hx hb dX4_operatorAt_17 rfl (lv_at hl 0 rfl) ?_
    refine rh_get (ci := 4) (C := RX4) (T := TX4) (N := 7) (v := .ref (ad 1 0)) hx hb hts (fun _ h => List.mem_cons_of_mem _ (List.mem_append_left _ (List.mem_append_right _ (h)))) hown hE (hW.at 0 0 Nat.zero_lt_one) rfl 0 (by decide) (hts (.fieldLink RX4 11 "RoamingHouse" "operators" "[LRoamingHouse$Operator;") (by decide +kernel)) rfl dX4_operatorAt_18 ?_
    refine lv_iload_n hx hb dX4_operatorAt_21 rfl (lv_at hl 1 rfl) ?_
    refine rh_qald hx hb hE 3 rfl (hW.at 1 0 Nat.zero_lt_one) i hi (by decide) hxi (q := ad 5 i) rfl dX4_operatorAt_22 ?_
    exact rh_aret hx hb hr hlocks (Or.inr ⟨_, rfl⟩) ⟨⟨i, hi, hxi, rfl⟩, hW⟩ hS (by decide) (by decide) dX4_operatorAt_23
  · have hop := ho2
    refine W.eq (g2 := F0 m 4 ls [.int 0]) rfl ?_
    refine lv_if_ne (tgt := 17) hx hb dX4_operatorAt_4 (by decide) (fun c4 => absurd c4 (by decide)) (fun c4 => ?_)
    exact rh_throw hx hb hlf "java/lang/IndexOutOfBoundsException" "there is no such operator" 197 199 201 (by decide) (by decide) (by decide +kernel) rh_t1b rh_t1g hown (hts (.classLink RX4 197 "java/lang/IndexOutOfBoundsException") (by decide +kernel)) (hts (.initialized "java/lang/IndexOutOfBoundsException") (by decide +kernel)) (fun w h => hts w (List.mem_cons_of_mem _ (List.mem_append_right _ (h)))) hE hS (hl.1.trans hml.symm) dX4_operatorAt_7 dX4_operatorAt_10 dX4_operatorAt_11 dX4_operatorAt_13 dX4_operatorAt_16 hex hlocks (by decide) (Nat.le_of_ble_eq_true rfl) (by decide) (by decide) (fun H1 _ hk => ⟨⟨rfl, hop⟩, hW.grow hk⟩) (by decide) (by decide)
set_option maxHeartbeats 4000000 in
set_option maxRecDepth 100000 in
/-- the pair of two operators -/
theorem ct_X4_pairAt (l : Launch) (hlf : l.stackTraces = false) {G : va_G} {ca : Nat → ClassId} {A : Nat → Prop} {ad : Nat → Nat → Nat} {nf nc : Nat} {r : rh_R} {v : rh_V} (hD : rh_D A ad (fun k i => i < rh_n nf nc k)) (x y : Int32) : rh_M l yX4_pairAt wsX4_pairAt ({ frames := 7, cells := 1, slots := 6, locals := 210 } : Room) G ca A [.ref (ad 0 0), .int x, .int y] (rh_W G ca ad nf nc r v) (fun o H => (∃ h k : Nat, h < 4 ∧ k < 4 ∧ h ≠ k ∧ x = nI h ∧ y = nI k ∧ o = some (.ref (ad 6 (h * 4 + k)))) ∧ rh_W G ca ad nf nc r v H) (fun E H => (E = exn 1 ∧ ¬ (ix x 4 ∧ ix y 4) ∨ E = exn 2 ∧ ix x 4 ∧ ix y 4 ∧ x = y) ∧ rh_W G ca ad nf nc r v H) 1 6 := by
  refine rh_enter (cc := cX4_pairAt) (maxL := 3) (ret := (some (.object "RoamingHouse$Pair"))) (by decide) rfl (Nat.le_of_ble_eq_true rfl) ?_
  intro p e s m below meth c ls hx hb hr hml hown hts hlocks hex hin hE hA hW hl
  have hS : va_S A s.heap s.heap [] := va_S.rf
  have hl : lv_has ls 3 [(0, .ref (ad 0 0)), (1, .int x), (2, .int y)] := hl
  refine lv_iload_n hx hb dX4_pairAt_0 rfl (lv_at hl 1 rfl) ?_
  refine rh_calln (vx_runS (As := [.int x]) (rest := []) ⟨hx, hb, hml, hown, hts⟩ (ct_X4_isOperator l hD x) (va_cwS 1 hts gX4_pairAt_X4_isOperator rfl rfl rfl (by decide +kernel) ⟨by decide, by decide⟩) (rh_pre hE hS hA hW) rfl rfl hl.1 rfl (lv_room (Nat.le_of_ble_eq_true rfl)) dX4_pairAt_1 ⟨by decide, by decide⟩) hS (fun o H locs hN1 hS => ?_)
  obtain ⟨⟨ho2, rfl⟩ | ⟨ho2, rfl⟩, hW⟩ := hN1
  · have hox := ho2
    refine W.eq (g2 := F0 m 4 ls [.int 1]) rfl ?_
    refine lv_if_eq (tgt := 14) hx hb dX4_pairAt_4 (by decide) (fun c3 => absurd c3 (by decide)) (fun c3 => ?_)
    refine lv_iload_n hx hb dX4_pairAt_7 rfl (lv_at hl 2 rfl) ?_
    refine rh_calln (vx_runS (As := [.int y]) (rest := []) ⟨hx, hb, hml, hown, hts⟩ (ct_X4_isOperator l hD y) (va_cwS 1 hts gX4_pairAt_X4_isOperator rfl rfl rfl (by decide +kernel) ⟨by decide, by decide⟩) (rh_pre hE hS hA hW) rfl rfl hl.1 rfl (lv_room (Nat.le_of_ble_eq_true rfl)) dX4_pairAt_8 ⟨by decide, by decide⟩) hS (fun o H locs hN4 hS => ?_)
    obtain ⟨⟨ho5, rfl⟩ | ⟨ho5, rfl⟩, hW⟩ := hN4
    · have hoy := ho5
      refine W.eq (g2 := F0 m 11 ls [.int 1]) rfl ?_
      refine lv_if_ne (tgt := 24) hx hb dX4_pairAt_11 (by decide) (fun c6 => ?_) (fun c6 => absurd c6 (by decide))
      refine lv_iload_n hx hb dX4_pairAt_24 rfl (lv_at hl 1 rfl) ?_
      refine lv_iload_n hx hb dX4_pairAt_25 rfl (lv_at hl 2 rfl) ?_
      refine lv_icmp_ne (tgt := 39) hx hb dX4_pairAt_26 (by decide) (fun c7 => ?_) (fun c7 => ?_)
      · obtain ⟨h, hh, hxh⟩ := (ix_iff (by decide)).mp hox
        obtain ⟨k, hk, hyk⟩ := (ix_iff (by decide)).mp hoy
        have hne : h ≠ k := fun z => c7 (by rw [hxh, hyk, z])
        refine lv_aload_n hx hb dX4_pairAt_39 rfl (lv_at hl 0 rfl) ?_
        refine rh_get (ci := 4) (C := RX4) (T := TX4) (N := 7) (v := .ref (ad 2 0)) hx hb hts (fun _ h => List.mem_cons_of_mem _ (List.mem_append_left _ (List.mem_append_left _ (List.mem_append_right _ (h))))) hown hE (hW.at 0 0 Nat.zero_lt_one) rfl 1 (by decide) (hts (.fieldLink RX4 17 "RoamingHouse" "pairs" "[LRoamingHouse$Pair;") (by decide +kernel)) rfl dX4_pairAt_40 ?_
        refine lv_iload_n hx hb dX4_pairAt_43 rfl (lv_at hl 1 rfl) ?_
        refine lv_iconst (v := 4) hx hb dX4_pairAt_44 (by decide) ?_
        refine lv_imul hx hb dX4_pairAt_45 ?_
        refine lv_iload_n hx hb dX4_pairAt_46 rfl (lv_at hl 2 rfl) ?_
        refine lv_iadd hx hb dX4_pairAt_47 ?_
        refine rh_qald hx hb hE 4 rfl (hW.at 2 0 Nat.zero_lt_one) (h * 4 + k) (rh_pq hh hk).2 (by decide) (by rw [hxh, hyk]; exact (rh_pq hh hk).1) (q := ad 6 (h * 4 + k)) rfl dX4_pairAt_48 ?_
        exact rh_aret hx hb hr hlocks (Or.inr ⟨_, rfl⟩) ⟨⟨h, k, hh, hk, hne, hxh, hyk, rfl⟩, hW⟩ hS (by decide) (by decide) dX4_pairAt_49
      · have hxy := c7
        exact rh_throw hx hb hlf "java/lang/IllegalArgumentException" "host and home are the same" 188 202 192 (by decide) (by decide) (by decide +kernel) rh_t2b rh_t2g hown (hts (.classLink RX4 188 "java/lang/IllegalArgumentException") (by decide +kernel)) (hts (.initialized "java/lang/IllegalArgumentException") (by decide +kernel)) (fun w h => hts w (List.mem_cons_of_mem _ (List.mem_append_right _ (h)))) hE hS (hl.1.trans hml.symm) dX4_pairAt_29 dX4_pairAt_32 dX4_pairAt_33 dX4_pairAt_35 dX4_pairAt_38 hex hlocks (by decide) (Nat.le_of_ble_eq_true rfl) (by decide) (by decide) (fun H1 _ hk => ⟨Or.inr ⟨rfl, hox, hoy, hxy⟩, hW.grow hk⟩) (by decide) (by decide)
    · have hno : ¬ (ix x 4 ∧ ix y 4) := fun z => ho5 z.2
      refine W.eq (g2 := F0 m 11 ls [.int 0]) rfl ?_
      refine lv_if_ne (tgt := 24) hx hb dX4_pairAt_11 (by decide) (fun c8 => absurd c8 (by decide)) (fun c8 => ?_)
      exact rh_throw hx hb hlf "java/lang/IndexOutOfBoundsException" "there is no such operator" 197 199 201 (by decide) (by decide) (by decide +kernel) rh_t1b rh_t1g hown (hts (.classLink RX4 197 "java/lang/IndexOutOfBoundsException") (by decide +kernel)) (hts (.initialized "java/lang/IndexOutOfBoundsException") (by decide +kernel)) (fun w h => hts w (List.mem_cons_of_mem _ (List.mem_append_left _ (List.mem_append_right _ (h))))) hE hS (hl.1.trans hml.symm) dX4_pairAt_14 dX4_pairAt_17 dX4_pairAt_18 dX4_pairAt_20 dX4_pairAt_23 hex hlocks (by decide) (Nat.le_of_ble_eq_true rfl) (by decide) (by decide) (fun H1 _ hk => ⟨Or.inl ⟨rfl, hno⟩, hW.grow hk⟩) (by decide) (by decide)
  · have hno : ¬ (ix x 4 ∧ ix y 4) := fun z => ho2 z.1
    refine W.eq (g2 := F0 m 4 ls [.int 0]) rfl ?_
    refine lv_if_eq (tgt := 14) hx hb dX4_pairAt_4 (by decide) (fun c9 => ?_) (fun c9 => absurd c9 (by decide))
    exact rh_throw hx hb hlf "java/lang/IndexOutOfBoundsException" "there is no such operator" 197 199 201 (by decide) (by decide) (by decide +kernel) rh_t1b rh_t1g hown (hts (.classLink RX4 197 "java/lang/IndexOutOfBoundsException") (by decide +kernel)) (hts (.initialized "java/lang/IndexOutOfBoundsException") (by decide +kernel)) (fun w h => hts w (List.mem_cons_of_mem _ (List.mem_append_left _ (List.mem_append_right _ (h))))) hE hS (hl.1.trans hml.symm) dX4_pairAt_14 dX4_pairAt_17 dX4_pairAt_18 dX4_pairAt_20 dX4_pairAt_23 hex hlocks (by decide) (Nat.le_of_ble_eq_true rfl) (by decide) (by decide) (fun H1 _ hk => ⟨Or.inl ⟨rfl, hno⟩, hW.grow hk⟩) (by decide) (by decide)
set_option maxHeartbeats 4000000 in
set_option maxRecDepth 100000 in
/-- the file or call of a number -/
theorem ct_X4_fileAt (l : Launch) (hlf : l.stackTraces = false) {G : va_G} {ca : Nat → ClassId} {A : Nat → Prop} {ad : Nat → Nat → Nat} {nf nc : Nat} {r : rh_R} {v : rh_V} (hD : rh_D A ad (fun k i => i < rh_n nf nc k)) (hwf : rh_wf nf nc r v) (x : Int32) : rh_M l yX4_fileAt wsX4_fileAt ({ frames := 6, cells := 1, slots := 6, locals := 180 } : Room) G ca A [.ref (ad 0 0), .int x] (rh_W G ca ad nf nc r v) (fun o H => (∃ i : Nat, i < nf ∧ x = nI i ∧ o = some (.ref (ad 8 i))) ∧ rh_W G ca ad nf nc r v H) (fun E H => (E = exn 1 ∧ ¬ ix x nf) ∧ rh_W G ca ad nf nc r v H) 1 6 := by
  obtain ⟨hnf, hnc, hr8, hr9, hfc, hcc, hst, ⟨tt, htt, hnow⟩, hai⟩ := id hwf
  refine rh_enter (cc := cX4_fileAt) (maxL := 2) (ret := (some (.object "RoamingHouse$CallFile"))) (by decide) rfl (Nat.le_of_ble_eq_true rfl) ?_
  intro p e s m below meth c ls hx hb hr hml hown hts hlocks hex hin hE hA hW hl
  have hS : va_S A s.heap s.heap [] := va_S.rf
  have hl : lv_has ls 2 [(0, .ref (ad 0 0)), (1, .int x)] := hl
  refine lv_iload_n hx hb dX4_fileAt_0 rfl (lv_at hl 1 rfl) ?_
  refine lv_if_lt (tgt := 12) hx hb dX4_fileAt_1 (by decide) (fun c1 => ?_) (fun c1 => ?_)
  · have hc : ¬ ix x nf := ix_not_neg (by omega) c1
    exact rh_throw hx hb hlf "java/lang/IndexOutOfBoundsException" "there is no such file" 197 204 201 (by decide) (by decide) (by decide +kernel) rh_t1b rh_t1g hown (hts (.classLink RX4 197 "java/lang/IndexOutOfBoundsException") (by decide +kernel)) (hts (.initialized "java/lang/IndexOutOfBoundsException") (by decide +kernel)) (fun w h => hts w (List.mem_cons_of_mem _ (List.mem_append_right _ (h)))) hE hS (hl.1.trans hml.symm) dX4_fileAt_12 dX4_fileAt_15 dX4_fileAt_16 dX4_fileAt_18 dX4_fileAt_21 hex hlocks (by decide) (Nat.le_of_ble_eq_true rfl) (by decide) (by decide) (fun H1 _ hk => ⟨⟨rfl, hc⟩, hW.grow hk⟩) (by decide) (by decide)
  · refine lv_iload_n hx hb dX4_fileAt_4 rfl (lv_at hl 1 rfl) ?_
    refine lv_aload_n hx hb dX4_fileAt_5 rfl (lv_at hl 0 rfl) ?_
    refine rh_get (ci := 4) (C := RX4) (T := TX4) (N := 7) (v := .int (v 0 0 3)) hx hb hts (fun _ h => List.mem_cons_of_mem _ (List.mem_append_left _ (List.mem_append_right _ (h)))) hown hE (hW.at 0 0 Nat.zero_lt_one) rfl 3 (by decide) (hts (.fieldLink RX4 27 "RoamingHouse" "fileCount" "I") (by decide +kernel)) rfl dX4_fileAt_6 ?_
    refine lv_icmp_lt (tgt := 22) hx hb dX4_fileAt_9 (by decide) (fun c2 => ?_) (fun c2 => ?_)
    · have hc : ix x nf := ix_of (by omega) c1 (by rw [← hfc]; exact c2)
      obtain ⟨i, hi, hxi⟩ := (ix_iff (by omega)).mp hc
      refine lv_aload_n hx hb dX4_fileAt_22 rfl (lv_at hl 0 rfl) ?_
      refine rh_get (ci := 4) (C := RX4) (T := TX4) (N := 7) (v := .ref (ad 3 0)) hx hb hts (fun _ h => List.mem_cons_of_mem _ (List.mem_append_left _ (List.mem_append_right _ (h)))) hown hE (hW.at 0 0 Nat.zero_lt_one) rfl 2 (by decide) (hts (.fieldLink RX4 23 "RoamingHouse" "fileRows" "[LRoamingHouse$CallFile;") (by decide +kernel)) rfl dX4_fileAt_23 ?_
      refine lv_iload_n hx hb dX4_fileAt_26 rfl (lv_at hl 1 rfl) ?_
      refine rh_qald hx hb hE 5 rfl (hW.at 3 0 Nat.zero_lt_one) i (Nat.lt_of_lt_of_le hi hnf) (by decide) hxi (q := ad 8 i) (if_pos hi) dX4_fileAt_27 ?_
      exact rh_aret hx hb hr hlocks (Or.inr ⟨_, rfl⟩) ⟨⟨i, hi, hxi, rfl⟩, hW⟩ hS (by decide) (by decide) dX4_fileAt_28
    · have hc : ¬ ix x nf := ix_not_big (by omega) (by rw [← hfc]; exact nlt_le c2)
      exact rh_throw hx hb hlf "java/lang/IndexOutOfBoundsException" "there is no such file" 197 204 201 (by decide) (by decide) (by decide +kernel) rh_t1b rh_t1g hown (hts (.classLink RX4 197 "java/lang/IndexOutOfBoundsException") (by decide +kernel)) (hts (.initialized "java/lang/IndexOutOfBoundsException") (by decide +kernel)) (fun w h => hts w (List.mem_cons_of_mem _ (List.mem_append_right _ (h)))) hE hS (hl.1.trans hml.symm) dX4_fileAt_12 dX4_fileAt_15 dX4_fileAt_16 dX4_fileAt_18 dX4_fileAt_21 hex hlocks (by decide) (Nat.le_of_ble_eq_true rfl) (by decide) (by decide) (fun H1 _ hk => ⟨⟨rfl, hc⟩, hW.grow hk⟩) (by decide) (by decide)
set_option maxHeartbeats 4000000 in
set_option maxRecDepth 100000 in
/-- the file or call of a number -/
theorem ct_X4_callAt (l : Launch) (hlf : l.stackTraces = false) {G : va_G} {ca : Nat → ClassId} {A : Nat → Prop} {ad : Nat → Nat → Nat} {nf nc : Nat} {r : rh_R} {v : rh_V} (hD : rh_D A ad (fun k i => i < rh_n nf nc k)) (hwf : rh_wf nf nc r v) (x : Int32) : rh_M l yX4_callAt wsX4_callAt ({ frames := 6, cells := 1, slots := 6, locals := 180 } : Room) G ca A [.ref (ad 0 0), .int x] (rh_W G ca ad nf nc r v) (fun o H => (∃ i : Nat, i < nc ∧ x = nI i ∧ o = some (.ref (ad 9 i))) ∧ rh_W G ca ad nf nc r v H) (fun E H => (E = exn 1 ∧ ¬ ix x nc) ∧ rh_W G ca ad nf nc r v H) 1 6 := by
  obtain ⟨hnf, hnc, hr8, hr9, hfc, hcc, hst, ⟨tt, htt, hnow⟩, hai⟩ := id hwf
  refine rh_enter (cc := cX4_callAt) (maxL := 2) (ret := (some (.object "RoamingHouse$Call"))) (by decide) rfl (Nat.le_of_ble_eq_true rfl) ?_
  intro p e s m below meth c ls hx hb hr hml hown hts hlocks hex hin hE hA hW hl
  have hS : va_S A s.heap s.heap [] := va_S.rf
  have hl : lv_has ls 2 [(0, .ref (ad 0 0)), (1, .int x)] := hl
  refine lv_iload_n hx hb dX4_callAt_0 rfl (lv_at hl 1 rfl) ?_
  refine lv_if_lt (tgt := 12) hx hb dX4_callAt_1 (by decide) (fun c1 => ?_) (fun c1 => ?_)
  · have hc : ¬ ix x nc := ix_not_neg (by omega) c1
    exact rh_throw hx hb hlf "java/lang/IndexOutOfBoundsException" "there is no such call" 197 206 201 (by decide) (by decide) (by decide +kernel) rh_t1b rh_t1g hown (hts (.classLink RX4 197 "java/lang/IndexOutOfBoundsException") (by decide +kernel)) (hts (.initialized "java/lang/IndexOutOfBoundsException") (by decide +kernel)) (fun w h => hts w (List.mem_cons_of_mem _ (List.mem_append_right _ (h)))) hE hS (hl.1.trans hml.symm) dX4_callAt_12 dX4_callAt_15 dX4_callAt_16 dX4_callAt_18 dX4_callAt_21 hex hlocks (by decide) (Nat.le_of_ble_eq_true rfl) (by decide) (by decide) (fun H1 _ hk => ⟨⟨rfl, hc⟩, hW.grow hk⟩) (by decide) (by decide)
  · refine lv_iload_n hx hb dX4_callAt_4 rfl (lv_at hl 1 rfl) ?_
    refine lv_aload_n hx hb dX4_callAt_5 rfl (lv_at hl 0 rfl) ?_
    refine rh_get (ci := 4) (C := RX4) (T := TX4) (N := 7) (v := .int (v 0 0 5)) hx hb hts (fun _ h => List.mem_cons_of_mem _ (List.mem_append_left _ (List.mem_append_right _ (h)))) hown hE (hW.at 0 0 Nat.zero_lt_one) rfl 5 (by decide) (hts (.fieldLink RX4 37 "RoamingHouse" "callCount" "I") (by decide +kernel)) rfl dX4_callAt_6 ?_
    refine lv_icmp_lt (tgt := 22) hx hb dX4_callAt_9 (by decide) (fun c2 => ?_) (fun c2 => ?_)
    · have hc : ix x nc := ix_of (by omega) c1 (by rw [← hcc]; exact c2)
      obtain ⟨i, hi, hxi⟩ := (ix_iff (by omega)).mp hc
      refine lv_aload_n hx hb dX4_callAt_22 rfl (lv_at hl 0 rfl) ?_
      refine rh_get (ci := 4) (C := RX4) (T := TX4) (N := 7) (v := .ref (ad 4 0)) hx hb hts (fun _ h => List.mem_cons_of_mem _ (List.mem_append_left _ (List.mem_append_right _ (h)))) hown hE (hW.at 0 0 Nat.zero_lt_one) rfl 4 (by decide) (hts (.fieldLink RX4 33 "RoamingHouse" "callRows" "[LRoamingHouse$Call;") (by decide +kernel)) rfl dX4_callAt_23 ?_
      refine lv_iload_n hx hb dX4_callAt_26 rfl (lv_at hl 1 rfl) ?_
      refine rh_qald hx hb hE 6 rfl (hW.at 4 0 Nat.zero_lt_one) i (Nat.lt_of_lt_of_le hi hnc) (by decide) hxi (q := ad 9 i) (if_pos hi) dX4_callAt_27 ?_
      exact rh_aret hx hb hr hlocks (Or.inr ⟨_, rfl⟩) ⟨⟨i, hi, hxi, rfl⟩, hW⟩ hS (by decide) (by decide) dX4_callAt_28
    · have hc : ¬ ix x nc := ix_not_big (by omega) (by rw [← hcc]; exact nlt_le c2)
      exact rh_throw hx hb hlf "java/lang/IndexOutOfBoundsException" "there is no such call" 197 206 201 (by decide) (by decide) (by decide +kernel) rh_t1b rh_t1g hown (hts (.classLink RX4 197 "java/lang/IndexOutOfBoundsException") (by decide +kernel)) (hts (.initialized "java/lang/IndexOutOfBoundsException") (by decide +kernel)) (fun w h => hts w (List.mem_cons_of_mem _ (List.mem_append_right _ (h)))) hE hS (hl.1.trans hml.symm) dX4_callAt_12 dX4_callAt_15 dX4_callAt_16 dX4_callAt_18 dX4_callAt_21 hex hlocks (by decide) (Nat.le_of_ble_eq_true rfl) (by decide) (by decide) (fun H1 _ hk => ⟨⟨rfl, hc⟩, hW.grow hk⟩) (by decide) (by decide)
