/-! ===== the house: its face ===== -/
set_option maxHeartbeats 4000000 in
set_option maxRecDepth 100000 in
/-- a tariff is set -/
theorem ct_X4_setTariff (l : Launch) (hlf : l.stackTraces = false) {G : va_G} {ca : Nat → ClassId} {A : Nat → Prop} {ad : Nat → Nat → Nat} {nf nc : Nat} {r : rh_R} {v : rh_V} (hD : rh_D A ad (fun k i => i < rh_n nf nc k)) (hwf : rh_wf nf nc r v) (x st pr bg : Int32) : rh_M l yX4_setTariff wsX4_setTariff ({ frames := 8, cells := 5, slots := 40, locals := 240 } : Room) G ca A [.ref (ad 0 0), .int x, .int st, .int pr, .int bg] (rh_W G ca ad nf nc r v) (fun o H => (∃ i : Nat, i < 4 ∧ x = nI i ∧ rng st 1 600 ∧ rng pr 0 1000 ∧ rng bg 0 1000 ∧ o = some (.int (v 5 i 1)) ∧ rh_W G ca ad nf nc r (wr (wr (wr v 5 i 0 st) 5 i 1 pr) 5 i 2 bg) H)) (fun E H => (E = exn 1 ∧ ¬ ix x 4 ∨ E = exn 2 ∧ ix x 4 ∧ ¬ (rng st 1 600 ∧ rng pr 0 1000 ∧ rng bg 0 1000)) ∧ rh_W G ca ad nf nc r v H) 5 40 := by
  obtain ⟨hnf, hnc, hr8, hr9, hfc, hcc, hst, ⟨tt, htt, hnow⟩, hai⟩ := id hwf
  refine rh_enter (cc := cX4_setTariff) (maxL := 7) (ret := (some .int)) (by decide) rfl (Nat.le_of_ble_eq_true rfl) ?_
  intro p e s m below meth c ls hx hb hr hml hown hts hlocks hex hin hE hA hW hl
  have hS : va_S A s.heap s.heap [] := va_S.rf
  have hl : lv_has ls 7 [(0, .ref (ad 0 0)), (1, .int x), (2, .int st), (3, .int pr), (4, .int bg)] := hl
  refine lv_aload_n hx hb dX4_setTariff_0 rfl (lv_at hl 0 rfl) ?_
  refine lv_iload_n hx hb dX4_setTariff_1 rfl (lv_at hl 1 rfl) ?_
  refine rh_call (vx_runV (As := [.int x]) (rest := []) ⟨hx, hb, hml, hown, hts⟩ (ct_X4_operatorAt l hlf hD x) (cwV 1 hts gX4_setTariff_X4_operatorAt rfl rfl rfl (by decide +kernel) ⟨by decide, by decide⟩) (rh_preV hE hS hA (hW.at 0 0 Nat.zero_lt_one) rfl hW) rfl rfl hl.1 rfl (lv_room (Nat.le_of_ble_eq_true rfl)) dX4_setTariff_2 ⟨by decide, by decide⟩) hS (fun E ce q9 H locs hX2 hS g1 g2 g3 => rh_out hex hlocks g1 g2 g3 ⟨Or.inl hX2.1, hX2.2⟩ hS (by decide) (by decide)) (fun o H locs hN1 hS => ?_)
  obtain ⟨⟨i, hi, he, rfl⟩, hW⟩ := hN1
  refine W.eq (g2 := F0 m 5 ls [.ref (ad 5 i)]) rfl ?_
  refine lv_astore (lv' := [(5, .ref (ad 5 i)), (0, .ref (ad 0 0)), (1, .int x), (2, .int st), (3, .int pr), (4, .int bg)]) hx hb dX4_setTariff_5 hl (by decide) rfl (fun ls hl => ?_)
  refine lv_iload_n hx hb dX4_setTariff_7 rfl (lv_at hl 3 rfl) ?_
  refine lv_iconst (v := 1) hx hb dX4_setTariff_8 (by decide) ?_
  refine lv_sipush (v := 600) hx hb dX4_setTariff_9 (by decide) ?_
  refine rh_call (vx_runS (As := [.int st, .int 1, .int 600]) (rest := []) ⟨hx, hb, hml, hown, hts⟩ (ct_X4_refuseOutside l hlf hD st 1 600) (va_cwS 3 hts gX4_setTariff_X4_refuseOutside rfl rfl rfl (by decide +kernel) ⟨by decide, by decide⟩) (rh_pre hE hS hA hW) rfl rfl hl.1 rfl (lv_room (Nat.le_of_ble_eq_true rfl)) dX4_setTariff_12 ⟨by decide, by decide⟩) hS (fun E ce q9 H locs hX4 hS g1 g2 g3 => rh_out hex hlocks g1 g2 g3 ⟨Or.inr ⟨hX4.1.1, ((ix_iff (by decide)).mpr ⟨i, hi, he⟩), fun z => hX4.1.2 z.1⟩, hX4.2⟩ hS (by decide) (by decide)) (fun o H locs hN3 hS => ?_)
  obtain ⟨⟨hg1, rfl⟩, hW⟩ := hN3
  refine W.eq (g2 := F0 m 15 ls []) rfl ?_
  refine lv_iload_n hx hb dX4_setTariff_15 rfl (lv_at hl 4 rfl) ?_
  refine lv_iconst (v := 0) hx hb dX4_setTariff_16 (by decide) ?_
  refine lv_sipush (v := 1000) hx hb dX4_setTariff_17 (by decide) ?_
  refine rh_call (vx_runS (As := [.int pr, .int 0, .int 1000]) (rest := []) ⟨hx, hb, hml, hown, hts⟩ (ct_X4_refuseOutside l hlf hD pr 0 1000) (va_cwS 3 hts gX4_setTariff_X4_refuseOutside rfl rfl rfl (by decide +kernel) ⟨by decide, by decide⟩) (rh_pre hE hS hA hW) rfl rfl hl.1 rfl (lv_room (Nat.le_of_ble_eq_true rfl)) dX4_setTariff_20 ⟨by decide, by decide⟩) hS (fun E ce q9 H locs hX6 hS g1 g2 g3 => rh_out hex hlocks g1 g2 g3 ⟨Or.inr ⟨hX6.1.1, ((ix_iff (by decide)).mpr ⟨i, hi, he⟩), fun z => hX6.1.2 z.2.1⟩, hX6.2⟩ hS (by decide) (by decide)) (fun o H locs hN5 hS => ?_)
  obtain ⟨⟨hg2, rfl⟩, hW⟩ := hN5
  refine W.eq (g2 := F0 m 23 ls []) rfl ?_
  refine lv_iload hx hb dX4_setTariff_23 (lv_at hl 5 rfl) ?_
  refine lv_iconst (v := 0) hx hb dX4_setTariff_25 (by decide) ?_
  refine lv_sipush (v := 1000) hx hb dX4_setTariff_26 (by decide) ?_
  refine rh_call (vx_runS (As := [.int bg, .int 0, .int 1000]) (rest := []) ⟨hx, hb, hml, hown, hts⟩ (ct_X4_refuseOutside l hlf hD bg 0 1000) (va_cwS 3 hts gX4_setTariff_X4_refuseOutside rfl rfl rfl (by decide +kernel) ⟨by decide, by decide⟩) (rh_pre hE hS hA hW) rfl rfl hl.1 rfl (lv_room (Nat.le_of_ble_eq_true rfl)) dX4_setTariff_29 ⟨by decide, by decide⟩) hS (fun E ce q9 H locs hX8 hS g1 g2 g3 => rh_out hex hlocks g1 g2 g3 ⟨Or.inr ⟨hX8.1.1, ((ix_iff (by decide)).mpr ⟨i, hi, he⟩), fun z => hX8.1.2 z.2.2⟩, hX8.2⟩ hS (by decide) (by decide)) (fun o H locs hN7 hS => ?_)
  obtain ⟨⟨hg3, rfl⟩, hW⟩ := hN7
  refine W.eq (g2 := F0 m 32 ls []) rfl ?_
  refine lv_aload hx hb dX4_setTariff_32 (lv_at hl 0 rfl) ?_
  refine rh_get (ci := 2) (C := RX2) (T := TX2) (N := 4) (v := .int (v 5 i 1)) hx hb hts (fun _ h => List.mem_cons_of_mem _ (List.mem_append_left _ (List.mem_append_left _ (List.mem_append_left _ (List.mem_append_right _ (h)))))) hown hE (hW.at 5 i hi) rfl 1 (by decide) (hts (.fieldLink RX4 55 "RoamingHouse$Operator" "price" "I") (by decide +kernel)) rfl dX4_setTariff_34 ?_
  refine lv_istore (lv' := [(6, .int (v 5 i 1)), (5, .ref (ad 5 i)), (0, .ref (ad 0 0)), (1, .int x), (2, .int st), (3, .int pr), (4, .int bg)]) hx hb dX4_setTariff_37 hl (by decide) rfl (fun ls hl => ?_)
  refine lv_aload hx hb dX4_setTariff_39 (lv_at hl 1 rfl) ?_
  refine lv_iload_n hx hb dX4_setTariff_41 rfl (lv_at hl 4 rfl) ?_
  refine rh_put (ci := 2) (C := RX2) (T := TX2) (N := 4) (x := st) hx hb hts (fun _ h => List.mem_cons_of_mem _ (List.mem_append_left _ (List.mem_append_left _ (List.mem_append_left _ (List.mem_append_right _ (h)))))) tyX2 tyX2_ok nmX2 hown hE hW hD hS rfl 5 i hi rfl 0 (by decide) (hts (.fieldLink RX4 58 "RoamingHouse$Operator" "step" "I") (by decide +kernel)) rfl rfl rfl (Nat.le_of_ble_eq_true rfl) rfl dX4_setTariff_42 (fun H locs hW hS => ?_)
  refine lv_aload hx hb dX4_setTariff_45 (lv_at hl 1 rfl) ?_
  refine lv_iload_n hx hb dX4_setTariff_47 rfl (lv_at hl 5 rfl) ?_
  refine rh_put (ci := 2) (C := RX2) (T := TX2) (N := 4) (x := pr) hx hb hts (fun _ h => List.mem_cons_of_mem _ (List.mem_append_left _ (List.mem_append_left _ (List.mem_append_left _ (List.mem_append_right _ (h)))))) tyX2 tyX2_ok nmX2 hown hE hW hD hS rfl 5 i hi rfl 1 (by decide) (hts (.fieldLink RX4 55 "RoamingHouse$Operator" "price" "I") (by decide +kernel)) rfl rfl rfl (Nat.le_of_ble_eq_true rfl) rfl dX4_setTariff_48 (fun H locs hW hS => ?_)
  refine lv_aload hx hb dX4_setTariff_51 (lv_at hl 1 rfl) ?_
  refine lv_iload hx hb dX4_setTariff_53 (lv_at hl 6 rfl) ?_
  refine rh_put (ci := 2) (C := RX2) (T := TX2) (N := 4) (x := bg) hx hb hts (fun _ h => List.mem_cons_of_mem _ (List.mem_append_left _ (List.mem_append_left _ (List.mem_append_left _ (List.mem_append_right _ (h)))))) tyX2 tyX2_ok nmX2 hown hE hW hD hS rfl 5 i hi rfl 2 (by decide) (hts (.fieldLink RX4 61 "RoamingHouse$Operator" "beginning" "I") (by decide +kernel)) rfl rfl rfl (Nat.le_of_ble_eq_true rfl) rfl dX4_setTariff_55 (fun H locs hW hS => ?_)
  refine lv_iload hx hb dX4_setTariff_58 (lv_at hl 0 rfl) ?_
  exact rh_iret hx hb hr hlocks ⟨i, hi, he, hg1, hg2, hg3, rfl, hW⟩ hS (by decide) (by decide) dX4_setTariff_60
set_option maxHeartbeats 4000000 in
set_option maxRecDepth 100000 in
/-- a charge is told -/
theorem ct_X4_charge (l : Launch) (hlf : l.stackTraces = false) {G : va_G} {ca : Nat → ClassId} {A : Nat → Prop} {ad : Nat → Nat → Nat} {nf nc : Nat} {r : rh_R} {v : rh_V} (hD : rh_D A ad (fun k i => i < rh_n nf nc k)) (hwf : rh_wf nf nc r v) (x y : Int32) : rh_M l yX4_charge wsX4_charge ({ frames := 8, cells := 5, slots := 40, locals := 240 } : Room) G ca A [.ref (ad 0 0), .int x, .int y] (rh_W G ca ad nf nc r v) (fun o H => (∃ i : Nat, i < 4 ∧ x = nI i ∧ rng y 1 36000 ∧ o = some (.int (c_ch v i y)) ∧ rh_W G ca ad nf nc r v H)) (fun E H => (E = exn 1 ∧ ¬ ix x 4 ∨ E = exn 2 ∧ ix x 4 ∧ ¬ rng y 1 36000) ∧ rh_W G ca ad nf nc r v H) 5 40 := by
  obtain ⟨hnf, hnc, hr8, hr9, hfc, hcc, hst, ⟨tt, htt, hnow⟩, hai⟩ := id hwf
  refine rh_enter (cc := cX4_charge) (maxL := 4) (ret := (some .int)) (by decide) rfl (Nat.le_of_ble_eq_true rfl) ?_
  intro p e s m below meth c ls hx hb hr hml hown hts hlocks hex hin hE hA hW hl
  have hS : va_S A s.heap s.heap [] := va_S.rf
  have hl : lv_has ls 4 [(0, .ref (ad 0 0)), (1, .int x), (2, .int y)] := hl
  refine lv_aload_n hx hb dX4_charge_0 rfl (lv_at hl 0 rfl) ?_
  refine lv_iload_n hx hb dX4_charge_1 rfl (lv_at hl 1 rfl) ?_
  refine rh_call (vx_runV (As := [.int x]) (rest := []) ⟨hx, hb, hml, hown, hts⟩ (ct_X4_operatorAt l hlf hD x) (cwV 1 hts gX4_charge_X4_operatorAt rfl rfl rfl (by decide +kernel) ⟨by decide, by decide⟩) (rh_preV hE hS hA (hW.at 0 0 Nat.zero_lt_one) rfl hW) rfl rfl hl.1 rfl (lv_room (Nat.le_of_ble_eq_true rfl)) dX4_charge_2 ⟨by decide, by decide⟩) hS (fun E ce q9 H locs hX2 hS g1 g2 g3 => rh_out hex hlocks g1 g2 g3 ⟨Or.inl hX2.1, hX2.2⟩ hS (by decide) (by decide)) (fun o H locs hN1 hS => ?_)
  obtain ⟨⟨i, hi, he, rfl⟩, hW⟩ := hN1
  refine W.eq (g2 := F0 m 5 ls [.ref (ad 5 i)]) rfl ?_
  refine lv_astore_n (lv' := [(3, .ref (ad 5 i)), (0, .ref (ad 0 0)), (1, .int x), (2, .int y)]) hx hb dX4_charge_5 rfl hl (by decide) rfl (fun ls hl => ?_)
  refine lv_iload_n hx hb dX4_charge_6 rfl (lv_at hl 3 rfl) ?_
  refine lv_iconst (v := 1) hx hb dX4_charge_7 (by decide) ?_
  refine lv_ldc (v := 36000) hx hb hown (hts (.constant RX4 64 (36000)) (by decide +kernel)) dX4_charge_8 ?_
  refine rh_call (vx_runS (As := [.int y, .int 1, .int 36000]) (rest := []) ⟨hx, hb, hml, hown, hts⟩ (ct_X4_refuseOutside l hlf hD y 1 36000) (va_cwS 3 hts gX4_charge_X4_refuseOutside rfl rfl rfl (by decide +kernel) ⟨by decide, by decide⟩) (rh_pre hE hS hA hW) rfl rfl hl.1 rfl (lv_room (Nat.le_of_ble_eq_true rfl)) dX4_charge_10 ⟨by decide, by decide⟩) hS (fun E ce q9 H locs hX4 hS g1 g2 g3 => rh_out hex hlocks g1 g2 g3 ⟨Or.inr ⟨hX4.1.1, ((ix_iff (by decide)).mpr ⟨i, hi, he⟩), hX4.1.2⟩, hX4.2⟩ hS (by decide) (by decide)) (fun o H locs hN3 hS => ?_)
  obtain ⟨⟨hg1, rfl⟩, hW⟩ := hN3
  refine W.eq (g2 := F0 m 13 ls []) rfl ?_
  refine lv_aload_n hx hb dX4_charge_13 rfl (lv_at hl 0 rfl) ?_
  refine lv_iload_n hx hb dX4_charge_14 rfl (lv_at hl 3 rfl) ?_
  refine rh_calln (vx_runV (As := [.int y]) (rest := []) ⟨hx, hb, hml, hown, hts⟩ (ct_X2_chargeFor l hD hwf i hi y) (cwV 1 hts gX4_charge_X2_chargeFor rfl rfl rfl (by decide +kernel) ⟨by decide, by decide⟩) (rh_preV hE hS hA (hW.at 5 i hi) rfl hW) rfl rfl hl.1 rfl (lv_room (Nat.le_of_ble_eq_true rfl)) dX4_charge_15 ⟨by decide, by decide⟩) hS (fun o H locs hN5 hS => ?_)
  obtain ⟨rfl, hW⟩ := hN5
  refine W.eq (g2 := F0 m 18 ls [.int (c_ch v i y)]) rfl ?_
  exact rh_iret hx hb hr hlocks ⟨i, hi, he, hg1, rfl, hW⟩ hS (by decide) (by decide) dX4_charge_18
set_option maxHeartbeats 4000000 in
set_option maxRecDepth 100000 in
/-- a file is sent -/
theorem ct_X4_send (l : Launch) (hlf : l.stackTraces = false) {G : va_G} {ca : Nat → ClassId} {A : Nat → Prop} {ad : Nat → Nat → Nat} {nf nc : Nat} {r : rh_R} {v : rh_V} (hD : rh_D A ad (fun k i => i < rh_n nf nc k)) (hwf : rh_wf nf nc r v) (x y : Int32) : rh_M l yX4_send wsX4_send ({ frames := 8, cells := 5, slots := 40, locals := 240 } : Room) G ca A [.ref (ad 0 0), .int x, .int y] (rh_W G ca ad nf nc r v) (fun o H => (∃ i : Nat, i < nf ∧ x = nI i ∧ rng y 1 99 ∧ v 8 i 2 = 0 ∧ ¬ v 8 i 3 = 0 ∧ o = some (.int (c_send r v nf nc i y 8 i 2)) ∧ rh_W G ca ad nf nc r (c_send r v nf nc i y) H)) (fun E H => (E = exn 1 ∧ ¬ ix x nf ∨ E = exn 2 ∧ ix x nf ∧ ¬ rng y 1 99 ∨ E = exn 3 ∧ ∃ i : Nat, i < nf ∧ x = nI i ∧ rng y 1 99 ∧ (¬ v 8 i 2 = 0 ∨ v 8 i 3 = 0)) ∧ rh_W G ca ad nf nc r v H) 5 40 := by
  obtain ⟨hnf, hnc, hr8, hr9, hfc, hcc, hst, ⟨tt, htt, hnow⟩, hai⟩ := id hwf
  refine rh_enter (cc := cX4_send) (maxL := 5) (ret := (some .int)) (by decide) rfl (Nat.le_of_ble_eq_true rfl) ?_
  intro p e s m below meth c ls hx hb hr hml hown hts hlocks hex hin hE hA hW hl
  have hS : va_S A s.heap s.heap [] := va_S.rf
  have hl : lv_has ls 5 [(0, .ref (ad 0 0)), (1, .int x), (2, .int y)] := hl
  refine lv_aload_n hx hb dX4_send_0 rfl (lv_at hl 0 rfl) ?_
  refine lv_iload_n hx hb dX4_send_1 rfl (lv_at hl 1 rfl) ?_
  refine rh_call (vx_runV (As := [.int x]) (rest := []) ⟨hx, hb, hml, hown, hts⟩ (ct_X4_fileAt l hlf hD hwf x) (cwV 1 hts gX4_send_X4_fileAt rfl rfl rfl (by decide +kernel) ⟨by decide, by decide⟩) (rh_preV hE hS hA (hW.at 0 0 Nat.zero_lt_one) rfl hW) rfl rfl hl.1 rfl (lv_room (Nat.le_of_ble_eq_true rfl)) dX4_send_2 ⟨by decide, by decide⟩) hS (fun E ce q9 H locs hX2 hS g1 g2 g3 => rh_out hex hlocks g1 g2 g3 ⟨Or.inl hX2.1, hX2.2⟩ hS (by decide) (by decide)) (fun o H locs hN1 hS => ?_)
  obtain ⟨⟨i, hi, he, rfl⟩, hW⟩ := hN1
  refine W.eq (g2 := F0 m 5 ls [.ref (ad 8 i)]) rfl ?_
  refine lv_astore_n (lv' := [(3, .ref (ad 8 i)), (0, .ref (ad 0 0)), (1, .int x), (2, .int y)]) hx hb dX4_send_5 rfl hl (by decide) rfl (fun ls hl => ?_)
  refine lv_iload_n hx hb dX4_send_6 rfl (lv_at hl 3 rfl) ?_
  refine lv_iconst (v := 1) hx hb dX4_send_7 (by decide) ?_
  refine lv_bipush (v := 99) hx hb dX4_send_8 (by decide) ?_
  refine rh_call (vx_runS (As := [.int y, .int 1, .int 99]) (rest := []) ⟨hx, hb, hml, hown, hts⟩ (ct_X4_refuseOutside l hlf hD y 1 99) (va_cwS 3 hts gX4_send_X4_refuseOutside rfl rfl rfl (by decide +kernel) ⟨by decide, by decide⟩) (rh_pre hE hS hA hW) rfl rfl hl.1 rfl (lv_room (Nat.le_of_ble_eq_true rfl)) dX4_send_10 ⟨by decide, by decide⟩) hS (fun E ce q9 H locs hX4 hS g1 g2 g3 => rh_out hex hlocks g1 g2 g3 ⟨Or.inr (Or.inl ⟨hX4.1.1, ((ix_iff (by omega)).mpr ⟨i, hi, he⟩), hX4.1.2⟩), hX4.2⟩ hS (by decide) (by decide)) (fun o H locs hN3 hS => ?_)
  obtain ⟨⟨hg1, rfl⟩, hW⟩ := hN3
  refine W.eq (g2 := F0 m 13 ls []) rfl ?_
  refine lv_aload_n hx hb dX4_send_13 rfl (lv_at hl 0 rfl) ?_
  refine rh_get (ci := 1) (C := RX1) (T := TX1) (N := 5) (v := .int (v 8 i 2)) hx hb hts (fun _ h => List.mem_cons_of_mem _ (List.mem_append_left _ (List.mem_append_left _ (List.mem_append_left _ (List.mem_append_left _ (List.mem_append_left _ (List.mem_append_left _ (List.mem_append_left _ (List.mem_append_right _ (h)))))))))) hown hE (hW.at 8 i hi) rfl 2 (by decide) (hts (.fieldLink RX4 88 "RoamingHouse$CallFile" "state" "I") (by decide +kernel)) rfl dX4_send_14 ?_
  refine lv_if_ne (tgt := 27) hx hb dX4_send_17 (by decide) (fun c5 => ?_) (fun c5 => ?_)
  · have hbad : ¬ v 8 i 2 = 0 ∨ v 8 i 3 = 0 := Or.inl c5
    exact rh_throw hx hb hlf "java/lang/IllegalStateException" "the file is not a draft, or has no calls" 73 101 77 (by decide) (by decide) (by decide +kernel) rh_t3b rh_t3g hown (hts (.classLink RX4 73 "java/lang/IllegalStateException") (by decide +kernel)) (hts (.initialized "java/lang/IllegalStateException") (by decide +kernel)) (fun w h => hts w (List.mem_cons_of_mem _ (List.mem_append_left _ (List.mem_append_left _ (List.mem_append_right _ (h)))))) hE hS (hl.1.trans hml.symm) dX4_send_27 dX4_send_30 dX4_send_31 dX4_send_33 dX4_send_36 hex hlocks (by decide) (Nat.le_of_ble_eq_true rfl) (by decide) (by decide) (fun H1 _ hk => ⟨Or.inr (Or.inr ⟨rfl, i, hi, he, hg1, hbad⟩), hW.grow hk⟩) (by decide) (by decide)
  · have hd0 := c5
    refine lv_aload_n hx hb dX4_send_20 rfl (lv_at hl 0 rfl) ?_
    refine rh_get (ci := 1) (C := RX1) (T := TX1) (N := 5) (v := .int (v 8 i 3)) hx hb hts (fun _ h => List.mem_cons_of_mem _ (List.mem_append_left _ (List.mem_append_left _ (List.mem_append_left _ (List.mem_append_left _ (List.mem_append_left _ (List.mem_append_left _ (List.mem_append_left _ (List.mem_append_right _ (h)))))))))) hown hE (hW.at 8 i hi) rfl 3 (by decide) (hts (.fieldLink RX4 98 "RoamingHouse$CallFile" "size" "I") (by decide +kernel)) rfl dX4_send_21 ?_
    refine lv_if_ne (tgt := 37) hx hb dX4_send_24 (by decide) (fun c6 => ?_) (fun c6 => ?_)
    · have hs0 := c6
      refine lv_aload_n hx hb dX4_send_37 rfl (lv_at hl 0 rfl) ?_
      refine rh_get (ci := 1) (C := RX1) (T := TX1) (N := 5) (v := .ref (ad 6 (r 8 i))) hx hb hts (fun _ h => List.mem_cons_of_mem _ (List.mem_append_left _ (List.mem_append_left _ (List.mem_append_left _ (List.mem_append_left _ (List.mem_append_left _ (List.mem_append_left _ (List.mem_append_left _ (List.mem_append_right _ (h)))))))))) hown hE (hW.at 8 i hi) rfl 0 (by decide) (hts (.fieldLink RX4 103 "RoamingHouse$CallFile" "pair" "LRoamingHouse$Pair;") (by decide +kernel)) rfl dX4_send_38 ?_
      refine lv_astore (lv' := [(4, .ref (ad 6 (r 8 i))), (3, .ref (ad 8 i)), (0, .ref (ad 0 0)), (1, .int x), (2, .int y)]) hx hb dX4_send_41 hl (by decide) rfl (fun ls hl => ?_)
      refine lv_iload_n hx hb dX4_send_43 rfl (lv_at hl 4 rfl) ?_
      refine lv_aload hx hb dX4_send_44 (lv_at hl 0 rfl) ?_
      refine rh_get (ci := 3) (C := RX3) (T := TX3) (N := 7) (v := .int (v 6 (r 8 i) 1)) hx hb hts (fun _ h => List.mem_cons_of_mem _ (List.mem_append_left _ (List.mem_append_left _ (List.mem_append_left _ (List.mem_append_left _ (List.mem_append_left _ (List.mem_append_left _ (List.mem_append_right _ (h))))))))) hown hE (hW.at 6 (r 8 i) (hr8 _ hi)) rfl 1 (by decide) (hts (.fieldLink RX4 107 "RoamingHouse$Pair" "expectedNumber" "I") (by decide +kernel)) rfl dX4_send_46 ?_
      refine lv_icmp_lt (tgt := 62) hx hb dX4_send_49 (by decide) (fun c7 => ?_) (fun c7 => ?_)
      · have hsd : c_send r v nf nc i y = wr v 8 i 2 1 := if_pos (Or.inl c7)
        refine lv_aload_n hx hb dX4_send_62 rfl (lv_at hl 1 rfl) ?_
        refine lv_iconst (v := 1) hx hb dX4_send_63 (by decide) ?_
        refine rh_put (ci := 1) (C := RX1) (T := TX1) (N := 5) (x := 1) hx hb hts (fun _ h => List.mem_cons_of_mem _ (List.mem_append_left _ (List.mem_append_left _ (List.mem_append_left _ (List.mem_append_left _ (List.mem_append_left _ (List.mem_append_left _ (List.mem_append_left _ (List.mem_append_right _ (h)))))))))) tyX1 tyX1_ok nmX1 hown hE hW hD hS rfl 8 i hi rfl 2 (by decide) (hts (.fieldLink RX4 88 "RoamingHouse$CallFile" "state" "I") (by decide +kernel)) rfl rfl rfl (Nat.le_of_ble_eq_true rfl) rfl dX4_send_64 (fun H locs hW hS => ?_)
        refine lv_goto (tgt := 97) hx hb dX4_send_67 (by decide) ?_
        refine lv_aload_n hx hb dX4_send_97 rfl (lv_at hl 1 rfl) ?_
        refine rh_get (ci := 1) (C := RX1) (T := TX1) (N := 5) (v := .int 1) hx hb hts (fun _ h => List.mem_cons_of_mem _ (List.mem_append_left _ (List.mem_append_left _ (List.mem_append_left _ (List.mem_append_left _ (List.mem_append_left _ (List.mem_append_left _ (List.mem_append_left _ (List.mem_append_right _ (h)))))))))) hown hE (hW.at 8 i hi) rfl 2 (by decide) (hts (.fieldLink RX4 88 "RoamingHouse$CallFile" "state" "I") (by decide +kernel)) (show some (Value.int ((wr v 8 i 2 1) 8 i 2)) = some (Value.int (1)) from by simp [wr_at]) dX4_send_98 ?_
        exact rh_iret hx hb hr hlocks ⟨i, hi, he, hg1, hd0, hs0, by rw [hsd]; simp [wr_at], by rw [hsd]; exact hW⟩ hS (by decide) (by decide) dX4_send_101
      · have hlt := c7
        refine lv_aload_n hx hb dX4_send_52 rfl (lv_at hl 2 rfl) ?_
        refine lv_aload hx hb dX4_send_53 (lv_at hl 0 rfl) ?_
        refine lv_iload_n hx hb dX4_send_55 rfl (lv_at hl 4 rfl) ?_
        refine rh_calln (vx_runV (As := [.ref (ad 6 (r 8 i)), .int y]) (rest := []) ⟨hx, hb, hml, hown, hts⟩ (ct_X4_waitingFile l hD hwf (r 8 i) (hr8 _ hi) y) (cwV 2 hts gX4_send_X4_waitingFile rfl rfl rfl (by decide +kernel) ⟨by decide, by decide⟩) (rh_preV hE hS hA (hW.at 0 0 Nat.zero_lt_one) rfl hW) rfl rfl hl.1 rfl (lv_room (Nat.le_of_ble_eq_true rfl)) dX4_send_56 ⟨by decide, by decide⟩) hS (fun o H locs hN8 hS => ?_)
        obtain ⟨⟨jw, hjw, hwt, rfl⟩ | ⟨hwt, rfl⟩, hW⟩ := hN8
        · have hsd : c_send r v nf nc i y = wr v 8 i 2 1 := if_pos (Or.inr (by rw [hwt]; exact Option.some_ne_none _))
          refine W.eq (g2 := F0 m 59 ls [.ref (ad 8 jw)]) rfl ?_
          refine lv_ifnull hx hb dX4_send_59 ?_
          refine lv_aload_n hx hb dX4_send_62 rfl (lv_at hl 1 rfl) ?_
          refine lv_iconst (v := 1) hx hb dX4_send_63 (by decide) ?_
          refine rh_put (ci := 1) (C := RX1) (T := TX1) (N := 5) (x := 1) hx hb hts (fun _ h => List.mem_cons_of_mem _ (List.mem_append_left _ (List.mem_append_left _ (List.mem_append_left _ (List.mem_append_left _ (List.mem_append_left _ (List.mem_append_left _ (List.mem_append_left _ (List.mem_append_right _ (h)))))))))) tyX1 tyX1_ok nmX1 hown hE hW hD hS rfl 8 i hi rfl 2 (by decide) (hts (.fieldLink RX4 88 "RoamingHouse$CallFile" "state" "I") (by decide +kernel)) rfl rfl rfl (Nat.le_of_ble_eq_true rfl) rfl dX4_send_64 (fun H locs hW hS => ?_)
          refine lv_goto (tgt := 97) hx hb dX4_send_67 (by decide) ?_
          refine lv_aload_n hx hb dX4_send_97 rfl (lv_at hl 1 rfl) ?_
          refine rh_get (ci := 1) (C := RX1) (T := TX1) (N := 5) (v := .int 1) hx hb hts (fun _ h => List.mem_cons_of_mem _ (List.mem_append_left _ (List.mem_append_left _ (List.mem_append_left _ (List.mem_append_left _ (List.mem_append_left _ (List.mem_append_left _ (List.mem_append_left _ (List.mem_append_right _ (h)))))))))) hown hE (hW.at 8 i hi) rfl 2 (by decide) (hts (.fieldLink RX4 88 "RoamingHouse$CallFile" "state" "I") (by decide +kernel)) (show some (Value.int ((wr v 8 i 2 1) 8 i 2)) = some (Value.int (1)) from by simp [wr_at]) dX4_send_98 ?_
          exact rh_iret hx hb hr hlocks ⟨i, hi, he, hg1, hd0, hs0, by rw [hsd]; simp [wr_at], by rw [hsd]; exact hW⟩ hS (by decide) (by decide) dX4_send_101
        · have hnd : ¬ (y < v 6 (r 8 i) 1 ∨ c_wait r v nf (r 8 i) y ≠ none) := fun z => z.elim hlt (fun w => w hwt)
          refine W.eq (g2 := F0 m 59 ls [.null]) rfl ?_
          refine lv_ifnullN (tgt := 70) hx hb dX4_send_59 (by decide) ?_
          refine lv_iload_n hx hb dX4_send_70 rfl (lv_at hl 4 rfl) ?_
          refine lv_aload hx hb dX4_send_71 (lv_at hl 0 rfl) ?_
          refine rh_get (ci := 3) (C := RX3) (T := TX3) (N := 7) (v := .int (v 6 (r 8 i) 1)) hx hb hts (fun _ h => List.mem_cons_of_mem _ (List.mem_append_left _ (List.mem_append_left _ (List.mem_append_left _ (List.mem_append_left _ (List.mem_append_left _ (List.mem_append_left _ (List.mem_append_right _ (h))))))))) hown hE (hW.at 6 (r 8 i) (hr8 _ hi)) rfl 1 (by decide) (hts (.fieldLink RX4 107 "RoamingHouse$Pair" "expectedNumber" "I") (by decide +kernel)) rfl dX4_send_73 ?_
          refine lv_icmp_le (tgt := 92) hx hb dX4_send_76 (by decide) (fun c9 => ?_) (fun c9 => ?_)
          · have hsd : c_send r v nf nc i y = c_all r nf nc (r 8 i) 30 v (some i) := (if_neg hnd).trans (if_neg (le_nlt c9))
            refine lv_aload_n hx hb dX4_send_92 rfl (lv_at hl 2 rfl) ?_
            refine lv_aload_n hx hb dX4_send_93 rfl (lv_at hl 1 rfl) ?_
            refine rh_calln (vx_runV (As := [.ref (ad 8 i)]) (rest := []) ⟨hx, hb, hml, hown, hts⟩ (ct_X4_lookAtAllFrom l hD hwf i hi) (cwV 1 hts gX4_send_X4_lookAtAllFrom rfl rfl rfl (by decide +kernel) ⟨by decide, by decide⟩) (rh_preV hE hS hA (hW.at 0 0 Nat.zero_lt_one) rfl hW) rfl rfl hl.1 rfl (lv_room (Nat.le_of_ble_eq_true rfl)) dX4_send_94 ⟨by decide, by decide⟩) hS (fun o H locs hN10 hS => ?_)
            obtain ⟨rfl, hW⟩ := hN10
            refine W.eq (g2 := F0 m 97 ls []) rfl ?_
            refine lv_aload_n hx hb dX4_send_97 rfl (lv_at hl 1 rfl) ?_
            refine rh_get (ci := 1) (C := RX1) (T := TX1) (N := 5) (v := .int ((c_all r nf nc (r 8 i) 30 v (some i)) 8 i 2)) hx hb hts (fun _ h => List.mem_cons_of_mem _ (List.mem_append_left _ (List.mem_append_left _ (List.mem_append_left _ (List.mem_append_left _ (List.mem_append_left _ (List.mem_append_left _ (List.mem_append_left _ (List.mem_append_right _ (h)))))))))) hown hE (hW.at 8 i hi) rfl 2 (by decide) (hts (.fieldLink RX4 88 "RoamingHouse$CallFile" "state" "I") (by decide +kernel)) rfl dX4_send_98 ?_
            exact rh_iret hx hb hr hlocks ⟨i, hi, he, hg1, hd0, hs0, by rw [hsd], by rw [hsd]; exact hW⟩ hS (by decide) (by decide) dX4_send_101
          · have hsd : c_send r v nf nc i y = wr (wr v 8 i 4 y) 8 i 2 2 := (if_neg hnd).trans (if_pos (nle_lt c9))
            refine lv_aload_n hx hb dX4_send_79 rfl (lv_at hl 1 rfl) ?_
            refine lv_iload_n hx hb dX4_send_80 rfl (lv_at hl 4 rfl) ?_
            refine rh_put (ci := 1) (C := RX1) (T := TX1) (N := 5) (x := y) hx hb hts (fun _ h => List.mem_cons_of_mem _ (List.mem_append_left _ (List.mem_append_left _ (List.mem_append_left _ (List.mem_append_left _ (List.mem_append_left _ (List.mem_append_left _ (List.mem_append_left _ (List.mem_append_right _ (h)))))))))) tyX1 tyX1_ok nmX1 hown hE hW hD hS rfl 8 i hi rfl 4 (by decide) (hts (.fieldLink RX4 114 "RoamingHouse$CallFile" "number" "I") (by decide +kernel)) rfl rfl rfl (Nat.le_of_ble_eq_true rfl) rfl dX4_send_81 (fun H locs hW hS => ?_)
            refine lv_aload_n hx hb dX4_send_84 rfl (lv_at hl 1 rfl) ?_
            refine lv_iconst (v := 2) hx hb dX4_send_85 (by decide) ?_
            refine rh_put (ci := 1) (C := RX1) (T := TX1) (N := 5) (x := 2) hx hb hts (fun _ h => List.mem_cons_of_mem _ (List.mem_append_left _ (List.mem_append_left _ (List.mem_append_left _ (List.mem_append_left _ (List.mem_append_left _ (List.mem_append_left _ (List.mem_append_left _ (List.mem_append_right _ (h)))))))))) tyX1 tyX1_ok nmX1 hown hE hW hD hS rfl 8 i hi rfl 2 (by decide) (hts (.fieldLink RX4 88 "RoamingHouse$CallFile" "state" "I") (by decide +kernel)) rfl rfl rfl (Nat.le_of_ble_eq_true rfl) rfl dX4_send_86 (fun H locs hW hS => ?_)
            refine lv_goto (tgt := 97) hx hb dX4_send_89 (by decide) ?_
            refine lv_aload_n hx hb dX4_send_97 rfl (lv_at hl 1 rfl) ?_
            refine rh_get (ci := 1) (C := RX1) (T := TX1) (N := 5) (v := .int 2) hx hb hts (fun _ h => List.mem_cons_of_mem _ (List.mem_append_left _ (List.mem_append_left _ (List.mem_append_left _ (List.mem_append_left _ (List.mem_append_left _ (List.mem_append_left _ (List.mem_append_left _ (List.mem_append_right _ (h)))))))))) hown hE (hW.at 8 i hi) rfl 2 (by decide) (hts (.fieldLink RX4 88 "RoamingHouse$CallFile" "state" "I") (by decide +kernel)) (show some (Value.int ((wr (wr v 8 i 4 y) 8 i 2 2) 8 i 2)) = some (Value.int (2)) from by simp [wr_at]) dX4_send_98 ?_
            exact rh_iret hx hb hr hlocks ⟨i, hi, he, hg1, hd0, hs0, by rw [hsd]; simp [wr_at], by rw [hsd]; exact hW⟩ hS (by decide) (by decide) dX4_send_101
    · have hbad : ¬ v 8 i 2 = 0 ∨ v 8 i 3 = 0 := Or.inr c6
      exact rh_throw hx hb hlf "java/lang/IllegalStateException" "the file is not a draft, or has no calls" 73 101 77 (by decide) (by decide) (by decide +kernel) rh_t3b rh_t3g hown (hts (.classLink RX4 73 "java/lang/IllegalStateException") (by decide +kernel)) (hts (.initialized "java/lang/IllegalStateException") (by decide +kernel)) (fun w h => hts w (List.mem_cons_of_mem _ (List.mem_append_left _ (List.mem_append_left _ (List.mem_append_right _ (h)))))) hE hS (hl.1.trans hml.symm) dX4_send_27 dX4_send_30 dX4_send_31 dX4_send_33 dX4_send_36 hex hlocks (by decide) (Nat.le_of_ble_eq_true rfl) (by decide) (by decide) (fun H1 _ hk => ⟨Or.inr (Or.inr ⟨rfl, i, hi, he, hg1, hbad⟩), hW.grow hk⟩) (by decide) (by decide)
set_option maxHeartbeats 4000000 in
set_option maxRecDepth 100000 in
/-- what a file is -/
theorem ct_X4_stateOf (l : Launch) (hlf : l.stackTraces = false) {G : va_G} {ca : Nat → ClassId} {A : Nat → Prop} {ad : Nat → Nat → Nat} {nf nc : Nat} {r : rh_R} {v : rh_V} (hD : rh_D A ad (fun k i => i < rh_n nf nc k)) (hwf : rh_wf nf nc r v) (x : Int32) : rh_M l yX4_stateOf wsX4_stateOf ({ frames := 8, cells := 5, slots := 40, locals := 240 } : Room) G ca A [.ref (ad 0 0), .int x] (rh_W G ca ad nf nc r v) (fun o H => (∃ i : Nat, i < nf ∧ x = nI i ∧ o = some (.int (v 8 i 2)) ∧ rh_W G ca ad nf nc r v H)) (fun E H => (E = exn 1 ∧ ¬ ix x nf) ∧ rh_W G ca ad nf nc r v H) 5 40 := by
  obtain ⟨hnf, hnc, hr8, hr9, hfc, hcc, hst, ⟨tt, htt, hnow⟩, hai⟩ := id hwf
  refine rh_enter (cc := cX4_stateOf) (maxL := 2) (ret := (some .int)) (by decide) rfl (Nat.le_of_ble_eq_true rfl) ?_
  intro p e s m below meth c ls hx hb hr hml hown hts hlocks hex hin hE hA hW hl
  have hS : va_S A s.heap s.heap [] := va_S.rf
  have hl : lv_has ls 2 [(0, .ref (ad 0 0)), (1, .int x)] := hl
  refine lv_aload_n hx hb dX4_stateOf_0 rfl (lv_at hl 0 rfl) ?_
  refine lv_iload_n hx hb dX4_stateOf_1 rfl (lv_at hl 1 rfl) ?_
  refine rh_call (vx_runV (As := [.int x]) (rest := []) ⟨hx, hb, hml, hown, hts⟩ (ct_X4_fileAt l hlf hD hwf x) (cwV 1 hts gX4_stateOf_X4_fileAt rfl rfl rfl (by decide +kernel) ⟨by decide, by decide⟩) (rh_preV hE hS hA (hW.at 0 0 Nat.zero_lt_one) rfl hW) rfl rfl hl.1 rfl (lv_room (Nat.le_of_ble_eq_true rfl)) dX4_stateOf_2 ⟨by decide, by decide⟩) hS (fun E ce q9 H locs hX2 hS g1 g2 g3 => rh_out hex hlocks g1 g2 g3 ⟨hX2.1, hX2.2⟩ hS (by decide) (by decide)) (fun o H locs hN1 hS => ?_)
  obtain ⟨⟨i, hi, he, rfl⟩, hW⟩ := hN1
  refine W.eq (g2 := F0 m 5 ls [.ref (ad 8 i)]) rfl ?_
  refine rh_get (ci := 1) (C := RX1) (T := TX1) (N := 5) (v := .int (v 8 i 2)) hx hb hts (fun _ h => List.mem_cons_of_mem _ (List.mem_append_left _ (List.mem_append_left _ (List.mem_append_right _ (h))))) hown hE (hW.at 8 i hi) rfl 2 (by decide) (hts (.fieldLink RX4 88 "RoamingHouse$CallFile" "state" "I") (by decide +kernel)) rfl dX4_stateOf_5 ?_
  exact rh_iret hx hb hr hlocks ⟨i, hi, he, rfl, hW⟩ hS (by decide) (by decide) dX4_stateOf_8
set_option maxHeartbeats 4000000 in
set_option maxRecDepth 100000 in
/-- the number that a pair expects -/
theorem ct_X4_expected (l : Launch) (hlf : l.stackTraces = false) {G : va_G} {ca : Nat → ClassId} {A : Nat → Prop} {ad : Nat → Nat → Nat} {nf nc : Nat} {r : rh_R} {v : rh_V} (hD : rh_D A ad (fun k i => i < rh_n nf nc k)) (hwf : rh_wf nf nc r v) (x y : Int32) : rh_M l yX4_expected wsX4_expected ({ frames := 8, cells := 5, slots := 40, locals := 240 } : Room) G ca A [.ref (ad 0 0), .int x, .int y] (rh_W G ca ad nf nc r v) (fun o H => (∃ h k : Nat, h < 4 ∧ k < 4 ∧ h ≠ k ∧ x = nI h ∧ y = nI k ∧ o = some (.int (v 6 (h * 4 + k) 1)) ∧ rh_W G ca ad nf nc r v H)) (fun E H => (E = exn 1 ∧ ¬ (ix x 4 ∧ ix y 4) ∨ E = exn 2 ∧ ix x 4 ∧ ix y 4 ∧ x = y) ∧ rh_W G ca ad nf nc r v H) 5 40 := by
  obtain ⟨hnf, hnc, hr8, hr9, hfc, hcc, hst, ⟨tt, htt, hnow⟩, hai⟩ := id hwf
  refine rh_enter (cc := cX4_expected) (maxL := 3) (ret := (some .int)) (by decide) rfl (Nat.le_of_ble_eq_true rfl) ?_
  intro p e s m below meth c ls hx hb hr hml hown hts hlocks hex hin hE hA hW hl
  have hS : va_S A s.heap s.heap [] := va_S.rf
  have hl : lv_has ls 3 [(0, .ref (ad 0 0)), (1, .int x), (2, .int y)] := hl
  refine lv_aload_n hx hb dX4_expected_0 rfl (lv_at hl 0 rfl) ?_
  refine lv_iload_n hx hb dX4_expected_1 rfl (lv_at hl 1 rfl) ?_
  refine lv_iload_n hx hb dX4_expected_2 rfl (lv_at hl 2 rfl) ?_
  refine rh_call (vx_runV (As := [.int x, .int y]) (rest := []) ⟨hx, hb, hml, hown, hts⟩ (ct_X4_pairAt l hlf hD x y) (cwV 2 hts gX4_expected_X4_pairAt rfl rfl rfl (by decide +kernel) ⟨by decide, by decide⟩) (rh_preV hE hS hA (hW.at 0 0 Nat.zero_lt_one) rfl hW) rfl rfl hl.1 rfl (lv_room (Nat.le_of_ble_eq_true rfl)) dX4_expected_3 ⟨by decide, by decide⟩) hS (fun E ce q9 H locs hX2 hS g1 g2 g3 => rh_out hex hlocks g1 g2 g3 ⟨hX2.1, hX2.2⟩ hS (by decide) (by decide)) (fun o H locs hN1 hS => ?_)
  obtain ⟨⟨h, k, hh, hk, hne, hxh, hyk, rfl⟩, hW⟩ := hN1
  refine W.eq (g2 := F0 m 6 ls [.ref (ad 6 (h * 4 + k))]) rfl ?_
  refine rh_get (ci := 3) (C := RX3) (T := TX3) (N := 7) (v := .int (v 6 (h * 4 + k) 1)) hx hb hts (fun _ h => List.mem_cons_of_mem _ (List.mem_append_left _ (List.mem_append_left _ (List.mem_append_left _ (List.mem_append_right _ (h)))))) hown hE (hW.at 6 (h * 4 + k) (rh_pq hh hk).2) rfl 1 (by decide) (hts (.fieldLink RX4 107 "RoamingHouse$Pair" "expectedNumber" "I") (by decide +kernel)) rfl dX4_expected_6 ?_
  exact rh_iret hx hb hr hlocks ⟨h, k, hh, hk, hne, hxh, hyk, rfl, hW⟩ hS (by decide) (by decide) dX4_expected_9
set_option maxHeartbeats 4000000 in
set_option maxRecDepth 100000 in
/-- how many numbers are lacking -/
theorem ct_X4_lacking (l : Launch) (hlf : l.stackTraces = false) {G : va_G} {ca : Nat → ClassId} {A : Nat → Prop} {ad : Nat → Nat → Nat} {nf nc : Nat} {r : rh_R} {v : rh_V} (hD : rh_D A ad (fun k i => i < rh_n nf nc k)) (hwf : rh_wf nf nc r v) (x y : Int32) : rh_M l yX4_lacking wsX4_lacking ({ frames := 8, cells := 5, slots := 40, locals := 240 } : Room) G ca A [.ref (ad 0 0), .int x, .int y] (rh_W G ca ad nf nc r v) (fun o H => (∃ h k : Nat, h < 4 ∧ k < 4 ∧ h ≠ k ∧ x = nI h ∧ y = nI k ∧ o = some (.int (if c_wn r v (h * 4 + k) nf = 0 then 0 else c_wg r v (h * 4 + k) nf - v 6 (h * 4 + k) 1 + 1 - c_wn r v (h * 4 + k) nf)) ∧ rh_W G ca ad nf nc r v H)) (fun E H => (E = exn 1 ∧ ¬ (ix x 4 ∧ ix y 4) ∨ E = exn 2 ∧ ix x 4 ∧ ix y 4 ∧ x = y) ∧ rh_W G ca ad nf nc r v H) 5 40 := by
  obtain ⟨hnf, hnc, hr8, hr9, hfc, hcc, hst, ⟨tt, htt, hnow⟩, hai⟩ := id hwf
  refine rh_enter (cc := cX4_lacking) (maxL := 8) (ret := (some .int)) (by decide) rfl (Nat.le_of_ble_eq_true rfl) ?_
  intro p e s m below meth c ls hx hb hr hml hown hts hlocks hex hin hE hA hW hl
  have hS : va_S A s.heap s.heap [] := va_S.rf
  have hl : lv_has ls 8 [(0, .ref (ad 0 0)), (1, .int x), (2, .int y)] := hl
  refine lv_aload_n hx hb dX4_lacking_0 rfl (lv_at hl 0 rfl) ?_
  refine lv_iload_n hx hb dX4_lacking_1 rfl (lv_at hl 1 rfl) ?_
  refine lv_iload_n hx hb dX4_lacking_2 rfl (lv_at hl 2 rfl) ?_
  refine rh_call (vx_runV (As := [.int x, .int y]) (rest := []) ⟨hx, hb, hml, hown, hts⟩ (ct_X4_pairAt l hlf hD x y) (cwV 2 hts gX4_lacking_X4_pairAt rfl rfl rfl (by decide +kernel) ⟨by decide, by decide⟩) (rh_preV hE hS hA (hW.at 0 0 Nat.zero_lt_one) rfl hW) rfl rfl hl.1 rfl (lv_room (Nat.le_of_ble_eq_true rfl)) dX4_lacking_3 ⟨by decide, by decide⟩) hS (fun E ce q9 H locs hX2 hS g1 g2 g3 => rh_out hex hlocks g1 g2 g3 ⟨hX2.1, hX2.2⟩ hS (by decide) (by decide)) (fun o H locs hN1 hS => ?_)
  obtain ⟨⟨h, k, hh, hk, hne, hxh, hyk, rfl⟩, hW⟩ := hN1
  refine W.eq (g2 := F0 m 6 ls [.ref (ad 6 (h * 4 + k))]) rfl ?_
  refine lv_astore_n (lv' := [(3, .ref (ad 6 (h * 4 + k))), (0, .ref (ad 0 0)), (1, .int x), (2, .int y)]) hx hb dX4_lacking_6 rfl hl (by decide) rfl (fun ls hl => ?_)
  refine lv_iconst (v := 0) hx hb dX4_lacking_7 (by decide) ?_
  refine lv_istore (lv' := [(4, .int 0), (3, .ref (ad 6 (h * 4 + k))), (0, .ref (ad 0 0)), (1, .int x), (2, .int y)]) hx hb dX4_lacking_8 hl (by decide) rfl (fun ls hl => ?_)
  refine lv_iconst (v := 0) hx hb dX4_lacking_10 (by decide) ?_
  refine lv_istore (lv' := [(5, .int 0), (4, .int 0), (3, .ref (ad 6 (h * 4 + k))), (0, .ref (ad 0 0)), (1, .int x), (2, .int y)]) hx hb dX4_lacking_11 hl (by decide) rfl (fun ls hl => ?_)
  refine lv_iconst (v := 0) hx hb dX4_lacking_13 (by decide) ?_
  refine lv_istore (lv' := [(6, .int 0), (5, .int 0), (4, .int 0), (3, .ref (ad 6 (h * 4 + k))), (0, .ref (ad 0 0)), (1, .int x), (2, .int y)]) hx hb dX4_lacking_14 hl (by decide) rfl (fun ls hl => ?_)
  have loop16 : ∀ (n : Nat) (j : Nat) (w : Int32) (g : Int32) (H : Heap) (locs : List Loc) (ls : Array Slot), nf + 1 ≤ j + n → j ≤ nf → w = c_wn r v (h * 4 + k) j → g = c_wg r v (h * 4 + k) j → rh_W G ca ad nf nc r v H → va_S A s.heap H locs → lv_has ls 8 [(0, .ref (ad 0 0)), (1, .int x), (2, .int y), (3, .ref (ad 6 (h * 4 + k))), (4, .int w), (5, .int g), (6, .int (nI j))] → W p l e ({ frames := 8, cells := 5, slots := 40, locals := 240 } : Room) s m ([.ref (ad 0 0), .int x, .int y] : List Value).toArray below meth c H locs (0 + 1) (0 + 6) (vx_MQ below (rh_Q A (fun o H => (∃ h k : Nat, h < 4 ∧ k < 4 ∧ h ≠ k ∧ x = nI h ∧ y = nI k ∧ o = some (.int (if c_wn r v (h * 4 + k) nf = 0 then 0 else c_wg r v (h * 4 + k) nf - v 6 (h * 4 + k) 1 + 1 - c_wn r v (h * 4 + k) nf)) ∧ rh_W G ca ad nf nc r v H))) (rh_XC A (fun E H => (E = exn 1 ∧ ¬ (ix x 4 ∧ ix y 4) ∨ E = exn 2 ∧ ix x 4 ∧ ix y 4 ∧ x = y) ∧ rh_W G ca ad nf nc r v H)) ([.ref (ad 0 0), .int x, .int y] : List Value).toArray s 5 40 A) (F0 m 16 ls []) := by
    intro n
    induction n with
    | zero => intro j w g H locs ls hjn hj hw hg hW hS hl; exact absurd hjn (by omega)
    | succ n ih =>
      intro j w g H locs ls hjn hj hw hg hW hS hl
      refine lv_iload hx hb dX4_lacking_16 (lv_at hl 6 rfl) ?_
      refine lv_aload_n hx hb dX4_lacking_18 rfl (lv_at hl 0 rfl) ?_
      refine rh_get (ci := 4) (C := RX4) (T := TX4) (N := 7) (v := .int (v 0 0 3)) hx hb hts (fun _ h => List.mem_cons_of_mem _ (List.mem_append_left _ (List.mem_append_left _ (List.mem_append_left _ (List.mem_append_left _ (List.mem_append_right _ (h))))))) hown hE (hW.at 0 0 Nat.zero_lt_one) rfl 3 (by decide) (hts (.fieldLink RX4 27 "RoamingHouse" "fileCount" "I") (by decide +kernel)) rfl dX4_lacking_19 ?_
      refine lv_icmp_ge (tgt := 73) hx hb dX4_lacking_22 (by decide) (fun c3 => ?_) (fun c3 => ?_)
      · have hjf : j = nf := by
          rcases Nat.lt_or_ge j nf with z | z
          · exact absurd (by rw [← hfc]; exact c3) (nI_ge z (by omega))
          · omega
        refine lv_iload hx hb dX4_lacking_73 (lv_at hl 4 rfl) ?_
        refine lv_if_ne (tgt := 82) hx hb dX4_lacking_75 (by decide) (fun c4 => ?_) (fun c4 => ?_)
        · have hz : ¬ c_wn r v (h * 4 + k) nf = 0 := by rw [← hjf, ← hw]; exact c4
          refine lv_iload hx hb dX4_lacking_82 (lv_at hl 5 rfl) ?_
          refine lv_aload_n hx hb dX4_lacking_84 rfl (lv_at hl 3 rfl) ?_
          refine rh_get (ci := 3) (C := RX3) (T := TX3) (N := 7) (v := .int (v 6 (h * 4 + k) 1)) hx hb hts (fun _ h => List.mem_cons_of_mem _ (List.mem_append_left _ (List.mem_append_left _ (List.mem_append_right _ (h))))) hown hE (hW.at 6 (h * 4 + k) (rh_pq hh hk).2) rfl 1 (by decide) (hts (.fieldLink RX4 107 "RoamingHouse$Pair" "expectedNumber" "I") (by decide +kernel)) rfl dX4_lacking_85 ?_
          refine lv_isub hx hb dX4_lacking_88 ?_
          refine lv_iconst (v := 1) hx hb dX4_lacking_89 (by decide) ?_
          refine lv_iadd hx hb dX4_lacking_90 ?_
          refine lv_iload hx hb dX4_lacking_91 (lv_at hl 4 rfl) ?_
          refine lv_isub hx hb dX4_lacking_93 ?_
          exact rh_iret hx hb hr hlocks ⟨h, k, hh, hk, hne, hxh, hyk, by rw [if_neg hz, hw, hg, hjf], hW⟩ hS (by decide) (by decide) dX4_lacking_94
        · have hz : c_wn r v (h * 4 + k) nf = 0 := by rw [← hjf, ← hw]; exact c4
          refine lv_iconst (v := 0) hx hb dX4_lacking_78 (by decide) ?_
          refine lv_goto (tgt := 94) hx hb dX4_lacking_79 (by decide) ?_
          exact rh_iret hx hb hr hlocks ⟨h, k, hh, hk, hne, hxh, hyk, by rw [if_pos hz], hW⟩ hS (by decide) (by decide) dX4_lacking_94
      · have hjl : j < nf := by
          rcases Nat.lt_or_ge j nf with z | z
          · exact z
          · exact absurd (by rw [hfc]; exact nI_le z (by omega)) c3
        refine lv_aload_n hx hb dX4_lacking_25 rfl (lv_at hl 0 rfl) ?_
        refine rh_get (ci := 4) (C := RX4) (T := TX4) (N := 7) (v := .ref (ad 3 0)) hx hb hts (fun _ h => List.mem_cons_of_mem _ (List.mem_append_left _ (List.mem_append_left _ (List.mem_append_left _ (List.mem_append_left _ (List.mem_append_right _ (h))))))) hown hE (hW.at 0 0 Nat.zero_lt_one) rfl 2 (by decide) (hts (.fieldLink RX4 23 "RoamingHouse" "fileRows" "[LRoamingHouse$CallFile;") (by decide +kernel)) rfl dX4_lacking_26 ?_
        refine lv_iload hx hb dX4_lacking_29 (lv_at hl 6 rfl) ?_
        refine rh_qald hx hb hE 5 rfl (hW.at 3 0 Nat.zero_lt_one) j (by omega) (by decide) rfl (q := ad 8 j) (if_pos hjl) dX4_lacking_31 ?_
        refine lv_astore (lv' := [(7, .ref (ad 8 j)), (0, .ref (ad 0 0)), (1, .int x), (2, .int y), (3, .ref (ad 6 (h * 4 + k))), (4, .int w), (5, .int g), (6, .int (nI j))]) hx hb dX4_lacking_32 hl (by decide) rfl (fun ls hl => ?_)
        refine lv_aload hx hb dX4_lacking_34 (lv_at hl 0 rfl) ?_
        refine rh_get (ci := 1) (C := RX1) (T := TX1) (N := 5) (v := .ref (ad 6 (r 8 j))) hx hb hts (fun _ h => List.mem_cons_of_mem _ (List.mem_append_left _ (List.mem_append_left _ (List.mem_append_left _ (List.mem_append_right _ (h)))))) hown hE (hW.at 8 j hjl) rfl 0 (by decide) (hts (.fieldLink RX4 103 "RoamingHouse$CallFile" "pair" "LRoamingHouse$Pair;") (by decide +kernel)) rfl dX4_lacking_36 ?_
        refine lv_aload_n hx hb dX4_lacking_39 rfl (lv_at hl 4 rfl) ?_
        refine lv_acmp_ne (rx := (some (ad 6 (r 8 j)))) (ry := (some (ad 6 (h * 4 + k)))) (tgt := 67) hx hb dX4_lacking_40 (by decide) (fun c5 => ?_) (fun c5 => ?_)
        · refine lv_iinc (v := nI (j + 1)) (lv' := [(6, .int (nI (j + 1))), (7, .ref (ad 8 j)), (0, .ref (ad 0 0)), (1, .int x), (2, .int y), (3, .ref (ad 6 (h * 4 + k))), (4, .int w), (5, .int g)]) hx hb dX4_lacking_67 hl (k := 7) rfl (nI_1 j) (by decide) rfl (fun ls hl => ?_)
          refine lv_goto (tgt := 16) hx hb dX4_lacking_70 (by decide) ?_
          exact ih (j + 1) w g _ _ _ (by omega) (by omega) (by rw [hw]; exact (if_neg (fun z => c5 (congrArg (fun y => some (ad 6 y)) z.1))).symm) (by rw [hg]; exact (if_neg (fun z => c5 (congrArg (fun y => some (ad 6 y)) z.1))).symm) hW hS (lv_sub hl [2, 3, 4, 5, 6, 7, 0] rfl)
        · have hpq : r 8 j = h * 4 + k := (hD.1 6 (r 8 j) 6 (h * 4 + k) (hr8 _ hjl) (rh_pq hh hk).2 (Option.some.inj c5)).2
          refine lv_aload hx hb dX4_lacking_43 (lv_at hl 0 rfl) ?_
          refine rh_get (ci := 1) (C := RX1) (T := TX1) (N := 5) (v := .int (v 8 j 2)) hx hb hts (fun _ h => List.mem_cons_of_mem _ (List.mem_append_left _ (List.mem_append_left _ (List.mem_append_left _ (List.mem_append_right _ (h)))))) hown hE (hW.at 8 j hjl) rfl 2 (by decide) (hts (.fieldLink RX4 88 "RoamingHouse$CallFile" "state" "I") (by decide +kernel)) rfl dX4_lacking_45 ?_
          refine lv_iconst (v := 2) hx hb dX4_lacking_48 (by decide) ?_
          refine lv_icmp_ne (tgt := 67) hx hb dX4_lacking_49 (by decide) (fun c6 => ?_) (fun c6 => ?_)
          · refine lv_iinc (v := nI (j + 1)) (lv' := [(6, .int (nI (j + 1))), (7, .ref (ad 8 j)), (0, .ref (ad 0 0)), (1, .int x), (2, .int y), (3, .ref (ad 6 (h * 4 + k))), (4, .int w), (5, .int g)]) hx hb dX4_lacking_67 hl (k := 7) rfl (nI_1 j) (by decide) rfl (fun ls hl => ?_)
            refine lv_goto (tgt := 16) hx hb dX4_lacking_70 (by decide) ?_
            exact ih (j + 1) w g _ _ _ (by omega) (by omega) (by rw [hw]; exact (if_neg (fun z => c6 z.2)).symm) (by rw [hg]; exact (if_neg (fun z => c6 z.2)).symm) hW hS (lv_sub hl [2, 3, 4, 5, 6, 7, 0] rfl)
          · refine lv_iinc (v := (w + 1)) (lv' := [(4, .int (w + 1)), (7, .ref (ad 8 j)), (0, .ref (ad 0 0)), (1, .int x), (2, .int y), (3, .ref (ad 6 (h * 4 + k))), (5, .int g), (6, .int (nI j))]) hx hb dX4_lacking_52 hl (k := 5) rfl rfl (by decide) rfl (fun ls hl => ?_)
            refine lv_iload hx hb dX4_lacking_55 (lv_at hl 6 rfl) ?_
            refine lv_aload hx hb dX4_lacking_57 (lv_at hl 1 rfl) ?_
            refine rh_get (ci := 1) (C := RX1) (T := TX1) (N := 5) (v := .int (v 8 j 4)) hx hb hts (fun _ h => List.mem_cons_of_mem _ (List.mem_append_left _ (List.mem_append_left _ (List.mem_append_left _ (List.mem_append_right _ (h)))))) hown hE (hW.at 8 j hjl) rfl 4 (by decide) (hts (.fieldLink RX4 114 "RoamingHouse$CallFile" "number" "I") (by decide +kernel)) rfl dX4_lacking_59 ?_
            refine va_mmax hx hb (hml.trans hl.1.symm) hown (hts (.methodLink RX4 121 Lib.Math.max.name) (by decide +kernel)) (hts (.static Lib.Math.max.name) (by decide +kernel)) (hts (.initialized "java/lang/Math") (by decide +kernel)) (hts (.code Lib.Math.max.name Lib.Math.max.code 2 (some .int)) (by decide +kernel)) (by decide) (Nat.le_of_ble_eq_true rfl) (by decide) (by decide) dX4_lacking_62 ?_
            refine lv_istore (lv' := [(5, .int (if g < v 8 j 4 then v 8 j 4 else g)), (4, .int (w + 1)), (7, .ref (ad 8 j)), (0, .ref (ad 0 0)), (1, .int x), (2, .int y), (3, .ref (ad 6 (h * 4 + k))), (6, .int (nI j))]) hx hb dX4_lacking_65 hl (by decide) rfl (fun ls hl => ?_)
            refine lv_iinc (v := nI (j + 1)) (lv' := [(6, .int (nI (j + 1))), (5, .int (if g < v 8 j 4 then v 8 j 4 else g)), (4, .int (w + 1)), (7, .ref (ad 8 j)), (0, .ref (ad 0 0)), (1, .int x), (2, .int y), (3, .ref (ad 6 (h * 4 + k)))]) hx hb dX4_lacking_67 hl (k := 7) rfl (nI_1 j) (by decide) rfl (fun ls hl => ?_)
            refine lv_goto (tgt := 16) hx hb dX4_lacking_70 (by decide) ?_
            exact ih (j + 1) (w + 1) (if g < v 8 j 4 then v 8 j 4 else g) _ _ _ (by omega) (by omega) (by rw [hw]; exact (if_pos ⟨hpq, c6⟩).symm) (by rw [hg]; exact (if_pos ⟨hpq, c6⟩).symm) hW hS (lv_sub hl [4, 5, 6, 7, 2, 1, 0] rfl)
  exact loop16 (nf + 1) 0 0 0 _ _ _ (by omega) (by omega) rfl rfl hW hS (lv_sub hl [4, 5, 6, 3, 2, 1, 0] rfl)
set_option maxHeartbeats 4000000 in
set_option maxRecDepth 100000 in
/-- a number of the house -/
theorem ct_X4_calls (l : Launch) {G : va_G} {ca : Nat → ClassId} {A : Nat → Prop} {ad : Nat → Nat → Nat} {nf nc : Nat} {r : rh_R} {v : rh_V} (hD : rh_D A ad (fun k i => i < rh_n nf nc k))  : rh_M l yX4_calls wsX4_calls ({ frames := 0, cells := 0, slots := 0, locals := 0 } : Room) G ca A [.ref (ad 0 0)] (rh_W G ca ad nf nc r v) (fun o H => o = some (.int (v 0 0 5)) ∧ rh_W G ca ad nf nc r v H) rh_no 0 0 := by
  refine rh_enter (cc := cX4_calls) (maxL := 1) (ret := (some .int)) (by decide) rfl (Nat.le_of_ble_eq_true rfl) ?_
  intro p e s m below meth c ls hx hb hr hml hown hts hlocks hex hin hE hA hW hl
  have hS : va_S A s.heap s.heap [] := va_S.rf
  have hl : lv_has ls 1 [(0, .ref (ad 0 0))] := hl
  refine lv_aload_n hx hb dX4_calls_0 rfl (lv_at hl 0 rfl) ?_
  refine rh_get (ci := 4) (C := RX4) (T := TX4) (N := 7) (v := .int (v 0 0 5)) hx hb hts (fun _ h => List.mem_cons_of_mem _ (List.mem_append_right _ (h))) hown hE (hW.at 0 0 Nat.zero_lt_one) rfl 5 (by decide) (hts (.fieldLink RX4 37 "RoamingHouse" "callCount" "I") (by decide +kernel)) rfl dX4_calls_1 ?_
  exact rh_iret hx hb hr hlocks ⟨rfl, hW⟩ hS (by decide) (by decide) dX4_calls_4
set_option maxHeartbeats 4000000 in
set_option maxRecDepth 100000 in
/-- a number of the house -/
theorem ct_X4_month (l : Launch) {G : va_G} {ca : Nat → ClassId} {A : Nat → Prop} {ad : Nat → Nat → Nat} {nf nc : Nat} {r : rh_R} {v : rh_V} (hD : rh_D A ad (fun k i => i < rh_n nf nc k))  : rh_M l yX4_month wsX4_month ({ frames := 0, cells := 0, slots := 0, locals := 0 } : Room) G ca A [.ref (ad 0 0)] (rh_W G ca ad nf nc r v) (fun o H => o = some (.int (v 0 0 6)) ∧ rh_W G ca ad nf nc r v H) rh_no 0 0 := by
  refine rh_enter (cc := cX4_month) (maxL := 1) (ret := (some .int)) (by decide) rfl (Nat.le_of_ble_eq_true rfl) ?_
  intro p e s m below meth c ls hx hb hr hml hown hts hlocks hex hin hE hA hW hl
  have hS : va_S A s.heap s.heap [] := va_S.rf
  have hl : lv_has ls 1 [(0, .ref (ad 0 0))] := hl
  refine lv_aload_n hx hb dX4_month_0 rfl (lv_at hl 0 rfl) ?_
  refine rh_get (ci := 4) (C := RX4) (T := TX4) (N := 7) (v := .int (v 0 0 6)) hx hb hts (fun _ h => List.mem_cons_of_mem _ (List.mem_append_right _ (h))) hown hE (hW.at 0 0 Nat.zero_lt_one) rfl 6 (by decide) (hts (.fieldLink RX4 40 "RoamingHouse" "now" "I") (by decide +kernel)) rfl dX4_month_1 ?_
  exact rh_iret hx hb hr hlocks ⟨rfl, hW⟩ hS (by decide) (by decide) dX4_month_4
set_option maxHeartbeats 4000000 in
set_option maxRecDepth 100000 in
/-- a call, told -/
theorem ct_X4_call (l : Launch) (hlf : l.stackTraces = false) {G : va_G} {ca : Nat → ClassId} {A : Nat → Prop} {ad : Nat → Nat → Nat} {nf nc : Nat} {r : rh_R} {v : rh_V} (hD : rh_D A ad (fun k i => i < rh_n nf nc k)) (hwf : rh_wf nf nc r v) (x : Int32) : rh_M l yX4_call wsX4_call ({ frames := 8, cells := 5, slots := 40, locals := 240 } : Room) G ca A [.ref (ad 0 0), .int x] (rh_W G ca ad nf nc r v) (fun o H => (∃ i : Nat, i < nc ∧ x = nI i ∧ o = some (.int (v 9 i 3)) ∧ rh_W G ca ad nf nc r v H)) (fun E H => (E = exn 1 ∧ ¬ ix x nc) ∧ rh_W G ca ad nf nc r v H) 5 40 := by
  obtain ⟨hnf, hnc, hr8, hr9, hfc, hcc, hst, ⟨tt, htt, hnow⟩, hai⟩ := id hwf
  refine rh_enter (cc := cX4_call) (maxL := 2) (ret := (some .int)) (by decide) rfl (Nat.le_of_ble_eq_true rfl) ?_
  intro p e s m below meth c ls hx hb hr hml hown hts hlocks hex hin hE hA hW hl
  have hS : va_S A s.heap s.heap [] := va_S.rf
  have hl : lv_has ls 2 [(0, .ref (ad 0 0)), (1, .int x)] := hl
  refine lv_aload_n hx hb dX4_call_0 rfl (lv_at hl 0 rfl) ?_
  refine lv_iload_n hx hb dX4_call_1 rfl (lv_at hl 1 rfl) ?_
  refine rh_call (vx_runV (As := [.int x]) (rest := []) ⟨hx, hb, hml, hown, hts⟩ (ct_X4_callAt l hlf hD hwf x) (cwV 1 hts gX4_call_X4_callAt rfl rfl rfl (by decide +kernel) ⟨by decide, by decide⟩) (rh_preV hE hS hA (hW.at 0 0 Nat.zero_lt_one) rfl hW) rfl rfl hl.1 rfl (lv_room (Nat.le_of_ble_eq_true rfl)) dX4_call_2 ⟨by decide, by decide⟩) hS (fun E ce q9 H locs hX2 hS g1 g2 g3 => rh_out hex hlocks g1 g2 g3 ⟨hX2.1, hX2.2⟩ hS (by decide) (by decide)) (fun o H locs hN1 hS => ?_)
  obtain ⟨⟨i, hi, he, rfl⟩, hW⟩ := hN1
  refine W.eq (g2 := F0 m 5 ls [.ref (ad 9 i)]) rfl ?_
  refine rh_get (ci := 0) (C := RX0) (T := TX0) (N := 7) (v := .int (v 9 i 3)) hx hb hts (fun _ h => List.mem_cons_of_mem _ (List.mem_append_left _ (List.mem_append_left _ (List.mem_append_right _ (h))))) hown hE (hW.at 9 i hi) rfl 3 (by decide) (hts (.fieldLink RX4 131 "RoamingHouse$Call" "state" "I") (by decide +kernel)) rfl dX4_call_5 ?_
  exact rh_iret hx hb hr hlocks ⟨i, hi, he, rfl, hW⟩ hS (by decide) (by decide) dX4_call_8
set_option maxHeartbeats 4000000 in
set_option maxRecDepth 100000 in
/-- a call, told -/
theorem ct_X4_monthOf (l : Launch) (hlf : l.stackTraces = false) {G : va_G} {ca : Nat → ClassId} {A : Nat → Prop} {ad : Nat → Nat → Nat} {nf nc : Nat} {r : rh_R} {v : rh_V} (hD : rh_D A ad (fun k i => i < rh_n nf nc k)) (hwf : rh_wf nf nc r v) (x : Int32) : rh_M l yX4_monthOf wsX4_monthOf ({ frames := 8, cells := 5, slots := 40, locals := 240 } : Room) G ca A [.ref (ad 0 0), .int x] (rh_W G ca ad nf nc r v) (fun o H => (∃ i : Nat, i < nc ∧ x = nI i ∧ o = some (.int (v 9 i 4)) ∧ rh_W G ca ad nf nc r v H)) (fun E H => (E = exn 1 ∧ ¬ ix x nc) ∧ rh_W G ca ad nf nc r v H) 5 40 := by
  obtain ⟨hnf, hnc, hr8, hr9, hfc, hcc, hst, ⟨tt, htt, hnow⟩, hai⟩ := id hwf
  refine rh_enter (cc := cX4_monthOf) (maxL := 2) (ret := (some .int)) (by decide) rfl (Nat.le_of_ble_eq_true rfl) ?_
  intro p e s m below meth c ls hx hb hr hml hown hts hlocks hex hin hE hA hW hl
  have hS : va_S A s.heap s.heap [] := va_S.rf
  have hl : lv_has ls 2 [(0, .ref (ad 0 0)), (1, .int x)] := hl
  refine lv_aload_n hx hb dX4_monthOf_0 rfl (lv_at hl 0 rfl) ?_
  refine lv_iload_n hx hb dX4_monthOf_1 rfl (lv_at hl 1 rfl) ?_
  refine rh_call (vx_runV (As := [.int x]) (rest := []) ⟨hx, hb, hml, hown, hts⟩ (ct_X4_callAt l hlf hD hwf x) (cwV 1 hts gX4_monthOf_X4_callAt rfl rfl rfl (by decide +kernel) ⟨by decide, by decide⟩) (rh_preV hE hS hA (hW.at 0 0 Nat.zero_lt_one) rfl hW) rfl rfl hl.1 rfl (lv_room (Nat.le_of_ble_eq_true rfl)) dX4_monthOf_2 ⟨by decide, by decide⟩) hS (fun E ce q9 H locs hX2 hS g1 g2 g3 => rh_out hex hlocks g1 g2 g3 ⟨hX2.1, hX2.2⟩ hS (by decide) (by decide)) (fun o H locs hN1 hS => ?_)
  obtain ⟨⟨i, hi, he, rfl⟩, hW⟩ := hN1
  refine W.eq (g2 := F0 m 5 ls [.ref (ad 9 i)]) rfl ?_
  refine rh_get (ci := 0) (C := RX0) (T := TX0) (N := 7) (v := .int (v 9 i 4)) hx hb hts (fun _ h => List.mem_cons_of_mem _ (List.mem_append_left _ (List.mem_append_left _ (List.mem_append_right _ (h))))) hown hE (hW.at 9 i hi) rfl 4 (by decide) (hts (.fieldLink RX4 132 "RoamingHouse$Call" "acceptedIn" "I") (by decide +kernel)) rfl dX4_monthOf_5 ?_
  exact rh_iret hx hb hr hlocks ⟨i, hi, he, rfl, hW⟩ hS (by decide) (by decide) dX4_monthOf_8
set_option maxHeartbeats 4000000 in
set_option maxRecDepth 100000 in
/-- what is owed for a call -/
theorem ct_X4_owedFor (l : Launch) (hlf : l.stackTraces = false) {G : va_G} {ca : Nat → ClassId} {A : Nat → Prop} {ad : Nat → Nat → Nat} {nf nc : Nat} {r : rh_R} {v : rh_V} (hD : rh_D A ad (fun k i => i < rh_n nf nc k)) (hwf : rh_wf nf nc r v) (x : Int32) : rh_M l yX4_owedFor wsX4_owedFor ({ frames := 8, cells := 5, slots := 40, locals := 240 } : Room) G ca A [.ref (ad 0 0), .int x] (rh_W G ca ad nf nc r v) (fun o H => (∃ i : Nat, i < nc ∧ x = nI i ∧ o = some (.int (c_amt r v i)) ∧ rh_W G ca ad nf nc r v H)) (fun E H => (E = exn 1 ∧ ¬ ix x nc) ∧ rh_W G ca ad nf nc r v H) 5 40 := by
  obtain ⟨hnf, hnc, hr8, hr9, hfc, hcc, hst, ⟨tt, htt, hnow⟩, hai⟩ := id hwf
  refine rh_enter (cc := cX4_owedFor) (maxL := 2) (ret := (some .int)) (by decide) rfl (Nat.le_of_ble_eq_true rfl) ?_
  intro p e s m below meth c ls hx hb hr hml hown hts hlocks hex hin hE hA hW hl
  have hS : va_S A s.heap s.heap [] := va_S.rf
  have hl : lv_has ls 2 [(0, .ref (ad 0 0)), (1, .int x)] := hl
  refine lv_aload_n hx hb dX4_owedFor_0 rfl (lv_at hl 0 rfl) ?_
  refine lv_iload_n hx hb dX4_owedFor_1 rfl (lv_at hl 1 rfl) ?_
  refine rh_call (vx_runV (As := [.int x]) (rest := []) ⟨hx, hb, hml, hown, hts⟩ (ct_X4_callAt l hlf hD hwf x) (cwV 1 hts gX4_owedFor_X4_callAt rfl rfl rfl (by decide +kernel) ⟨by decide, by decide⟩) (rh_preV hE hS hA (hW.at 0 0 Nat.zero_lt_one) rfl hW) rfl rfl hl.1 rfl (lv_room (Nat.le_of_ble_eq_true rfl)) dX4_owedFor_2 ⟨by decide, by decide⟩) hS (fun E ce q9 H locs hX2 hS g1 g2 g3 => rh_out hex hlocks g1 g2 g3 ⟨hX2.1, hX2.2⟩ hS (by decide) (by decide)) (fun o H locs hN1 hS => ?_)
  obtain ⟨⟨i, hi, he, rfl⟩, hW⟩ := hN1
  refine W.eq (g2 := F0 m 5 ls [.ref (ad 9 i)]) rfl ?_
  refine rh_calln (vx_runV (As := []) (rest := []) ⟨hx, hb, hml, hown, hts⟩ (ct_X0_amount l hD hwf i hi) (cwV 0 hts gX4_owedFor_X0_amount rfl rfl rfl (by decide +kernel) ⟨by decide, by decide⟩) (rh_preV hE hS hA (hW.at 9 i hi) rfl hW) rfl rfl hl.1 rfl (lv_room (Nat.le_of_ble_eq_true rfl)) dX4_owedFor_5 ⟨by decide, by decide⟩) hS (fun o H locs hN3 hS => ?_)
  obtain ⟨rfl, hW⟩ := hN3
  refine W.eq (g2 := F0 m 8 ls [.int (c_amt r v i)]) rfl ?_
  exact rh_iret hx hb hr hlocks ⟨i, hi, he, rfl, hW⟩ hS (by decide) (by decide) dX4_owedFor_8
