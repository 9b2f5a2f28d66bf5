/-! ===== the house: amounts ===== -/
set_option maxHeartbeats 4000000 in
set_option maxRecDepth 100000 in
/-- whether a call is discounted -/
theorem ct_X3_discounts (l : Launch) {G : va_G} {ca : Nat → ClassId} {A : Nat → Prop} {ad : Nat → Nat → Nat} {nf nc : Nat} {r : rh_R} {v : rh_V} (hD : rh_D A ad (fun k i => i < rh_n nf nc k)) (q : Nat) (hq : q < 16) (y : Nat) (hy : y < 3) (a : Int32) : rh_M l yX3_discounts wsX3_discounts ({ frames := 0, cells := 0, slots := 0, locals := 0 } : Room) G ca A [.ref (ad 6 q), .int (nI y), .int a] (rh_W G ca ad nf nc r v) (fun o H => ((c_disc v q y a ∧ o = some (.int 1)) ∨ (¬ c_disc v q y a ∧ o = some (.int 0))) ∧ rh_W G ca ad nf nc r v H) rh_no 0 0 := by
  refine rh_enter (cc := cX3_discounts) (maxL := 3) (ret := (some .boolean)) (by decide) rfl (Nat.le_of_ble_eq_true rfl) ?_
  intro p e s m below meth c ls hx hb hr hml hown hts hlocks hex hin hE hA hW hl
  have hS : va_S A s.heap s.heap [] := va_S.rf
  have hl : lv_has ls 3 [(0, .ref (ad 6 q)), (1, .int (nI y)), (2, .int a)] := hl
  refine lv_aload_n hx hb dX3_discounts_0 rfl (lv_at hl 0 rfl) ?_
  refine rh_get (ci := 3) (C := RX3) (T := TX3) (N := 7) (v := .int (v 6 q 5)) hx hb hts (fun _ h => List.mem_cons_of_mem _ (List.mem_append_right _ (h))) hown hE (hW.at 6 q hq) rfl 5 (by decide) (hts (.fieldLink RX3 24 "RoamingHouse$Pair" "goesBack" "Z") (by decide +kernel)) rfl dX3_discounts_1 ?_
  refine lv_if_eq (tgt := 16) hx hb dX3_discounts_4 (by decide) (fun c1 => ?_) (fun c1 => ?_)
  · have hg : (if v 6 q 5 = 0 then a else v 7 q y) = a := if_pos c1
    refine lv_iload_n hx hb dX3_discounts_16 rfl (lv_at hl 2 rfl) ?_
    refine lv_aload_n hx hb dX3_discounts_17 rfl (lv_at hl 0 rfl) ?_
    refine rh_get (ci := 3) (C := RX3) (T := TX3) (N := 7) (v := .int (v 6 q 3)) hx hb hts (fun _ h => List.mem_cons_of_mem _ (List.mem_append_right _ (h))) hown hE (hW.at 6 q hq) rfl 3 (by decide) (hts (.fieldLink RX3 18 "RoamingHouse$Pair" "volume" "I") (by decide +kernel)) rfl dX3_discounts_18 ?_
    refine lv_icmp_lt (tgt := 28) hx hb dX3_discounts_21 (by decide) (fun c2 => ?_) (fun c2 => ?_)
    · have hc : ¬ c_disc v q y a := fun z => z (by rw [hg]; exact c2)
      refine lv_iconst (v := 0) hx hb dX3_discounts_28 (by decide) ?_
      exact rh_zret hx hb hr hlocks rfl ⟨Or.inr ⟨hc, rfl⟩, hW⟩ hS (by decide) (by decide) dX3_discounts_29
    · have hc : c_disc v q y a := fun z => c2 (by rw [← hg]; exact z)
      refine lv_iconst (v := 1) hx hb dX3_discounts_24 (by decide) ?_
      refine lv_goto (tgt := 29) hx hb dX3_discounts_25 (by decide) ?_
      exact rh_zret hx hb hr hlocks rfl ⟨Or.inl ⟨hc, rfl⟩, hW⟩ hS (by decide) (by decide) dX3_discounts_29
  · have hg : (if v 6 q 5 = 0 then a else v 7 q y) = v 7 q y := if_neg c1
    refine lv_aload_n hx hb dX3_discounts_7 rfl (lv_at hl 0 rfl) ?_
    refine rh_get (ci := 3) (C := RX3) (T := TX3) (N := 7) (v := .ref (ad 7 q)) hx hb hts (fun _ h => List.mem_cons_of_mem _ (List.mem_append_right _ (h))) hown hE (hW.at 6 q hq) rfl 6 (by decide) (hts (.fieldLink RX3 28 "RoamingHouse$Pair" "acceptedSeconds" "[I") (by decide +kernel)) rfl dX3_discounts_8 ?_
    refine lv_iload_n hx hb dX3_discounts_11 rfl (lv_at hl 1 rfl) ?_
    refine rh_iald hx hb hE (hW.at 7 q hq) y hy (by decide) rfl dX3_discounts_12 ?_
    refine lv_goto (tgt := 17) hx hb dX3_discounts_13 (by decide) ?_
    refine lv_aload_n hx hb dX3_discounts_17 rfl (lv_at hl 0 rfl) ?_
    refine rh_get (ci := 3) (C := RX3) (T := TX3) (N := 7) (v := .int (v 6 q 3)) hx hb hts (fun _ h => List.mem_cons_of_mem _ (List.mem_append_right _ (h))) hown hE (hW.at 6 q hq) rfl 3 (by decide) (hts (.fieldLink RX3 18 "RoamingHouse$Pair" "volume" "I") (by decide +kernel)) rfl dX3_discounts_18 ?_
    refine lv_icmp_lt (tgt := 28) hx hb dX3_discounts_21 (by decide) (fun c3 => ?_) (fun c3 => ?_)
    · have hc : ¬ c_disc v q y a := fun z => z (by rw [hg]; exact c3)
      refine lv_iconst (v := 0) hx hb dX3_discounts_28 (by decide) ?_
      exact rh_zret hx hb hr hlocks rfl ⟨Or.inr ⟨hc, rfl⟩, hW⟩ hS (by decide) (by decide) dX3_discounts_29
    · have hc : c_disc v q y a := fun z => c3 (by rw [← hg]; exact z)
      refine lv_iconst (v := 1) hx hb dX3_discounts_24 (by decide) ?_
      refine lv_goto (tgt := 29) hx hb dX3_discounts_25 (by decide) ?_
      exact rh_zret hx hb hr hlocks rfl ⟨Or.inl ⟨hc, rfl⟩, hW⟩ hS (by decide) (by decide) dX3_discounts_29
set_option maxHeartbeats 4000000 in
set_option maxRecDepth 100000 in
/-- a call is accepted in a month -/
theorem ct_X0_acceptIn (l : Launch) {G : va_G} {ca : Nat → ClassId} {A : Nat → Prop} {ad : Nat → Nat → Nat} {nf nc : Nat} {r : rh_R} {v : rh_V} (hD : rh_D A ad (fun k i => i < rh_n nf nc k)) (hwf : rh_wf nf nc r v) (k : Nat) (hk : k < nc) (t : Nat) (ht : t < 36) : rh_M l yX0_acceptIn wsX0_acceptIn ({ frames := 1, cells := 0, slots := 0, locals := 30 } : Room) G ca A [.ref (ad 9 k), .int (nI t)] (rh_W G ca ad nf nc r v) (fun o H => o = none ∧ rh_W G ca ad nf nc r (c_acc1 r v k (nI t)) H) rh_no 0 0 := by
  obtain ⟨hnf, hnc, hr8, hr9, hfc, hcc, hst, ⟨tt, htt, hnow⟩, hai⟩ := id hwf
  have hy : t / 12 < 3 := by omega
  have hyr := c_yr_of ht
  refine rh_enter (cc := cX0_acceptIn) (maxL := 3) (ret := none) (by decide) rfl (Nat.le_of_ble_eq_true rfl) ?_
  intro p e s m below meth c ls hx hb hr hml hown hts hlocks hex hin hE hA hW hl
  have hS : va_S A s.heap s.heap [] := va_S.rf
  have hl : lv_has ls 3 [(0, .ref (ad 9 k)), (1, .int (nI t))] := hl
  refine lv_iload_n hx hb dX0_acceptIn_0 rfl (lv_at hl 1 rfl) ?_
  refine rh_callm (va_runSN (As := [.int (nI t)]) (rest := []) ⟨hx, hb, hml, hown, hts⟩ (mt_X4_yearOf l hD (nI t)) ⟨va_cnB 1 hts gX0_acceptIn_X4_yearOf_n52 rfl rfl rfl hE.2.2.2.2.2.1 (hts (.initialized RX4) (by decide +kernel)) (by decide +kernel) ⟨by decide, by decide⟩, (hts (.static yX4_yearOf) (by decide +kernel)), trivial⟩ (rh_pre hE hS hA hW) rfl rfl hl.1 rfl (lv_room (Nat.le_of_ble_eq_true rfl)) dX0_acceptIn_1 ⟨by decide, by decide⟩) hS (fun o H locs hN1 hS => ?_)
  obtain ⟨rfl, hW⟩ := hN1
  refine W.eq (g2 := F0 m 4 ls [.int ((nI t) / 12)]) rfl ?_
  rw [hyr.1]
  refine lv_istore_n (lv' := [(2, .int (nI (t / 12))), (0, .ref (ad 9 k)), (1, .int (nI t))]) hx hb dX0_acceptIn_4 rfl hl (by decide) rfl (fun ls hl => ?_)
  refine lv_aload_n hx hb dX0_acceptIn_5 rfl (lv_at hl 1 rfl) ?_
  refine lv_iconst (v := 1) hx hb dX0_acceptIn_6 (by decide) ?_
  refine rh_put (ci := 0) (C := RX0) (T := TX0) (N := 7) (x := 1) hx hb hts (fun _ h => List.mem_cons_of_mem _ (List.mem_append_left _ (List.mem_append_left _ (List.mem_append_right _ (h))))) tyX0 tyX0_ok nmX0 hown hE hW hD hS rfl 9 k hk rfl 3 (by decide) (hts (.fieldLink RX0 9 "RoamingHouse$Call" "state" "I") (by decide +kernel)) rfl rfl rfl (Nat.le_of_ble_eq_true rfl) rfl dX0_acceptIn_7 (fun H locs hW hS => ?_)
  refine lv_aload_n hx hb dX0_acceptIn_10 rfl (lv_at hl 1 rfl) ?_
  refine lv_iload_n hx hb dX0_acceptIn_11 rfl (lv_at hl 2 rfl) ?_
  refine rh_put (ci := 0) (C := RX0) (T := TX0) (N := 7) (x := (nI t)) hx hb hts (fun _ h => List.mem_cons_of_mem _ (List.mem_append_left _ (List.mem_append_left _ (List.mem_append_right _ (h))))) tyX0 tyX0_ok nmX0 hown hE hW hD hS rfl 9 k hk rfl 4 (by decide) (hts (.fieldLink RX0 15 "RoamingHouse$Call" "acceptedIn" "I") (by decide +kernel)) rfl rfl rfl (Nat.le_of_ble_eq_true rfl) rfl dX0_acceptIn_12 (fun H locs hW hS => ?_)
  refine lv_aload_n hx hb dX0_acceptIn_15 rfl (lv_at hl 1 rfl) ?_
  refine lv_aload_n hx hb dX0_acceptIn_16 rfl (lv_at hl 1 rfl) ?_
  refine rh_get (ci := 0) (C := RX0) (T := TX0) (N := 7) (v := .ref (ad 8 (r 9 k))) hx hb hts (fun _ h => List.mem_cons_of_mem _ (List.mem_append_left _ (List.mem_append_left _ (List.mem_append_right _ (h))))) hown hE (hW.at 9 k hk) rfl 0 (by decide) (hts (.fieldLink RX0 24 "RoamingHouse$Call" "file" "LRoamingHouse$CallFile;") (by decide +kernel)) rfl dX0_acceptIn_17 ?_
  refine rh_get (ci := 1) (C := RX1) (T := TX1) (N := 5) (v := .ref (ad 6 (r 8 (r 9 k)))) hx hb hts (fun _ h => List.mem_cons_of_mem _ (List.mem_append_left _ (List.mem_append_right _ (h)))) hown hE (hW.at 8 (r 9 k) (hr9 _ hk)) rfl 0 (by decide) (hts (.fieldLink RX0 34 "RoamingHouse$CallFile" "pair" "LRoamingHouse$Pair;") (by decide +kernel)) rfl dX0_acceptIn_20 ?_
  refine rh_get (ci := 3) (C := RX3) (T := TX3) (N := 7) (v := .ref (ad 7 (r 8 (r 9 k)))) hx hb hts (fun _ h => List.mem_cons_of_mem _ (List.mem_append_right _ (h))) hown hE (hW.at 6 (r 8 (r 9 k)) (hr8 _ (hr9 _ hk))) rfl 6 (by decide) (hts (.fieldLink RX0 55 "RoamingHouse$Pair" "acceptedSeconds" "[I") (by decide +kernel)) rfl dX0_acceptIn_23 ?_
  refine lv_iload_n hx hb dX0_acceptIn_26 rfl (lv_at hl 0 rfl) ?_
  refine rh_iald hx hb hE (hW.at 7 (r 8 (r 9 k)) (hr8 _ (hr9 _ hk))) (t / 12) hy (by decide) rfl dX0_acceptIn_27 ?_
  refine rh_put (ci := 0) (C := RX0) (T := TX0) (N := 7) (x := (v 7 (r 8 (r 9 k)) (t / 12))) hx hb hts (fun _ h => List.mem_cons_of_mem _ (List.mem_append_left _ (List.mem_append_left _ (List.mem_append_right _ (h))))) tyX0 tyX0_ok nmX0 hown hE hW hD hS rfl 9 k hk rfl 6 (by decide) (hts (.fieldLink RX0 21 "RoamingHouse$Call" "secondsAhead" "I") (by decide +kernel)) rfl rfl rfl (Nat.le_of_ble_eq_true rfl) rfl dX0_acceptIn_28 (fun H locs hW hS => ?_)
  refine lv_aload_n hx hb dX0_acceptIn_31 rfl (lv_at hl 1 rfl) ?_
  refine rh_get (ci := 0) (C := RX0) (T := TX0) (N := 7) (v := .ref (ad 8 (r 9 k))) hx hb hts (fun _ h => List.mem_cons_of_mem _ (List.mem_append_left _ (List.mem_append_left _ (List.mem_append_right _ (h))))) hown hE (hW.at 9 k hk) rfl 0 (by decide) (hts (.fieldLink RX0 24 "RoamingHouse$Call" "file" "LRoamingHouse$CallFile;") (by decide +kernel)) rfl dX0_acceptIn_32 ?_
  refine rh_get (ci := 1) (C := RX1) (T := TX1) (N := 5) (v := .ref (ad 6 (r 8 (r 9 k)))) hx hb hts (fun _ h => List.mem_cons_of_mem _ (List.mem_append_left _ (List.mem_append_right _ (h)))) hown hE (hW.at 8 (r 9 k) (hr9 _ hk)) rfl 0 (by decide) (hts (.fieldLink RX0 34 "RoamingHouse$CallFile" "pair" "LRoamingHouse$Pair;") (by decide +kernel)) rfl dX0_acceptIn_35 ?_
  refine rh_get (ci := 3) (C := RX3) (T := TX3) (N := 7) (v := .ref (ad 7 (r 8 (r 9 k)))) hx hb hts (fun _ h => List.mem_cons_of_mem _ (List.mem_append_right _ (h))) hown hE (hW.at 6 (r 8 (r 9 k)) (hr8 _ (hr9 _ hk))) rfl 6 (by decide) (hts (.fieldLink RX0 55 "RoamingHouse$Pair" "acceptedSeconds" "[I") (by decide +kernel)) rfl dX0_acceptIn_38 ?_
  refine lv_iload_n hx hb dX0_acceptIn_41 rfl (lv_at hl 0 rfl) ?_
  refine lv_dup2_11 hx hb dX0_acceptIn_42 rfl rfl ?_
  refine rh_iald hx hb hE (hW.at 7 (r 8 (r 9 k)) (hr8 _ (hr9 _ hk))) (t / 12) hy (by decide) rfl dX0_acceptIn_43 ?_
  refine lv_aload_n hx hb dX0_acceptIn_44 rfl (lv_at hl 1 rfl) ?_
  refine rh_get (ci := 0) (C := RX0) (T := TX0) (N := 7) (v := .int (v 9 k 1)) hx hb hts (fun _ h => List.mem_cons_of_mem _ (List.mem_append_left _ (List.mem_append_left _ (List.mem_append_right _ (h))))) hown hE (hW.at 9 k hk) rfl 1 (by decide) (hts (.fieldLink RX0 28 "RoamingHouse$Call" "seconds" "I") (by decide +kernel)) (show some (Value.int ((wr (wr (wr v 9 k 3 1) 9 k 4 (nI t)) 9 k 6 (v 7 (r 8 (r 9 k)) (t / 12))) 9 k 1)) = some (Value.int (v 9 k 1)) from by simp [wr_at]) dX0_acceptIn_45 ?_
  refine lv_iadd hx hb dX0_acceptIn_48 ?_
  refine rh_iast7 (x := (v 7 (r 8 (r 9 k)) (t / 12) + v 9 k 1)) hx hb hE hW hD hS (r 8 (r 9 k)) (hr8 _ (hr9 _ hk)) (t / 12) hy rfl dX0_acceptIn_49 (fun H locs hW hS => ?_)
  exact rh_vret hx hb hr hlocks ⟨rfl, by unfold c_acc1; rw [hyr.2]; exact hW⟩ hS (by decide) (by decide) dX0_acceptIn_50
set_option maxHeartbeats 4000000 in
set_option maxRecDepth 100000 in
/-- what is owed for a call -/
theorem ct_X0_amount (l : Launch) {G : va_G} {ca : Nat → ClassId} {A : Nat → Prop} {ad : Nat → Nat → Nat} {nf nc : Nat} {r : rh_R} {v : rh_V} (hD : rh_D A ad (fun k i => i < rh_n nf nc k)) (hwf : rh_wf nf nc r v) (k : Nat) (hk : k < nc) : rh_M l yX0_amount wsX0_amount ({ frames := 1, cells := 0, slots := 0, locals := 30 } : Room) G ca A [.ref (ad 9 k)] (rh_W G ca ad nf nc r v) (fun o H => o = some (.int (c_amt r v k)) ∧ rh_W G ca ad nf nc r v H) rh_no 0 0 := by
  obtain ⟨hnf, hnc, hr8, hr9, hfc, hcc, hst, ⟨tt, htt, hnow⟩, hai⟩ := id hwf
  refine rh_enter (cc := cX0_amount) (maxL := 1) (ret := (some .int)) (by decide) rfl (Nat.le_of_ble_eq_true rfl) ?_
  intro p e s m below meth c ls hx hb hr hml hown hts hlocks hex hin hE hA hW hl
  have hS : va_S A s.heap s.heap [] := va_S.rf
  have hl : lv_has ls 1 [(0, .ref (ad 9 k))] := hl
  refine lv_aload_n hx hb dX0_amount_0 rfl (lv_at hl 0 rfl) ?_
  refine rh_get (ci := 0) (C := RX0) (T := TX0) (N := 7) (v := .int (v 9 k 3)) hx hb hts (fun _ h => List.mem_cons_of_mem _ (List.mem_append_left _ (List.mem_append_left _ (List.mem_append_right _ (h))))) hown hE (hW.at 9 k hk) rfl 3 (by decide) (hts (.fieldLink RX0 9 "RoamingHouse$Call" "state" "I") (by decide +kernel)) rfl dX0_amount_1 ?_
  refine lv_if_eq (tgt := 15) hx hb dX0_amount_4 (by decide) (fun c1 => ?_) (fun c1 => ?_)
  · have hamt : c_amt r v k = 0 := if_pos (Or.inl c1)
    refine lv_iconst (v := 0) hx hb dX0_amount_15 (by decide) ?_
    exact rh_iret hx hb hr hlocks ⟨by rw [hamt], hW⟩ hS (by decide) (by decide) dX0_amount_16
  · refine lv_aload_n hx hb dX0_amount_7 rfl (lv_at hl 0 rfl) ?_
    refine rh_get (ci := 0) (C := RX0) (T := TX0) (N := 7) (v := .int (v 9 k 3)) hx hb hts (fun _ h => List.mem_cons_of_mem _ (List.mem_append_left _ (List.mem_append_left _ (List.mem_append_right _ (h))))) hown hE (hW.at 9 k hk) rfl 3 (by decide) (hts (.fieldLink RX0 9 "RoamingHouse$Call" "state" "I") (by decide +kernel)) rfl dX0_amount_8 ?_
    refine lv_iconst (v := 4) hx hb dX0_amount_11 (by decide) ?_
    refine lv_icmp_ne (tgt := 17) hx hb dX0_amount_12 (by decide) (fun c2 => ?_) (fun c2 => ?_)
    · have h4 : ¬ v 9 k 3 = 4 := c2
      obtain ⟨t, ht, hat⟩ := hai k hk c1
      have hy : t / 12 < 3 := by omega
      have hyr := c_yr_of ht
      refine lv_aload_n hx hb dX0_amount_17 rfl (lv_at hl 0 rfl) ?_
      refine rh_get (ci := 0) (C := RX0) (T := TX0) (N := 7) (v := .ref (ad 8 (r 9 k))) hx hb hts (fun _ h => List.mem_cons_of_mem _ (List.mem_append_left _ (List.mem_append_left _ (List.mem_append_right _ (h))))) hown hE (hW.at 9 k hk) rfl 0 (by decide) (hts (.fieldLink RX0 24 "RoamingHouse$Call" "file" "LRoamingHouse$CallFile;") (by decide +kernel)) rfl dX0_amount_18 ?_
      refine rh_get (ci := 1) (C := RX1) (T := TX1) (N := 5) (v := .ref (ad 6 (r 8 (r 9 k)))) hx hb hts (fun _ h => List.mem_cons_of_mem _ (List.mem_append_left _ (List.mem_append_right _ (h)))) hown hE (hW.at 8 (r 9 k) (hr9 _ hk)) rfl 0 (by decide) (hts (.fieldLink RX0 34 "RoamingHouse$CallFile" "pair" "LRoamingHouse$Pair;") (by decide +kernel)) rfl dX0_amount_21 ?_
      refine lv_aload_n hx hb dX0_amount_24 rfl (lv_at hl 0 rfl) ?_
      refine rh_get (ci := 0) (C := RX0) (T := TX0) (N := 7) (v := .int (v 9 k 4)) hx hb hts (fun _ h => List.mem_cons_of_mem _ (List.mem_append_left _ (List.mem_append_left _ (List.mem_append_right _ (h))))) hown hE (hW.at 9 k hk) rfl 4 (by decide) (hts (.fieldLink RX0 15 "RoamingHouse$Call" "acceptedIn" "I") (by decide +kernel)) rfl dX0_amount_25 ?_
      refine rh_callm (va_runSN (As := [.int (v 9 k 4)]) (rest := [.ref (ad 6 (r 8 (r 9 k)))]) ⟨hx, hb, hml, hown, hts⟩ (mt_X4_yearOf l hD (v 9 k 4)) ⟨va_cnB 1 hts gX0_amount_X4_yearOf_n52 rfl rfl rfl hE.2.2.2.2.2.1 (hts (.initialized RX4) (by decide +kernel)) (by decide +kernel) ⟨by decide, by decide⟩, (hts (.static yX4_yearOf) (by decide +kernel)), trivial⟩ (rh_pre hE hS hA hW) rfl rfl hl.1 rfl (lv_room (Nat.le_of_ble_eq_true rfl)) dX0_amount_28 ⟨by decide, by decide⟩) hS (fun o H locs hN3 hS => ?_)
      obtain ⟨rfl, hW⟩ := hN3
      refine W.eq (g2 := F0 m 31 ls [.int ((v 9 k 4) / 12), .ref (ad 6 (r 8 (r 9 k)))]) rfl ?_
      rw [hat, hyr.1]
      refine lv_aload_n hx hb dX0_amount_31 rfl (lv_at hl 0 rfl) ?_
      refine rh_get (ci := 0) (C := RX0) (T := TX0) (N := 7) (v := .int (v 9 k 6)) hx hb hts (fun _ h => List.mem_cons_of_mem _ (List.mem_append_left _ (List.mem_append_left _ (List.mem_append_right _ (h))))) hown hE (hW.at 9 k hk) rfl 6 (by decide) (hts (.fieldLink RX0 21 "RoamingHouse$Call" "secondsAhead" "I") (by decide +kernel)) rfl dX0_amount_32 ?_
      refine rh_calln (vx_runV (As := [.int (nI (t / 12)), .int (v 9 k 6)]) (rest := []) ⟨hx, hb, hml, hown, hts⟩ (ct_X3_discounts l hD (r 8 (r 9 k)) (hr8 _ (hr9 _ hk)) (t / 12) hy (v 9 k 6)) (cwV 2 hts gX0_amount_X3_discounts rfl rfl rfl (by decide +kernel) ⟨by decide, by decide⟩) (rh_preV hE hS hA (hW.at 6 (r 8 (r 9 k)) (hr8 _ (hr9 _ hk))) rfl hW) rfl rfl hl.1 rfl (lv_room (Nat.le_of_ble_eq_true rfl)) dX0_amount_35 ⟨by decide, by decide⟩) hS (fun o H locs hN4 hS => ?_)
      obtain ⟨⟨hc5, rfl⟩ | ⟨hc5, rfl⟩, hW⟩ := hN4
      · have hamt : c_amt r v k = c_cut (v 9 k 2) (v 6 (c_pr r k) 4) := by unfold c_amt; rw [if_neg (fun z => z.elim c1 h4), if_pos (by rw [hat, hyr.2]; exact hc5)]
        refine W.eq (g2 := F0 m 38 ls [.int 1]) rfl ?_
        refine lv_if_ne (tgt := 46) hx hb dX0_amount_38 (by decide) (fun c6 => ?_) (fun c6 => absurd c6 (by decide))
        refine lv_aload_n hx hb dX0_amount_46 rfl (lv_at hl 0 rfl) ?_
        refine rh_get (ci := 0) (C := RX0) (T := TX0) (N := 7) (v := .int (v 9 k 2)) hx hb hts (fun _ h => List.mem_cons_of_mem _ (List.mem_append_left _ (List.mem_append_left _ (List.mem_append_right _ (h))))) hown hE (hW.at 9 k hk) rfl 2 (by decide) (hts (.fieldLink RX0 31 "RoamingHouse$Call" "told" "I") (by decide +kernel)) rfl dX0_amount_47 ?_
        refine lv_aload_n hx hb dX0_amount_50 rfl (lv_at hl 0 rfl) ?_
        refine rh_get (ci := 0) (C := RX0) (T := TX0) (N := 7) (v := .int (v 9 k 2)) hx hb hts (fun _ h => List.mem_cons_of_mem _ (List.mem_append_left _ (List.mem_append_left _ (List.mem_append_right _ (h))))) hown hE (hW.at 9 k hk) rfl 2 (by decide) (hts (.fieldLink RX0 31 "RoamingHouse$Call" "told" "I") (by decide +kernel)) rfl dX0_amount_51 ?_
        refine lv_i2l hx hb dX0_amount_54 rfl ?_
        refine lv_aload_n hx hb dX0_amount_55 rfl (lv_at hl 0 rfl) ?_
        refine rh_get (ci := 0) (C := RX0) (T := TX0) (N := 7) (v := .ref (ad 8 (r 9 k))) hx hb hts (fun _ h => List.mem_cons_of_mem _ (List.mem_append_left _ (List.mem_append_left _ (List.mem_append_right _ (h))))) hown hE (hW.at 9 k hk) rfl 0 (by decide) (hts (.fieldLink RX0 24 "RoamingHouse$Call" "file" "LRoamingHouse$CallFile;") (by decide +kernel)) rfl dX0_amount_56 ?_
        refine rh_get (ci := 1) (C := RX1) (T := TX1) (N := 5) (v := .ref (ad 6 (r 8 (r 9 k)))) hx hb hts (fun _ h => List.mem_cons_of_mem _ (List.mem_append_left _ (List.mem_append_right _ (h)))) hown hE (hW.at 8 (r 9 k) (hr9 _ hk)) rfl 0 (by decide) (hts (.fieldLink RX0 34 "RoamingHouse$CallFile" "pair" "LRoamingHouse$Pair;") (by decide +kernel)) rfl dX0_amount_59 ?_
        refine rh_get (ci := 3) (C := RX3) (T := TX3) (N := 7) (v := .int (v 6 (r 8 (r 9 k)) 4)) hx hb hts (fun _ h => List.mem_cons_of_mem _ (List.mem_append_right _ (h))) hown hE (hW.at 6 (r 8 (r 9 k)) (hr8 _ (hr9 _ hk))) rfl 4 (by decide) (hts (.fieldLink RX0 63 "RoamingHouse$Pair" "discountRate" "I") (by decide +kernel)) rfl dX0_amount_62 ?_
        refine lv_i2l hx hb dX0_amount_65 rfl ?_
        refine lv_lmul hx hb dX0_amount_66 ?_
        refine lv_ldc2 (v := 10000) hx hb hown (hts (.constantLong RX0 66 (10000)) (by decide +kernel)) dX0_amount_67 ?_
        refine lv_ldiv hx hb dX0_amount_70 (by decide) ?_
        refine lv_l2i hx hb dX0_amount_71 rfl ?_
        refine lv_isub hx hb dX0_amount_72 ?_
        exact rh_iret hx hb hr hlocks ⟨by rw [hamt]; rfl, hW⟩ hS (by decide) (by decide) dX0_amount_73
      · have hamt : c_amt r v k = v 9 k 2 := by unfold c_amt; rw [if_neg (fun z => z.elim c1 h4), if_neg (by rw [hat, hyr.2]; exact hc5)]
        refine W.eq (g2 := F0 m 38 ls [.int 0]) rfl ?_
        refine lv_if_ne (tgt := 46) hx hb dX0_amount_38 (by decide) (fun c7 => absurd c7 (by decide)) (fun c7 => ?_)
        refine lv_aload_n hx hb dX0_amount_41 rfl (lv_at hl 0 rfl) ?_
        refine rh_get (ci := 0) (C := RX0) (T := TX0) (N := 7) (v := .int (v 9 k 2)) hx hb hts (fun _ h => List.mem_cons_of_mem _ (List.mem_append_left _ (List.mem_append_left _ (List.mem_append_right _ (h))))) hown hE (hW.at 9 k hk) rfl 2 (by decide) (hts (.fieldLink RX0 31 "RoamingHouse$Call" "told" "I") (by decide +kernel)) rfl dX0_amount_42 ?_
        exact rh_iret hx hb hr hlocks ⟨by rw [hamt], hW⟩ hS (by decide) (by decide) dX0_amount_45
    · have hamt : c_amt r v k = 0 := if_pos (Or.inr c2)
      refine lv_iconst (v := 0) hx hb dX0_amount_15 (by decide) ?_
      exact rh_iret hx hb hr hlocks ⟨by rw [hamt], hW⟩ hS (by decide) (by decide) dX0_amount_16
