/-! ===== the model's face ===== -/
set_option maxHeartbeats 4000000 in
set_option maxRecDepth 100000 in
theorem ct_X5_stateOf (l : Launch) {G : va_G} {ca : Nat → ClassId} {A : Nat → Prop} {ad : Nat → Nat → Nat} {nf nc : Nat} {r : rh_R} {w : rh_Wm} {th : Int32} (hD : rh_D A ad (fun k i => i < m_n k)) (hwf : m_wf0 nf nc r w) (x : Int32) : rh_M l yX5_stateOf wsX5_stateOf ({ frames := 3, cells := 0, slots := 0, locals := 90 } : Room) G ca A [.ref (ad 10 0), .int x] (m_W G ca ad w th) (fun o H => (∃ i9 : Nat, i9 < nf ∧ x = nI i9 ∧ o = some (.int (w 7 i9)) ∧ m_W G ca ad w 0 H) ∨ (¬ ix x nf ∧ (∃ z, o = some (.int z)) ∧ m_W G ca ad w 1 H)) rh_no 0 0 := by
  obtain ⟨hnf, hnc, hfc, hcc, h5, h10, hst⟩ := id hwf
  refine rh_enter (cc := cX5_stateOf) (maxL := 2) (ret := (some .int)) (by decide) rfl (Nat.le_of_ble_eq_true rfl) ?_
  intro p e s m below meth c ls hx hb hr hml hown hts hlocks hex hin hE hA hW hl
  have hS : va_S A s.heap s.heap [] := va_S.rf
  have hl : lv_has ls 2 [(0, .ref (ad 10 0)), (1, .int x)] := hl
  refine lv_aload_n hx hb dX5_stateOf_0 rfl (lv_at hl 0 rfl) ?_
  refine lv_aload_n hx hb dX5_stateOf_1 rfl (lv_at hl 0 rfl) ?_
  refine lv_iload_n hx hb dX5_stateOf_2 rfl (lv_at hl 1 rfl) ?_
  refine rh_calln (vx_runV (As := [.int x]) (rest := [.ref (ad 10 0)]) ⟨hx, hb, hml, hown, hts⟩ (ct_X5_isFile l hD hwf x) (cwV 1 hts gX5_stateOf_X5_isFile rfl rfl rfl (by decide +kernel) ⟨by decide, by decide⟩) (rh_preV hE hS hA (hW.at 10 0 Nat.zero_lt_one) rfl hW) rfl rfl hl.1 rfl (lv_room (Nat.le_of_ble_eq_true rfl)) dX5_stateOf_3 ⟨by decide, by decide⟩) hS (fun o H locs hN1 hS => ?_)
  obtain ⟨⟨ho2, rfl⟩ | ⟨ho2, rfl⟩, hW⟩ := hN1
  · have ho := ho2
    refine W.eq (g2 := F0 m 6 ls [.int 1, .ref (ad 10 0)]) rfl ?_
    refine lv_if_eq (tgt := 13) hx hb dX5_stateOf_6 (by decide) (fun c3 => absurd c3 (by decide)) (fun c3 => ?_)
    refine lv_iconst (v := 0) hx hb dX5_stateOf_9 (by decide) ?_
    refine lv_goto (tgt := 14) hx hb dX5_stateOf_10 (by decide) ?_
    refine m_putt (x := 0) hx hb hts (fun _ h => List.mem_cons_of_mem _ (List.mem_append_right _ (h))) hown hE hW hD hS rfl (hts (.fieldLink RX5 74 "RoamingHouseModel" "thrown" "I") (by decide +kernel)) rfl rfl rfl (Nat.le_of_ble_eq_true rfl) rfl dX5_stateOf_14 (fun H locs hW hS => ?_)
    refine lv_aload_n hx hb dX5_stateOf_17 rfl (lv_at hl 0 rfl) ?_
    refine rh_get (ci := 5) (C := RX5) (T := TX5) (N := 26) (v := .int 0) hx hb hts (fun _ h => List.mem_cons_of_mem _ (List.mem_append_right _ (h))) hown hE (hW.at 10 0 Nat.zero_lt_one) rfl 25 (by decide) (hts (.fieldLink RX5 74 "RoamingHouseModel" "thrown" "I") (by decide +kernel)) rfl dX5_stateOf_18 ?_
    refine lv_if_ne (tgt := 33) hx hb dX5_stateOf_21 (by decide) (fun c4 => absurd c4 (by decide)) (fun c4 => ?_)
    obtain ⟨f, hf, rfl⟩ := (ix_iff (by omega)).mp ho
    refine lv_aload_n hx hb dX5_stateOf_24 rfl (lv_at hl 0 rfl) ?_
    refine rh_get (ci := 5) (C := RX5) (T := TX5) (N := 26) (v := .ref (ad 27 0)) hx hb hts (fun _ h => List.mem_cons_of_mem _ (List.mem_append_right _ (h))) hown hE (hW.at 10 0 Nat.zero_lt_one) rfl 7 (by decide) (hts (.fieldLink RX5 28 "RoamingHouseModel" "fileStates" "[I") (by decide +kernel)) rfl dX5_stateOf_25 ?_
    refine lv_iload_n hx hb dX5_stateOf_28 rfl (lv_at hl 1 rfl) ?_
    refine rh_iald (n := 30) (f := w 7) hx hb hE (hW.at 27 0 Nat.zero_lt_one) f (by omega) (by decide) rfl dX5_stateOf_29 ?_
    refine lv_goto (tgt := 34) hx hb dX5_stateOf_30 (by decide) ?_
    exact rh_iret hx hb hr hlocks (Or.inl ⟨f, hf, rfl, rfl, hW⟩) hS (by decide) (by decide) dX5_stateOf_34
  · have hno := ho2
    refine W.eq (g2 := F0 m 6 ls [.int 0, .ref (ad 10 0)]) rfl ?_
    refine lv_if_eq (tgt := 13) hx hb dX5_stateOf_6 (by decide) (fun c5 => ?_) (fun c5 => absurd c5 (by decide))
    refine lv_iconst (v := 1) hx hb dX5_stateOf_13 (by decide) ?_
    refine m_putt (x := 1) hx hb hts (fun _ h => List.mem_cons_of_mem _ (List.mem_append_right _ (h))) hown hE hW hD hS rfl (hts (.fieldLink RX5 74 "RoamingHouseModel" "thrown" "I") (by decide +kernel)) rfl rfl rfl (Nat.le_of_ble_eq_true rfl) rfl dX5_stateOf_14 (fun H locs hW hS => ?_)
    refine lv_aload_n hx hb dX5_stateOf_17 rfl (lv_at hl 0 rfl) ?_
    refine rh_get (ci := 5) (C := RX5) (T := TX5) (N := 26) (v := .int 1) hx hb hts (fun _ h => List.mem_cons_of_mem _ (List.mem_append_right _ (h))) hown hE (hW.at 10 0 Nat.zero_lt_one) rfl 25 (by decide) (hts (.fieldLink RX5 74 "RoamingHouseModel" "thrown" "I") (by decide +kernel)) rfl dX5_stateOf_18 ?_
    refine lv_if_ne (tgt := 33) hx hb dX5_stateOf_21 (by decide) (fun c6 => ?_) (fun c6 => absurd c6 (by decide))
    refine lv_iconst (v := 0) hx hb dX5_stateOf_33 (by decide) ?_
    exact rh_iret hx hb hr hlocks (Or.inr ⟨hno, ⟨_, rfl⟩, hW⟩) hS (by decide) (by decide) dX5_stateOf_34
set_option maxHeartbeats 4000000 in
set_option maxRecDepth 100000 in
theorem ct_X5_call (l : Launch) {G : va_G} {ca : Nat → ClassId} {A : Nat → Prop} {ad : Nat → Nat → Nat} {nf nc : Nat} {r : rh_R} {w : rh_Wm} {th : Int32} (hD : rh_D A ad (fun k i => i < m_n k)) (hwf : m_wf0 nf nc r w) (x : Int32) : rh_M l yX5_call wsX5_call ({ frames := 3, cells := 0, slots := 0, locals := 90 } : Room) G ca A [.ref (ad 10 0), .int x] (m_W G ca ad w th) (fun o H => (∃ i9 : Nat, i9 < nc ∧ x = nI i9 ∧ o = some (.int (w 13 i9)) ∧ m_W G ca ad w 0 H) ∨ (¬ ix x nc ∧ (∃ z, o = some (.int z)) ∧ m_W G ca ad w 1 H)) rh_no 0 0 := by
  obtain ⟨hnf, hnc, hfc, hcc, h5, h10, hst⟩ := id hwf
  refine rh_enter (cc := cX5_call) (maxL := 2) (ret := (some .int)) (by decide) rfl (Nat.le_of_ble_eq_true rfl) ?_
  intro p e s m below meth c ls hx hb hr hml hown hts hlocks hex hin hE hA hW hl
  have hS : va_S A s.heap s.heap [] := va_S.rf
  have hl : lv_has ls 2 [(0, .ref (ad 10 0)), (1, .int x)] := hl
  refine lv_aload_n hx hb dX5_call_0 rfl (lv_at hl 0 rfl) ?_
  refine lv_aload_n hx hb dX5_call_1 rfl (lv_at hl 0 rfl) ?_
  refine lv_iload_n hx hb dX5_call_2 rfl (lv_at hl 1 rfl) ?_
  refine rh_calln (vx_runV (As := [.int x]) (rest := [.ref (ad 10 0)]) ⟨hx, hb, hml, hown, hts⟩ (ct_X5_isCall l hD hwf x) (cwV 1 hts gX5_call_X5_isCall rfl rfl rfl (by decide +kernel) ⟨by decide, by decide⟩) (rh_preV hE hS hA (hW.at 10 0 Nat.zero_lt_one) rfl hW) rfl rfl hl.1 rfl (lv_room (Nat.le_of_ble_eq_true rfl)) dX5_call_3 ⟨by decide, by decide⟩) hS (fun o H locs hN1 hS => ?_)
  obtain ⟨⟨ho2, rfl⟩ | ⟨ho2, rfl⟩, hW⟩ := hN1
  · have ho := ho2
    refine W.eq (g2 := F0 m 6 ls [.int 1, .ref (ad 10 0)]) rfl ?_
    refine lv_if_eq (tgt := 13) hx hb dX5_call_6 (by decide) (fun c3 => absurd c3 (by decide)) (fun c3 => ?_)
    refine lv_iconst (v := 0) hx hb dX5_call_9 (by decide) ?_
    refine lv_goto (tgt := 14) hx hb dX5_call_10 (by decide) ?_
    refine m_putt (x := 0) hx hb hts (fun _ h => List.mem_cons_of_mem _ (List.mem_append_right _ (h))) hown hE hW hD hS rfl (hts (.fieldLink RX5 74 "RoamingHouseModel" "thrown" "I") (by decide +kernel)) rfl rfl rfl (Nat.le_of_ble_eq_true rfl) rfl dX5_call_14 (fun H locs hW hS => ?_)
    refine lv_aload_n hx hb dX5_call_17 rfl (lv_at hl 0 rfl) ?_
    refine rh_get (ci := 5) (C := RX5) (T := TX5) (N := 26) (v := .int 0) hx hb hts (fun _ h => List.mem_cons_of_mem _ (List.mem_append_right _ (h))) hown hE (hW.at 10 0 Nat.zero_lt_one) rfl 25 (by decide) (hts (.fieldLink RX5 74 "RoamingHouseModel" "thrown" "I") (by decide +kernel)) rfl dX5_call_18 ?_
    refine lv_if_ne (tgt := 33) hx hb dX5_call_21 (by decide) (fun c4 => absurd c4 (by decide)) (fun c4 => ?_)
    obtain ⟨c, hc, rfl⟩ := (ix_iff (by omega)).mp ho
    refine lv_aload_n hx hb dX5_call_24 rfl (lv_at hl 0 rfl) ?_
    refine rh_get (ci := 5) (C := RX5) (T := TX5) (N := 26) (v := .ref (ad 33 0)) hx hb hts (fun _ h => List.mem_cons_of_mem _ (List.mem_append_right _ (h))) hown hE (hW.at 10 0 Nat.zero_lt_one) rfl 13 (by decide) (hts (.fieldLink RX5 43 "RoamingHouseModel" "callStates" "[I") (by decide +kernel)) rfl dX5_call_25 ?_
    refine lv_iload_n hx hb dX5_call_28 rfl (lv_at hl 1 rfl) ?_
    refine rh_iald (n := 60) (f := w 13) hx hb hE (hW.at 33 0 Nat.zero_lt_one) c (by omega) (by decide) rfl dX5_call_29 ?_
    refine lv_goto (tgt := 34) hx hb dX5_call_30 (by decide) ?_
    exact rh_iret hx hb hr hlocks (Or.inl ⟨c, hc, rfl, rfl, hW⟩) hS (by decide) (by decide) dX5_call_34
  · have hno := ho2
    refine W.eq (g2 := F0 m 6 ls [.int 0, .ref (ad 10 0)]) rfl ?_
    refine lv_if_eq (tgt := 13) hx hb dX5_call_6 (by decide) (fun c5 => ?_) (fun c5 => absurd c5 (by decide))
    refine lv_iconst (v := 1) hx hb dX5_call_13 (by decide) ?_
    refine m_putt (x := 1) hx hb hts (fun _ h => List.mem_cons_of_mem _ (List.mem_append_right _ (h))) hown hE hW hD hS rfl (hts (.fieldLink RX5 74 "RoamingHouseModel" "thrown" "I") (by decide +kernel)) rfl rfl rfl (Nat.le_of_ble_eq_true rfl) rfl dX5_call_14 (fun H locs hW hS => ?_)
    refine lv_aload_n hx hb dX5_call_17 rfl (lv_at hl 0 rfl) ?_
    refine rh_get (ci := 5) (C := RX5) (T := TX5) (N := 26) (v := .int 1) hx hb hts (fun _ h => List.mem_cons_of_mem _ (List.mem_append_right _ (h))) hown hE (hW.at 10 0 Nat.zero_lt_one) rfl 25 (by decide) (hts (.fieldLink RX5 74 "RoamingHouseModel" "thrown" "I") (by decide +kernel)) rfl dX5_call_18 ?_
    refine lv_if_ne (tgt := 33) hx hb dX5_call_21 (by decide) (fun c6 => ?_) (fun c6 => absurd c6 (by decide))
    refine lv_iconst (v := 0) hx hb dX5_call_33 (by decide) ?_
    exact rh_iret hx hb hr hlocks (Or.inr ⟨hno, ⟨_, rfl⟩, hW⟩) hS (by decide) (by decide) dX5_call_34
set_option maxHeartbeats 4000000 in
set_option maxRecDepth 100000 in
theorem ct_X5_monthOf (l : Launch) {G : va_G} {ca : Nat → ClassId} {A : Nat → Prop} {ad : Nat → Nat → Nat} {nf nc : Nat} {r : rh_R} {w : rh_Wm} {th : Int32} (hD : rh_D A ad (fun k i => i < m_n k)) (hwf : m_wf0 nf nc r w) (x : Int32) : rh_M l yX5_monthOf wsX5_monthOf ({ frames := 3, cells := 0, slots := 0, locals := 90 } : Room) G ca A [.ref (ad 10 0), .int x] (m_W G ca ad w th) (fun o H => (∃ i9 : Nat, i9 < nc ∧ x = nI i9 ∧ o = some (.int (if w 13 i9 = 0 then (-1) else w 14 i9)) ∧ m_W G ca ad w 0 H) ∨ (¬ ix x nc ∧ (∃ z, o = some (.int z)) ∧ m_W G ca ad w 1 H)) rh_no 0 0 := by
  obtain ⟨hnf, hnc, hfc, hcc, h5, h10, hst⟩ := id hwf
  refine rh_enter (cc := cX5_monthOf) (maxL := 2) (ret := (some .int)) (by decide) rfl (Nat.le_of_ble_eq_true rfl) ?_
  intro p e s m below meth c ls hx hb hr hml hown hts hlocks hex hin hE hA hW hl
  have hS : va_S A s.heap s.heap [] := va_S.rf
  have hl : lv_has ls 2 [(0, .ref (ad 10 0)), (1, .int x)] := hl
  refine lv_aload_n hx hb dX5_monthOf_0 rfl (lv_at hl 0 rfl) ?_
  refine lv_aload_n hx hb dX5_monthOf_1 rfl (lv_at hl 0 rfl) ?_
  refine lv_iload_n hx hb dX5_monthOf_2 rfl (lv_at hl 1 rfl) ?_
  refine rh_calln (vx_runV (As := [.int x]) (rest := [.ref (ad 10 0)]) ⟨hx, hb, hml, hown, hts⟩ (ct_X5_isCall l hD hwf x) (cwV 1 hts gX5_monthOf_X5_isCall rfl rfl rfl (by decide +kernel) ⟨by decide, by decide⟩) (rh_preV hE hS hA (hW.at 10 0 Nat.zero_lt_one) rfl hW) rfl rfl hl.1 rfl (lv_room (Nat.le_of_ble_eq_true rfl)) dX5_monthOf_3 ⟨by decide, by decide⟩) hS (fun o H locs hN1 hS => ?_)
  obtain ⟨⟨ho2, rfl⟩ | ⟨ho2, rfl⟩, hW⟩ := hN1
  · have ho := ho2
    refine W.eq (g2 := F0 m 6 ls [.int 1, .ref (ad 10 0)]) rfl ?_
    refine lv_if_eq (tgt := 13) hx hb dX5_monthOf_6 (by decide) (fun c3 => absurd c3 (by decide)) (fun c3 => ?_)
    refine lv_iconst (v := 0) hx hb dX5_monthOf_9 (by decide) ?_
    refine lv_goto (tgt := 14) hx hb dX5_monthOf_10 (by decide) ?_
    refine m_putt (x := 0) hx hb hts (fun _ h => List.mem_cons_of_mem _ (List.mem_append_right _ (h))) hown hE hW hD hS rfl (hts (.fieldLink RX5 74 "RoamingHouseModel" "thrown" "I") (by decide +kernel)) rfl rfl rfl (Nat.le_of_ble_eq_true rfl) rfl dX5_monthOf_14 (fun H locs hW hS => ?_)
    refine lv_aload_n hx hb dX5_monthOf_17 rfl (lv_at hl 0 rfl) ?_
    refine rh_get (ci := 5) (C := RX5) (T := TX5) (N := 26) (v := .int 0) hx hb hts (fun _ h => List.mem_cons_of_mem _ (List.mem_append_right _ (h))) hown hE (hW.at 10 0 Nat.zero_lt_one) rfl 25 (by decide) (hts (.fieldLink RX5 74 "RoamingHouseModel" "thrown" "I") (by decide +kernel)) rfl dX5_monthOf_18 ?_
    refine lv_if_le (tgt := 28) hx hb dX5_monthOf_21 (by decide) (fun c4 => ?_) (fun c4 => absurd c4 (by decide))
    obtain ⟨c, hc, rfl⟩ := (ix_iff (by omega)).mp ho
    refine lv_aload_n hx hb dX5_monthOf_28 rfl (lv_at hl 0 rfl) ?_
    refine rh_get (ci := 5) (C := RX5) (T := TX5) (N := 26) (v := .ref (ad 33 0)) hx hb hts (fun _ h => List.mem_cons_of_mem _ (List.mem_append_right _ (h))) hown hE (hW.at 10 0 Nat.zero_lt_one) rfl 13 (by decide) (hts (.fieldLink RX5 43 "RoamingHouseModel" "callStates" "[I") (by decide +kernel)) rfl dX5_monthOf_29 ?_
    refine lv_iload_n hx hb dX5_monthOf_32 rfl (lv_at hl 1 rfl) ?_
    refine rh_iald (n := 60) (f := w 13) hx hb hE (hW.at 33 0 Nat.zero_lt_one) c (by omega) (by decide) rfl dX5_monthOf_33 ?_
    refine lv_if_ne (tgt := 41) hx hb dX5_monthOf_34 (by decide) (fun c5 => ?_) (fun c5 => ?_)
    · have hs := c5
      refine lv_aload_n hx hb dX5_monthOf_41 rfl (lv_at hl 0 rfl) ?_
      refine rh_get (ci := 5) (C := RX5) (T := TX5) (N := 26) (v := .ref (ad 34 0)) hx hb hts (fun _ h => List.mem_cons_of_mem _ (List.mem_append_right _ (h))) hown hE (hW.at 10 0 Nat.zero_lt_one) rfl 14 (by decide) (hts (.fieldLink RX5 46 "RoamingHouseModel" "months" "[I") (by decide +kernel)) rfl dX5_monthOf_42 ?_
      refine lv_iload_n hx hb dX5_monthOf_45 rfl (lv_at hl 1 rfl) ?_
      refine rh_iald (n := 60) (f := w 14) hx hb hE (hW.at 34 0 Nat.zero_lt_one) c (by omega) (by decide) rfl dX5_monthOf_46 ?_
      exact rh_iret hx hb hr hlocks (Or.inl ⟨c, hc, rfl, by rw [if_neg hs], hW⟩) hS (by decide) (by decide) dX5_monthOf_47
    · have hs := c5
      refine lv_iconst (v := -1) hx hb dX5_monthOf_37 (by decide) ?_
      refine lv_goto (tgt := 47) hx hb dX5_monthOf_38 (by decide) ?_
      exact rh_iret hx hb hr hlocks (Or.inl ⟨c, hc, rfl, by rw [if_pos hs], hW⟩) hS (by decide) (by decide) dX5_monthOf_47
  · have hno := ho2
    refine W.eq (g2 := F0 m 6 ls [.int 0, .ref (ad 10 0)]) rfl ?_
    refine lv_if_eq (tgt := 13) hx hb dX5_monthOf_6 (by decide) (fun c6 => ?_) (fun c6 => absurd c6 (by decide))
    refine lv_iconst (v := 1) hx hb dX5_monthOf_13 (by decide) ?_
    refine m_putt (x := 1) hx hb hts (fun _ h => List.mem_cons_of_mem _ (List.mem_append_right _ (h))) hown hE hW hD hS rfl (hts (.fieldLink RX5 74 "RoamingHouseModel" "thrown" "I") (by decide +kernel)) rfl rfl rfl (Nat.le_of_ble_eq_true rfl) rfl dX5_monthOf_14 (fun H locs hW hS => ?_)
    refine lv_aload_n hx hb dX5_monthOf_17 rfl (lv_at hl 0 rfl) ?_
    refine rh_get (ci := 5) (C := RX5) (T := TX5) (N := 26) (v := .int 1) hx hb hts (fun _ h => List.mem_cons_of_mem _ (List.mem_append_right _ (h))) hown hE (hW.at 10 0 Nat.zero_lt_one) rfl 25 (by decide) (hts (.fieldLink RX5 74 "RoamingHouseModel" "thrown" "I") (by decide +kernel)) rfl dX5_monthOf_18 ?_
    refine lv_if_le (tgt := 28) hx hb dX5_monthOf_21 (by decide) (fun c7 => absurd c7 (by decide)) (fun c7 => ?_)
    refine lv_iconst (v := 0) hx hb dX5_monthOf_24 (by decide) ?_
    refine lv_goto (tgt := 47) hx hb dX5_monthOf_25 (by decide) ?_
    exact rh_iret hx hb hr hlocks (Or.inr ⟨hno, ⟨_, rfl⟩, hW⟩) hS (by decide) (by decide) dX5_monthOf_47
set_option maxHeartbeats 4000000 in
set_option maxRecDepth 100000 in
theorem ct_X5_calls (l : Launch) {G : va_G} {ca : Nat → ClassId} {A : Nat → Prop} {ad : Nat → Nat → Nat} {nf nc : Nat} {r : rh_R} {w : rh_Wm} {th : Int32} (hD : rh_D A ad (fun k i => i < m_n k)) (hwf : m_wf0 nf nc r w)  : rh_M l yX5_calls wsX5_calls ({ frames := 0, cells := 0, slots := 0, locals := 0 } : Room) G ca A [.ref (ad 10 0)] (m_W G ca ad w th) (fun o H => o = some (.int (nI nc)) ∧ m_W G ca ad w 0 H) rh_no 0 0 := by
  obtain ⟨hnf, hnc, hfc, hcc, h5, h10, hst⟩ := id hwf
  refine rh_enter (cc := cX5_calls) (maxL := 1) (ret := (some .int)) (by decide) rfl (Nat.le_of_ble_eq_true rfl) ?_
  intro p e s m below meth c ls hx hb hr hml hown hts hlocks hex hin hE hA hW hl
  have hS : va_S A s.heap s.heap [] := va_S.rf
  have hl : lv_has ls 1 [(0, .ref (ad 10 0))] := hl
  refine lv_aload_n hx hb dX5_calls_0 rfl (lv_at hl 0 rfl) ?_
  refine lv_iconst (v := 0) hx hb dX5_calls_1 (by decide) ?_
  refine m_putt (x := 0) hx hb hts (fun _ h => List.mem_cons_of_mem _ (List.mem_append_right _ (h))) hown hE hW hD hS rfl (hts (.fieldLink RX5 74 "RoamingHouseModel" "thrown" "I") (by decide +kernel)) rfl rfl rfl (Nat.le_of_ble_eq_true rfl) rfl dX5_calls_2 (fun H locs hW hS => ?_)
  refine lv_aload_n hx hb dX5_calls_5 rfl (lv_at hl 0 rfl) ?_
  refine rh_get (ci := 5) (C := RX5) (T := TX5) (N := 26) (v := .int (w 26 9)) hx hb hts (fun _ h => List.mem_cons_of_mem _ (List.mem_append_right _ (h))) hown hE (hW.at 10 0 Nat.zero_lt_one) rfl 9 (by decide) (hts (.fieldLink RX5 89 "RoamingHouseModel" "callMany" "I") (by decide +kernel)) rfl dX5_calls_6 ?_
  exact rh_iret hx hb hr hlocks ⟨by rw [hcc], hW⟩ hS (by decide) (by decide) dX5_calls_9
set_option maxHeartbeats 4000000 in
set_option maxRecDepth 100000 in
theorem ct_X5_month (l : Launch) {G : va_G} {ca : Nat → ClassId} {A : Nat → Prop} {ad : Nat → Nat → Nat} {w : rh_Wm} {th : Int32} (hD : rh_D A ad (fun k i => i < m_n k))  : rh_M l yX5_month wsX5_month ({ frames := 0, cells := 0, slots := 0, locals := 0 } : Room) G ca A [.ref (ad 10 0)] (m_W G ca ad w th) (fun o H => o = some (.int (w 26 24)) ∧ m_W G ca ad w 0 H) rh_no 0 0 := by
  refine rh_enter (cc := cX5_month) (maxL := 1) (ret := (some .int)) (by decide) rfl (Nat.le_of_ble_eq_true rfl) ?_
  intro p e s m below meth c ls hx hb hr hml hown hts hlocks hex hin hE hA hW hl
  have hS : va_S A s.heap s.heap [] := va_S.rf
  have hl : lv_has ls 1 [(0, .ref (ad 10 0))] := hl
  refine lv_aload_n hx hb dX5_month_0 rfl (lv_at hl 0 rfl) ?_
  refine lv_iconst (v := 0) hx hb dX5_month_1 (by decide) ?_
  refine m_putt (x := 0) hx hb hts (fun _ h => List.mem_cons_of_mem _ (List.mem_append_right _ (h))) hown hE hW hD hS rfl (hts (.fieldLink RX5 74 "RoamingHouseModel" "thrown" "I") (by decide +kernel)) rfl rfl rfl (Nat.le_of_ble_eq_true rfl) rfl dX5_month_2 (fun H locs hW hS => ?_)
  refine lv_aload_n hx hb dX5_month_5 rfl (lv_at hl 0 rfl) ?_
  refine rh_get (ci := 5) (C := RX5) (T := TX5) (N := 26) (v := .int (w 26 24)) hx hb hts (fun _ h => List.mem_cons_of_mem _ (List.mem_append_right _ (h))) hown hE (hW.at 10 0 Nat.zero_lt_one) rfl 24 (by decide) (hts (.fieldLink RX5 101 "RoamingHouseModel" "now" "I") (by decide +kernel)) rfl dX5_month_6 ?_
  exact rh_iret hx hb hr hlocks ⟨rfl, hW⟩ hS (by decide) (by decide) dX5_month_9
set_option maxHeartbeats 4000000 in
set_option maxRecDepth 100000 in
/-- lacking -/
theorem ct_X5_lacking (l : Launch) {G : va_G} {ca : Nat → ClassId} {A : Nat → Prop} {ad : Nat → Nat → Nat} {nf nc : Nat} {r : rh_R} {w : rh_Wm} {th : Int32} (hD : rh_D A ad (fun k i => i < m_n k)) (hwf : m_wf0 nf nc r w) (x y : Int32) : rh_M l yX5_lacking wsX5_lacking ({ frames := 4, cells := 0, slots := 0, locals := 120 } : Room) G ca A [.ref (ad 10 0), .int x, .int y] (m_W G ca ad w th) (fun o H => (∃ h9 k9 : Nat, h9 < 4 ∧ k9 < 4 ∧ h9 ≠ k9 ∧ x = nI h9 ∧ y = nI k9 ∧ o = some (.int (if m_wn r w (h9 * 4 + k9) nf = 0 then 0 else m_wg r w (h9 * 4 + k9) nf - w 18 (h9 * 4 + k9) + 1 - m_wn r w (h9 * 4 + k9) nf)) ∧ m_W G ca ad w 0 H) ∨ (¬ (ix x 4 ∧ ix y 4) ∧ (∃ z, o = some (.int z)) ∧ m_W G ca ad w 1 H) ∨ (ix x 4 ∧ ix y 4 ∧ x = y ∧ (∃ z, o = some (.int z)) ∧ m_W G ca ad w 2 H)) rh_no 0 0 := by
  obtain ⟨hnf, hnc, hfc, hcc, h5, h10, hst⟩ := id hwf
  refine rh_enter (cc := cX5_lacking) (maxL := 7) (ret := (some .int)) (by decide) rfl (Nat.le_of_ble_eq_true rfl) ?_
  intro p e s m below meth c ls hx hb hr hml hown hts hlocks hex hin hE hA hW hl
  have hS : va_S A s.heap s.heap [] := va_S.rf
  have hl : lv_has ls 7 [(0, .ref (ad 10 0)), (1, .int x), (2, .int y)] := hl
  refine lv_aload_n hx hb dX5_lacking_0 rfl (lv_at hl 0 rfl) ?_
  refine lv_iload_n hx hb dX5_lacking_1 rfl (lv_at hl 1 rfl) ?_
  refine lv_iload_n hx hb dX5_lacking_2 rfl (lv_at hl 2 rfl) ?_
  refine lv_iconst (v := 1) hx hb dX5_lacking_3 (by decide) ?_
  refine rh_calln (vx_runV (As := [.int x, .int y, .int 1]) (rest := []) ⟨hx, hb, hml, hown, hts⟩ (ct_X5_isPair l hD x y 1) (cwV 3 hts gX5_lacking_X5_isPair rfl rfl rfl (by decide +kernel) ⟨by decide, by decide⟩) (rh_preV hE hS hA (hW.at 10 0 Nat.zero_lt_one) rfl hW) rfl rfl hl.1 rfl (lv_room (Nat.le_of_ble_eq_true rfl)) dX5_lacking_4 ⟨by decide, by decide⟩) hS (fun o H locs hN1 hS => ?_)
  rcases hN1 with ⟨h, k, hh, hk, hne, rfl, rfl, hz, rfl, hW⟩ | ⟨hno, rfl, hW⟩ | ⟨hox, hoy, hxz, rfl, hW⟩
  · refine W.eq (g2 := F0 m 7 ls [.int 1]) rfl ?_
    refine lv_if_ne (tgt := 12) hx hb dX5_lacking_7 (by decide) (fun c2 => ?_) (fun c2 => absurd c2 (by decide))
    refine lv_iconst (v := 4) hx hb dX5_lacking_12 (by decide) ?_
    refine lv_iload_n hx hb dX5_lacking_13 rfl (lv_at hl 1 rfl) ?_
    refine lv_imul hx hb dX5_lacking_14 ?_
    refine lv_iload_n hx hb dX5_lacking_15 rfl (lv_at hl 2 rfl) ?_
    refine lv_iadd hx hb dX5_lacking_16 ?_
    rw [(m_4pq hh hk).1]
    have hq16 := (m_4pq hh hk).2
    refine lv_istore_n (lv' := [(3, .int (nI (h * 4 + k))), (0, .ref (ad 10 0)), (1, .int (nI h)), (2, .int (nI k))]) hx hb dX5_lacking_17 rfl hl (by decide) rfl (fun ls hl => ?_)
    refine lv_iconst (v := 0) hx hb dX5_lacking_18 (by decide) ?_
    refine lv_istore (lv' := [(4, .int 0), (3, .int (nI (h * 4 + k))), (0, .ref (ad 10 0)), (1, .int (nI h)), (2, .int (nI k))]) hx hb dX5_lacking_19 hl (by decide) rfl (fun ls hl => ?_)
    refine lv_iconst (v := 0) hx hb dX5_lacking_21 (by decide) ?_
    refine lv_istore (lv' := [(5, .int 0), (4, .int 0), (3, .int (nI (h * 4 + k))), (0, .ref (ad 10 0)), (1, .int (nI h)), (2, .int (nI k))]) hx hb dX5_lacking_22 hl (by decide) rfl (fun ls hl => ?_)
    refine lv_iconst (v := 0) hx hb dX5_lacking_24 (by decide) ?_
    refine lv_istore (lv' := [(6, .int 0), (5, .int 0), (4, .int 0), (3, .int (nI (h * 4 + k))), (0, .ref (ad 10 0)), (1, .int (nI h)), (2, .int (nI k))]) hx hb dX5_lacking_25 hl (by decide) rfl (fun ls hl => ?_)
    have loop27 : ∀ (n : Nat) (j : Nat) (g : Int32) (u : Int32) (H : Heap) (locs : List Loc) (ls : Array Slot), nf + 1 ≤ j + n → j ≤ nf → g = m_wg r w (h * 4 + k) j → u = m_wn r w (h * 4 + k) j → m_W G ca ad w 0 H → va_S A s.heap H locs → lv_has ls 7 [(0, .ref (ad 10 0)), (1, .int (nI h)), (2, .int (nI k)), (3, .int (nI (h * 4 + k))), (4, .int g), (5, .int u), (6, .int (nI j))] → W p l e ({ frames := 4, cells := 0, slots := 0, locals := 120 } : Room) s m ([.ref (ad 10 0), .int (nI h), .int (nI k)] : List Value).toArray below meth c H locs 0 0 (vx_MQ below (rh_Q A (fun o H => (∃ h9 k9 : Nat, h9 < 4 ∧ k9 < 4 ∧ h9 ≠ k9 ∧ (nI h) = nI h9 ∧ (nI k) = nI k9 ∧ o = some (.int (if m_wn r w (h9 * 4 + k9) nf = 0 then 0 else m_wg r w (h9 * 4 + k9) nf - w 18 (h9 * 4 + k9) + 1 - m_wn r w (h9 * 4 + k9) nf)) ∧ m_W G ca ad w 0 H) ∨ (¬ (ix (nI h) 4 ∧ ix (nI k) 4) ∧ (∃ z, o = some (.int z)) ∧ m_W G ca ad w 1 H) ∨ (ix (nI h) 4 ∧ ix (nI k) 4 ∧ (nI h) = (nI k) ∧ (∃ z, o = some (.int z)) ∧ m_W G ca ad w 2 H))) (rh_XC A rh_no) ([.ref (ad 10 0), .int (nI h), .int (nI k)] : List Value).toArray s 0 0 A) (F0 m 27 ls []) := by
      intro n
      induction n with
      | zero => intro j g u H locs ls hjn hj hg hu hW hS hl; exact absurd hjn (by omega)
      | succ n ih =>
        intro j g u H locs ls hjn hj hg hu hW hS hl
        refine lv_iload hx hb dX5_lacking_27 (lv_at hl 6 rfl) ?_
        refine lv_aload_n hx hb dX5_lacking_29 rfl (lv_at hl 0 rfl) ?_
        refine rh_get (ci := 5) (C := RX5) (T := TX5) (N := 26) (v := .int (w 26 4)) hx hb hts (fun _ h => List.mem_cons_of_mem _ (List.mem_append_right _ (h))) hown hE (hW.at 10 0 Nat.zero_lt_one) rfl 4 (by decide) (hts (.fieldLink RX5 86 "RoamingHouseModel" "fileMany" "I") (by decide +kernel)) rfl dX5_lacking_30 ?_
        refine lv_icmp_ge (tgt := 93) hx hb dX5_lacking_33 (by decide) (fun c3 => ?_) (fun c3 => ?_)
        · have hjf : j = nf := by
            rcases Nat.lt_or_ge j nf with z | z
            · exact absurd (by rw [← hfc]; exact c3) (nI_ge z (by omega))
            · omega
          refine lv_iload hx hb dX5_lacking_93 (lv_at hl 5 rfl) ?_
          refine lv_if_ne (tgt := 102) hx hb dX5_lacking_95 (by decide) (fun c4 => ?_) (fun c4 => ?_)
          · have hu0 := c4
            refine lv_iload hx hb dX5_lacking_102 (lv_at hl 4 rfl) ?_
            refine lv_aload_n hx hb dX5_lacking_104 rfl (lv_at hl 0 rfl) ?_
            refine rh_get (ci := 5) (C := RX5) (T := TX5) (N := 26) (v := .ref (ad 38 0)) hx hb hts (fun _ h => List.mem_cons_of_mem _ (List.mem_append_right _ (h))) hown hE (hW.at 10 0 Nat.zero_lt_one) rfl 18 (by decide) (hts (.fieldLink RX5 55 "RoamingHouseModel" "expects" "[I") (by decide +kernel)) rfl dX5_lacking_105 ?_
            refine lv_iload_n hx hb dX5_lacking_108 rfl (lv_at hl 3 rfl) ?_
            refine rh_iald (n := 16) (f := w 18) hx hb hE (hW.at 38 0 Nat.zero_lt_one) (h * 4 + k) (m_4pq hh hk).2 (by decide) rfl dX5_lacking_109 ?_
            refine lv_isub hx hb dX5_lacking_110 ?_
            refine lv_iconst (v := 1) hx hb dX5_lacking_111 (by decide) ?_
            refine lv_iadd hx hb dX5_lacking_112 ?_
            refine lv_iload hx hb dX5_lacking_113 (lv_at hl 5 rfl) ?_
            refine lv_isub hx hb dX5_lacking_115 ?_
            exact rh_iret hx hb hr hlocks (Or.inl ⟨h, k, hh, hk, hne, rfl, rfl, (by rw [← hjf, ← hu, ← hg, if_neg hu0]), hW⟩) hS (by decide) (by decide) dX5_lacking_116
          · have hu0 := c4
            refine lv_iconst (v := 0) hx hb dX5_lacking_98 (by decide) ?_
            refine lv_goto (tgt := 116) hx hb dX5_lacking_99 (by decide) ?_
            exact rh_iret hx hb hr hlocks (Or.inl ⟨h, k, hh, hk, hne, rfl, rfl, (by rw [← hjf, ← hu, if_pos hu0]), hW⟩) hS (by decide) (by decide) dX5_lacking_116
        · have hjl : j < nf := by
            rcases Nat.lt_or_ge j nf with z | z
            · exact z
            · exact absurd (by rw [hfc]; exact nI_le z (by omega)) c3
          refine lv_aload_n hx hb dX5_lacking_36 rfl (lv_at hl 0 rfl) ?_
          refine rh_get (ci := 5) (C := RX5) (T := TX5) (N := 26) (v := .ref (ad 27 0)) hx hb hts (fun _ h => List.mem_cons_of_mem _ (List.mem_append_right _ (h))) hown hE (hW.at 10 0 Nat.zero_lt_one) rfl 7 (by decide) (hts (.fieldLink RX5 28 "RoamingHouseModel" "fileStates" "[I") (by decide +kernel)) rfl dX5_lacking_37 ?_
          refine lv_iload hx hb dX5_lacking_40 (lv_at hl 6 rfl) ?_
          refine rh_iald (n := 30) (f := w 7) hx hb hE (hW.at 27 0 Nat.zero_lt_one) j (by omega) (by decide) rfl dX5_lacking_42 ?_
          refine lv_iconst (v := 2) hx hb dX5_lacking_43 (by decide) ?_
          refine lv_icmp_ne (tgt := 87) hx hb dX5_lacking_44 (by decide) (fun c5 => ?_) (fun c5 => ?_)
          · refine lv_iinc (v := nI (j + 1)) (lv' := [(6, .int (nI (j + 1))), (0, .ref (ad 10 0)), (1, .int (nI h)), (2, .int (nI k)), (3, .int (nI (h * 4 + k))), (4, .int g), (5, .int u)]) hx hb dX5_lacking_87 hl (k := 6) rfl (nI_1 j) (by decide) rfl (fun ls hl => ?_)
            refine lv_goto (tgt := 27) hx hb dX5_lacking_90 (by decide) ?_
            exact ih (j + 1) g u _ _ _ (by omega) (by omega) (by rw [hg]; exact (if_neg (fun z => c5 z.1)).symm) (by rw [hu]; exact (if_neg (fun z => c5 z.1)).symm) hW hS (lv_sub hl [1, 2, 3, 4, 5, 6, 0] rfl)
          · have hs2 := c5
            refine lv_aload_n hx hb dX5_lacking_47 rfl (lv_at hl 0 rfl) ?_
            refine rh_get (ci := 5) (C := RX5) (T := TX5) (N := 26) (v := .ref (ad 25 0)) hx hb hts (fun _ h => List.mem_cons_of_mem _ (List.mem_append_right _ (h))) hown hE (hW.at 10 0 Nat.zero_lt_one) rfl 5 (by decide) (hts (.fieldLink RX5 22 "RoamingHouseModel" "pairOf" "[I") (by decide +kernel)) rfl dX5_lacking_48 ?_
            refine lv_iload hx hb dX5_lacking_51 (lv_at hl 6 rfl) ?_
            refine rh_iald (n := 30) (f := w 5) hx hb hE (hW.at 25 0 Nat.zero_lt_one) j (by omega) (by decide) rfl dX5_lacking_53 ?_
            refine lv_iload_n hx hb dX5_lacking_54 rfl (lv_at hl 3 rfl) ?_
            refine lv_icmp_ne (tgt := 87) hx hb dX5_lacking_55 (by decide) (fun c6 => ?_) (fun c6 => ?_)
            · refine lv_iinc (v := nI (j + 1)) (lv' := [(6, .int (nI (j + 1))), (0, .ref (ad 10 0)), (1, .int (nI h)), (2, .int (nI k)), (3, .int (nI (h * 4 + k))), (4, .int g), (5, .int u)]) hx hb dX5_lacking_87 hl (k := 6) rfl (nI_1 j) (by decide) rfl (fun ls hl => ?_)
              refine lv_goto (tgt := 27) hx hb dX5_lacking_90 (by decide) ?_
              exact ih (j + 1) g u _ _ _ (by omega) (by omega) (by rw [hg]; exact (if_neg (fun z => c6 (by rw [(h5 j hjl).2, z.2]))).symm) (by rw [hu]; exact (if_neg (fun z => c6 (by rw [(h5 j hjl).2, z.2]))).symm) hW hS (lv_sub hl [1, 2, 3, 4, 5, 6, 0] rfl)
            · have hpq : r 8 j = h * 4 + k := m_inj (by have := (h5 j hjl).1; omega) (by omega) ((h5 j hjl).2.symm.trans c6)
              refine lv_aload_n hx hb dX5_lacking_58 rfl (lv_at hl 0 rfl) ?_
              refine rh_get (ci := 5) (C := RX5) (T := TX5) (N := 26) (v := .ref (ad 28 0)) hx hb hts (fun _ h => List.mem_cons_of_mem _ (List.mem_append_right _ (h))) hown hE (hW.at 10 0 Nat.zero_lt_one) rfl 8 (by decide) (hts (.fieldLink RX5 31 "RoamingHouseModel" "sentAs" "[I") (by decide +kernel)) rfl dX5_lacking_59 ?_
              refine lv_iload hx hb dX5_lacking_62 (lv_at hl 6 rfl) ?_
              refine rh_iald (n := 30) (f := w 8) hx hb hE (hW.at 28 0 Nat.zero_lt_one) j (by omega) (by decide) rfl dX5_lacking_64 ?_
              refine lv_iload hx hb dX5_lacking_65 (lv_at hl 4 rfl) ?_
              refine lv_icmp_le (tgt := 80) hx hb dX5_lacking_67 (by decide) (fun c7 => ?_) (fun c7 => ?_)
              · refine lv_iload hx hb dX5_lacking_80 (lv_at hl 4 rfl) ?_
                refine lv_istore (lv' := [(4, .int g), (0, .ref (ad 10 0)), (1, .int (nI h)), (2, .int (nI k)), (3, .int (nI (h * 4 + k))), (5, .int u), (6, .int (nI j))]) hx hb dX5_lacking_82 hl (by decide) rfl (fun ls hl => ?_)
                refine lv_iinc (v := (u + 1)) (lv' := [(5, .int (u + 1)), (4, .int g), (0, .ref (ad 10 0)), (1, .int (nI h)), (2, .int (nI k)), (3, .int (nI (h * 4 + k))), (6, .int (nI j))]) hx hb dX5_lacking_84 hl (k := 5) rfl rfl (by decide) rfl (fun ls hl => ?_)
                refine lv_iinc (v := nI (j + 1)) (lv' := [(6, .int (nI (j + 1))), (5, .int (u + 1)), (4, .int g), (0, .ref (ad 10 0)), (1, .int (nI h)), (2, .int (nI k)), (3, .int (nI (h * 4 + k)))]) hx hb dX5_lacking_87 hl (k := 6) rfl (nI_1 j) (by decide) rfl (fun ls hl => ?_)
                refine lv_goto (tgt := 27) hx hb dX5_lacking_90 (by decide) ?_
                exact ih (j + 1) g (u + 1) _ _ _ (by omega) (by omega) (by rw [show m_wg r w (h * 4 + k) (j + 1) = (if m_wg r w (h * 4 + k) j < w 8 j then w 8 j else m_wg r w (h * 4 + k) j) from if_pos ⟨hs2, hpq⟩, ← hg]; exact (if_neg (le_nlt c7)).symm) (by rw [hu]; exact (if_pos ⟨hs2, hpq⟩).symm) hW hS (lv_sub hl [3, 4, 5, 6, 2, 1, 0] rfl)
              · refine lv_aload_n hx hb dX5_lacking_70 rfl (lv_at hl 0 rfl) ?_
                refine rh_get (ci := 5) (C := RX5) (T := TX5) (N := 26) (v := .ref (ad 28 0)) hx hb hts (fun _ h => List.mem_cons_of_mem _ (List.mem_append_right _ (h))) hown hE (hW.at 10 0 Nat.zero_lt_one) rfl 8 (by decide) (hts (.fieldLink RX5 31 "RoamingHouseModel" "sentAs" "[I") (by decide +kernel)) rfl dX5_lacking_71 ?_
                refine lv_iload hx hb dX5_lacking_74 (lv_at hl 6 rfl) ?_
                refine rh_iald (n := 30) (f := w 8) hx hb hE (hW.at 28 0 Nat.zero_lt_one) j (by omega) (by decide) rfl dX5_lacking_76 ?_
                refine lv_goto (tgt := 82) hx hb dX5_lacking_77 (by decide) ?_
                refine lv_istore (lv' := [(4, .int (w 8 j)), (0, .ref (ad 10 0)), (1, .int (nI h)), (2, .int (nI k)), (3, .int (nI (h * 4 + k))), (5, .int u), (6, .int (nI j))]) hx hb dX5_lacking_82 hl (by decide) rfl (fun ls hl => ?_)
                refine lv_iinc (v := (u + 1)) (lv' := [(5, .int (u + 1)), (4, .int (w 8 j)), (0, .ref (ad 10 0)), (1, .int (nI h)), (2, .int (nI k)), (3, .int (nI (h * 4 + k))), (6, .int (nI j))]) hx hb dX5_lacking_84 hl (k := 5) rfl rfl (by decide) rfl (fun ls hl => ?_)
                refine lv_iinc (v := nI (j + 1)) (lv' := [(6, .int (nI (j + 1))), (5, .int (u + 1)), (4, .int (w 8 j)), (0, .ref (ad 10 0)), (1, .int (nI h)), (2, .int (nI k)), (3, .int (nI (h * 4 + k)))]) hx hb dX5_lacking_87 hl (k := 6) rfl (nI_1 j) (by decide) rfl (fun ls hl => ?_)
                refine lv_goto (tgt := 27) hx hb dX5_lacking_90 (by decide) ?_
                exact ih (j + 1) (w 8 j) (u + 1) _ _ _ (by omega) (by omega) (by rw [show m_wg r w (h * 4 + k) (j + 1) = (if m_wg r w (h * 4 + k) j < w 8 j then w 8 j else m_wg r w (h * 4 + k) j) from if_pos ⟨hs2, hpq⟩, ← hg]; exact (if_pos (nle_lt c7)).symm) (by rw [hu]; exact (if_pos ⟨hs2, hpq⟩).symm) hW hS (lv_sub hl [3, 4, 5, 6, 2, 1, 0] rfl)
    exact loop27 (nf + 1) 0 0 0 _ _ _ (by omega) (by omega) rfl rfl hW hS (lv_sub hl [4, 5, 6, 3, 2, 1, 0] rfl)
  · refine W.eq (g2 := F0 m 7 ls [.int 0]) rfl ?_
    refine lv_if_ne (tgt := 12) hx hb dX5_lacking_7 (by decide) (fun c8 => absurd c8 (by decide)) (fun c8 => ?_)
    refine lv_iconst (v := 0) hx hb dX5_lacking_10 (by decide) ?_
    exact rh_iret hx hb hr hlocks (Or.inr (Or.inl ⟨hno, ⟨_, rfl⟩, hW⟩)) hS (by decide) (by decide) dX5_lacking_11
  · refine W.eq (g2 := F0 m 7 ls [.int 0]) rfl ?_
    refine lv_if_ne (tgt := 12) hx hb dX5_lacking_7 (by decide) (fun c9 => absurd c9 (by decide)) (fun c9 => ?_)
    refine lv_iconst (v := 0) hx hb dX5_lacking_10 (by decide) ?_
    exact rh_iret hx hb hr hlocks (Or.inr (Or.inr ⟨hox, hoy, (hxz.elim (fun z => z) (fun z => absurd z (by decide))), ⟨_, rfl⟩, hW⟩)) hS (by decide) (by decide) dX5_lacking_11
set_option maxHeartbeats 4000000 in
set_option maxRecDepth 100000 in
theorem ct_X5_setTariff (l : Launch) {G : va_G} {ca : Nat → ClassId} {A : Nat → Prop} {ad : Nat → Nat → Nat} {w : rh_Wm} {th : Int32} (hD : rh_D A ad (fun k i => i < m_n k)) (x st pr bg : Int32) : rh_M l yX5_setTariff wsX5_setTariff ({ frames := 4, cells := 0, slots := 0, locals := 120 } : Room) G ca A [.ref (ad 10 0), .int x, .int st, .int pr, .int bg] (m_W G ca ad w th) (fun o H => (∃ i9 : Nat, i9 < 4 ∧ x = nI i9 ∧ rng st 1 600 ∧ rng pr 0 1000 ∧ rng bg 0 1000 ∧ o = some (.int (w 1 i9)) ∧ m_W G ca ad (wm (wm (wm w 0 i9 st) 1 i9 pr) 2 i9 bg) 0 H) ∨ (¬ ix x 4 ∧ (∃ z, o = some (.int z)) ∧ m_W G ca ad w 1 H) ∨ (ix x 4 ∧ ¬ (rng st 1 600 ∧ rng pr 0 1000 ∧ rng bg 0 1000) ∧ (∃ z, o = some (.int z)) ∧ m_W G ca ad w 2 H)) rh_no 0 0 := by
  refine rh_enter (cc := cX5_setTariff) (maxL := 6) (ret := (some .int)) (by decide) rfl (Nat.le_of_ble_eq_true rfl) ?_
  intro p e s m below meth c ls hx hb hr hml hown hts hlocks hex hin hE hA hW hl
  have hS : va_S A s.heap s.heap [] := va_S.rf
  have hl : lv_has ls 6 [(0, .ref (ad 10 0)), (1, .int x), (2, .int st), (3, .int pr), (4, .int bg)] := hl
  refine lv_aload_n hx hb dX5_setTariff_0 rfl (lv_at hl 0 rfl) ?_
  refine lv_iload_n hx hb dX5_setTariff_1 rfl (lv_at hl 1 rfl) ?_
  refine rh_calln (vx_runS (As := [.int x]) (rest := [.ref (ad 10 0)]) ⟨hx, hb, hml, hown, hts⟩ (ct_X5_isOperator l hD x) (va_cwS 1 hts gX5_setTariff_X5_isOperator rfl rfl rfl (by decide +kernel) ⟨by decide, by decide⟩) (rh_pre hE hS hA hW) rfl rfl hl.1 rfl (lv_room (Nat.le_of_ble_eq_true rfl)) dX5_setTariff_2 ⟨by decide, by decide⟩) hS (fun o H locs hN1 hS => ?_)
  obtain ⟨⟨ho2, rfl⟩ | ⟨ho2, rfl⟩, hW⟩ := hN1
  · have ho := ho2
    refine W.eq (g2 := F0 m 5 ls [.int 1, .ref (ad 10 0)]) rfl ?_
    refine lv_if_ne (tgt := 12) hx hb dX5_setTariff_5 (by decide) (fun c3 => ?_) (fun c3 => absurd c3 (by decide))
    refine lv_iload_n hx hb dX5_setTariff_12 rfl (lv_at hl 2 rfl) ?_
    refine lv_iconst (v := 1) hx hb dX5_setTariff_13 (by decide) ?_
    refine lv_sipush (v := 600) hx hb dX5_setTariff_14 (by decide) ?_
    refine rh_calln (vx_runS (As := [.int st, .int 1, .int 600]) (rest := [.ref (ad 10 0)]) ⟨hx, hb, hml, hown, hts⟩ (ct_X5_in l hD st 1 600) (va_cwS 3 hts gX5_setTariff_X5_in rfl rfl rfl (by decide +kernel) ⟨by decide, by decide⟩) (rh_pre hE hS hA hW) rfl rfl hl.1 rfl (lv_room (Nat.le_of_ble_eq_true rfl)) dX5_setTariff_17 ⟨by decide, by decide⟩) hS (fun o H locs hN4 hS => ?_)
    obtain ⟨⟨hg5, rfl⟩ | ⟨hg5, rfl⟩, hW⟩ := hN4
    · have hga := hg5
      refine W.eq (g2 := F0 m 20 ls [.int 1, .ref (ad 10 0)]) rfl ?_
      refine lv_if_eq (tgt := 46) hx hb dX5_setTariff_20 (by decide) (fun c6 => absurd c6 (by decide)) (fun c6 => ?_)
      refine lv_iload_n hx hb dX5_setTariff_23 rfl (lv_at hl 3 rfl) ?_
      refine lv_iconst (v := 0) hx hb dX5_setTariff_24 (by decide) ?_
      refine lv_sipush (v := 1000) hx hb dX5_setTariff_25 (by decide) ?_
      refine rh_calln (vx_runS (As := [.int pr, .int 0, .int 1000]) (rest := [.ref (ad 10 0)]) ⟨hx, hb, hml, hown, hts⟩ (ct_X5_in l hD pr 0 1000) (va_cwS 3 hts gX5_setTariff_X5_in rfl rfl rfl (by decide +kernel) ⟨by decide, by decide⟩) (rh_pre hE hS hA hW) rfl rfl hl.1 rfl (lv_room (Nat.le_of_ble_eq_true rfl)) dX5_setTariff_28 ⟨by decide, by decide⟩) hS (fun o H locs hN7 hS => ?_)
      obtain ⟨⟨hg8, rfl⟩ | ⟨hg8, rfl⟩, hW⟩ := hN7
      · have hgb := hg8
        refine W.eq (g2 := F0 m 31 ls [.int 1, .ref (ad 10 0)]) rfl ?_
        refine lv_if_eq (tgt := 46) hx hb dX5_setTariff_31 (by decide) (fun c9 => absurd c9 (by decide)) (fun c9 => ?_)
        refine lv_iload hx hb dX5_setTariff_34 (lv_at hl 4 rfl) ?_
        refine lv_iconst (v := 0) hx hb dX5_setTariff_36 (by decide) ?_
        refine lv_sipush (v := 1000) hx hb dX5_setTariff_37 (by decide) ?_
        refine rh_calln (vx_runS (As := [.int bg, .int 0, .int 1000]) (rest := [.ref (ad 10 0)]) ⟨hx, hb, hml, hown, hts⟩ (ct_X5_in l hD bg 0 1000) (va_cwS 3 hts gX5_setTariff_X5_in rfl rfl rfl (by decide +kernel) ⟨by decide, by decide⟩) (rh_pre hE hS hA hW) rfl rfl hl.1 rfl (lv_room (Nat.le_of_ble_eq_true rfl)) dX5_setTariff_40 ⟨by decide, by decide⟩) hS (fun o H locs hN10 hS => ?_)
        obtain ⟨⟨hg11, rfl⟩ | ⟨hg11, rfl⟩, hW⟩ := hN10
        · have hgc := hg11
          refine W.eq (g2 := F0 m 43 ls [.int 1, .ref (ad 10 0)]) rfl ?_
          refine lv_if_ne (tgt := 50) hx hb dX5_setTariff_43 (by decide) (fun c12 => ?_) (fun c12 => absurd c12 (by decide))
          refine lv_iconst (v := 0) hx hb dX5_setTariff_50 (by decide) ?_
          refine m_putt (x := 0) hx hb hts (fun _ h => List.mem_cons_of_mem _ (List.mem_append_right _ (h))) hown hE hW hD hS rfl (hts (.fieldLink RX5 74 "RoamingHouseModel" "thrown" "I") (by decide +kernel)) rfl rfl rfl (Nat.le_of_ble_eq_true rfl) rfl dX5_setTariff_51 (fun H locs hW hS => ?_)
          refine lv_aload_n hx hb dX5_setTariff_54 rfl (lv_at hl 0 rfl) ?_
          refine rh_get (ci := 5) (C := RX5) (T := TX5) (N := 26) (v := .int 0) hx hb hts (fun _ h => List.mem_cons_of_mem _ (List.mem_append_right _ (h))) hown hE (hW.at 10 0 Nat.zero_lt_one) rfl 25 (by decide) (hts (.fieldLink RX5 74 "RoamingHouseModel" "thrown" "I") (by decide +kernel)) rfl dX5_setTariff_55 ?_
          refine lv_if_le (tgt := 63) hx hb dX5_setTariff_58 (by decide) (fun c13 => ?_) (fun c13 => absurd c13 (by decide))
          obtain ⟨i, hi, rfl⟩ := (ix_iff (by decide)).mp ho
          refine lv_aload_n hx hb dX5_setTariff_63 rfl (lv_at hl 0 rfl) ?_
          refine rh_get (ci := 5) (C := RX5) (T := TX5) (N := 26) (v := .ref (ad 21 0)) hx hb hts (fun _ h => List.mem_cons_of_mem _ (List.mem_append_right _ (h))) hown hE (hW.at 10 0 Nat.zero_lt_one) rfl 1 (by decide) (hts (.fieldLink RX5 13 "RoamingHouseModel" "prices" "[I") (by decide +kernel)) rfl dX5_setTariff_64 ?_
          refine lv_iload_n hx hb dX5_setTariff_67 rfl (lv_at hl 1 rfl) ?_
          refine rh_iald (n := 4) (f := w 1) hx hb hE (hW.at 21 0 Nat.zero_lt_one) i (by omega) (by decide) rfl dX5_setTariff_68 ?_
          refine lv_istore (lv' := [(5, .int (w 1 i)), (0, .ref (ad 10 0)), (1, .int (nI i)), (2, .int st), (3, .int pr), (4, .int bg)]) hx hb dX5_setTariff_69 hl (by decide) rfl (fun ls hl => ?_)
          refine lv_aload_n hx hb dX5_setTariff_71 rfl (lv_at hl 1 rfl) ?_
          refine rh_get (ci := 5) (C := RX5) (T := TX5) (N := 26) (v := .ref (ad 20 0)) hx hb hts (fun _ h => List.mem_cons_of_mem _ (List.mem_append_right _ (h))) hown hE (hW.at 10 0 Nat.zero_lt_one) rfl 0 (by decide) (hts (.fieldLink RX5 7 "RoamingHouseModel" "steps" "[I") (by decide +kernel)) rfl dX5_setTariff_72 ?_
          refine lv_iload_n hx hb dX5_setTariff_75 rfl (lv_at hl 2 rfl) ?_
          refine lv_iload_n hx hb dX5_setTariff_76 rfl (lv_at hl 3 rfl) ?_
          refine m_iast (x := st) hx hb hE hW hD hS 0 (n := 4) (by decide) Nat.zero_lt_one rfl i (by omega) (by decide) rfl rfl dX5_setTariff_77 (fun H locs hW hS => ?_)
          refine lv_aload_n hx hb dX5_setTariff_78 rfl (lv_at hl 1 rfl) ?_
          refine rh_get (ci := 5) (C := RX5) (T := TX5) (N := 26) (v := .ref (ad 21 0)) hx hb hts (fun _ h => List.mem_cons_of_mem _ (List.mem_append_right _ (h))) hown hE (hW.at 10 0 Nat.zero_lt_one) rfl 1 (by decide) (hts (.fieldLink RX5 13 "RoamingHouseModel" "prices" "[I") (by decide +kernel)) rfl dX5_setTariff_79 ?_
          refine lv_iload_n hx hb dX5_setTariff_82 rfl (lv_at hl 2 rfl) ?_
          refine lv_iload_n hx hb dX5_setTariff_83 rfl (lv_at hl 4 rfl) ?_
          refine m_iast (x := pr) hx hb hE hW hD hS 1 (n := 4) (by decide) Nat.zero_lt_one rfl i (by omega) (by decide) rfl rfl dX5_setTariff_84 (fun H locs hW hS => ?_)
          refine lv_aload_n hx hb dX5_setTariff_85 rfl (lv_at hl 1 rfl) ?_
          refine rh_get (ci := 5) (C := RX5) (T := TX5) (N := 26) (v := .ref (ad 22 0)) hx hb hts (fun _ h => List.mem_cons_of_mem _ (List.mem_append_right _ (h))) hown hE (hW.at 10 0 Nat.zero_lt_one) rfl 2 (by decide) (hts (.fieldLink RX5 16 "RoamingHouseModel" "beginnings" "[I") (by decide +kernel)) rfl dX5_setTariff_86 ?_
          refine lv_iload_n hx hb dX5_setTariff_89 rfl (lv_at hl 2 rfl) ?_
          refine lv_iload hx hb dX5_setTariff_90 (lv_at hl 5 rfl) ?_
          refine m_iast (x := bg) hx hb hE hW hD hS 2 (n := 4) (by decide) Nat.zero_lt_one rfl i (by omega) (by decide) rfl rfl dX5_setTariff_92 (fun H locs hW hS => ?_)
          refine lv_iload hx hb dX5_setTariff_93 (lv_at hl 0 rfl) ?_
          exact rh_iret hx hb hr hlocks (Or.inl ⟨i, hi, rfl, hga, hgb, hgc, rfl, hW⟩) hS (by decide) (by decide) dX5_setTariff_95
        · have hg2 : ¬ (rng st 1 600 ∧ rng pr 0 1000 ∧ rng bg 0 1000) := fun z => hg11 z.2.2
          refine W.eq (g2 := F0 m 43 ls [.int 0, .ref (ad 10 0)]) rfl ?_
          refine lv_if_ne (tgt := 50) hx hb dX5_setTariff_43 (by decide) (fun c14 => absurd c14 (by decide)) (fun c14 => ?_)
          refine lv_iconst (v := 2) hx hb dX5_setTariff_46 (by decide) ?_
          refine lv_goto (tgt := 51) hx hb dX5_setTariff_47 (by decide) ?_
          refine m_putt (x := 2) hx hb hts (fun _ h => List.mem_cons_of_mem _ (List.mem_append_right _ (h))) hown hE hW hD hS rfl (hts (.fieldLink RX5 74 "RoamingHouseModel" "thrown" "I") (by decide +kernel)) rfl rfl rfl (Nat.le_of_ble_eq_true rfl) rfl dX5_setTariff_51 (fun H locs hW hS => ?_)
          refine lv_aload_n hx hb dX5_setTariff_54 rfl (lv_at hl 0 rfl) ?_
          refine rh_get (ci := 5) (C := RX5) (T := TX5) (N := 26) (v := .int 2) hx hb hts (fun _ h => List.mem_cons_of_mem _ (List.mem_append_right _ (h))) hown hE (hW.at 10 0 Nat.zero_lt_one) rfl 25 (by decide) (hts (.fieldLink RX5 74 "RoamingHouseModel" "thrown" "I") (by decide +kernel)) rfl dX5_setTariff_55 ?_
          refine lv_if_le (tgt := 63) hx hb dX5_setTariff_58 (by decide) (fun c15 => absurd c15 (by decide)) (fun c15 => ?_)
          refine lv_iconst (v := 0) hx hb dX5_setTariff_61 (by decide) ?_
          exact rh_iret hx hb hr hlocks (Or.inr (Or.inr ⟨ho, hg2, ⟨_, rfl⟩, hW⟩)) hS (by decide) (by decide) dX5_setTariff_62
      · have hg2 : ¬ (rng st 1 600 ∧ rng pr 0 1000 ∧ rng bg 0 1000) := fun z => hg8 z.2.1
        refine W.eq (g2 := F0 m 31 ls [.int 0, .ref (ad 10 0)]) rfl ?_
        refine lv_if_eq (tgt := 46) hx hb dX5_setTariff_31 (by decide) (fun c16 => ?_) (fun c16 => absurd c16 (by decide))
        refine lv_iconst (v := 2) hx hb dX5_setTariff_46 (by decide) ?_
        refine lv_goto (tgt := 51) hx hb dX5_setTariff_47 (by decide) ?_
        refine m_putt (x := 2) hx hb hts (fun _ h => List.mem_cons_of_mem _ (List.mem_append_right _ (h))) hown hE hW hD hS rfl (hts (.fieldLink RX5 74 "RoamingHouseModel" "thrown" "I") (by decide +kernel)) rfl rfl rfl (Nat.le_of_ble_eq_true rfl) rfl dX5_setTariff_51 (fun H locs hW hS => ?_)
        refine lv_aload_n hx hb dX5_setTariff_54 rfl (lv_at hl 0 rfl) ?_
        refine rh_get (ci := 5) (C := RX5) (T := TX5) (N := 26) (v := .int 2) hx hb hts (fun _ h => List.mem_cons_of_mem _ (List.mem_append_right _ (h))) hown hE (hW.at 10 0 Nat.zero_lt_one) rfl 25 (by decide) (hts (.fieldLink RX5 74 "RoamingHouseModel" "thrown" "I") (by decide +kernel)) rfl dX5_setTariff_55 ?_
        refine lv_if_le (tgt := 63) hx hb dX5_setTariff_58 (by decide) (fun c17 => absurd c17 (by decide)) (fun c17 => ?_)
        refine lv_iconst (v := 0) hx hb dX5_setTariff_61 (by decide) ?_
        exact rh_iret hx hb hr hlocks (Or.inr (Or.inr ⟨ho, hg2, ⟨_, rfl⟩, hW⟩)) hS (by decide) (by decide) dX5_setTariff_62
    · have hg2 : ¬ (rng st 1 600 ∧ rng pr 0 1000 ∧ rng bg 0 1000) := fun z => hg5 z.1
      refine W.eq (g2 := F0 m 20 ls [.int 0, .ref (ad 10 0)]) rfl ?_
      refine lv_if_eq (tgt := 46) hx hb dX5_setTariff_20 (by decide) (fun c18 => ?_) (fun c18 => absurd c18 (by decide))
      refine lv_iconst (v := 2) hx hb dX5_setTariff_46 (by decide) ?_
      refine lv_goto (tgt := 51) hx hb dX5_setTariff_47 (by decide) ?_
      refine m_putt (x := 2) hx hb hts (fun _ h => List.mem_cons_of_mem _ (List.mem_append_right _ (h))) hown hE hW hD hS rfl (hts (.fieldLink RX5 74 "RoamingHouseModel" "thrown" "I") (by decide +kernel)) rfl rfl rfl (Nat.le_of_ble_eq_true rfl) rfl dX5_setTariff_51 (fun H locs hW hS => ?_)
      refine lv_aload_n hx hb dX5_setTariff_54 rfl (lv_at hl 0 rfl) ?_
      refine rh_get (ci := 5) (C := RX5) (T := TX5) (N := 26) (v := .int 2) hx hb hts (fun _ h => List.mem_cons_of_mem _ (List.mem_append_right _ (h))) hown hE (hW.at 10 0 Nat.zero_lt_one) rfl 25 (by decide) (hts (.fieldLink RX5 74 "RoamingHouseModel" "thrown" "I") (by decide +kernel)) rfl dX5_setTariff_55 ?_
      refine lv_if_le (tgt := 63) hx hb dX5_setTariff_58 (by decide) (fun c19 => absurd c19 (by decide)) (fun c19 => ?_)
      refine lv_iconst (v := 0) hx hb dX5_setTariff_61 (by decide) ?_
      exact rh_iret hx hb hr hlocks (Or.inr (Or.inr ⟨ho, hg2, ⟨_, rfl⟩, hW⟩)) hS (by decide) (by decide) dX5_setTariff_62
  · have hno := ho2
    refine W.eq (g2 := F0 m 5 ls [.int 0, .ref (ad 10 0)]) rfl ?_
    refine lv_if_ne (tgt := 12) hx hb dX5_setTariff_5 (by decide) (fun c20 => absurd c20 (by decide)) (fun c20 => ?_)
    refine lv_iconst (v := 1) hx hb dX5_setTariff_8 (by decide) ?_
    refine lv_goto (tgt := 51) hx hb dX5_setTariff_9 (by decide) ?_
    refine m_putt (x := 1) hx hb hts (fun _ h => List.mem_cons_of_mem _ (List.mem_append_right _ (h))) hown hE hW hD hS rfl (hts (.fieldLink RX5 74 "RoamingHouseModel" "thrown" "I") (by decide +kernel)) rfl rfl rfl (Nat.le_of_ble_eq_true rfl) rfl dX5_setTariff_51 (fun H locs hW hS => ?_)
    refine lv_aload_n hx hb dX5_setTariff_54 rfl (lv_at hl 0 rfl) ?_
    refine rh_get (ci := 5) (C := RX5) (T := TX5) (N := 26) (v := .int 1) hx hb hts (fun _ h => List.mem_cons_of_mem _ (List.mem_append_right _ (h))) hown hE (hW.at 10 0 Nat.zero_lt_one) rfl 25 (by decide) (hts (.fieldLink RX5 74 "RoamingHouseModel" "thrown" "I") (by decide +kernel)) rfl dX5_setTariff_55 ?_
    refine lv_if_le (tgt := 63) hx hb dX5_setTariff_58 (by decide) (fun c21 => absurd c21 (by decide)) (fun c21 => ?_)
    refine lv_iconst (v := 0) hx hb dX5_setTariff_61 (by decide) ?_
    exact rh_iret hx hb hr hlocks (Or.inr (Or.inl ⟨hno, ⟨_, rfl⟩, hW⟩)) hS (by decide) (by decide) dX5_setTariff_62
set_option maxHeartbeats 4000000 in
set_option maxRecDepth 100000 in
theorem ct_X5_charge (l : Launch) {G : va_G} {ca : Nat → ClassId} {A : Nat → Prop} {ad : Nat → Nat → Nat} {nf nc : Nat} {r : rh_R} {w : rh_Wm} {th : Int32} (hD : rh_D A ad (fun k i => i < m_n k)) (hwf : m_wf0 nf nc r w) (x y : Int32) : rh_M l yX5_charge wsX5_charge ({ frames := 4, cells := 0, slots := 0, locals := 120 } : Room) G ca A [.ref (ad 10 0), .int x, .int y] (m_W G ca ad w th) (fun o H => (∃ i9 : Nat, i9 < 4 ∧ x = nI i9 ∧ rng y 1 36000 ∧ o = some (.int (m_ch w i9 y)) ∧ m_W G ca ad w 0 H) ∨ (¬ ix x 4 ∧ (∃ z, o = some (.int z)) ∧ m_W G ca ad w 1 H) ∨ (ix x 4 ∧ ¬ rng y 1 36000 ∧ (∃ z, o = some (.int z)) ∧ m_W G ca ad w 2 H)) rh_no 0 0 := by
  obtain ⟨hnf, hnc, hfc, hcc, h5, h10, hst⟩ := id hwf
  refine rh_enter (cc := cX5_charge) (maxL := 3) (ret := (some .int)) (by decide) rfl (Nat.le_of_ble_eq_true rfl) ?_
  intro p e s m below meth c ls hx hb hr hml hown hts hlocks hex hin hE hA hW hl
  have hS : va_S A s.heap s.heap [] := va_S.rf
  have hl : lv_has ls 3 [(0, .ref (ad 10 0)), (1, .int x), (2, .int y)] := hl
  refine lv_aload_n hx hb dX5_charge_0 rfl (lv_at hl 0 rfl) ?_
  refine lv_iload_n hx hb dX5_charge_1 rfl (lv_at hl 1 rfl) ?_
  refine rh_calln (vx_runS (As := [.int x]) (rest := [.ref (ad 10 0)]) ⟨hx, hb, hml, hown, hts⟩ (ct_X5_isOperator l hD x) (va_cwS 1 hts gX5_charge_X5_isOperator rfl rfl rfl (by decide +kernel) ⟨by decide, by decide⟩) (rh_pre hE hS hA hW) rfl rfl hl.1 rfl (lv_room (Nat.le_of_ble_eq_true rfl)) dX5_charge_2 ⟨by decide, by decide⟩) hS (fun o H locs hN1 hS => ?_)
  obtain ⟨⟨ho2, rfl⟩ | ⟨ho2, rfl⟩, hW⟩ := hN1
  · have ho := ho2
    refine W.eq (g2 := F0 m 5 ls [.int 1, .ref (ad 10 0)]) rfl ?_
    refine lv_if_ne (tgt := 12) hx hb dX5_charge_5 (by decide) (fun c3 => ?_) (fun c3 => absurd c3 (by decide))
    refine lv_iload_n hx hb dX5_charge_12 rfl (lv_at hl 2 rfl) ?_
    refine lv_iconst (v := 1) hx hb dX5_charge_13 (by decide) ?_
    refine lv_ldc (v := 36000) hx hb hown (hts (.constant RX5 92 (36000)) (by decide +kernel)) dX5_charge_14 ?_
    refine rh_calln (vx_runS (As := [.int y, .int 1, .int 36000]) (rest := [.ref (ad 10 0)]) ⟨hx, hb, hml, hown, hts⟩ (ct_X5_in l hD y 1 36000) (va_cwS 3 hts gX5_charge_X5_in rfl rfl rfl (by decide +kernel) ⟨by decide, by decide⟩) (rh_pre hE hS hA hW) rfl rfl hl.1 rfl (lv_room (Nat.le_of_ble_eq_true rfl)) dX5_charge_16 ⟨by decide, by decide⟩) hS (fun o H locs hN4 hS => ?_)
    obtain ⟨⟨hg5, rfl⟩ | ⟨hg5, rfl⟩, hW⟩ := hN4
    · have hga := hg5
      refine W.eq (g2 := F0 m 19 ls [.int 1, .ref (ad 10 0)]) rfl ?_
      refine lv_if_ne (tgt := 26) hx hb dX5_charge_19 (by decide) (fun c6 => ?_) (fun c6 => absurd c6 (by decide))
      refine lv_iconst (v := 0) hx hb dX5_charge_26 (by decide) ?_
      refine m_putt (x := 0) hx hb hts (fun _ h => List.mem_cons_of_mem _ (List.mem_append_right _ (h))) hown hE hW hD hS rfl (hts (.fieldLink RX5 74 "RoamingHouseModel" "thrown" "I") (by decide +kernel)) rfl rfl rfl (Nat.le_of_ble_eq_true rfl) rfl dX5_charge_27 (fun H locs hW hS => ?_)
      refine lv_aload_n hx hb dX5_charge_30 rfl (lv_at hl 0 rfl) ?_
      refine rh_get (ci := 5) (C := RX5) (T := TX5) (N := 26) (v := .int 0) hx hb hts (fun _ h => List.mem_cons_of_mem _ (List.mem_append_right _ (h))) hown hE (hW.at 10 0 Nat.zero_lt_one) rfl 25 (by decide) (hts (.fieldLink RX5 74 "RoamingHouseModel" "thrown" "I") (by decide +kernel)) rfl dX5_charge_31 ?_
      refine lv_if_ne (tgt := 46) hx hb dX5_charge_34 (by decide) (fun c7 => absurd c7 (by decide)) (fun c7 => ?_)
      obtain ⟨i, hi, rfl⟩ := (ix_iff (by decide)).mp ho
      refine lv_aload_n hx hb dX5_charge_37 rfl (lv_at hl 0 rfl) ?_
      refine lv_iload_n hx hb dX5_charge_38 rfl (lv_at hl 1 rfl) ?_
      refine lv_iload_n hx hb dX5_charge_39 rfl (lv_at hl 2 rfl) ?_
      refine rh_calln (vx_runV (As := [.int (nI i), .int y]) (rest := []) ⟨hx, hb, hml, hown, hts⟩ (ct_X5_chargeFor l hD hwf i hi y) (cwV 2 hts gX5_charge_X5_chargeFor rfl rfl rfl (by decide +kernel) ⟨by decide, by decide⟩) (rh_preV hE hS hA (hW.at 10 0 Nat.zero_lt_one) rfl hW) rfl rfl hl.1 rfl (lv_room (Nat.le_of_ble_eq_true rfl)) dX5_charge_40 ⟨by decide, by decide⟩) hS (fun o H locs hN8 hS => ?_)
      obtain ⟨rfl, hW⟩ := hN8
      refine W.eq (g2 := F0 m 43 ls [.int (m_ch w i y)]) rfl ?_
      refine lv_goto (tgt := 47) hx hb dX5_charge_43 (by decide) ?_
      exact rh_iret hx hb hr hlocks (Or.inl ⟨i, hi, rfl, hga, rfl, hW⟩) hS (by decide) (by decide) dX5_charge_47
    · have hg2 := hg5
      refine W.eq (g2 := F0 m 19 ls [.int 0, .ref (ad 10 0)]) rfl ?_
      refine lv_if_ne (tgt := 26) hx hb dX5_charge_19 (by decide) (fun c9 => absurd c9 (by decide)) (fun c9 => ?_)
      refine lv_iconst (v := 2) hx hb dX5_charge_22 (by decide) ?_
      refine lv_goto (tgt := 27) hx hb dX5_charge_23 (by decide) ?_
      refine m_putt (x := 2) hx hb hts (fun _ h => List.mem_cons_of_mem _ (List.mem_append_right _ (h))) hown hE hW hD hS rfl (hts (.fieldLink RX5 74 "RoamingHouseModel" "thrown" "I") (by decide +kernel)) rfl rfl rfl (Nat.le_of_ble_eq_true rfl) rfl dX5_charge_27 (fun H locs hW hS => ?_)
      refine lv_aload_n hx hb dX5_charge_30 rfl (lv_at hl 0 rfl) ?_
      refine rh_get (ci := 5) (C := RX5) (T := TX5) (N := 26) (v := .int 2) hx hb hts (fun _ h => List.mem_cons_of_mem _ (List.mem_append_right _ (h))) hown hE (hW.at 10 0 Nat.zero_lt_one) rfl 25 (by decide) (hts (.fieldLink RX5 74 "RoamingHouseModel" "thrown" "I") (by decide +kernel)) rfl dX5_charge_31 ?_
      refine lv_if_ne (tgt := 46) hx hb dX5_charge_34 (by decide) (fun c10 => ?_) (fun c10 => absurd c10 (by decide))
      refine lv_iconst (v := 0) hx hb dX5_charge_46 (by decide) ?_
      exact rh_iret hx hb hr hlocks (Or.inr (Or.inr ⟨ho, hg2, ⟨_, rfl⟩, hW⟩)) hS (by decide) (by decide) dX5_charge_47
  · have hno := ho2
    refine W.eq (g2 := F0 m 5 ls [.int 0, .ref (ad 10 0)]) rfl ?_
    refine lv_if_ne (tgt := 12) hx hb dX5_charge_5 (by decide) (fun c11 => absurd c11 (by decide)) (fun c11 => ?_)
    refine lv_iconst (v := 1) hx hb dX5_charge_8 (by decide) ?_
    refine lv_goto (tgt := 27) hx hb dX5_charge_9 (by decide) ?_
    refine m_putt (x := 1) hx hb hts (fun _ h => List.mem_cons_of_mem _ (List.mem_append_right _ (h))) hown hE hW hD hS rfl (hts (.fieldLink RX5 74 "RoamingHouseModel" "thrown" "I") (by decide +kernel)) rfl rfl rfl (Nat.le_of_ble_eq_true rfl) rfl dX5_charge_27 (fun H locs hW hS => ?_)
    refine lv_aload_n hx hb dX5_charge_30 rfl (lv_at hl 0 rfl) ?_
    refine rh_get (ci := 5) (C := RX5) (T := TX5) (N := 26) (v := .int 1) hx hb hts (fun _ h => List.mem_cons_of_mem _ (List.mem_append_right _ (h))) hown hE (hW.at 10 0 Nat.zero_lt_one) rfl 25 (by decide) (hts (.fieldLink RX5 74 "RoamingHouseModel" "thrown" "I") (by decide +kernel)) rfl dX5_charge_31 ?_
    refine lv_if_ne (tgt := 46) hx hb dX5_charge_34 (by decide) (fun c12 => ?_) (fun c12 => absurd c12 (by decide))
    refine lv_iconst (v := 0) hx hb dX5_charge_46 (by decide) ?_
    exact rh_iret hx hb hr hlocks (Or.inr (Or.inl ⟨hno, ⟨_, rfl⟩, hW⟩)) hS (by decide) (by decide) dX5_charge_47
set_option maxHeartbeats 4000000 in
set_option maxRecDepth 100000 in
theorem ct_X5_setRate (l : Launch) {G : va_G} {ca : Nat → ClassId} {A : Nat → Prop} {ad : Nat → Nat → Nat} {w : rh_Wm} {th : Int32} (hD : rh_D A ad (fun k i => i < m_n k)) (x y : Int32) : rh_M l yX5_setRate wsX5_setRate ({ frames := 4, cells := 0, slots := 0, locals := 120 } : Room) G ca A [.ref (ad 10 0), .int x, .int y] (m_W G ca ad w th) (fun o H => (∃ i9 : Nat, i9 < 4 ∧ x = nI i9 ∧ rng y 1 100000 ∧ o = some (.int (w 3 i9)) ∧ m_W G ca ad (wm w 3 i9 y) 0 H) ∨ (¬ ix x 4 ∧ (∃ z, o = some (.int z)) ∧ m_W G ca ad w 1 H) ∨ (ix x 4 ∧ ¬ rng y 1 100000 ∧ (∃ z, o = some (.int z)) ∧ m_W G ca ad w 2 H)) rh_no 0 0 := by
  refine rh_enter (cc := cX5_setRate) (maxL := 4) (ret := (some .int)) (by decide) rfl (Nat.le_of_ble_eq_true rfl) ?_
  intro p e s m below meth c ls hx hb hr hml hown hts hlocks hex hin hE hA hW hl
  have hS : va_S A s.heap s.heap [] := va_S.rf
  have hl : lv_has ls 4 [(0, .ref (ad 10 0)), (1, .int x), (2, .int y)] := hl
  refine lv_aload_n hx hb dX5_setRate_0 rfl (lv_at hl 0 rfl) ?_
  refine lv_iload_n hx hb dX5_setRate_1 rfl (lv_at hl 1 rfl) ?_
  refine rh_calln (vx_runS (As := [.int x]) (rest := [.ref (ad 10 0)]) ⟨hx, hb, hml, hown, hts⟩ (ct_X5_isOperator l hD x) (va_cwS 1 hts gX5_setRate_X5_isOperator rfl rfl rfl (by decide +kernel) ⟨by decide, by decide⟩) (rh_pre hE hS hA hW) rfl rfl hl.1 rfl (lv_room (Nat.le_of_ble_eq_true rfl)) dX5_setRate_2 ⟨by decide, by decide⟩) hS (fun o H locs hN1 hS => ?_)
  obtain ⟨⟨ho2, rfl⟩ | ⟨ho2, rfl⟩, hW⟩ := hN1
  · have ho := ho2
    refine W.eq (g2 := F0 m 5 ls [.int 1, .ref (ad 10 0)]) rfl ?_
    refine lv_if_ne (tgt := 12) hx hb dX5_setRate_5 (by decide) (fun c3 => ?_) (fun c3 => absurd c3 (by decide))
    refine lv_iload_n hx hb dX5_setRate_12 rfl (lv_at hl 2 rfl) ?_
    refine lv_iconst (v := 1) hx hb dX5_setRate_13 (by decide) ?_
    refine lv_ldc (v := 100000) hx hb hown (hts (.constant RX5 143 (100000)) (by decide +kernel)) dX5_setRate_14 ?_
    refine rh_calln (vx_runS (As := [.int y, .int 1, .int 100000]) (rest := [.ref (ad 10 0)]) ⟨hx, hb, hml, hown, hts⟩ (ct_X5_in l hD y 1 100000) (va_cwS 3 hts gX5_setRate_X5_in rfl rfl rfl (by decide +kernel) ⟨by decide, by decide⟩) (rh_pre hE hS hA hW) rfl rfl hl.1 rfl (lv_room (Nat.le_of_ble_eq_true rfl)) dX5_setRate_16 ⟨by decide, by decide⟩) hS (fun o H locs hN4 hS => ?_)
    obtain ⟨⟨hg5, rfl⟩ | ⟨hg5, rfl⟩, hW⟩ := hN4
    · have hga := hg5
      refine W.eq (g2 := F0 m 19 ls [.int 1, .ref (ad 10 0)]) rfl ?_
      refine lv_if_ne (tgt := 26) hx hb dX5_setRate_19 (by decide) (fun c6 => ?_) (fun c6 => absurd c6 (by decide))
      refine lv_iconst (v := 0) hx hb dX5_setRate_26 (by decide) ?_
      refine m_putt (x := 0) hx hb hts (fun _ h => List.mem_cons_of_mem _ (List.mem_append_right _ (h))) hown hE hW hD hS rfl (hts (.fieldLink RX5 74 "RoamingHouseModel" "thrown" "I") (by decide +kernel)) rfl rfl rfl (Nat.le_of_ble_eq_true rfl) rfl dX5_setRate_27 (fun H locs hW hS => ?_)
      refine lv_aload_n hx hb dX5_setRate_30 rfl (lv_at hl 0 rfl) ?_
      refine rh_get (ci := 5) (C := RX5) (T := TX5) (N := 26) (v := .int 0) hx hb hts (fun _ h => List.mem_cons_of_mem _ (List.mem_append_right _ (h))) hown hE (hW.at 10 0 Nat.zero_lt_one) rfl 25 (by decide) (hts (.fieldLink RX5 74 "RoamingHouseModel" "thrown" "I") (by decide +kernel)) rfl dX5_setRate_31 ?_
      refine lv_if_le (tgt := 39) hx hb dX5_setRate_34 (by decide) (fun c7 => ?_) (fun c7 => absurd c7 (by decide))
      obtain ⟨i, hi, rfl⟩ := (ix_iff (by decide)).mp ho
      refine lv_aload_n hx hb dX5_setRate_39 rfl (lv_at hl 0 rfl) ?_
      refine rh_get (ci := 5) (C := RX5) (T := TX5) (N := 26) (v := .ref (ad 23 0)) hx hb hts (fun _ h => List.mem_cons_of_mem _ (List.mem_append_right _ (h))) hown hE (hW.at 10 0 Nat.zero_lt_one) rfl 3 (by decide) (hts (.fieldLink RX5 19 "RoamingHouseModel" "rates" "[I") (by decide +kernel)) rfl dX5_setRate_40 ?_
      refine lv_iload_n hx hb dX5_setRate_43 rfl (lv_at hl 1 rfl) ?_
      refine rh_iald (n := 4) (f := w 3) hx hb hE (hW.at 23 0 Nat.zero_lt_one) i (by omega) (by decide) rfl dX5_setRate_44 ?_
      refine lv_istore_n (lv' := [(3, .int (w 3 i)), (0, .ref (ad 10 0)), (1, .int (nI i)), (2, .int y)]) hx hb dX5_setRate_45 rfl hl (by decide) rfl (fun ls hl => ?_)
      refine lv_aload_n hx hb dX5_setRate_46 rfl (lv_at hl 1 rfl) ?_
      refine rh_get (ci := 5) (C := RX5) (T := TX5) (N := 26) (v := .ref (ad 23 0)) hx hb hts (fun _ h => List.mem_cons_of_mem _ (List.mem_append_right _ (h))) hown hE (hW.at 10 0 Nat.zero_lt_one) rfl 3 (by decide) (hts (.fieldLink RX5 19 "RoamingHouseModel" "rates" "[I") (by decide +kernel)) rfl dX5_setRate_47 ?_
      refine lv_iload_n hx hb dX5_setRate_50 rfl (lv_at hl 2 rfl) ?_
      refine lv_iload_n hx hb dX5_setRate_51 rfl (lv_at hl 3 rfl) ?_
      refine m_iast (x := y) hx hb hE hW hD hS 3 (n := 4) (by decide) Nat.zero_lt_one rfl i (by omega) (by decide) rfl rfl dX5_setRate_52 (fun H locs hW hS => ?_)
      refine lv_iload_n hx hb dX5_setRate_53 rfl (lv_at hl 0 rfl) ?_
      exact rh_iret hx hb hr hlocks (Or.inl ⟨i, hi, rfl, hga, rfl, hW⟩) hS (by decide) (by decide) dX5_setRate_54
    · have hg2 := hg5
      refine W.eq (g2 := F0 m 19 ls [.int 0, .ref (ad 10 0)]) rfl ?_
      refine lv_if_ne (tgt := 26) hx hb dX5_setRate_19 (by decide) (fun c8 => absurd c8 (by decide)) (fun c8 => ?_)
      refine lv_iconst (v := 2) hx hb dX5_setRate_22 (by decide) ?_
      refine lv_goto (tgt := 27) hx hb dX5_setRate_23 (by decide) ?_
      refine m_putt (x := 2) hx hb hts (fun _ h => List.mem_cons_of_mem _ (List.mem_append_right _ (h))) hown hE hW hD hS rfl (hts (.fieldLink RX5 74 "RoamingHouseModel" "thrown" "I") (by decide +kernel)) rfl rfl rfl (Nat.le_of_ble_eq_true rfl) rfl dX5_setRate_27 (fun H locs hW hS => ?_)
      refine lv_aload_n hx hb dX5_setRate_30 rfl (lv_at hl 0 rfl) ?_
      refine rh_get (ci := 5) (C := RX5) (T := TX5) (N := 26) (v := .int 2) hx hb hts (fun _ h => List.mem_cons_of_mem _ (List.mem_append_right _ (h))) hown hE (hW.at 10 0 Nat.zero_lt_one) rfl 25 (by decide) (hts (.fieldLink RX5 74 "RoamingHouseModel" "thrown" "I") (by decide +kernel)) rfl dX5_setRate_31 ?_
      refine lv_if_le (tgt := 39) hx hb dX5_setRate_34 (by decide) (fun c9 => absurd c9 (by decide)) (fun c9 => ?_)
      refine lv_iconst (v := 0) hx hb dX5_setRate_37 (by decide) ?_
      exact rh_iret hx hb hr hlocks (Or.inr (Or.inr ⟨ho, hg2, ⟨_, rfl⟩, hW⟩)) hS (by decide) (by decide) dX5_setRate_38
  · have hno := ho2
    refine W.eq (g2 := F0 m 5 ls [.int 0, .ref (ad 10 0)]) rfl ?_
    refine lv_if_ne (tgt := 12) hx hb dX5_setRate_5 (by decide) (fun c10 => absurd c10 (by decide)) (fun c10 => ?_)
    refine lv_iconst (v := 1) hx hb dX5_setRate_8 (by decide) ?_
    refine lv_goto (tgt := 27) hx hb dX5_setRate_9 (by decide) ?_
    refine m_putt (x := 1) hx hb hts (fun _ h => List.mem_cons_of_mem _ (List.mem_append_right _ (h))) hown hE hW hD hS rfl (hts (.fieldLink RX5 74 "RoamingHouseModel" "thrown" "I") (by decide +kernel)) rfl rfl rfl (Nat.le_of_ble_eq_true rfl) rfl dX5_setRate_27 (fun H locs hW hS => ?_)
    refine lv_aload_n hx hb dX5_setRate_30 rfl (lv_at hl 0 rfl) ?_
    refine rh_get (ci := 5) (C := RX5) (T := TX5) (N := 26) (v := .int 1) hx hb hts (fun _ h => List.mem_cons_of_mem _ (List.mem_append_right _ (h))) hown hE (hW.at 10 0 Nat.zero_lt_one) rfl 25 (by decide) (hts (.fieldLink RX5 74 "RoamingHouseModel" "thrown" "I") (by decide +kernel)) rfl dX5_setRate_31 ?_
    refine lv_if_le (tgt := 39) hx hb dX5_setRate_34 (by decide) (fun c11 => absurd c11 (by decide)) (fun c11 => ?_)
    refine lv_iconst (v := 0) hx hb dX5_setRate_37 (by decide) ?_
    exact rh_iret hx hb hr hlocks (Or.inr (Or.inl ⟨hno, ⟨_, rfl⟩, hW⟩)) hS (by decide) (by decide) dX5_setRate_38
set_option maxHeartbeats 4000000 in
set_option maxRecDepth 100000 in
theorem ct_X5_promise (l : Launch) {G : va_G} {ca : Nat → ClassId} {A : Nat → Prop} {ad : Nat → Nat → Nat} {w : rh_Wm} {th : Int32} (hD : rh_D A ad (fun k i => i < m_n k)) (x y z : Int32) : rh_M l yX5_promise wsX5_promise ({ frames := 4, cells := 0, slots := 0, locals := 120 } : Room) G ca A [.ref (ad 10 0), .int x, .int y, .int z] (m_W G ca ad w th) (fun o H => (∃ h9 k9 : Nat, h9 < 4 ∧ k9 < 4 ∧ h9 ≠ k9 ∧ x = nI h9 ∧ y = nI k9 ∧ rng z 0 100000000 ∧ o = some (.int (w 23 (h9 * 4 + k9))) ∧ m_W G ca ad (wm w 23 (h9 * 4 + k9) z) 0 H) ∨ (¬ (ix x 4 ∧ ix y 4) ∧ (∃ z, o = some (.int z)) ∧ m_W G ca ad w 1 H) ∨ (ix x 4 ∧ ix y 4 ∧ (x = y ∨ ¬ rng z 0 100000000) ∧ (∃ z, o = some (.int z)) ∧ m_W G ca ad w 2 H)) rh_no 0 0 := by
  refine rh_enter (cc := cX5_promise) (maxL := 5) (ret := (some .int)) (by decide) rfl (Nat.le_of_ble_eq_true rfl) ?_
  intro p e s m below meth c ls hx hb hr hml hown hts hlocks hex hin hE hA hW hl
  have hS : va_S A s.heap s.heap [] := va_S.rf
  have hl : lv_has ls 5 [(0, .ref (ad 10 0)), (1, .int x), (2, .int y), (3, .int z)] := hl
  refine lv_aload_n hx hb dX5_promise_0 rfl (lv_at hl 0 rfl) ?_
  refine lv_iload_n hx hb dX5_promise_1 rfl (lv_at hl 1 rfl) ?_
  refine lv_iload_n hx hb dX5_promise_2 rfl (lv_at hl 2 rfl) ?_
  refine lv_iload_n hx hb dX5_promise_3 rfl (lv_at hl 3 rfl) ?_
  refine lv_iconst (v := 0) hx hb dX5_promise_4 (by decide) ?_
  refine lv_ldc (v := 100000000) hx hb hown (hts (.constant RX5 142 (100000000)) (by decide +kernel)) dX5_promise_5 ?_
  refine rh_calln (vx_runS (As := [.int z, .int 0, .int 100000000]) (rest := [.int y, .int x, .ref (ad 10 0)]) ⟨hx, hb, hml, hown, hts⟩ (ct_X5_in l hD z 0 100000000) (va_cwS 3 hts gX5_promise_X5_in rfl rfl rfl (by decide +kernel) ⟨by decide, by decide⟩) (rh_pre hE hS hA hW) rfl rfl hl.1 rfl (lv_room (Nat.le_of_ble_eq_true rfl)) dX5_promise_7 ⟨by decide, by decide⟩) hS (fun o H locs hN1 hS => ?_)
  obtain ⟨⟨hg2, rfl⟩ | ⟨hg2, rfl⟩, hW⟩ := hN1
  · have hga := hg2
    refine W.eq (g2 := F0 m 10 ls [.int 1, .int y, .int x, .ref (ad 10 0)]) rfl ?_
    refine rh_calln (vx_runV (As := [.int x, .int y, .int 1]) (rest := []) ⟨hx, hb, hml, hown, hts⟩ (ct_X5_isPair l hD x y 1) (cwV 3 hts gX5_promise_X5_isPair rfl rfl rfl (by decide +kernel) ⟨by decide, by decide⟩) (rh_preV hE hS hA (hW.at 10 0 Nat.zero_lt_one) rfl hW) rfl rfl hl.1 rfl (lv_room (Nat.le_of_ble_eq_true rfl)) dX5_promise_10 ⟨by decide, by decide⟩) hS (fun o H locs hN3 hS => ?_)
    rcases hN3 with ⟨h, k, hh, hk, hne, rfl, rfl, hz, rfl, hW⟩ | ⟨hno, rfl, hW⟩ | ⟨hox, hoy, hxz, rfl, hW⟩
    · refine W.eq (g2 := F0 m 13 ls [.int 1]) rfl ?_
      refine lv_if_ne (tgt := 18) hx hb dX5_promise_13 (by decide) (fun c4 => ?_) (fun c4 => absurd c4 (by decide))
      refine lv_aload_n hx hb dX5_promise_18 rfl (lv_at hl 0 rfl) ?_
      refine rh_get (ci := 5) (C := RX5) (T := TX5) (N := 26) (v := .ref (ad 43 0)) hx hb hts (fun _ h => List.mem_cons_of_mem _ (List.mem_append_right _ (h))) hown hE (hW.at 10 0 Nat.zero_lt_one) rfl 23 (by decide) (hts (.fieldLink RX5 71 "RoamingHouseModel" "promises" "[I") (by decide +kernel)) rfl dX5_promise_19 ?_
      refine lv_iconst (v := 4) hx hb dX5_promise_22 (by decide) ?_
      refine lv_iload_n hx hb dX5_promise_23 rfl (lv_at hl 1 rfl) ?_
      refine lv_imul hx hb dX5_promise_24 ?_
      refine lv_iload_n hx hb dX5_promise_25 rfl (lv_at hl 2 rfl) ?_
      refine lv_iadd hx hb dX5_promise_26 ?_
      rw [(m_4pq hh hk).1]
      refine rh_iald (n := 16) (f := w 23) hx hb hE (hW.at 43 0 Nat.zero_lt_one) (h * 4 + k) (m_4pq hh hk).2 (by decide) rfl dX5_promise_27 ?_
      refine lv_istore (lv' := [(4, .int (w 23 (h * 4 + k))), (0, .ref (ad 10 0)), (1, .int (nI h)), (2, .int (nI k)), (3, .int z)]) hx hb dX5_promise_28 hl (by decide) rfl (fun ls hl => ?_)
      refine lv_aload_n hx hb dX5_promise_30 rfl (lv_at hl 1 rfl) ?_
      refine rh_get (ci := 5) (C := RX5) (T := TX5) (N := 26) (v := .ref (ad 43 0)) hx hb hts (fun _ h => List.mem_cons_of_mem _ (List.mem_append_right _ (h))) hown hE (hW.at 10 0 Nat.zero_lt_one) rfl 23 (by decide) (hts (.fieldLink RX5 71 "RoamingHouseModel" "promises" "[I") (by decide +kernel)) rfl dX5_promise_31 ?_
      refine lv_iconst (v := 4) hx hb dX5_promise_34 (by decide) ?_
      refine lv_iload_n hx hb dX5_promise_35 rfl (lv_at hl 2 rfl) ?_
      refine lv_imul hx hb dX5_promise_36 ?_
      refine lv_iload_n hx hb dX5_promise_37 rfl (lv_at hl 3 rfl) ?_
      refine lv_iadd hx hb dX5_promise_38 ?_
      rw [(m_4pq hh hk).1]
      refine lv_iload_n hx hb dX5_promise_39 rfl (lv_at hl 4 rfl) ?_
      refine m_iast (x := z) hx hb hE hW hD hS 23 (n := 16) (by decide) Nat.zero_lt_one rfl (h * 4 + k) (m_4pq hh hk).2 (by decide) rfl rfl dX5_promise_40 (fun H locs hW hS => ?_)
      refine lv_iload hx hb dX5_promise_41 (lv_at hl 0 rfl) ?_
      exact rh_iret hx hb hr hlocks (Or.inl ⟨h, k, hh, hk, hne, rfl, rfl, hga, rfl, hW⟩) hS (by decide) (by decide) dX5_promise_43
    · refine W.eq (g2 := F0 m 13 ls [.int 0]) rfl ?_
      refine lv_if_ne (tgt := 18) hx hb dX5_promise_13 (by decide) (fun c5 => absurd c5 (by decide)) (fun c5 => ?_)
      refine lv_iconst (v := 0) hx hb dX5_promise_16 (by decide) ?_
      exact rh_iret hx hb hr hlocks (Or.inr (Or.inl ⟨hno, ⟨_, rfl⟩, hW⟩)) hS (by decide) (by decide) dX5_promise_17
    · refine W.eq (g2 := F0 m 13 ls [.int 0]) rfl ?_
      refine lv_if_ne (tgt := 18) hx hb dX5_promise_13 (by decide) (fun c6 => absurd c6 (by decide)) (fun c6 => ?_)
      refine lv_iconst (v := 0) hx hb dX5_promise_16 (by decide) ?_
      exact rh_iret hx hb hr hlocks (Or.inr (Or.inr ⟨hox, hoy, (by first | exact hxz.imp (fun z => z) (fun z => absurd z (by decide)) | exact Or.inr hga), ⟨_, rfl⟩, hW⟩)) hS (by decide) (by decide) dX5_promise_17
  · have hga := hg2
    refine W.eq (g2 := F0 m 10 ls [.int 0, .int y, .int x, .ref (ad 10 0)]) rfl ?_
    refine rh_calln (vx_runV (As := [.int x, .int y, .int 0]) (rest := []) ⟨hx, hb, hml, hown, hts⟩ (ct_X5_isPair l hD x y 0) (cwV 3 hts gX5_promise_X5_isPair rfl rfl rfl (by decide +kernel) ⟨by decide, by decide⟩) (rh_preV hE hS hA (hW.at 10 0 Nat.zero_lt_one) rfl hW) rfl rfl hl.1 rfl (lv_room (Nat.le_of_ble_eq_true rfl)) dX5_promise_10 ⟨by decide, by decide⟩) hS (fun o H locs hN7 hS => ?_)
    rcases hN7 with ⟨h, k, hh, hk, hne, rfl, rfl, hz, rfl, hW⟩ | ⟨hno, rfl, hW⟩ | ⟨hox, hoy, hxz, rfl, hW⟩
    · exact absurd rfl hz
    · refine W.eq (g2 := F0 m 13 ls [.int 0]) rfl ?_
      refine lv_if_ne (tgt := 18) hx hb dX5_promise_13 (by decide) (fun c8 => absurd c8 (by decide)) (fun c8 => ?_)
      refine lv_iconst (v := 0) hx hb dX5_promise_16 (by decide) ?_
      exact rh_iret hx hb hr hlocks (Or.inr (Or.inl ⟨hno, ⟨_, rfl⟩, hW⟩)) hS (by decide) (by decide) dX5_promise_17
    · refine W.eq (g2 := F0 m 13 ls [.int 0]) rfl ?_
      refine lv_if_ne (tgt := 18) hx hb dX5_promise_13 (by decide) (fun c9 => absurd c9 (by decide)) (fun c9 => ?_)
      refine lv_iconst (v := 0) hx hb dX5_promise_16 (by decide) ?_
      exact rh_iret hx hb hr hlocks (Or.inr (Or.inr ⟨hox, hoy, (by first | exact hxz.imp (fun z => z) (fun z => absurd z (by decide)) | exact Or.inr hga), ⟨_, rfl⟩, hW⟩)) hS (by decide) (by decide) dX5_promise_17
