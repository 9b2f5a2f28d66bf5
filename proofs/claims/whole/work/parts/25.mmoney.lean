/-! ===== the model's amounts ===== -/
set_option maxHeartbeats 4000000 in
set_option maxRecDepth 100000 in
theorem ct_X5_dispute (l : Launch) {G : va_G} {ca : Nat → ClassId} {A : Nat → Prop} {ad : Nat → Nat → Nat} {nf nc : Nat} {r : rh_R} {w : rh_Wm} {th : Int32} (hD : rh_D A ad (fun k i => i < m_n k)) (hwf : m_wf0 nf nc r w) (x : Int32) : rh_M l yX5_dispute wsX5_dispute ({ frames := 4, cells := 0, slots := 0, locals := 120 } : Room) G ca A [.ref (ad 10 0), .int x] (m_W G ca ad w th) (fun o H => (∃ i9 : Nat, i9 < nc ∧ x = nI i9 ∧ w 13 i9 = 1 ∧ ¬ 1 < w 26 24 - w 14 i9 ∧ o = none ∧ m_W G ca ad (wm (wm w 13 i9 2) 15 i9 (w 26 24)) 0 H) ∨ (¬ ix x nc ∧ o = none ∧ m_W G ca ad w 1 H) ∨ (∃ i9 : Nat, i9 < nc ∧ x = nI i9 ∧ ¬ (w 13 i9 = 1 ∧ ¬ 1 < w 26 24 - w 14 i9) ∧ o = none ∧ m_W G ca ad w 2 H)) rh_no 0 0 := by
  obtain ⟨hnf, hnc, hfc, hcc, h5, h10, hst⟩ := id hwf
  refine rh_enter (cc := cX5_dispute) (maxL := 2) (ret := none) (by decide) rfl (Nat.le_of_ble_eq_true rfl) ?_
  intro p e s m below meth c ls hx hb hr hml hown hts hlocks hex hin hE hA hW hl
  have hS : va_S A s.heap s.heap [] := va_S.rf
  have hl : lv_has ls 2 [(0, .ref (ad 10 0)), (1, .int x)] := hl
  refine lv_aload_n hx hb dX5_dispute_0 rfl (lv_at hl 0 rfl) ?_
  refine lv_aload_n hx hb dX5_dispute_1 rfl (lv_at hl 0 rfl) ?_
  refine lv_iload_n hx hb dX5_dispute_2 rfl (lv_at hl 1 rfl) ?_
  refine rh_calln (vx_runV (As := [.int x]) (rest := [.ref (ad 10 0)]) ⟨hx, hb, hml, hown, hts⟩ (ct_X5_isCall l hD hwf x) (cwV 1 hts gX5_dispute_X5_isCall rfl rfl rfl (by decide +kernel) ⟨by decide, by decide⟩) (rh_preV hE hS hA (hW.at 10 0 Nat.zero_lt_one) rfl hW) rfl rfl hl.1 rfl (lv_room (Nat.le_of_ble_eq_true rfl)) dX5_dispute_3 ⟨by decide, by decide⟩) hS (fun o H locs hN1 hS => ?_)
  obtain ⟨⟨ho2, rfl⟩ | ⟨ho2, rfl⟩, hW⟩ := hN1
  · have ho := ho2
    refine W.eq (g2 := F0 m 6 ls [.int 1, .ref (ad 10 0)]) rfl ?_
    refine lv_if_ne (tgt := 13) hx hb dX5_dispute_6 (by decide) (fun c3 => ?_) (fun c3 => absurd c3 (by decide))
    obtain ⟨c9, hc9, rfl⟩ := (ix_iff (by omega)).mp ho
    refine lv_aload_n hx hb dX5_dispute_13 rfl (lv_at hl 0 rfl) ?_
    refine rh_get (ci := 5) (C := RX5) (T := TX5) (N := 26) (v := .ref (ad 33 0)) hx hb hts (fun _ h => List.mem_cons_of_mem _ (List.mem_append_right _ (h))) hown hE (hW.at 10 0 Nat.zero_lt_one) rfl 13 (by decide) (hts (.fieldLink RX5 43 "RoamingHouseModel" "callStates" "[I") (by decide +kernel)) rfl dX5_dispute_14 ?_
    refine lv_iload_n hx hb dX5_dispute_17 rfl (lv_at hl 1 rfl) ?_
    refine rh_iald (n := 60) (f := w 13) hx hb hE (hW.at 33 0 Nat.zero_lt_one) c9 (by omega) (by decide) rfl dX5_dispute_18 ?_
    refine lv_iconst (v := 1) hx hb dX5_dispute_19 (by decide) ?_
    refine lv_icmp_ne (tgt := 38) hx hb dX5_dispute_20 (by decide) (fun c4 => ?_) (fun c4 => ?_)
    · have hg2 : ¬ (w 13 c9 = 1 ∧ ¬ 1 < w 26 24 - w 14 c9) := fun z => c4 z.1
      refine lv_iconst (v := 2) hx hb dX5_dispute_38 (by decide) ?_
      refine lv_goto (tgt := 43) hx hb dX5_dispute_39 (by decide) ?_
      refine m_putt (x := 2) hx hb hts (fun _ h => List.mem_cons_of_mem _ (List.mem_append_right _ (h))) hown hE hW hD hS rfl (hts (.fieldLink RX5 74 "RoamingHouseModel" "thrown" "I") (by decide +kernel)) rfl rfl rfl (Nat.le_of_ble_eq_true rfl) rfl dX5_dispute_43 (fun H locs hW hS => ?_)
      refine lv_aload_n hx hb dX5_dispute_46 rfl (lv_at hl 0 rfl) ?_
      refine rh_get (ci := 5) (C := RX5) (T := TX5) (N := 26) (v := .int 2) hx hb hts (fun _ h => List.mem_cons_of_mem _ (List.mem_append_right _ (h))) hown hE (hW.at 10 0 Nat.zero_lt_one) rfl 25 (by decide) (hts (.fieldLink RX5 74 "RoamingHouseModel" "thrown" "I") (by decide +kernel)) rfl dX5_dispute_47 ?_
      refine lv_if_ne (tgt := 70) hx hb dX5_dispute_50 (by decide) (fun c5 => ?_) (fun c5 => absurd c5 (by decide))
      exact rh_vret hx hb hr hlocks (Or.inr (Or.inr ⟨c9, hc9, rfl, hg2, rfl, hW⟩)) hS (by decide) (by decide) dX5_dispute_70
    · have hs1 := c4
      refine lv_aload_n hx hb dX5_dispute_23 rfl (lv_at hl 0 rfl) ?_
      refine rh_get (ci := 5) (C := RX5) (T := TX5) (N := 26) (v := .int (w 26 24)) hx hb hts (fun _ h => List.mem_cons_of_mem _ (List.mem_append_right _ (h))) hown hE (hW.at 10 0 Nat.zero_lt_one) rfl 24 (by decide) (hts (.fieldLink RX5 101 "RoamingHouseModel" "now" "I") (by decide +kernel)) rfl dX5_dispute_24 ?_
      refine lv_aload_n hx hb dX5_dispute_27 rfl (lv_at hl 0 rfl) ?_
      refine rh_get (ci := 5) (C := RX5) (T := TX5) (N := 26) (v := .ref (ad 34 0)) hx hb hts (fun _ h => List.mem_cons_of_mem _ (List.mem_append_right _ (h))) hown hE (hW.at 10 0 Nat.zero_lt_one) rfl 14 (by decide) (hts (.fieldLink RX5 46 "RoamingHouseModel" "months" "[I") (by decide +kernel)) rfl dX5_dispute_28 ?_
      refine lv_iload_n hx hb dX5_dispute_31 rfl (lv_at hl 1 rfl) ?_
      refine rh_iald (n := 60) (f := w 14) hx hb hE (hW.at 34 0 Nat.zero_lt_one) c9 (by omega) (by decide) rfl dX5_dispute_32 ?_
      refine lv_isub hx hb dX5_dispute_33 ?_
      refine lv_iconst (v := 1) hx hb dX5_dispute_34 (by decide) ?_
      refine lv_icmp_le (tgt := 42) hx hb dX5_dispute_35 (by decide) (fun c6 => ?_) (fun c6 => ?_)
      · have hgb := le_nlt c6
        refine lv_iconst (v := 0) hx hb dX5_dispute_42 (by decide) ?_
        refine m_putt (x := 0) hx hb hts (fun _ h => List.mem_cons_of_mem _ (List.mem_append_right _ (h))) hown hE hW hD hS rfl (hts (.fieldLink RX5 74 "RoamingHouseModel" "thrown" "I") (by decide +kernel)) rfl rfl rfl (Nat.le_of_ble_eq_true rfl) rfl dX5_dispute_43 (fun H locs hW hS => ?_)
        refine lv_aload_n hx hb dX5_dispute_46 rfl (lv_at hl 0 rfl) ?_
        refine rh_get (ci := 5) (C := RX5) (T := TX5) (N := 26) (v := .int 0) hx hb hts (fun _ h => List.mem_cons_of_mem _ (List.mem_append_right _ (h))) hown hE (hW.at 10 0 Nat.zero_lt_one) rfl 25 (by decide) (hts (.fieldLink RX5 74 "RoamingHouseModel" "thrown" "I") (by decide +kernel)) rfl dX5_dispute_47 ?_
        refine lv_if_ne (tgt := 70) hx hb dX5_dispute_50 (by decide) (fun c7 => absurd c7 (by decide)) (fun c7 => ?_)
        refine lv_aload_n hx hb dX5_dispute_53 rfl (lv_at hl 0 rfl) ?_
        refine rh_get (ci := 5) (C := RX5) (T := TX5) (N := 26) (v := .ref (ad 33 0)) hx hb hts (fun _ h => List.mem_cons_of_mem _ (List.mem_append_right _ (h))) hown hE (hW.at 10 0 Nat.zero_lt_one) rfl 13 (by decide) (hts (.fieldLink RX5 43 "RoamingHouseModel" "callStates" "[I") (by decide +kernel)) rfl dX5_dispute_54 ?_
        refine lv_iload_n hx hb dX5_dispute_57 rfl (lv_at hl 1 rfl) ?_
        refine lv_iconst (v := 2) hx hb dX5_dispute_58 (by decide) ?_
        refine m_iast (x := 2) hx hb hE hW hD hS 13 (n := 60) (by decide) Nat.zero_lt_one rfl c9 (by omega) (by decide) rfl rfl dX5_dispute_59 (fun H locs hW hS => ?_)
        refine lv_aload_n hx hb dX5_dispute_60 rfl (lv_at hl 0 rfl) ?_
        refine rh_get (ci := 5) (C := RX5) (T := TX5) (N := 26) (v := .ref (ad 35 0)) hx hb hts (fun _ h => List.mem_cons_of_mem _ (List.mem_append_right _ (h))) hown hE (hW.at 10 0 Nat.zero_lt_one) rfl 15 (by decide) (hts (.fieldLink RX5 49 "RoamingHouseModel" "disputedIn" "[I") (by decide +kernel)) rfl dX5_dispute_61 ?_
        refine lv_iload_n hx hb dX5_dispute_64 rfl (lv_at hl 1 rfl) ?_
        refine lv_aload_n hx hb dX5_dispute_65 rfl (lv_at hl 0 rfl) ?_
        refine rh_get (ci := 5) (C := RX5) (T := TX5) (N := 26) (v := .int (w 26 24)) hx hb hts (fun _ h => List.mem_cons_of_mem _ (List.mem_append_right _ (h))) hown hE (hW.at 10 0 Nat.zero_lt_one) rfl 24 (by decide) (hts (.fieldLink RX5 101 "RoamingHouseModel" "now" "I") (by decide +kernel)) (show some (Value.int ((wm w 13 c9 2) 26 24)) = some (Value.int (w 26 24)) from by simp [wm_at]) dX5_dispute_66 ?_
        refine m_iast (x := (w 26 24)) hx hb hE hW hD hS 15 (n := 60) (by decide) Nat.zero_lt_one rfl c9 (by omega) (by decide) rfl rfl dX5_dispute_69 (fun H locs hW hS => ?_)
        exact rh_vret hx hb hr hlocks (Or.inl ⟨c9, hc9, rfl, hs1, hgb, rfl, hW⟩) hS (by decide) (by decide) dX5_dispute_70
      · have hg2 : ¬ (w 13 c9 = 1 ∧ ¬ 1 < w 26 24 - w 14 c9) := fun z => z.2 (nle_lt c6)
        refine lv_iconst (v := 2) hx hb dX5_dispute_38 (by decide) ?_
        refine lv_goto (tgt := 43) hx hb dX5_dispute_39 (by decide) ?_
        refine m_putt (x := 2) hx hb hts (fun _ h => List.mem_cons_of_mem _ (List.mem_append_right _ (h))) hown hE hW hD hS rfl (hts (.fieldLink RX5 74 "RoamingHouseModel" "thrown" "I") (by decide +kernel)) rfl rfl rfl (Nat.le_of_ble_eq_true rfl) rfl dX5_dispute_43 (fun H locs hW hS => ?_)
        refine lv_aload_n hx hb dX5_dispute_46 rfl (lv_at hl 0 rfl) ?_
        refine rh_get (ci := 5) (C := RX5) (T := TX5) (N := 26) (v := .int 2) hx hb hts (fun _ h => List.mem_cons_of_mem _ (List.mem_append_right _ (h))) hown hE (hW.at 10 0 Nat.zero_lt_one) rfl 25 (by decide) (hts (.fieldLink RX5 74 "RoamingHouseModel" "thrown" "I") (by decide +kernel)) rfl dX5_dispute_47 ?_
        refine lv_if_ne (tgt := 70) hx hb dX5_dispute_50 (by decide) (fun c8 => ?_) (fun c8 => absurd c8 (by decide))
        exact rh_vret hx hb hr hlocks (Or.inr (Or.inr ⟨c9, hc9, rfl, hg2, rfl, hW⟩)) hS (by decide) (by decide) dX5_dispute_70
  · have hno := ho2
    refine W.eq (g2 := F0 m 6 ls [.int 0, .ref (ad 10 0)]) rfl ?_
    refine lv_if_ne (tgt := 13) hx hb dX5_dispute_6 (by decide) (fun c9 => absurd c9 (by decide)) (fun c9 => ?_)
    refine lv_iconst (v := 1) hx hb dX5_dispute_9 (by decide) ?_
    refine lv_goto (tgt := 43) hx hb dX5_dispute_10 (by decide) ?_
    refine m_putt (x := 1) hx hb hts (fun _ h => List.mem_cons_of_mem _ (List.mem_append_right _ (h))) hown hE hW hD hS rfl (hts (.fieldLink RX5 74 "RoamingHouseModel" "thrown" "I") (by decide +kernel)) rfl rfl rfl (Nat.le_of_ble_eq_true rfl) rfl dX5_dispute_43 (fun H locs hW hS => ?_)
    refine lv_aload_n hx hb dX5_dispute_46 rfl (lv_at hl 0 rfl) ?_
    refine rh_get (ci := 5) (C := RX5) (T := TX5) (N := 26) (v := .int 1) hx hb hts (fun _ h => List.mem_cons_of_mem _ (List.mem_append_right _ (h))) hown hE (hW.at 10 0 Nat.zero_lt_one) rfl 25 (by decide) (hts (.fieldLink RX5 74 "RoamingHouseModel" "thrown" "I") (by decide +kernel)) rfl dX5_dispute_47 ?_
    refine lv_if_ne (tgt := 70) hx hb dX5_dispute_50 (by decide) (fun c10 => ?_) (fun c10 => absurd c10 (by decide))
    exact rh_vret hx hb hr hlocks (Or.inr (Or.inl ⟨hno, rfl, hW⟩)) hS (by decide) (by decide) dX5_dispute_70
set_option maxHeartbeats 4000000 in
set_option maxRecDepth 100000 in
theorem ct_X5_answer (l : Launch) {G : va_G} {ca : Nat → ClassId} {A : Nat → Prop} {ad : Nat → Nat → Nat} {nf nc : Nat} {r : rh_R} {w : rh_Wm} {th : Int32} (hD : rh_D A ad (fun k i => i < m_n k)) (hwf : m_wf0 nf nc r w) (x b : Int32) : rh_M l yX5_answer wsX5_answer ({ frames := 4, cells := 0, slots := 0, locals := 120 } : Room) G ca A [.ref (ad 10 0), .int x, .int b] (m_W G ca ad w th) (fun o H => (∃ i9 : Nat, i9 < nc ∧ x = nI i9 ∧ w 13 i9 = 2 ∧ o = none ∧ m_W G ca ad (wm w 13 i9 (if b = 0 then 4 else 3)) 0 H) ∨ (¬ ix x nc ∧ o = none ∧ m_W G ca ad w 1 H) ∨ (∃ i9 : Nat, i9 < nc ∧ x = nI i9 ∧ ¬ w 13 i9 = 2 ∧ o = none ∧ m_W G ca ad w 2 H)) rh_no 0 0 := by
  obtain ⟨hnf, hnc, hfc, hcc, h5, h10, hst⟩ := id hwf
  refine rh_enter (cc := cX5_answer) (maxL := 3) (ret := none) (by decide) rfl (Nat.le_of_ble_eq_true rfl) ?_
  intro p e s m below meth c ls hx hb hr hml hown hts hlocks hex hin hE hA hW hl
  have hS : va_S A s.heap s.heap [] := va_S.rf
  have hl : lv_has ls 3 [(0, .ref (ad 10 0)), (1, .int x), (2, .int b)] := hl
  refine lv_aload_n hx hb dX5_answer_0 rfl (lv_at hl 0 rfl) ?_
  refine lv_aload_n hx hb dX5_answer_1 rfl (lv_at hl 0 rfl) ?_
  refine lv_iload_n hx hb dX5_answer_2 rfl (lv_at hl 1 rfl) ?_
  refine rh_calln (vx_runV (As := [.int x]) (rest := [.ref (ad 10 0)]) ⟨hx, hb, hml, hown, hts⟩ (ct_X5_isCall l hD hwf x) (cwV 1 hts gX5_answer_X5_isCall rfl rfl rfl (by decide +kernel) ⟨by decide, by decide⟩) (rh_preV hE hS hA (hW.at 10 0 Nat.zero_lt_one) rfl hW) rfl rfl hl.1 rfl (lv_room (Nat.le_of_ble_eq_true rfl)) dX5_answer_3 ⟨by decide, by decide⟩) hS (fun o H locs hN1 hS => ?_)
  obtain ⟨⟨ho2, rfl⟩ | ⟨ho2, rfl⟩, hW⟩ := hN1
  · have ho := ho2
    refine W.eq (g2 := F0 m 6 ls [.int 1, .ref (ad 10 0)]) rfl ?_
    refine lv_if_ne (tgt := 13) hx hb dX5_answer_6 (by decide) (fun c3 => ?_) (fun c3 => absurd c3 (by decide))
    obtain ⟨c9, hc9, rfl⟩ := (ix_iff (by omega)).mp ho
    refine lv_aload_n hx hb dX5_answer_13 rfl (lv_at hl 0 rfl) ?_
    refine rh_get (ci := 5) (C := RX5) (T := TX5) (N := 26) (v := .ref (ad 33 0)) hx hb hts (fun _ h => List.mem_cons_of_mem _ (List.mem_append_right _ (h))) hown hE (hW.at 10 0 Nat.zero_lt_one) rfl 13 (by decide) (hts (.fieldLink RX5 43 "RoamingHouseModel" "callStates" "[I") (by decide +kernel)) rfl dX5_answer_14 ?_
    refine lv_iload_n hx hb dX5_answer_17 rfl (lv_at hl 1 rfl) ?_
    refine rh_iald (n := 60) (f := w 13) hx hb hE (hW.at 33 0 Nat.zero_lt_one) c9 (by omega) (by decide) rfl dX5_answer_18 ?_
    refine lv_iconst (v := 2) hx hb dX5_answer_19 (by decide) ?_
    refine lv_icmp_eq (tgt := 27) hx hb dX5_answer_20 (by decide) (fun c4 => ?_) (fun c4 => ?_)
    · have hs2 := c4
      refine lv_iconst (v := 0) hx hb dX5_answer_27 (by decide) ?_
      refine m_putt (x := 0) hx hb hts (fun _ h => List.mem_cons_of_mem _ (List.mem_append_right _ (h))) hown hE hW hD hS rfl (hts (.fieldLink RX5 74 "RoamingHouseModel" "thrown" "I") (by decide +kernel)) rfl rfl rfl (Nat.le_of_ble_eq_true rfl) rfl dX5_answer_28 (fun H locs hW hS => ?_)
      refine lv_aload_n hx hb dX5_answer_31 rfl (lv_at hl 0 rfl) ?_
      refine rh_get (ci := 5) (C := RX5) (T := TX5) (N := 26) (v := .int 0) hx hb hts (fun _ h => List.mem_cons_of_mem _ (List.mem_append_right _ (h))) hown hE (hW.at 10 0 Nat.zero_lt_one) rfl 25 (by decide) (hts (.fieldLink RX5 74 "RoamingHouseModel" "thrown" "I") (by decide +kernel)) rfl dX5_answer_32 ?_
      refine lv_if_ne (tgt := 53) hx hb dX5_answer_35 (by decide) (fun c5 => absurd c5 (by decide)) (fun c5 => ?_)
      refine lv_aload_n hx hb dX5_answer_38 rfl (lv_at hl 0 rfl) ?_
      refine rh_get (ci := 5) (C := RX5) (T := TX5) (N := 26) (v := .ref (ad 33 0)) hx hb hts (fun _ h => List.mem_cons_of_mem _ (List.mem_append_right _ (h))) hown hE (hW.at 10 0 Nat.zero_lt_one) rfl 13 (by decide) (hts (.fieldLink RX5 43 "RoamingHouseModel" "callStates" "[I") (by decide +kernel)) rfl dX5_answer_39 ?_
      refine lv_iload_n hx hb dX5_answer_42 rfl (lv_at hl 1 rfl) ?_
      refine lv_iload_n hx hb dX5_answer_43 rfl (lv_at hl 2 rfl) ?_
      refine lv_if_eq (tgt := 51) hx hb dX5_answer_44 (by decide) (fun c6 => ?_) (fun c6 => ?_)
      · have hb0 := c6
        refine lv_iconst (v := 4) hx hb dX5_answer_51 (by decide) ?_
        refine m_iast (x := 4) hx hb hE hW hD hS 13 (n := 60) (by decide) Nat.zero_lt_one rfl c9 (by omega) (by decide) rfl rfl dX5_answer_52 (fun H locs hW hS => ?_)
        exact rh_vret hx hb hr hlocks (Or.inl ⟨c9, hc9, rfl, hs2, rfl, (by rw [if_pos hb0]; exact hW)⟩) hS (by decide) (by decide) dX5_answer_53
      · have hb0 := c6
        refine lv_iconst (v := 3) hx hb dX5_answer_47 (by decide) ?_
        refine lv_goto (tgt := 52) hx hb dX5_answer_48 (by decide) ?_
        refine m_iast (x := 3) hx hb hE hW hD hS 13 (n := 60) (by decide) Nat.zero_lt_one rfl c9 (by omega) (by decide) rfl rfl dX5_answer_52 (fun H locs hW hS => ?_)
        exact rh_vret hx hb hr hlocks (Or.inl ⟨c9, hc9, rfl, hs2, rfl, (by rw [if_neg hb0]; exact hW)⟩) hS (by decide) (by decide) dX5_answer_53
    · have hs2 := c4
      refine lv_iconst (v := 2) hx hb dX5_answer_23 (by decide) ?_
      refine lv_goto (tgt := 28) hx hb dX5_answer_24 (by decide) ?_
      refine m_putt (x := 2) hx hb hts (fun _ h => List.mem_cons_of_mem _ (List.mem_append_right _ (h))) hown hE hW hD hS rfl (hts (.fieldLink RX5 74 "RoamingHouseModel" "thrown" "I") (by decide +kernel)) rfl rfl rfl (Nat.le_of_ble_eq_true rfl) rfl dX5_answer_28 (fun H locs hW hS => ?_)
      refine lv_aload_n hx hb dX5_answer_31 rfl (lv_at hl 0 rfl) ?_
      refine rh_get (ci := 5) (C := RX5) (T := TX5) (N := 26) (v := .int 2) hx hb hts (fun _ h => List.mem_cons_of_mem _ (List.mem_append_right _ (h))) hown hE (hW.at 10 0 Nat.zero_lt_one) rfl 25 (by decide) (hts (.fieldLink RX5 74 "RoamingHouseModel" "thrown" "I") (by decide +kernel)) rfl dX5_answer_32 ?_
      refine lv_if_ne (tgt := 53) hx hb dX5_answer_35 (by decide) (fun c7 => ?_) (fun c7 => absurd c7 (by decide))
      exact rh_vret hx hb hr hlocks (Or.inr (Or.inr ⟨c9, hc9, rfl, hs2, rfl, hW⟩)) hS (by decide) (by decide) dX5_answer_53
  · have hno := ho2
    refine W.eq (g2 := F0 m 6 ls [.int 0, .ref (ad 10 0)]) rfl ?_
    refine lv_if_ne (tgt := 13) hx hb dX5_answer_6 (by decide) (fun c8 => absurd c8 (by decide)) (fun c8 => ?_)
    refine lv_iconst (v := 1) hx hb dX5_answer_9 (by decide) ?_
    refine lv_goto (tgt := 28) hx hb dX5_answer_10 (by decide) ?_
    refine m_putt (x := 1) hx hb hts (fun _ h => List.mem_cons_of_mem _ (List.mem_append_right _ (h))) hown hE hW hD hS rfl (hts (.fieldLink RX5 74 "RoamingHouseModel" "thrown" "I") (by decide +kernel)) rfl rfl rfl (Nat.le_of_ble_eq_true rfl) rfl dX5_answer_28 (fun H locs hW hS => ?_)
    refine lv_aload_n hx hb dX5_answer_31 rfl (lv_at hl 0 rfl) ?_
    refine rh_get (ci := 5) (C := RX5) (T := TX5) (N := 26) (v := .int 1) hx hb hts (fun _ h => List.mem_cons_of_mem _ (List.mem_append_right _ (h))) hown hE (hW.at 10 0 Nat.zero_lt_one) rfl 25 (by decide) (hts (.fieldLink RX5 74 "RoamingHouseModel" "thrown" "I") (by decide +kernel)) rfl dX5_answer_32 ?_
    refine lv_if_ne (tgt := 53) hx hb dX5_answer_35 (by decide) (fun c9 => ?_) (fun c9 => absurd c9 (by decide))
    exact rh_vret hx hb hr hlocks (Or.inr (Or.inl ⟨hno, rfl, hW⟩)) hS (by decide) (by decide) dX5_answer_53
set_option maxHeartbeats 4000000 in
set_option maxRecDepth 100000 in
theorem ct_X5_agree (l : Launch) {G : va_G} {ca : Nat → ClassId} {A : Nat → Prop} {ad : Nat → Nat → Nat} {w : rh_Wm} {th : Int32} (hD : rh_D A ad (fun k i => i < m_n k)) (x y vo rt bk : Int32) (hbk : bk = 0 ∨ bk = 1) : rh_M l yX5_agree wsX5_agree ({ frames := 4, cells := 0, slots := 0, locals := 120 } : Room) G ca A [.ref (ad 10 0), .int x, .int y, .int vo, .int rt, .int bk] (m_W G ca ad w th) (fun o H => (∃ h9 k9 : Nat, h9 < 4 ∧ k9 < 4 ∧ h9 ≠ k9 ∧ x = nI h9 ∧ y = nI k9 ∧ rng vo 0 1000000 ∧ rng rt 0 10000 ∧ o = none ∧ m_W G ca ad (wm (wm (wm (wm w 19 (h9 * 4 + k9) 1) 20 (h9 * 4 + k9) vo) 21 (h9 * 4 + k9) rt) 22 (h9 * 4 + k9) bk) 0 H) ∨ (¬ (ix x 4 ∧ ix y 4) ∧ o = none ∧ m_W G ca ad w 1 H) ∨ (ix x 4 ∧ ix y 4 ∧ (x = y ∨ ¬ (rng vo 0 1000000 ∧ rng rt 0 10000)) ∧ o = none ∧ m_W G ca ad w 2 H)) rh_no 0 0 := by
  refine rh_enter (cc := cX5_agree) (maxL := 7) (ret := none) (by decide) rfl (Nat.le_of_ble_eq_true rfl) ?_
  intro p e s m below meth c ls hx hb hr hml hown hts hlocks hex hin hE hA hW hl
  have hS : va_S A s.heap s.heap [] := va_S.rf
  have hl : lv_has ls 7 [(0, .ref (ad 10 0)), (1, .int x), (2, .int y), (3, .int vo), (4, .int rt), (5, .int bk)] := hl
  refine lv_aload_n hx hb dX5_agree_0 rfl (lv_at hl 0 rfl) ?_
  refine lv_iload_n hx hb dX5_agree_1 rfl (lv_at hl 1 rfl) ?_
  refine lv_iload_n hx hb dX5_agree_2 rfl (lv_at hl 2 rfl) ?_
  refine lv_iload_n hx hb dX5_agree_3 rfl (lv_at hl 3 rfl) ?_
  refine lv_iconst (v := 0) hx hb dX5_agree_4 (by decide) ?_
  refine lv_ldc (v := 1000000) hx hb hown (hts (.constant RX5 141 (1000000)) (by decide +kernel)) dX5_agree_5 ?_
  refine rh_calln (vx_runS (As := [.int vo, .int 0, .int 1000000]) (rest := [.int y, .int x, .ref (ad 10 0)]) ⟨hx, hb, hml, hown, hts⟩ (ct_X5_in l hD vo 0 1000000) (va_cwS 3 hts gX5_agree_X5_in rfl rfl rfl (by decide +kernel) ⟨by decide, by decide⟩) (rh_pre hE hS hA hW) rfl rfl hl.1 rfl (lv_room (Nat.le_of_ble_eq_true rfl)) dX5_agree_7 ⟨by decide, by decide⟩) hS (fun o H locs hN1 hS => ?_)
  obtain ⟨⟨hg2, rfl⟩ | ⟨hg2, rfl⟩, hW⟩ := hN1
  · have hga := hg2
    refine W.eq (g2 := F0 m 10 ls [.int 1, .int y, .int x, .ref (ad 10 0)]) rfl ?_
    refine lv_if_eq (tgt := 29) hx hb dX5_agree_10 (by decide) (fun c3 => absurd c3 (by decide)) (fun c3 => ?_)
    refine lv_iload hx hb dX5_agree_13 (lv_at hl 4 rfl) ?_
    refine lv_iconst (v := 0) hx hb dX5_agree_15 (by decide) ?_
    refine lv_sipush (v := 10000) hx hb dX5_agree_16 (by decide) ?_
    refine rh_calln (vx_runS (As := [.int rt, .int 0, .int 10000]) (rest := [.int y, .int x, .ref (ad 10 0)]) ⟨hx, hb, hml, hown, hts⟩ (ct_X5_in l hD rt 0 10000) (va_cwS 3 hts gX5_agree_X5_in rfl rfl rfl (by decide +kernel) ⟨by decide, by decide⟩) (rh_pre hE hS hA hW) rfl rfl hl.1 rfl (lv_room (Nat.le_of_ble_eq_true rfl)) dX5_agree_19 ⟨by decide, by decide⟩) hS (fun o H locs hN4 hS => ?_)
    obtain ⟨⟨hg5, rfl⟩ | ⟨hg5, rfl⟩, hW⟩ := hN4
    · have hgb := hg5
      refine W.eq (g2 := F0 m 22 ls [.int 1, .int y, .int x, .ref (ad 10 0)]) rfl ?_
      refine lv_if_eq (tgt := 29) hx hb dX5_agree_22 (by decide) (fun c6 => absurd c6 (by decide)) (fun c6 => ?_)
      refine lv_iconst (v := 1) hx hb dX5_agree_25 (by decide) ?_
      refine lv_goto (tgt := 30) hx hb dX5_agree_26 (by decide) ?_
      refine rh_calln (vx_runV (As := [.int x, .int y, .int 1]) (rest := []) ⟨hx, hb, hml, hown, hts⟩ (ct_X5_isPair l hD x y 1) (cwV 3 hts gX5_agree_X5_isPair rfl rfl rfl (by decide +kernel) ⟨by decide, by decide⟩) (rh_preV hE hS hA (hW.at 10 0 Nat.zero_lt_one) rfl hW) rfl rfl hl.1 rfl (lv_room (Nat.le_of_ble_eq_true rfl)) dX5_agree_30 ⟨by decide, by decide⟩) hS (fun o H locs hN7 hS => ?_)
      rcases hN7 with ⟨h, k, hh, hk, hne, rfl, rfl, hz, rfl, hW⟩ | ⟨hno, rfl, hW⟩ | ⟨hox, hoy, hxz, rfl, hW⟩
      · refine W.eq (g2 := F0 m 33 ls [.int 1]) rfl ?_
        refine lv_if_eq (tgt := 77) hx hb dX5_agree_33 (by decide) (fun c8 => absurd c8 (by decide)) (fun c8 => ?_)
        refine lv_iconst (v := 4) hx hb dX5_agree_36 (by decide) ?_
        refine lv_iload_n hx hb dX5_agree_37 rfl (lv_at hl 1 rfl) ?_
        refine lv_imul hx hb dX5_agree_38 ?_
        refine lv_iload_n hx hb dX5_agree_39 rfl (lv_at hl 2 rfl) ?_
        refine lv_iadd hx hb dX5_agree_40 ?_
        rw [(m_4pq hh hk).1]
        refine lv_istore (lv' := [(6, .int (nI (h * 4 + k))), (0, .ref (ad 10 0)), (1, .int (nI h)), (2, .int (nI k)), (3, .int vo), (4, .int rt), (5, .int bk)]) hx hb dX5_agree_41 hl (by decide) rfl (fun ls hl => ?_)
        refine lv_aload_n hx hb dX5_agree_43 rfl (lv_at hl 1 rfl) ?_
        refine rh_get (ci := 5) (C := RX5) (T := TX5) (N := 26) (v := .ref (ad 39 0)) hx hb hts (fun _ h => List.mem_cons_of_mem _ (List.mem_append_right _ (h))) hown hE (hW.at 10 0 Nat.zero_lt_one) rfl 19 (by decide) (hts (.fieldLink RX5 58 "RoamingHouseModel" "hasAgreement" "[Z") (by decide +kernel)) rfl dX5_agree_44 ?_
        refine lv_iload hx hb dX5_agree_47 (lv_at hl 0 rfl) ?_
        refine lv_iconst (v := 1) hx hb dX5_agree_49 (by decide) ?_
        refine m_zast (x := 1) hx hb hE hW hD hS 19 (n := 16) (by decide) Nat.zero_lt_one rfl (h * 4 + k) (m_4pq hh hk).2 (by decide) rfl rfl rfl dX5_agree_50 (fun H locs hW hS => ?_)
        refine lv_aload_n hx hb dX5_agree_51 rfl (lv_at hl 1 rfl) ?_
        refine rh_get (ci := 5) (C := RX5) (T := TX5) (N := 26) (v := .ref (ad 40 0)) hx hb hts (fun _ h => List.mem_cons_of_mem _ (List.mem_append_right _ (h))) hown hE (hW.at 10 0 Nat.zero_lt_one) rfl 20 (by decide) (hts (.fieldLink RX5 62 "RoamingHouseModel" "volumes" "[I") (by decide +kernel)) rfl dX5_agree_52 ?_
        refine lv_iload hx hb dX5_agree_55 (lv_at hl 0 rfl) ?_
        refine lv_iload_n hx hb dX5_agree_57 rfl (lv_at hl 4 rfl) ?_
        refine m_iast (x := vo) hx hb hE hW hD hS 20 (n := 16) (by decide) Nat.zero_lt_one rfl (h * 4 + k) (m_4pq hh hk).2 (by decide) rfl rfl dX5_agree_58 (fun H locs hW hS => ?_)
        refine lv_aload_n hx hb dX5_agree_59 rfl (lv_at hl 1 rfl) ?_
        refine rh_get (ci := 5) (C := RX5) (T := TX5) (N := 26) (v := .ref (ad 41 0)) hx hb hts (fun _ h => List.mem_cons_of_mem _ (List.mem_append_right _ (h))) hown hE (hW.at 10 0 Nat.zero_lt_one) rfl 21 (by decide) (hts (.fieldLink RX5 65 "RoamingHouseModel" "discounts" "[I") (by decide +kernel)) rfl dX5_agree_60 ?_
        refine lv_iload hx hb dX5_agree_63 (lv_at hl 0 rfl) ?_
        refine lv_iload hx hb dX5_agree_65 (lv_at hl 5 rfl) ?_
        refine m_iast (x := rt) hx hb hE hW hD hS 21 (n := 16) (by decide) Nat.zero_lt_one rfl (h * 4 + k) (m_4pq hh hk).2 (by decide) rfl rfl dX5_agree_67 (fun H locs hW hS => ?_)
        refine lv_aload_n hx hb dX5_agree_68 rfl (lv_at hl 1 rfl) ?_
        refine rh_get (ci := 5) (C := RX5) (T := TX5) (N := 26) (v := .ref (ad 42 0)) hx hb hts (fun _ h => List.mem_cons_of_mem _ (List.mem_append_right _ (h))) hown hE (hW.at 10 0 Nat.zero_lt_one) rfl 22 (by decide) (hts (.fieldLink RX5 68 "RoamingHouseModel" "goesBack" "[Z") (by decide +kernel)) rfl dX5_agree_69 ?_
        refine lv_iload hx hb dX5_agree_72 (lv_at hl 0 rfl) ?_
        refine lv_iload hx hb dX5_agree_74 (lv_at hl 6 rfl) ?_
        refine m_zast (x := bk) hx hb hE hW hD hS 22 (n := 16) (by decide) Nat.zero_lt_one rfl (h * 4 + k) (m_4pq hh hk).2 (by decide) rfl (by rcases hbk with rfl | rfl <;> rfl) rfl dX5_agree_76 (fun H locs hW hS => ?_)
        exact rh_vret hx hb hr hlocks (Or.inl ⟨h, k, hh, hk, hne, rfl, rfl, hga, hgb, rfl, hW⟩) hS (by decide) (by decide) dX5_agree_77
      · refine W.eq (g2 := F0 m 33 ls [.int 0]) rfl ?_
        refine lv_if_eq (tgt := 77) hx hb dX5_agree_33 (by decide) (fun c9 => ?_) (fun c9 => absurd c9 (by decide))
        exact rh_vret hx hb hr hlocks (Or.inr (Or.inl ⟨hno, rfl, hW⟩)) hS (by decide) (by decide) dX5_agree_77
      · refine W.eq (g2 := F0 m 33 ls [.int 0]) rfl ?_
        refine lv_if_eq (tgt := 77) hx hb dX5_agree_33 (by decide) (fun c10 => ?_) (fun c10 => absurd c10 (by decide))
        exact rh_vret hx hb hr hlocks (Or.inr (Or.inr ⟨hox, hoy, (by first | exact hxz.imp (fun z => z) (fun z => absurd z (by decide)) | exact Or.inr hg2), rfl, hW⟩)) hS (by decide) (by decide) dX5_agree_77
    · have hg2 : ¬ (rng vo 0 1000000 ∧ rng rt 0 10000) := fun z => hg5 z.2
      refine W.eq (g2 := F0 m 22 ls [.int 0, .int y, .int x, .ref (ad 10 0)]) rfl ?_
      refine lv_if_eq (tgt := 29) hx hb dX5_agree_22 (by decide) (fun c11 => ?_) (fun c11 => absurd c11 (by decide))
      refine lv_iconst (v := 0) hx hb dX5_agree_29 (by decide) ?_
      refine rh_calln (vx_runV (As := [.int x, .int y, .int 0]) (rest := []) ⟨hx, hb, hml, hown, hts⟩ (ct_X5_isPair l hD x y 0) (cwV 3 hts gX5_agree_X5_isPair rfl rfl rfl (by decide +kernel) ⟨by decide, by decide⟩) (rh_preV hE hS hA (hW.at 10 0 Nat.zero_lt_one) rfl hW) rfl rfl hl.1 rfl (lv_room (Nat.le_of_ble_eq_true rfl)) dX5_agree_30 ⟨by decide, by decide⟩) hS (fun o H locs hN12 hS => ?_)
      rcases hN12 with ⟨h, k, hh, hk, hne, rfl, rfl, hz, rfl, hW⟩ | ⟨hno, rfl, hW⟩ | ⟨hox, hoy, hxz, rfl, hW⟩
      · exact absurd rfl hz
      · refine W.eq (g2 := F0 m 33 ls [.int 0]) rfl ?_
        refine lv_if_eq (tgt := 77) hx hb dX5_agree_33 (by decide) (fun c13 => ?_) (fun c13 => absurd c13 (by decide))
        exact rh_vret hx hb hr hlocks (Or.inr (Or.inl ⟨hno, rfl, hW⟩)) hS (by decide) (by decide) dX5_agree_77
      · refine W.eq (g2 := F0 m 33 ls [.int 0]) rfl ?_
        refine lv_if_eq (tgt := 77) hx hb dX5_agree_33 (by decide) (fun c14 => ?_) (fun c14 => absurd c14 (by decide))
        exact rh_vret hx hb hr hlocks (Or.inr (Or.inr ⟨hox, hoy, (by first | exact hxz.imp (fun z => z) (fun z => absurd z (by decide)) | exact Or.inr hg2), rfl, hW⟩)) hS (by decide) (by decide) dX5_agree_77
  · have hg2 : ¬ (rng vo 0 1000000 ∧ rng rt 0 10000) := fun z => hg2 z.1
    refine W.eq (g2 := F0 m 10 ls [.int 0, .int y, .int x, .ref (ad 10 0)]) rfl ?_
    refine lv_if_eq (tgt := 29) hx hb dX5_agree_10 (by decide) (fun c15 => ?_) (fun c15 => absurd c15 (by decide))
    refine lv_iconst (v := 0) hx hb dX5_agree_29 (by decide) ?_
    refine rh_calln (vx_runV (As := [.int x, .int y, .int 0]) (rest := []) ⟨hx, hb, hml, hown, hts⟩ (ct_X5_isPair l hD x y 0) (cwV 3 hts gX5_agree_X5_isPair rfl rfl rfl (by decide +kernel) ⟨by decide, by decide⟩) (rh_preV hE hS hA (hW.at 10 0 Nat.zero_lt_one) rfl hW) rfl rfl hl.1 rfl (lv_room (Nat.le_of_ble_eq_true rfl)) dX5_agree_30 ⟨by decide, by decide⟩) hS (fun o H locs hN16 hS => ?_)
    rcases hN16 with ⟨h, k, hh, hk, hne, rfl, rfl, hz, rfl, hW⟩ | ⟨hno, rfl, hW⟩ | ⟨hox, hoy, hxz, rfl, hW⟩
    · exact absurd rfl hz
    · refine W.eq (g2 := F0 m 33 ls [.int 0]) rfl ?_
      refine lv_if_eq (tgt := 77) hx hb dX5_agree_33 (by decide) (fun c17 => ?_) (fun c17 => absurd c17 (by decide))
      exact rh_vret hx hb hr hlocks (Or.inr (Or.inl ⟨hno, rfl, hW⟩)) hS (by decide) (by decide) dX5_agree_77
    · refine W.eq (g2 := F0 m 33 ls [.int 0]) rfl ?_
      refine lv_if_eq (tgt := 77) hx hb dX5_agree_33 (by decide) (fun c18 => ?_) (fun c18 => absurd c18 (by decide))
      exact rh_vret hx hb hr hlocks (Or.inr (Or.inr ⟨hox, hoy, (by first | exact hxz.imp (fun z => z) (fun z => absurd z (by decide)) | exact Or.inr hg2), rfl, hW⟩)) hS (by decide) (by decide) dX5_agree_77
set_option maxHeartbeats 4000000 in
set_option maxRecDepth 100000 in
theorem ct_X5_nextMonth (l : Launch) {G : va_G} {ca : Nat → ClassId} {A : Nat → Prop} {ad : Nat → Nat → Nat} {nf nc : Nat} {r : rh_R} {w : rh_Wm} {th : Int32} (hD : rh_D A ad (fun k i => i < m_n k)) (hwf : m_wf0 nf nc r w)  : rh_M l yX5_nextMonth wsX5_nextMonth ({ frames := 4, cells := 0, slots := 0, locals := 120 } : Room) G ca A [.ref (ad 10 0)] (m_W G ca ad w th) (fun o H => (¬ w 26 24 = 35 ∧ o = some (.int (w 26 24 + 1)) ∧ m_W G ca ad (m_gb (wm w 26 24 (w 26 24 + 1)) nc) 0 H) ∨ (w 26 24 = 35 ∧ (∃ z, o = some (.int z)) ∧ m_W G ca ad w 1 H)) rh_no 0 0 := by
  obtain ⟨hnf, hnc, hfc, hcc, h5, h10, hst⟩ := id hwf
  refine rh_enter (cc := cX5_nextMonth) (maxL := 3) (ret := (some .int)) (by decide) rfl (Nat.le_of_ble_eq_true rfl) ?_
  intro p e s m below meth c ls hx hb hr hml hown hts hlocks hex hin hE hA hW hl
  have hS : va_S A s.heap s.heap [] := va_S.rf
  have hl : lv_has ls 3 [(0, .ref (ad 10 0))] := hl
  refine lv_aload_n hx hb dX5_nextMonth_0 rfl (lv_at hl 0 rfl) ?_
  refine lv_aload_n hx hb dX5_nextMonth_1 rfl (lv_at hl 0 rfl) ?_
  refine rh_get (ci := 5) (C := RX5) (T := TX5) (N := 26) (v := .int (w 26 24)) hx hb hts (fun _ h => List.mem_cons_of_mem _ (List.mem_append_right _ (h))) hown hE (hW.at 10 0 Nat.zero_lt_one) rfl 24 (by decide) (hts (.fieldLink RX5 101 "RoamingHouseModel" "now" "I") (by decide +kernel)) rfl dX5_nextMonth_2 ?_
  refine lv_bipush (v := 35) hx hb dX5_nextMonth_5 (by decide) ?_
  refine lv_icmp_ne (tgt := 14) hx hb dX5_nextMonth_7 (by decide) (fun c1 => ?_) (fun c1 => ?_)
  · have h35 := c1
    refine lv_iconst (v := 0) hx hb dX5_nextMonth_14 (by decide) ?_
    refine m_putt (x := 0) hx hb hts (fun _ h => List.mem_cons_of_mem _ (List.mem_append_right _ (h))) hown hE hW hD hS rfl (hts (.fieldLink RX5 74 "RoamingHouseModel" "thrown" "I") (by decide +kernel)) rfl rfl rfl (Nat.le_of_ble_eq_true rfl) rfl dX5_nextMonth_15 (fun H locs hW hS => ?_)
    refine lv_aload_n hx hb dX5_nextMonth_18 rfl (lv_at hl 0 rfl) ?_
    refine rh_get (ci := 5) (C := RX5) (T := TX5) (N := 26) (v := .int 0) hx hb hts (fun _ h => List.mem_cons_of_mem _ (List.mem_append_right _ (h))) hown hE (hW.at 10 0 Nat.zero_lt_one) rfl 25 (by decide) (hts (.fieldLink RX5 74 "RoamingHouseModel" "thrown" "I") (by decide +kernel)) rfl dX5_nextMonth_19 ?_
    refine lv_if_le (tgt := 27) hx hb dX5_nextMonth_22 (by decide) (fun c2 => ?_) (fun c2 => absurd c2 (by decide))
    refine lv_aload_n hx hb dX5_nextMonth_27 rfl (lv_at hl 0 rfl) ?_
    refine lv_dup hx hb dX5_nextMonth_28 rfl ?_
    refine rh_get (ci := 5) (C := RX5) (T := TX5) (N := 26) (v := .int (w 26 24)) hx hb hts (fun _ h => List.mem_cons_of_mem _ (List.mem_append_right _ (h))) hown hE (hW.at 10 0 Nat.zero_lt_one) rfl 24 (by decide) (hts (.fieldLink RX5 101 "RoamingHouseModel" "now" "I") (by decide +kernel)) rfl dX5_nextMonth_29 ?_
    refine lv_iconst (v := 1) hx hb dX5_nextMonth_32 (by decide) ?_
    refine lv_iadd hx hb dX5_nextMonth_33 ?_
    refine m_put (x := (w 26 24 + 1)) hx hb hts (fun _ h => List.mem_cons_of_mem _ (List.mem_append_right _ (h))) hown hE hW hD hS rfl 24 (by decide) (hts (.fieldLink RX5 101 "RoamingHouseModel" "now" "I") (by decide +kernel)) rfl rfl rfl (Nat.le_of_ble_eq_true rfl) rfl dX5_nextMonth_34 (fun H locs hW hS => ?_)
    refine lv_iconst (v := 0) hx hb dX5_nextMonth_37 (by decide) ?_
    refine lv_istore_n (lv' := [(1, .int 0), (0, .ref (ad 10 0))]) hx hb dX5_nextMonth_38 rfl hl (by decide) rfl (fun ls hl => ?_)
    have loop39 : ∀ (n : Nat) (j : Nat) (H : Heap) (locs : List Loc) (ls : Array Slot), nc + 1 ≤ j + n → j ≤ nc → m_W G ca ad (m_gb (wm w 26 24 (w 26 24 + 1)) j) 0 H → va_S A s.heap H locs → lv_has ls 3 [(0, .ref (ad 10 0)), (1, .int (nI j))] → W p l e ({ frames := 4, cells := 0, slots := 0, locals := 120 } : Room) s m ([.ref (ad 10 0)] : List Value).toArray below meth c H locs 0 0 (vx_MQ below (rh_Q A (fun o H => (¬ w 26 24 = 35 ∧ o = some (.int (w 26 24 + 1)) ∧ m_W G ca ad (m_gb (wm w 26 24 (w 26 24 + 1)) nc) 0 H) ∨ (w 26 24 = 35 ∧ (∃ z, o = some (.int z)) ∧ m_W G ca ad w 1 H))) (rh_XC A rh_no) ([.ref (ad 10 0)] : List Value).toArray s 0 0 A) (F0 m 39 ls []) := by
      intro n
      induction n with
      | zero => intro j H locs ls hjn hj hW hS hl; exact absurd hjn (by omega)
      | succ n ih =>
        intro j H locs ls hjn hj hW hS hl
        have hgn : ∀ q, q ≠ 13 → (m_gb (wm w 26 24 (w 26 24 + 1)) j) q = (wm w 26 24 (w 26 24 + 1)) q := fun q hq => m_gb_row hq j
        have hccj : (m_gb (wm w 26 24 (w 26 24 + 1)) j) 26 9 = nI nc := by rw [hgn 26 (by decide), wm_at, if_neg (by decide)]; exact hcc
        refine lv_iload_n hx hb dX5_nextMonth_39 rfl (lv_at hl 1 rfl) ?_
        refine lv_aload_n hx hb dX5_nextMonth_40 rfl (lv_at hl 0 rfl) ?_
        refine rh_get (ci := 5) (C := RX5) (T := TX5) (N := 26) (v := .int ((m_gb (wm w 26 24 (w 26 24 + 1)) j) 26 9)) hx hb hts (fun _ h => List.mem_cons_of_mem _ (List.mem_append_right _ (h))) hown hE (hW.at 10 0 Nat.zero_lt_one) rfl 9 (by decide) (hts (.fieldLink RX5 89 "RoamingHouseModel" "callMany" "I") (by decide +kernel)) rfl dX5_nextMonth_41 ?_
        refine lv_icmp_ge (tgt := 104) hx hb dX5_nextMonth_44 (by decide) (fun c3 => ?_) (fun c3 => ?_)
        · have hjf : j = nc := by
            rcases Nat.lt_or_ge j nc with z | z
            · exact absurd (by rw [← hccj]; exact c3) (nI_ge z (by omega))
            · omega
          refine lv_aload_n hx hb dX5_nextMonth_104 rfl (lv_at hl 0 rfl) ?_
          refine rh_get (ci := 5) (C := RX5) (T := TX5) (N := 26) (v := .int ((m_gb (wm w 26 24 (w 26 24 + 1)) j) 26 24)) hx hb hts (fun _ h => List.mem_cons_of_mem _ (List.mem_append_right _ (h))) hown hE (hW.at 10 0 Nat.zero_lt_one) rfl 24 (by decide) (hts (.fieldLink RX5 101 "RoamingHouseModel" "now" "I") (by decide +kernel)) rfl dX5_nextMonth_105 ?_
          exact rh_iret hx hb hr hlocks (Or.inl ⟨h35, (by rw [hgn 26 (by decide), wm_at, if_pos ⟨rfl, rfl⟩]), (by rw [← hjf]; exact hW)⟩) hS (by decide) (by decide) dX5_nextMonth_108
        · have hjl : j < nc := by
            rcases Nat.lt_or_ge j nc with z | z
            · exact z
            · exact absurd (by rw [hccj]; exact nI_le z (by omega)) c3
          refine lv_aload_n hx hb dX5_nextMonth_47 rfl (lv_at hl 0 rfl) ?_
          refine rh_get (ci := 5) (C := RX5) (T := TX5) (N := 26) (v := .ref (ad 33 0)) hx hb hts (fun _ h => List.mem_cons_of_mem _ (List.mem_append_right _ (h))) hown hE (hW.at 10 0 Nat.zero_lt_one) rfl 13 (by decide) (hts (.fieldLink RX5 43 "RoamingHouseModel" "callStates" "[I") (by decide +kernel)) rfl dX5_nextMonth_48 ?_
          refine lv_iload_n hx hb dX5_nextMonth_51 rfl (lv_at hl 1 rfl) ?_
          refine rh_iald (n := 60) (f := (m_gb (wm w 26 24 (w 26 24 + 1)) j) 13) hx hb hE (hW.at 33 0 Nat.zero_lt_one) j (by omega) (by decide) rfl dX5_nextMonth_52 ?_
          refine lv_iconst (v := 2) hx hb dX5_nextMonth_53 (by decide) ?_
          refine lv_icmp_ne (tgt := 76) hx hb dX5_nextMonth_54 (by decide) (fun c4 => ?_) (fun c4 => ?_)
          · refine lv_iconst (v := 0) hx hb dX5_nextMonth_76 (by decide) ?_
            refine lv_istore_n (lv' := [(2, .int 0), (0, .ref (ad 10 0)), (1, .int (nI j))]) hx hb dX5_nextMonth_77 rfl hl (by decide) rfl (fun ls hl => ?_)
            refine lv_aload_n hx hb dX5_nextMonth_78 rfl (lv_at hl 1 rfl) ?_
            refine rh_get (ci := 5) (C := RX5) (T := TX5) (N := 26) (v := .ref (ad 33 0)) hx hb hts (fun _ h => List.mem_cons_of_mem _ (List.mem_append_right _ (h))) hown hE (hW.at 10 0 Nat.zero_lt_one) rfl 13 (by decide) (hts (.fieldLink RX5 43 "RoamingHouseModel" "callStates" "[I") (by decide +kernel)) rfl dX5_nextMonth_79 ?_
            refine lv_iload_n hx hb dX5_nextMonth_82 rfl (lv_at hl 2 rfl) ?_
            refine lv_iload_n hx hb dX5_nextMonth_83 rfl (lv_at hl 0 rfl) ?_
            refine lv_if_eq (tgt := 91) hx hb dX5_nextMonth_84 (by decide) (fun c5 => ?_) (fun c5 => absurd c5 (by decide))
            refine lv_aload_n hx hb dX5_nextMonth_91 rfl (lv_at hl 1 rfl) ?_
            refine rh_get (ci := 5) (C := RX5) (T := TX5) (N := 26) (v := .ref (ad 33 0)) hx hb hts (fun _ h => List.mem_cons_of_mem _ (List.mem_append_right _ (h))) hown hE (hW.at 10 0 Nat.zero_lt_one) rfl 13 (by decide) (hts (.fieldLink RX5 43 "RoamingHouseModel" "callStates" "[I") (by decide +kernel)) rfl dX5_nextMonth_92 ?_
            refine lv_iload_n hx hb dX5_nextMonth_95 rfl (lv_at hl 2 rfl) ?_
            refine rh_iald (n := 60) (f := (m_gb (wm w 26 24 (w 26 24 + 1)) j) 13) hx hb hE (hW.at 33 0 Nat.zero_lt_one) j (by omega) (by decide) rfl dX5_nextMonth_96 ?_
            refine m_iast (x := ((m_gb (wm w 26 24 (w 26 24 + 1)) j) 13 j)) hx hb hE hW hD hS 13 (n := 60) (by decide) Nat.zero_lt_one rfl j (by omega) (by decide) rfl rfl dX5_nextMonth_97 (fun H locs hW hS => ?_)
            have hW : m_W G ca ad (m_gb (wm w 26 24 (w 26 24 + 1)) (j + 1)) 0 H := by rw [show m_gb (wm w 26 24 (w 26 24 + 1)) (j + 1) = wm (m_gb (wm w 26 24 (w 26 24 + 1)) j) 13 j ((m_gb (wm w 26 24 (w 26 24 + 1)) j) 13 j) from congrArg (wm (m_gb (wm w 26 24 (w 26 24 + 1)) j) 13 j) (if_neg (fun z => c4 z.1))]; exact hW
            refine lv_iinc (v := nI (j + 1)) (lv' := [(1, .int (nI (j + 1))), (2, .int 0), (0, .ref (ad 10 0))]) hx hb dX5_nextMonth_98 hl (k := 2) rfl (nI_1 j) (by decide) rfl (fun ls hl => ?_)
            refine lv_goto (tgt := 39) hx hb dX5_nextMonth_101 (by decide) ?_
            exact ih (j + 1) _ _ _ (by omega) (by omega) hW hS (lv_sub hl [2, 0] rfl)
          · have hs2 := c4
            refine lv_aload_n hx hb dX5_nextMonth_57 rfl (lv_at hl 0 rfl) ?_
            refine rh_get (ci := 5) (C := RX5) (T := TX5) (N := 26) (v := .int ((m_gb (wm w 26 24 (w 26 24 + 1)) j) 26 24)) hx hb hts (fun _ h => List.mem_cons_of_mem _ (List.mem_append_right _ (h))) hown hE (hW.at 10 0 Nat.zero_lt_one) rfl 24 (by decide) (hts (.fieldLink RX5 101 "RoamingHouseModel" "now" "I") (by decide +kernel)) rfl dX5_nextMonth_58 ?_
            refine lv_aload_n hx hb dX5_nextMonth_61 rfl (lv_at hl 0 rfl) ?_
            refine rh_get (ci := 5) (C := RX5) (T := TX5) (N := 26) (v := .ref (ad 35 0)) hx hb hts (fun _ h => List.mem_cons_of_mem _ (List.mem_append_right _ (h))) hown hE (hW.at 10 0 Nat.zero_lt_one) rfl 15 (by decide) (hts (.fieldLink RX5 49 "RoamingHouseModel" "disputedIn" "[I") (by decide +kernel)) rfl dX5_nextMonth_62 ?_
            refine lv_iload_n hx hb dX5_nextMonth_65 rfl (lv_at hl 1 rfl) ?_
            refine rh_iald (n := 60) (f := (m_gb (wm w 26 24 (w 26 24 + 1)) j) 15) hx hb hE (hW.at 35 0 Nat.zero_lt_one) j (by omega) (by decide) rfl dX5_nextMonth_66 ?_
            refine lv_iconst (v := 2) hx hb dX5_nextMonth_67 (by decide) ?_
            refine lv_iadd hx hb dX5_nextMonth_68 ?_
            refine lv_icmp_ne (tgt := 76) hx hb dX5_nextMonth_69 (by decide) (fun c6 => ?_) (fun c6 => ?_)
            · refine lv_iconst (v := 0) hx hb dX5_nextMonth_76 (by decide) ?_
              refine lv_istore_n (lv' := [(2, .int 0), (0, .ref (ad 10 0)), (1, .int (nI j))]) hx hb dX5_nextMonth_77 rfl hl (by decide) rfl (fun ls hl => ?_)
              refine lv_aload_n hx hb dX5_nextMonth_78 rfl (lv_at hl 1 rfl) ?_
              refine rh_get (ci := 5) (C := RX5) (T := TX5) (N := 26) (v := .ref (ad 33 0)) hx hb hts (fun _ h => List.mem_cons_of_mem _ (List.mem_append_right _ (h))) hown hE (hW.at 10 0 Nat.zero_lt_one) rfl 13 (by decide) (hts (.fieldLink RX5 43 "RoamingHouseModel" "callStates" "[I") (by decide +kernel)) rfl dX5_nextMonth_79 ?_
              refine lv_iload_n hx hb dX5_nextMonth_82 rfl (lv_at hl 2 rfl) ?_
              refine lv_iload_n hx hb dX5_nextMonth_83 rfl (lv_at hl 0 rfl) ?_
              refine lv_if_eq (tgt := 91) hx hb dX5_nextMonth_84 (by decide) (fun c7 => ?_) (fun c7 => absurd c7 (by decide))
              refine lv_aload_n hx hb dX5_nextMonth_91 rfl (lv_at hl 1 rfl) ?_
              refine rh_get (ci := 5) (C := RX5) (T := TX5) (N := 26) (v := .ref (ad 33 0)) hx hb hts (fun _ h => List.mem_cons_of_mem _ (List.mem_append_right _ (h))) hown hE (hW.at 10 0 Nat.zero_lt_one) rfl 13 (by decide) (hts (.fieldLink RX5 43 "RoamingHouseModel" "callStates" "[I") (by decide +kernel)) rfl dX5_nextMonth_92 ?_
              refine lv_iload_n hx hb dX5_nextMonth_95 rfl (lv_at hl 2 rfl) ?_
              refine rh_iald (n := 60) (f := (m_gb (wm w 26 24 (w 26 24 + 1)) j) 13) hx hb hE (hW.at 33 0 Nat.zero_lt_one) j (by omega) (by decide) rfl dX5_nextMonth_96 ?_
              refine m_iast (x := ((m_gb (wm w 26 24 (w 26 24 + 1)) j) 13 j)) hx hb hE hW hD hS 13 (n := 60) (by decide) Nat.zero_lt_one rfl j (by omega) (by decide) rfl rfl dX5_nextMonth_97 (fun H locs hW hS => ?_)
              have hW : m_W G ca ad (m_gb (wm w 26 24 (w 26 24 + 1)) (j + 1)) 0 H := by rw [show m_gb (wm w 26 24 (w 26 24 + 1)) (j + 1) = wm (m_gb (wm w 26 24 (w 26 24 + 1)) j) 13 j ((m_gb (wm w 26 24 (w 26 24 + 1)) j) 13 j) from congrArg (wm (m_gb (wm w 26 24 (w 26 24 + 1)) j) 13 j) (if_neg (fun z => c6 (by rw [hgn 26 (by decide)]; exact z.2)))]; exact hW
              refine lv_iinc (v := nI (j + 1)) (lv' := [(1, .int (nI (j + 1))), (2, .int 0), (0, .ref (ad 10 0))]) hx hb dX5_nextMonth_98 hl (k := 2) rfl (nI_1 j) (by decide) rfl (fun ls hl => ?_)
              refine lv_goto (tgt := 39) hx hb dX5_nextMonth_101 (by decide) ?_
              exact ih (j + 1) _ _ _ (by omega) (by omega) hW hS (lv_sub hl [2, 0] rfl)
            · refine lv_iconst (v := 1) hx hb dX5_nextMonth_72 (by decide) ?_
              refine lv_goto (tgt := 77) hx hb dX5_nextMonth_73 (by decide) ?_
              refine lv_istore_n (lv' := [(2, .int 1), (0, .ref (ad 10 0)), (1, .int (nI j))]) hx hb dX5_nextMonth_77 rfl hl (by decide) rfl (fun ls hl => ?_)
              refine lv_aload_n hx hb dX5_nextMonth_78 rfl (lv_at hl 1 rfl) ?_
              refine rh_get (ci := 5) (C := RX5) (T := TX5) (N := 26) (v := .ref (ad 33 0)) hx hb hts (fun _ h => List.mem_cons_of_mem _ (List.mem_append_right _ (h))) hown hE (hW.at 10 0 Nat.zero_lt_one) rfl 13 (by decide) (hts (.fieldLink RX5 43 "RoamingHouseModel" "callStates" "[I") (by decide +kernel)) rfl dX5_nextMonth_79 ?_
              refine lv_iload_n hx hb dX5_nextMonth_82 rfl (lv_at hl 2 rfl) ?_
              refine lv_iload_n hx hb dX5_nextMonth_83 rfl (lv_at hl 0 rfl) ?_
              refine lv_if_eq (tgt := 91) hx hb dX5_nextMonth_84 (by decide) (fun c8 => absurd c8 (by decide)) (fun c8 => ?_)
              refine lv_iconst (v := 4) hx hb dX5_nextMonth_87 (by decide) ?_
              refine lv_goto (tgt := 97) hx hb dX5_nextMonth_88 (by decide) ?_
              refine m_iast (x := 4) hx hb hE hW hD hS 13 (n := 60) (by decide) Nat.zero_lt_one rfl j (by omega) (by decide) rfl rfl dX5_nextMonth_97 (fun H locs hW hS => ?_)
              have hW : m_W G ca ad (m_gb (wm w 26 24 (w 26 24 + 1)) (j + 1)) 0 H := by rw [show m_gb (wm w 26 24 (w 26 24 + 1)) (j + 1) = wm (m_gb (wm w 26 24 (w 26 24 + 1)) j) 13 j 4 from congrArg (wm (m_gb (wm w 26 24 (w 26 24 + 1)) j) 13 j) (if_pos ⟨hs2, (by rw [← hgn 26 (by decide)]; exact c6)⟩)]; exact hW
              refine lv_iinc (v := nI (j + 1)) (lv' := [(1, .int (nI (j + 1))), (2, .int 1), (0, .ref (ad 10 0))]) hx hb dX5_nextMonth_98 hl (k := 2) rfl (nI_1 j) (by decide) rfl (fun ls hl => ?_)
              refine lv_goto (tgt := 39) hx hb dX5_nextMonth_101 (by decide) ?_
              exact ih (j + 1) _ _ _ (by omega) (by omega) hW hS (lv_sub hl [2, 0] rfl)
    exact loop39 (nc + 1) 0  _ _ _ (by omega) (by omega)  hW hS (lv_sub hl [1, 0] rfl)
  · have h35 := c1
    refine lv_iconst (v := 1) hx hb dX5_nextMonth_10 (by decide) ?_
    refine lv_goto (tgt := 15) hx hb dX5_nextMonth_11 (by decide) ?_
    refine m_putt (x := 1) hx hb hts (fun _ h => List.mem_cons_of_mem _ (List.mem_append_right _ (h))) hown hE hW hD hS rfl (hts (.fieldLink RX5 74 "RoamingHouseModel" "thrown" "I") (by decide +kernel)) rfl rfl rfl (Nat.le_of_ble_eq_true rfl) rfl dX5_nextMonth_15 (fun H locs hW hS => ?_)
    refine lv_aload_n hx hb dX5_nextMonth_18 rfl (lv_at hl 0 rfl) ?_
    refine rh_get (ci := 5) (C := RX5) (T := TX5) (N := 26) (v := .int 1) hx hb hts (fun _ h => List.mem_cons_of_mem _ (List.mem_append_right _ (h))) hown hE (hW.at 10 0 Nat.zero_lt_one) rfl 25 (by decide) (hts (.fieldLink RX5 74 "RoamingHouseModel" "thrown" "I") (by decide +kernel)) rfl dX5_nextMonth_19 ?_
    refine lv_if_le (tgt := 27) hx hb dX5_nextMonth_22 (by decide) (fun c9 => absurd c9 (by decide)) (fun c9 => ?_)
    refine lv_iconst (v := 0) hx hb dX5_nextMonth_25 (by decide) ?_
    exact rh_iret hx hb hr hlocks (Or.inr ⟨h35, ⟨_, rfl⟩, hW⟩) hS (by decide) (by decide) dX5_nextMonth_26
set_option maxHeartbeats 4000000 in
set_option maxRecDepth 100000 in
/-- the place of a call -/
theorem ct_X5_placeOf (l : Launch) {G : va_G} {ca : Nat → ClassId} {A : Nat → Prop} {ad : Nat → Nat → Nat} {nf nc : Nat} {r : rh_R} {w : rh_Wm} {th : Int32} (hD : rh_D A ad (fun k i => i < m_n k)) (hwf : m_wf0 nf nc r w) (c9 : Nat) (hc9 : c9 < nc) (k : Nat) (hk60 : k < 60) (hkc : w 17 k = nI c9) (hmn : ∀ i, i < k → ¬ w 17 i = nI c9) : rh_M l yX5_placeOf wsX5_placeOf ({ frames := 0, cells := 0, slots := 0, locals := 0 } : Room) G ca A [.ref (ad 10 0), .int (nI c9)] (m_W G ca ad w th) (fun o H => o = some (.int (nI k)) ∧ m_W G ca ad w th H) rh_no 0 0 := by
  obtain ⟨hnf, hnc, hfc, hcc, h5, h10, hst⟩ := id hwf
  refine rh_enter (cc := cX5_placeOf) (maxL := 3) (ret := (some .int)) (by decide) rfl (Nat.le_of_ble_eq_true rfl) ?_
  intro p e s m below meth c ls hx hb hr hml hown hts hlocks hex hin hE hA hW hl
  have hS : va_S A s.heap s.heap [] := va_S.rf
  have hl : lv_has ls 3 [(0, .ref (ad 10 0)), (1, .int (nI c9))] := hl
  refine lv_iconst (v := 0) hx hb dX5_placeOf_0 (by decide) ?_
  refine lv_istore_n (lv' := [(2, .int 0), (0, .ref (ad 10 0)), (1, .int (nI c9))]) hx hb dX5_placeOf_1 rfl hl (by decide) rfl (fun ls hl => ?_)
  have loop2 : ∀ (n : Nat) (j : Nat) (H : Heap) (locs : List Loc) (ls : Array Slot), k + 1 ≤ j + n → j ≤ k → m_W G ca ad w th H → va_S A s.heap H locs → lv_has ls 3 [(0, .ref (ad 10 0)), (1, .int (nI c9)), (2, .int (nI j))] → W p l e ({ frames := 0, cells := 0, slots := 0, locals := 0 } : Room) s m ([.ref (ad 10 0), .int (nI c9)] : List Value).toArray below meth c H locs 0 0 (vx_MQ below (rh_Q A (fun o H => o = some (.int (nI k)) ∧ m_W G ca ad w th H)) (rh_XC A rh_no) ([.ref (ad 10 0), .int (nI c9)] : List Value).toArray s 0 0 A) (F0 m 2 ls []) := by
    intro n
    induction n with
    | zero => intro j H locs ls hjn hj hW hS hl; exact absurd hjn (by omega)
    | succ n ih =>
      intro j H locs ls hjn hj hW hS hl
      refine lv_aload_n hx hb dX5_placeOf_2 rfl (lv_at hl 0 rfl) ?_
      refine rh_get (ci := 5) (C := RX5) (T := TX5) (N := 26) (v := .ref (ad 37 0)) hx hb hts (fun _ h => List.mem_cons_of_mem _ (List.mem_append_right _ (h))) hown hE (hW.at 10 0 Nat.zero_lt_one) rfl 17 (by decide) (hts (.fieldLink RX5 52 "RoamingHouseModel" "accepted" "[I") (by decide +kernel)) rfl dX5_placeOf_3 ?_
      refine lv_iload_n hx hb dX5_placeOf_6 rfl (lv_at hl 2 rfl) ?_
      refine rh_iald (n := 60) (f := w 17) hx hb hE (hW.at 37 0 Nat.zero_lt_one) j (by omega) (by decide) rfl dX5_placeOf_7 ?_
      refine lv_iload_n hx hb dX5_placeOf_8 rfl (lv_at hl 1 rfl) ?_
      refine lv_icmp_eq (tgt := 18) hx hb dX5_placeOf_9 (by decide) (fun c1 => ?_) (fun c1 => ?_)
      · have hjk : j = k := by
          rcases Nat.lt_or_ge j k with z | z
          · exact absurd c1 (hmn j z)
          · omega
        refine lv_iload_n hx hb dX5_placeOf_18 rfl (lv_at hl 2 rfl) ?_
        exact rh_iret hx hb hr hlocks ⟨by rw [hjk], hW⟩ hS (by decide) (by decide) dX5_placeOf_19
      · have hjl : j < k := by
          rcases Nat.lt_or_ge j k with z | z
          · exact z
          · exact absurd (by rw [show j = k by omega]; exact hkc) c1
        refine lv_iinc (v := nI (j + 1)) (lv' := [(2, .int (nI (j + 1))), (0, .ref (ad 10 0)), (1, .int (nI c9))]) hx hb dX5_placeOf_12 hl (k := 2) rfl (nI_1 j) (by decide) rfl (fun ls hl => ?_)
        refine lv_goto (tgt := 2) hx hb dX5_placeOf_15 (by decide) ?_
        exact ih (j + 1) _ _ _ (by omega) (by omega) hW hS (lv_sub hl [1, 2, 0] rfl)
  exact loop2 (k + 1) 0  _ _ _ (by omega) (by omega)  hW hS (lv_sub hl [1, 2, 0] rfl)
set_option maxHeartbeats 4000000 in
set_option maxRecDepth 100000 in
/-- the seconds ahead of a place -/
theorem ct_X5_secondsAhead (l : Launch) {G : va_G} {ca : Nat → ClassId} {A : Nat → Prop} {ad : Nat → Nat → Nat} {nf nc : Nat} {r : rh_R} {w : rh_Wm} {th : Int32} (hD : rh_D A ad (fun k i => i < m_n k)) (hwf : m_wf nf nc r w) (q : Nat) (hq : q < 16) (y : Int32) (k : Nat) (hk : k ≤ mna w) : rh_M l yX5_secondsAhead wsX5_secondsAhead ({ frames := 0, cells := 0, slots := 0, locals := 0 } : Room) G ca A [.ref (ad 10 0), .int (nI q), .int y, .int (nI k)] (m_W G ca ad w th) (fun o H => o = some (.int (m_ahead r w q y k)) ∧ m_W G ca ad w th H) rh_no 0 0 := by
  obtain ⟨⟨hnf, hnc, hfc, hcc, h5, h10, hst⟩, hna, hnm, hac, hpl⟩ := id hwf
  have hle9 := m_act_le w nc
  refine rh_enter (cc := cX5_secondsAhead) (maxL := 7) (ret := (some .int)) (by decide) rfl (Nat.le_of_ble_eq_true rfl) ?_
  intro p e s m below meth c ls hx hb hr hml hown hts hlocks hex hin hE hA hW hl
  have hS : va_S A s.heap s.heap [] := va_S.rf
  have hl : lv_has ls 7 [(0, .ref (ad 10 0)), (1, .int (nI q)), (2, .int y), (3, .int (nI k))] := hl
  refine lv_iconst (v := 0) hx hb dX5_secondsAhead_0 (by decide) ?_
  refine lv_istore (lv' := [(4, .int 0), (0, .ref (ad 10 0)), (1, .int (nI q)), (2, .int y), (3, .int (nI k))]) hx hb dX5_secondsAhead_1 hl (by decide) rfl (fun ls hl => ?_)
  refine lv_iconst (v := 0) hx hb dX5_secondsAhead_3 (by decide) ?_
  refine lv_istore (lv' := [(5, .int 0), (4, .int 0), (0, .ref (ad 10 0)), (1, .int (nI q)), (2, .int y), (3, .int (nI k))]) hx hb dX5_secondsAhead_4 hl (by decide) rfl (fun ls hl => ?_)
  have loop6 : ∀ (n : Nat) (j : Nat) (u : Int32) (H : Heap) (locs : List Loc) (ls : Array Slot), k + 1 ≤ j + n → j ≤ k → u = m_ahead r w q y j → m_W G ca ad w th H → va_S A s.heap H locs → lv_has ls 7 [(0, .ref (ad 10 0)), (1, .int (nI q)), (2, .int y), (3, .int (nI k)), (4, .int u), (5, .int (nI j))] → W p l e ({ frames := 0, cells := 0, slots := 0, locals := 0 } : Room) s m ([.ref (ad 10 0), .int (nI q), .int y, .int (nI k)] : List Value).toArray below meth c H locs 0 0 (vx_MQ below (rh_Q A (fun o H => o = some (.int (m_ahead r w q y k)) ∧ m_W G ca ad w th H)) (rh_XC A rh_no) ([.ref (ad 10 0), .int (nI q), .int y, .int (nI k)] : List Value).toArray s 0 0 A) (F0 m 6 ls []) := by
    intro n
    induction n with
    | zero => intro j u H locs ls hjn hj hu hW hS hl; exact absurd hjn (by omega)
    | succ n ih =>
      intro j u H locs ls hjn hj hu hW hS hl
      refine lv_iload hx hb dX5_secondsAhead_6 (lv_at hl 5 rfl) ?_
      refine lv_iload_n hx hb dX5_secondsAhead_8 rfl (lv_at hl 3 rfl) ?_
      refine lv_icmp_ge (tgt := 73) hx hb dX5_secondsAhead_9 (by decide) (fun c1 => ?_) (fun c1 => ?_)
      · have hjf : j = k := by
          rcases Nat.lt_or_ge j k with z | z
          · exact absurd c1 (nI_ge z (by omega))
          · omega
        refine lv_iload hx hb dX5_secondsAhead_73 (lv_at hl 4 rfl) ?_
        exact rh_iret hx hb hr hlocks ⟨by rw [hu, hjf], hW⟩ hS (by decide) (by decide) dX5_secondsAhead_75
      · have hjl : j < k := by
          rcases Nat.lt_or_ge j k with z | z
          · exact z
          · exact absurd (nI_le z (by omega)) c1
        refine lv_aload_n hx hb dX5_secondsAhead_12 rfl (lv_at hl 0 rfl) ?_
        refine rh_get (ci := 5) (C := RX5) (T := TX5) (N := 26) (v := .ref (ad 37 0)) hx hb hts (fun _ h => List.mem_cons_of_mem _ (List.mem_append_right _ (h))) hown hE (hW.at 10 0 Nat.zero_lt_one) rfl 17 (by decide) (hts (.fieldLink RX5 52 "RoamingHouseModel" "accepted" "[I") (by decide +kernel)) rfl dX5_secondsAhead_13 ?_
        refine lv_iload hx hb dX5_secondsAhead_16 (lv_at hl 5 rfl) ?_
        refine rh_iald (n := 60) (f := w 17) hx hb hE (hW.at 37 0 Nat.zero_lt_one) j (by omega) (by decide) rfl dX5_secondsAhead_18 ?_
        have hmj := hac j (by omega)
        have h10m := h10 _ hmj.1
        have h5m := h5 _ h10m.1
        have hmj1 := hmj.1
        have h10m1 := h10m.1
        rw [hmj.2]
        refine lv_istore (lv' := [(6, .int (nI (mac w j))), (0, .ref (ad 10 0)), (1, .int (nI q)), (2, .int y), (3, .int (nI k)), (4, .int u), (5, .int (nI j))]) hx hb dX5_secondsAhead_19 hl (by decide) rfl (fun ls hl => ?_)
        refine lv_iload hx hb dX5_secondsAhead_21 (lv_at hl 5 rfl) ?_
        refine lv_aload_n hx hb dX5_secondsAhead_23 rfl (lv_at hl 1 rfl) ?_
        refine rh_get (ci := 5) (C := RX5) (T := TX5) (N := 26) (v := .ref (ad 25 0)) hx hb hts (fun _ h => List.mem_cons_of_mem _ (List.mem_append_right _ (h))) hown hE (hW.at 10 0 Nat.zero_lt_one) rfl 5 (by decide) (hts (.fieldLink RX5 22 "RoamingHouseModel" "pairOf" "[I") (by decide +kernel)) rfl dX5_secondsAhead_24 ?_
        refine lv_aload_n hx hb dX5_secondsAhead_27 rfl (lv_at hl 1 rfl) ?_
        refine rh_get (ci := 5) (C := RX5) (T := TX5) (N := 26) (v := .ref (ad 30 0)) hx hb hts (fun _ h => List.mem_cons_of_mem _ (List.mem_append_right _ (h))) hown hE (hW.at 10 0 Nat.zero_lt_one) rfl 10 (by decide) (hts (.fieldLink RX5 34 "RoamingHouseModel" "fileOf" "[I") (by decide +kernel)) rfl dX5_secondsAhead_28 ?_
        refine lv_iload hx hb dX5_secondsAhead_31 (lv_at hl 0 rfl) ?_
        refine rh_iald (n := 60) (f := w 10) hx hb hE (hW.at 30 0 Nat.zero_lt_one) (mac w j) (by omega) (by decide) rfl dX5_secondsAhead_33 ?_
        rw [h10m.2]
        refine rh_iald (n := 30) (f := w 5) hx hb hE (hW.at 25 0 Nat.zero_lt_one) (r 9 (mac w j)) (by omega) (by decide) rfl dX5_secondsAhead_34 ?_
        refine lv_iload_n hx hb dX5_secondsAhead_35 rfl (lv_at hl 2 rfl) ?_
        refine lv_icmp_ne (tgt := 63) hx hb dX5_secondsAhead_36 (by decide) (fun c2 => ?_) (fun c2 => ?_)
        · refine lv_iconst (v := 0) hx hb dX5_secondsAhead_63 (by decide) ?_
          refine lv_iadd hx hb dX5_secondsAhead_64 ?_
          refine lv_istore (lv' := [(4, .int (u + 0)), (6, .int (nI (mac w j))), (0, .ref (ad 10 0)), (1, .int (nI q)), (2, .int y), (3, .int (nI k)), (5, .int (nI j))]) hx hb dX5_secondsAhead_65 hl (by decide) rfl (fun ls hl => ?_)
          refine lv_iinc (v := nI (j + 1)) (lv' := [(5, .int (nI (j + 1))), (4, .int (u + 0)), (6, .int (nI (mac w j))), (0, .ref (ad 10 0)), (1, .int (nI q)), (2, .int y), (3, .int (nI k))]) hx hb dX5_secondsAhead_67 hl (k := 6) rfl (nI_1 j) (by decide) rfl (fun ls hl => ?_)
          refine lv_goto (tgt := 6) hx hb dX5_secondsAhead_70 (by decide) ?_
          exact ih (j + 1) (u + 0) _ _ _ (by omega) (by omega) (by rw [Int32.add_zero, hu]; exact (if_neg (fun z => c2 (by rw [h5m.2, show r 8 (r 9 (mac w j)) = q from z.1]))).symm) hW hS (lv_sub hl [3, 4, 5, 6, 1, 0] rfl)
        · have hpq : c_pr r (mac w j) = q := m_inj (by have := h5m.1; show r 8 (r 9 (mac w j)) < 2 ^ 31; omega) (by omega) (h5m.2.symm.trans c2)
          refine lv_aload_n hx hb dX5_secondsAhead_39 rfl (lv_at hl 1 rfl) ?_
          refine rh_get (ci := 5) (C := RX5) (T := TX5) (N := 26) (v := .ref (ad 34 0)) hx hb hts (fun _ h => List.mem_cons_of_mem _ (List.mem_append_right _ (h))) hown hE (hW.at 10 0 Nat.zero_lt_one) rfl 14 (by decide) (hts (.fieldLink RX5 46 "RoamingHouseModel" "months" "[I") (by decide +kernel)) rfl dX5_secondsAhead_40 ?_
          refine lv_iload hx hb dX5_secondsAhead_43 (lv_at hl 0 rfl) ?_
          refine rh_iald (n := 60) (f := w 14) hx hb hE (hW.at 34 0 Nat.zero_lt_one) (mac w j) (by omega) (by decide) rfl dX5_secondsAhead_45 ?_
          refine lv_bipush (v := 12) hx hb dX5_secondsAhead_46 (by decide) ?_
          refine lv_idiv hx hb dX5_secondsAhead_48 (by decide) ?_
          refine lv_iload_n hx hb dX5_secondsAhead_49 rfl (lv_at hl 3 rfl) ?_
          refine lv_icmp_ne (tgt := 63) hx hb dX5_secondsAhead_50 (by decide) (fun c3 => ?_) (fun c3 => ?_)
          · refine lv_iconst (v := 0) hx hb dX5_secondsAhead_63 (by decide) ?_
            refine lv_iadd hx hb dX5_secondsAhead_64 ?_
            refine lv_istore (lv' := [(4, .int (u + 0)), (6, .int (nI (mac w j))), (0, .ref (ad 10 0)), (1, .int (nI q)), (2, .int y), (3, .int (nI k)), (5, .int (nI j))]) hx hb dX5_secondsAhead_65 hl (by decide) rfl (fun ls hl => ?_)
            refine lv_iinc (v := nI (j + 1)) (lv' := [(5, .int (nI (j + 1))), (4, .int (u + 0)), (6, .int (nI (mac w j))), (0, .ref (ad 10 0)), (1, .int (nI q)), (2, .int y), (3, .int (nI k))]) hx hb dX5_secondsAhead_67 hl (k := 6) rfl (nI_1 j) (by decide) rfl (fun ls hl => ?_)
            refine lv_goto (tgt := 6) hx hb dX5_secondsAhead_70 (by decide) ?_
            exact ih (j + 1) (u + 0) _ _ _ (by omega) (by omega) (by rw [Int32.add_zero, hu]; exact (if_neg (fun z => c3 z.2)).symm) hW hS (lv_sub hl [3, 4, 5, 6, 1, 0] rfl)
          · refine lv_aload_n hx hb dX5_secondsAhead_53 rfl (lv_at hl 1 rfl) ?_
            refine rh_get (ci := 5) (C := RX5) (T := TX5) (N := 26) (v := .ref (ad 31 0)) hx hb hts (fun _ h => List.mem_cons_of_mem _ (List.mem_append_right _ (h))) hown hE (hW.at 10 0 Nat.zero_lt_one) rfl 11 (by decide) (hts (.fieldLink RX5 37 "RoamingHouseModel" "secondsOf" "[I") (by decide +kernel)) rfl dX5_secondsAhead_54 ?_
            refine lv_iload hx hb dX5_secondsAhead_57 (lv_at hl 0 rfl) ?_
            refine rh_iald (n := 60) (f := w 11) hx hb hE (hW.at 31 0 Nat.zero_lt_one) (mac w j) (by omega) (by decide) rfl dX5_secondsAhead_59 ?_
            refine lv_goto (tgt := 64) hx hb dX5_secondsAhead_60 (by decide) ?_
            refine lv_iadd hx hb dX5_secondsAhead_64 ?_
            refine lv_istore (lv' := [(4, .int (u + w 11 (mac w j))), (6, .int (nI (mac w j))), (0, .ref (ad 10 0)), (1, .int (nI q)), (2, .int y), (3, .int (nI k)), (5, .int (nI j))]) hx hb dX5_secondsAhead_65 hl (by decide) rfl (fun ls hl => ?_)
            refine lv_iinc (v := nI (j + 1)) (lv' := [(5, .int (nI (j + 1))), (4, .int (u + w 11 (mac w j))), (6, .int (nI (mac w j))), (0, .ref (ad 10 0)), (1, .int (nI q)), (2, .int y), (3, .int (nI k))]) hx hb dX5_secondsAhead_67 hl (k := 6) rfl (nI_1 j) (by decide) rfl (fun ls hl => ?_)
            refine lv_goto (tgt := 6) hx hb dX5_secondsAhead_70 (by decide) ?_
            exact ih (j + 1) (u + w 11 (mac w j)) _ _ _ (by omega) (by omega) (by rw [hu]; exact (if_pos ⟨hpq, c3⟩).symm) hW hS (lv_sub hl [3, 4, 5, 6, 1, 0] rfl)
  exact loop6 (k + 1) 0 0 _ _ _ (by omega) (by omega) rfl hW hS (lv_sub hl [2, 3, 4, 5, 1, 0] rfl)
set_option maxHeartbeats 4000000 in
set_option maxRecDepth 100000 in
/-- what is owed for a call -/
theorem ct_X5_owedOf (l : Launch) {G : va_G} {ca : Nat → ClassId} {A : Nat → Prop} {ad : Nat → Nat → Nat} {nf nc : Nat} {r : rh_R} {w : rh_Wm} {th : Int32} (hD : rh_D A ad (fun k i => i < m_n k)) (hwf : m_wf nf nc r w) (c9 : Nat) (hc9 : c9 < nc) : rh_M l yX5_owedOf wsX5_owedOf ({ frames := 1, cells := 0, slots := 0, locals := 30 } : Room) G ca A [.ref (ad 10 0), .int (nI c9)] (m_W G ca ad w th) (fun o H => o = some (.int (m_amt r w c9)) ∧ m_W G ca ad w th H) rh_no 0 0 := by
  obtain ⟨⟨hnf, hnc, hfc, hcc, h5, h10, hst⟩, hna, hnm, hac, hpl⟩ := id hwf
  have h10c := h10 c9 hc9
  have h5c := h5 _ h10c.1
  have h10c1 := h10c.1
  have hq9 : c_pr r c9 < 16 := h5c.1
  have hle9 := m_act_le w nc
  refine rh_enter (cc := cX5_owedOf) (maxL := 5) (ret := (some .int)) (by decide) rfl (Nat.le_of_ble_eq_true rfl) ?_
  intro p e s m below meth c ls hx hb hr hml hown hts hlocks hex hin hE hA hW hl
  have hS : va_S A s.heap s.heap [] := va_S.rf
  have hl : lv_has ls 5 [(0, .ref (ad 10 0)), (1, .int (nI c9))] := hl
  refine lv_aload_n hx hb dX5_owedOf_0 rfl (lv_at hl 0 rfl) ?_
  refine rh_get (ci := 5) (C := RX5) (T := TX5) (N := 26) (v := .ref (ad 33 0)) hx hb hts (fun _ h => List.mem_cons_of_mem _ (List.mem_append_right _ (h))) hown hE (hW.at 10 0 Nat.zero_lt_one) rfl 13 (by decide) (hts (.fieldLink RX5 43 "RoamingHouseModel" "callStates" "[I") (by decide +kernel)) rfl dX5_owedOf_1 ?_
  refine lv_iload_n hx hb dX5_owedOf_4 rfl (lv_at hl 1 rfl) ?_
  refine rh_iald (n := 60) (f := w 13) hx hb hE (hW.at 33 0 Nat.zero_lt_one) c9 (by omega) (by decide) rfl dX5_owedOf_5 ?_
  refine lv_if_eq (tgt := 19) hx hb dX5_owedOf_6 (by decide) (fun c1 => ?_) (fun c1 => ?_)
  · have hamt : m_amt r w c9 = 0 := if_pos (Or.inl c1)
    refine lv_iconst (v := 0) hx hb dX5_owedOf_19 (by decide) ?_
    exact rh_iret hx hb hr hlocks ⟨by rw [hamt], hW⟩ hS (by decide) (by decide) dX5_owedOf_20
  · have hs0 := c1
    refine lv_aload_n hx hb dX5_owedOf_9 rfl (lv_at hl 0 rfl) ?_
    refine rh_get (ci := 5) (C := RX5) (T := TX5) (N := 26) (v := .ref (ad 33 0)) hx hb hts (fun _ h => List.mem_cons_of_mem _ (List.mem_append_right _ (h))) hown hE (hW.at 10 0 Nat.zero_lt_one) rfl 13 (by decide) (hts (.fieldLink RX5 43 "RoamingHouseModel" "callStates" "[I") (by decide +kernel)) rfl dX5_owedOf_10 ?_
    refine lv_iload_n hx hb dX5_owedOf_13 rfl (lv_at hl 1 rfl) ?_
    refine rh_iald (n := 60) (f := w 13) hx hb hE (hW.at 33 0 Nat.zero_lt_one) c9 (by omega) (by decide) rfl dX5_owedOf_14 ?_
    refine lv_iconst (v := 4) hx hb dX5_owedOf_15 (by decide) ?_
    refine lv_icmp_ne (tgt := 21) hx hb dX5_owedOf_16 (by decide) (fun c2 => ?_) (fun c2 => ?_)
    · have hs4 := c2
      have hpl9 := m_pl_of hwf hc9 hs0
      have hpl91 := hpl9.1
      refine lv_aload_n hx hb dX5_owedOf_21 rfl (lv_at hl 0 rfl) ?_
      refine rh_get (ci := 5) (C := RX5) (T := TX5) (N := 26) (v := .ref (ad 25 0)) hx hb hts (fun _ h => List.mem_cons_of_mem _ (List.mem_append_right _ (h))) hown hE (hW.at 10 0 Nat.zero_lt_one) rfl 5 (by decide) (hts (.fieldLink RX5 22 "RoamingHouseModel" "pairOf" "[I") (by decide +kernel)) rfl dX5_owedOf_22 ?_
      refine lv_aload_n hx hb dX5_owedOf_25 rfl (lv_at hl 0 rfl) ?_
      refine rh_get (ci := 5) (C := RX5) (T := TX5) (N := 26) (v := .ref (ad 30 0)) hx hb hts (fun _ h => List.mem_cons_of_mem _ (List.mem_append_right _ (h))) hown hE (hW.at 10 0 Nat.zero_lt_one) rfl 10 (by decide) (hts (.fieldLink RX5 34 "RoamingHouseModel" "fileOf" "[I") (by decide +kernel)) rfl dX5_owedOf_26 ?_
      refine lv_iload_n hx hb dX5_owedOf_29 rfl (lv_at hl 1 rfl) ?_
      refine rh_iald (n := 60) (f := w 10) hx hb hE (hW.at 30 0 Nat.zero_lt_one) c9 (by omega) (by decide) rfl dX5_owedOf_30 ?_
      rw [h10c.2]
      refine rh_iald (n := 30) (f := w 5) hx hb hE (hW.at 25 0 Nat.zero_lt_one) (r 9 c9) (by omega) (by decide) rfl dX5_owedOf_31 ?_
      rw [show w 5 (r 9 c9) = nI (c_pr r c9) from h5c.2]
      refine lv_istore_n (lv' := [(2, .int (nI (c_pr r c9))), (0, .ref (ad 10 0)), (1, .int (nI c9))]) hx hb dX5_owedOf_32 rfl hl (by decide) rfl (fun ls hl => ?_)
      refine lv_aload_n hx hb dX5_owedOf_33 rfl (lv_at hl 1 rfl) ?_
      refine lv_iload_n hx hb dX5_owedOf_34 rfl (lv_at hl 0 rfl) ?_
      refine lv_aload_n hx hb dX5_owedOf_35 rfl (lv_at hl 1 rfl) ?_
      refine rh_get (ci := 5) (C := RX5) (T := TX5) (N := 26) (v := .ref (ad 34 0)) hx hb hts (fun _ h => List.mem_cons_of_mem _ (List.mem_append_right _ (h))) hown hE (hW.at 10 0 Nat.zero_lt_one) rfl 14 (by decide) (hts (.fieldLink RX5 46 "RoamingHouseModel" "months" "[I") (by decide +kernel)) rfl dX5_owedOf_36 ?_
      refine lv_iload_n hx hb dX5_owedOf_39 rfl (lv_at hl 2 rfl) ?_
      refine rh_iald (n := 60) (f := w 14) hx hb hE (hW.at 34 0 Nat.zero_lt_one) c9 (by omega) (by decide) rfl dX5_owedOf_40 ?_
      refine lv_bipush (v := 12) hx hb dX5_owedOf_41 (by decide) ?_
      refine lv_idiv hx hb dX5_owedOf_43 (by decide) ?_
      refine lv_aload_n hx hb dX5_owedOf_44 rfl (lv_at hl 1 rfl) ?_
      refine rh_get (ci := 5) (C := RX5) (T := TX5) (N := 26) (v := .ref (ad 42 0)) hx hb hts (fun _ h => List.mem_cons_of_mem _ (List.mem_append_right _ (h))) hown hE (hW.at 10 0 Nat.zero_lt_one) rfl 22 (by decide) (hts (.fieldLink RX5 68 "RoamingHouseModel" "goesBack" "[Z") (by decide +kernel)) rfl dX5_owedOf_45 ?_
      refine lv_iload_n hx hb dX5_owedOf_48 rfl (lv_at hl 0 rfl) ?_
      refine rh_zald (n := 16) (f := w 22) hx hb hE (hW.at 42 0 Nat.zero_lt_one) (c_pr r c9) hq9 (by decide) rfl dX5_owedOf_49 ?_
      refine lv_if_eq (tgt := 60) hx hb dX5_owedOf_50 (by decide) (fun c3 => ?_) (fun c3 => ?_)
      · have hgb9 := c3
        refine lv_aload_n hx hb dX5_owedOf_60 rfl (lv_at hl 1 rfl) ?_
        refine lv_iload_n hx hb dX5_owedOf_61 rfl (lv_at hl 2 rfl) ?_
        refine rh_calln (vx_runV (As := [.int (nI c9)]) (rest := [.int (w 14 c9 / 12), .int (nI (c_pr r c9)), .ref (ad 10 0)]) ⟨hx, hb, hml, hown, hts⟩ (ct_X5_placeOf l hD hwf.1 c9 hc9 (m_pl w c9) (by omega) hpl9.2.1 hpl9.2.2) (cwV 1 hts gX5_owedOf_X5_placeOf rfl rfl rfl (by decide +kernel) ⟨by decide, by decide⟩) (rh_preV hE hS hA (hW.at 10 0 Nat.zero_lt_one) rfl hW) rfl rfl hl.1 rfl (lv_room (Nat.le_of_ble_eq_true rfl)) dX5_owedOf_62 ⟨by decide, by decide⟩) hS (fun o H locs hN4 hS => ?_)
        obtain ⟨rfl, hW⟩ := hN4
        refine W.eq (g2 := F0 m 65 ls [.int (nI (m_pl w c9)), .int (w 14 c9 / 12), .int (nI (c_pr r c9)), .ref (ad 10 0)]) rfl ?_
        refine rh_calln (vx_runV (As := [.int (nI (c_pr r c9)), .int (w 14 c9 / 12), .int (nI (m_pl w c9))]) (rest := []) ⟨hx, hb, hml, hown, hts⟩ (ct_X5_secondsAhead l hD hwf (c_pr r c9) hq9 (w 14 c9 / 12) (m_pl w c9) (Nat.le_of_lt hpl9.1)) (cwV 3 hts gX5_owedOf_X5_secondsAhead rfl rfl rfl (by decide +kernel) ⟨by decide, by decide⟩) (rh_preV hE hS hA (hW.at 10 0 Nat.zero_lt_one) rfl hW) rfl rfl hl.1 rfl (lv_room (Nat.le_of_ble_eq_true rfl)) dX5_owedOf_65 ⟨by decide, by decide⟩) hS (fun o H locs hN5 hS => ?_)
        obtain ⟨rfl, hW⟩ := hN5
        have hhd : m_hd r w c9 = m_ahead r w (c_pr r c9) (w 14 c9 / 12) (m_pl w c9) := by unfold m_hd; rw [if_pos hgb9]
        refine W.eq (g2 := F0 m 68 ls [.int (m_ahead r w (c_pr r c9) (w 14 c9 / 12) (m_pl w c9))]) rfl ?_
        refine lv_istore_n (lv' := [(3, .int (m_ahead r w (c_pr r c9) (w 14 c9 / 12) (m_pl w c9))), (2, .int (nI (c_pr r c9))), (0, .ref (ad 10 0)), (1, .int (nI c9))]) hx hb dX5_owedOf_68 rfl hl (by decide) rfl (fun ls hl => ?_)
        refine lv_aload_n hx hb dX5_owedOf_69 rfl (lv_at hl 2 rfl) ?_
        refine rh_get (ci := 5) (C := RX5) (T := TX5) (N := 26) (v := .ref (ad 39 0)) hx hb hts (fun _ h => List.mem_cons_of_mem _ (List.mem_append_right _ (h))) hown hE (hW.at 10 0 Nat.zero_lt_one) rfl 19 (by decide) (hts (.fieldLink RX5 58 "RoamingHouseModel" "hasAgreement" "[Z") (by decide +kernel)) rfl dX5_owedOf_70 ?_
        refine lv_iload_n hx hb dX5_owedOf_73 rfl (lv_at hl 1 rfl) ?_
        refine rh_zald (n := 16) (f := w 19) hx hb hE (hW.at 39 0 Nat.zero_lt_one) (c_pr r c9) hq9 (by decide) rfl dX5_owedOf_74 ?_
        refine lv_if_eq (tgt := 92) hx hb dX5_owedOf_75 (by decide) (fun c6 => ?_) (fun c6 => ?_)
        · have hamt : m_amt r w c9 = w 12 c9 := by unfold m_amt; rw [if_neg (fun z => z.elim hs0 hs4), if_neg (fun z => z.1 c6)]
          refine lv_iconst (v := 0) hx hb dX5_owedOf_92 (by decide) ?_
          refine lv_istore (lv' := [(4, .int 0), (3, .int (m_ahead r w (c_pr r c9) (w 14 c9 / 12) (m_pl w c9))), (2, .int (nI (c_pr r c9))), (0, .ref (ad 10 0)), (1, .int (nI c9))]) hx hb dX5_owedOf_93 hl (by decide) rfl (fun ls hl => ?_)
          refine lv_aload_n hx hb dX5_owedOf_95 rfl (lv_at hl 3 rfl) ?_
          refine rh_get (ci := 5) (C := RX5) (T := TX5) (N := 26) (v := .ref (ad 32 0)) hx hb hts (fun _ h => List.mem_cons_of_mem _ (List.mem_append_right _ (h))) hown hE (hW.at 10 0 Nat.zero_lt_one) rfl 12 (by decide) (hts (.fieldLink RX5 40 "RoamingHouseModel" "charges" "[I") (by decide +kernel)) rfl dX5_owedOf_96 ?_
          refine lv_iload_n hx hb dX5_owedOf_99 rfl (lv_at hl 4 rfl) ?_
          refine rh_iald (n := 60) (f := w 12) hx hb hE (hW.at 32 0 Nat.zero_lt_one) c9 (by omega) (by decide) rfl dX5_owedOf_100 ?_
          refine lv_iload hx hb dX5_owedOf_101 (lv_at hl 0 rfl) ?_
          refine lv_if_eq (tgt := 129) hx hb dX5_owedOf_103 (by decide) (fun c7 => ?_) (fun c7 => absurd c7 (by decide))
          refine lv_iconst (v := 0) hx hb dX5_owedOf_129 (by decide) ?_
          refine lv_isub hx hb dX5_owedOf_130 ?_
          exact rh_iret hx hb hr hlocks ⟨by rw [hamt, Int32.sub_zero], hW⟩ hS (by decide) (by decide) dX5_owedOf_131
        · have hag := c6
          refine lv_iload_n hx hb dX5_owedOf_78 rfl (lv_at hl 0 rfl) ?_
          refine lv_aload_n hx hb dX5_owedOf_79 rfl (lv_at hl 2 rfl) ?_
          refine rh_get (ci := 5) (C := RX5) (T := TX5) (N := 26) (v := .ref (ad 40 0)) hx hb hts (fun _ h => List.mem_cons_of_mem _ (List.mem_append_right _ (h))) hown hE (hW.at 10 0 Nat.zero_lt_one) rfl 20 (by decide) (hts (.fieldLink RX5 62 "RoamingHouseModel" "volumes" "[I") (by decide +kernel)) rfl dX5_owedOf_80 ?_
          refine lv_iload_n hx hb dX5_owedOf_83 rfl (lv_at hl 1 rfl) ?_
          refine rh_iald (n := 16) (f := w 20) hx hb hE (hW.at 40 0 Nat.zero_lt_one) (c_pr r c9) hq9 (by decide) rfl dX5_owedOf_84 ?_
          refine lv_icmp_lt (tgt := 92) hx hb dX5_owedOf_85 (by decide) (fun c8 => ?_) (fun c8 => ?_)
          · have hamt : m_amt r w c9 = w 12 c9 := by unfold m_amt; rw [if_neg (fun z => z.elim hs0 hs4), if_neg (fun z => z.2 (by rw [hhd]; exact c8))]
            refine lv_iconst (v := 0) hx hb dX5_owedOf_92 (by decide) ?_
            refine lv_istore (lv' := [(4, .int 0), (3, .int (m_ahead r w (c_pr r c9) (w 14 c9 / 12) (m_pl w c9))), (2, .int (nI (c_pr r c9))), (0, .ref (ad 10 0)), (1, .int (nI c9))]) hx hb dX5_owedOf_93 hl (by decide) rfl (fun ls hl => ?_)
            refine lv_aload_n hx hb dX5_owedOf_95 rfl (lv_at hl 3 rfl) ?_
            refine rh_get (ci := 5) (C := RX5) (T := TX5) (N := 26) (v := .ref (ad 32 0)) hx hb hts (fun _ h => List.mem_cons_of_mem _ (List.mem_append_right _ (h))) hown hE (hW.at 10 0 Nat.zero_lt_one) rfl 12 (by decide) (hts (.fieldLink RX5 40 "RoamingHouseModel" "charges" "[I") (by decide +kernel)) rfl dX5_owedOf_96 ?_
            refine lv_iload_n hx hb dX5_owedOf_99 rfl (lv_at hl 4 rfl) ?_
            refine rh_iald (n := 60) (f := w 12) hx hb hE (hW.at 32 0 Nat.zero_lt_one) c9 (by omega) (by decide) rfl dX5_owedOf_100 ?_
            refine lv_iload hx hb dX5_owedOf_101 (lv_at hl 0 rfl) ?_
            refine lv_if_eq (tgt := 129) hx hb dX5_owedOf_103 (by decide) (fun c9 => ?_) (fun c9 => absurd c9 (by decide))
            refine lv_iconst (v := 0) hx hb dX5_owedOf_129 (by decide) ?_
            refine lv_isub hx hb dX5_owedOf_130 ?_
            exact rh_iret hx hb hr hlocks ⟨by rw [hamt, Int32.sub_zero], hW⟩ hS (by decide) (by decide) dX5_owedOf_131
          · have hamt : m_amt r w c9 = c_cut (w 12 c9) (w 21 (c_pr r c9)) := by unfold m_amt; rw [if_neg (fun z => z.elim hs0 hs4), if_pos ⟨hag, (by rw [hhd]; exact c8)⟩]
            refine lv_iconst (v := 1) hx hb dX5_owedOf_88 (by decide) ?_
            refine lv_goto (tgt := 93) hx hb dX5_owedOf_89 (by decide) ?_
            refine lv_istore (lv' := [(4, .int 1), (3, .int (m_ahead r w (c_pr r c9) (w 14 c9 / 12) (m_pl w c9))), (2, .int (nI (c_pr r c9))), (0, .ref (ad 10 0)), (1, .int (nI c9))]) hx hb dX5_owedOf_93 hl (by decide) rfl (fun ls hl => ?_)
            refine lv_aload_n hx hb dX5_owedOf_95 rfl (lv_at hl 3 rfl) ?_
            refine rh_get (ci := 5) (C := RX5) (T := TX5) (N := 26) (v := .ref (ad 32 0)) hx hb hts (fun _ h => List.mem_cons_of_mem _ (List.mem_append_right _ (h))) hown hE (hW.at 10 0 Nat.zero_lt_one) rfl 12 (by decide) (hts (.fieldLink RX5 40 "RoamingHouseModel" "charges" "[I") (by decide +kernel)) rfl dX5_owedOf_96 ?_
            refine lv_iload_n hx hb dX5_owedOf_99 rfl (lv_at hl 4 rfl) ?_
            refine rh_iald (n := 60) (f := w 12) hx hb hE (hW.at 32 0 Nat.zero_lt_one) c9 (by omega) (by decide) rfl dX5_owedOf_100 ?_
            refine lv_iload hx hb dX5_owedOf_101 (lv_at hl 0 rfl) ?_
            refine lv_if_eq (tgt := 129) hx hb dX5_owedOf_103 (by decide) (fun c10 => absurd c10 (by decide)) (fun c10 => ?_)
            refine lv_aload_n hx hb dX5_owedOf_106 rfl (lv_at hl 3 rfl) ?_
            refine rh_get (ci := 5) (C := RX5) (T := TX5) (N := 26) (v := .ref (ad 32 0)) hx hb hts (fun _ h => List.mem_cons_of_mem _ (List.mem_append_right _ (h))) hown hE (hW.at 10 0 Nat.zero_lt_one) rfl 12 (by decide) (hts (.fieldLink RX5 40 "RoamingHouseModel" "charges" "[I") (by decide +kernel)) rfl dX5_owedOf_107 ?_
            refine lv_iload_n hx hb dX5_owedOf_110 rfl (lv_at hl 4 rfl) ?_
            refine rh_iald (n := 60) (f := w 12) hx hb hE (hW.at 32 0 Nat.zero_lt_one) c9 (by omega) (by decide) rfl dX5_owedOf_111 ?_
            refine lv_i2l hx hb dX5_owedOf_112 rfl ?_
            refine lv_aload_n hx hb dX5_owedOf_113 rfl (lv_at hl 3 rfl) ?_
            refine rh_get (ci := 5) (C := RX5) (T := TX5) (N := 26) (v := .ref (ad 41 0)) hx hb hts (fun _ h => List.mem_cons_of_mem _ (List.mem_append_right _ (h))) hown hE (hW.at 10 0 Nat.zero_lt_one) rfl 21 (by decide) (hts (.fieldLink RX5 65 "RoamingHouseModel" "discounts" "[I") (by decide +kernel)) rfl dX5_owedOf_114 ?_
            refine lv_iload_n hx hb dX5_owedOf_117 rfl (lv_at hl 2 rfl) ?_
            refine rh_iald (n := 16) (f := w 21) hx hb hE (hW.at 41 0 Nat.zero_lt_one) (c_pr r c9) hq9 (by decide) rfl dX5_owedOf_118 ?_
            refine lv_i2l hx hb dX5_owedOf_119 rfl ?_
            refine lv_lmul hx hb dX5_owedOf_120 ?_
            refine lv_ldc2 (v := 10000) hx hb hown (hts (.constantLong RX5 136 (10000)) (by decide +kernel)) dX5_owedOf_121 ?_
            refine lv_ldiv hx hb dX5_owedOf_124 (by decide) ?_
            refine lv_l2i hx hb dX5_owedOf_125 rfl ?_
            refine lv_goto (tgt := 130) hx hb dX5_owedOf_126 (by decide) ?_
            refine lv_isub hx hb dX5_owedOf_130 ?_
            exact rh_iret hx hb hr hlocks ⟨by rw [hamt]; rfl, hW⟩ hS (by decide) (by decide) dX5_owedOf_131
      · have hgb9 := c3
        refine lv_aload_n hx hb dX5_owedOf_53 rfl (lv_at hl 1 rfl) ?_
        refine rh_get (ci := 5) (C := RX5) (T := TX5) (N := 26) (v := .int (w 26 16)) hx hb hts (fun _ h => List.mem_cons_of_mem _ (List.mem_append_right _ (h))) hown hE (hW.at 10 0 Nat.zero_lt_one) rfl 16 (by decide) (hts (.fieldLink RX5 115 "RoamingHouseModel" "acceptedMany" "I") (by decide +kernel)) rfl dX5_owedOf_54 ?_
        rw [hnm]
        refine lv_goto (tgt := 65) hx hb dX5_owedOf_57 (by decide) ?_
        refine rh_calln (vx_runV (As := [.int (nI (c_pr r c9)), .int (w 14 c9 / 12), .int (nI (mna w))]) (rest := []) ⟨hx, hb, hml, hown, hts⟩ (ct_X5_secondsAhead l hD hwf (c_pr r c9) hq9 (w 14 c9 / 12) (mna w) (Nat.le_refl _)) (cwV 3 hts gX5_owedOf_X5_secondsAhead rfl rfl rfl (by decide +kernel) ⟨by decide, by decide⟩) (rh_preV hE hS hA (hW.at 10 0 Nat.zero_lt_one) rfl hW) rfl rfl hl.1 rfl (lv_room (Nat.le_of_ble_eq_true rfl)) dX5_owedOf_65 ⟨by decide, by decide⟩) hS (fun o H locs hN11 hS => ?_)
        obtain ⟨rfl, hW⟩ := hN11
        have hhd : m_hd r w c9 = m_ahead r w (c_pr r c9) (w 14 c9 / 12) (mna w) := by unfold m_hd; rw [if_neg hgb9]
        refine W.eq (g2 := F0 m 68 ls [.int (m_ahead r w (c_pr r c9) (w 14 c9 / 12) (mna w))]) rfl ?_
        refine lv_istore_n (lv' := [(3, .int (m_ahead r w (c_pr r c9) (w 14 c9 / 12) (mna w))), (2, .int (nI (c_pr r c9))), (0, .ref (ad 10 0)), (1, .int (nI c9))]) hx hb dX5_owedOf_68 rfl hl (by decide) rfl (fun ls hl => ?_)
        refine lv_aload_n hx hb dX5_owedOf_69 rfl (lv_at hl 2 rfl) ?_
        refine rh_get (ci := 5) (C := RX5) (T := TX5) (N := 26) (v := .ref (ad 39 0)) hx hb hts (fun _ h => List.mem_cons_of_mem _ (List.mem_append_right _ (h))) hown hE (hW.at 10 0 Nat.zero_lt_one) rfl 19 (by decide) (hts (.fieldLink RX5 58 "RoamingHouseModel" "hasAgreement" "[Z") (by decide +kernel)) rfl dX5_owedOf_70 ?_
        refine lv_iload_n hx hb dX5_owedOf_73 rfl (lv_at hl 1 rfl) ?_
        refine rh_zald (n := 16) (f := w 19) hx hb hE (hW.at 39 0 Nat.zero_lt_one) (c_pr r c9) hq9 (by decide) rfl dX5_owedOf_74 ?_
        refine lv_if_eq (tgt := 92) hx hb dX5_owedOf_75 (by decide) (fun c12 => ?_) (fun c12 => ?_)
        · have hamt : m_amt r w c9 = w 12 c9 := by unfold m_amt; rw [if_neg (fun z => z.elim hs0 hs4), if_neg (fun z => z.1 c12)]
          refine lv_iconst (v := 0) hx hb dX5_owedOf_92 (by decide) ?_
          refine lv_istore (lv' := [(4, .int 0), (3, .int (m_ahead r w (c_pr r c9) (w 14 c9 / 12) (mna w))), (2, .int (nI (c_pr r c9))), (0, .ref (ad 10 0)), (1, .int (nI c9))]) hx hb dX5_owedOf_93 hl (by decide) rfl (fun ls hl => ?_)
          refine lv_aload_n hx hb dX5_owedOf_95 rfl (lv_at hl 3 rfl) ?_
          refine rh_get (ci := 5) (C := RX5) (T := TX5) (N := 26) (v := .ref (ad 32 0)) hx hb hts (fun _ h => List.mem_cons_of_mem _ (List.mem_append_right _ (h))) hown hE (hW.at 10 0 Nat.zero_lt_one) rfl 12 (by decide) (hts (.fieldLink RX5 40 "RoamingHouseModel" "charges" "[I") (by decide +kernel)) rfl dX5_owedOf_96 ?_
          refine lv_iload_n hx hb dX5_owedOf_99 rfl (lv_at hl 4 rfl) ?_
          refine rh_iald (n := 60) (f := w 12) hx hb hE (hW.at 32 0 Nat.zero_lt_one) c9 (by omega) (by decide) rfl dX5_owedOf_100 ?_
          refine lv_iload hx hb dX5_owedOf_101 (lv_at hl 0 rfl) ?_
          refine lv_if_eq (tgt := 129) hx hb dX5_owedOf_103 (by decide) (fun c13 => ?_) (fun c13 => absurd c13 (by decide))
          refine lv_iconst (v := 0) hx hb dX5_owedOf_129 (by decide) ?_
          refine lv_isub hx hb dX5_owedOf_130 ?_
          exact rh_iret hx hb hr hlocks ⟨by rw [hamt, Int32.sub_zero], hW⟩ hS (by decide) (by decide) dX5_owedOf_131
        · have hag := c12
          refine lv_iload_n hx hb dX5_owedOf_78 rfl (lv_at hl 0 rfl) ?_
          refine lv_aload_n hx hb dX5_owedOf_79 rfl (lv_at hl 2 rfl) ?_
          refine rh_get (ci := 5) (C := RX5) (T := TX5) (N := 26) (v := .ref (ad 40 0)) hx hb hts (fun _ h => List.mem_cons_of_mem _ (List.mem_append_right _ (h))) hown hE (hW.at 10 0 Nat.zero_lt_one) rfl 20 (by decide) (hts (.fieldLink RX5 62 "RoamingHouseModel" "volumes" "[I") (by decide +kernel)) rfl dX5_owedOf_80 ?_
          refine lv_iload_n hx hb dX5_owedOf_83 rfl (lv_at hl 1 rfl) ?_
          refine rh_iald (n := 16) (f := w 20) hx hb hE (hW.at 40 0 Nat.zero_lt_one) (c_pr r c9) hq9 (by decide) rfl dX5_owedOf_84 ?_
          refine lv_icmp_lt (tgt := 92) hx hb dX5_owedOf_85 (by decide) (fun c14 => ?_) (fun c14 => ?_)
          · have hamt : m_amt r w c9 = w 12 c9 := by unfold m_amt; rw [if_neg (fun z => z.elim hs0 hs4), if_neg (fun z => z.2 (by rw [hhd]; exact c14))]
            refine lv_iconst (v := 0) hx hb dX5_owedOf_92 (by decide) ?_
            refine lv_istore (lv' := [(4, .int 0), (3, .int (m_ahead r w (c_pr r c9) (w 14 c9 / 12) (mna w))), (2, .int (nI (c_pr r c9))), (0, .ref (ad 10 0)), (1, .int (nI c9))]) hx hb dX5_owedOf_93 hl (by decide) rfl (fun ls hl => ?_)
            refine lv_aload_n hx hb dX5_owedOf_95 rfl (lv_at hl 3 rfl) ?_
            refine rh_get (ci := 5) (C := RX5) (T := TX5) (N := 26) (v := .ref (ad 32 0)) hx hb hts (fun _ h => List.mem_cons_of_mem _ (List.mem_append_right _ (h))) hown hE (hW.at 10 0 Nat.zero_lt_one) rfl 12 (by decide) (hts (.fieldLink RX5 40 "RoamingHouseModel" "charges" "[I") (by decide +kernel)) rfl dX5_owedOf_96 ?_
            refine lv_iload_n hx hb dX5_owedOf_99 rfl (lv_at hl 4 rfl) ?_
            refine rh_iald (n := 60) (f := w 12) hx hb hE (hW.at 32 0 Nat.zero_lt_one) c9 (by omega) (by decide) rfl dX5_owedOf_100 ?_
            refine lv_iload hx hb dX5_owedOf_101 (lv_at hl 0 rfl) ?_
            refine lv_if_eq (tgt := 129) hx hb dX5_owedOf_103 (by decide) (fun c15 => ?_) (fun c15 => absurd c15 (by decide))
            refine lv_iconst (v := 0) hx hb dX5_owedOf_129 (by decide) ?_
            refine lv_isub hx hb dX5_owedOf_130 ?_
            exact rh_iret hx hb hr hlocks ⟨by rw [hamt, Int32.sub_zero], hW⟩ hS (by decide) (by decide) dX5_owedOf_131
          · have hamt : m_amt r w c9 = c_cut (w 12 c9) (w 21 (c_pr r c9)) := by unfold m_amt; rw [if_neg (fun z => z.elim hs0 hs4), if_pos ⟨hag, (by rw [hhd]; exact c14)⟩]
            refine lv_iconst (v := 1) hx hb dX5_owedOf_88 (by decide) ?_
            refine lv_goto (tgt := 93) hx hb dX5_owedOf_89 (by decide) ?_
            refine lv_istore (lv' := [(4, .int 1), (3, .int (m_ahead r w (c_pr r c9) (w 14 c9 / 12) (mna w))), (2, .int (nI (c_pr r c9))), (0, .ref (ad 10 0)), (1, .int (nI c9))]) hx hb dX5_owedOf_93 hl (by decide) rfl (fun ls hl => ?_)
            refine lv_aload_n hx hb dX5_owedOf_95 rfl (lv_at hl 3 rfl) ?_
            refine rh_get (ci := 5) (C := RX5) (T := TX5) (N := 26) (v := .ref (ad 32 0)) hx hb hts (fun _ h => List.mem_cons_of_mem _ (List.mem_append_right _ (h))) hown hE (hW.at 10 0 Nat.zero_lt_one) rfl 12 (by decide) (hts (.fieldLink RX5 40 "RoamingHouseModel" "charges" "[I") (by decide +kernel)) rfl dX5_owedOf_96 ?_
            refine lv_iload_n hx hb dX5_owedOf_99 rfl (lv_at hl 4 rfl) ?_
            refine rh_iald (n := 60) (f := w 12) hx hb hE (hW.at 32 0 Nat.zero_lt_one) c9 (by omega) (by decide) rfl dX5_owedOf_100 ?_
            refine lv_iload hx hb dX5_owedOf_101 (lv_at hl 0 rfl) ?_
            refine lv_if_eq (tgt := 129) hx hb dX5_owedOf_103 (by decide) (fun c16 => absurd c16 (by decide)) (fun c16 => ?_)
            refine lv_aload_n hx hb dX5_owedOf_106 rfl (lv_at hl 3 rfl) ?_
            refine rh_get (ci := 5) (C := RX5) (T := TX5) (N := 26) (v := .ref (ad 32 0)) hx hb hts (fun _ h => List.mem_cons_of_mem _ (List.mem_append_right _ (h))) hown hE (hW.at 10 0 Nat.zero_lt_one) rfl 12 (by decide) (hts (.fieldLink RX5 40 "RoamingHouseModel" "charges" "[I") (by decide +kernel)) rfl dX5_owedOf_107 ?_
            refine lv_iload_n hx hb dX5_owedOf_110 rfl (lv_at hl 4 rfl) ?_
            refine rh_iald (n := 60) (f := w 12) hx hb hE (hW.at 32 0 Nat.zero_lt_one) c9 (by omega) (by decide) rfl dX5_owedOf_111 ?_
            refine lv_i2l hx hb dX5_owedOf_112 rfl ?_
            refine lv_aload_n hx hb dX5_owedOf_113 rfl (lv_at hl 3 rfl) ?_
            refine rh_get (ci := 5) (C := RX5) (T := TX5) (N := 26) (v := .ref (ad 41 0)) hx hb hts (fun _ h => List.mem_cons_of_mem _ (List.mem_append_right _ (h))) hown hE (hW.at 10 0 Nat.zero_lt_one) rfl 21 (by decide) (hts (.fieldLink RX5 65 "RoamingHouseModel" "discounts" "[I") (by decide +kernel)) rfl dX5_owedOf_114 ?_
            refine lv_iload_n hx hb dX5_owedOf_117 rfl (lv_at hl 2 rfl) ?_
            refine rh_iald (n := 16) (f := w 21) hx hb hE (hW.at 41 0 Nat.zero_lt_one) (c_pr r c9) hq9 (by decide) rfl dX5_owedOf_118 ?_
            refine lv_i2l hx hb dX5_owedOf_119 rfl ?_
            refine lv_lmul hx hb dX5_owedOf_120 ?_
            refine lv_ldc2 (v := 10000) hx hb hown (hts (.constantLong RX5 136 (10000)) (by decide +kernel)) dX5_owedOf_121 ?_
            refine lv_ldiv hx hb dX5_owedOf_124 (by decide) ?_
            refine lv_l2i hx hb dX5_owedOf_125 rfl ?_
            refine lv_goto (tgt := 130) hx hb dX5_owedOf_126 (by decide) ?_
            refine lv_isub hx hb dX5_owedOf_130 ?_
            exact rh_iret hx hb hr hlocks ⟨by rw [hamt]; rfl, hW⟩ hS (by decide) (by decide) dX5_owedOf_131
    · have hamt : m_amt r w c9 = 0 := if_pos (Or.inr c2)
      refine lv_iconst (v := 0) hx hb dX5_owedOf_19 (by decide) ?_
      exact rh_iret hx hb hr hlocks ⟨by rw [hamt], hW⟩ hS (by decide) (by decide) dX5_owedOf_20
set_option maxHeartbeats 4000000 in
set_option maxRecDepth 100000 in
theorem ct_X5_owedFor (l : Launch) {G : va_G} {ca : Nat → ClassId} {A : Nat → Prop} {ad : Nat → Nat → Nat} {nf nc : Nat} {r : rh_R} {w : rh_Wm} {th : Int32} (hD : rh_D A ad (fun k i => i < m_n k)) (hwf : m_wf nf nc r w) (x : Int32) : rh_M l yX5_owedFor wsX5_owedFor ({ frames := 3, cells := 0, slots := 0, locals := 90 } : Room) G ca A [.ref (ad 10 0), .int x] (m_W G ca ad w th) (fun o H => (∃ i9 : Nat, i9 < nc ∧ x = nI i9 ∧ o = some (.int (m_amt r w i9)) ∧ m_W G ca ad w 0 H) ∨ (¬ ix x nc ∧ (∃ z, o = some (.int z)) ∧ m_W G ca ad w 1 H)) rh_no 0 0 := by
  obtain ⟨⟨hnf, hnc, hfc, hcc, h5, h10, hst⟩, hna, hnm, hac, hpl⟩ := id hwf
  refine rh_enter (cc := cX5_owedFor) (maxL := 2) (ret := (some .int)) (by decide) rfl (Nat.le_of_ble_eq_true rfl) ?_
  intro p e s m below meth c ls hx hb hr hml hown hts hlocks hex hin hE hA hW hl
  have hS : va_S A s.heap s.heap [] := va_S.rf
  have hl : lv_has ls 2 [(0, .ref (ad 10 0)), (1, .int x)] := hl
  refine lv_aload_n hx hb dX5_owedFor_0 rfl (lv_at hl 0 rfl) ?_
  refine lv_aload_n hx hb dX5_owedFor_1 rfl (lv_at hl 0 rfl) ?_
  refine lv_iload_n hx hb dX5_owedFor_2 rfl (lv_at hl 1 rfl) ?_
  refine rh_calln (vx_runV (As := [.int x]) (rest := [.ref (ad 10 0)]) ⟨hx, hb, hml, hown, hts⟩ (ct_X5_isCall l hD hwf.1 x) (cwV 1 hts gX5_owedFor_X5_isCall rfl rfl rfl (by decide +kernel) ⟨by decide, by decide⟩) (rh_preV hE hS hA (hW.at 10 0 Nat.zero_lt_one) rfl hW) rfl rfl hl.1 rfl (lv_room (Nat.le_of_ble_eq_true rfl)) dX5_owedFor_3 ⟨by decide, by decide⟩) hS (fun o H locs hN1 hS => ?_)
  obtain ⟨⟨ho2, rfl⟩ | ⟨ho2, rfl⟩, hW⟩ := hN1
  · have ho := ho2
    refine W.eq (g2 := F0 m 6 ls [.int 1, .ref (ad 10 0)]) rfl ?_
    refine lv_if_eq (tgt := 13) hx hb dX5_owedFor_6 (by decide) (fun c3 => absurd c3 (by decide)) (fun c3 => ?_)
    refine lv_iconst (v := 0) hx hb dX5_owedFor_9 (by decide) ?_
    refine lv_goto (tgt := 14) hx hb dX5_owedFor_10 (by decide) ?_
    refine m_putt (x := 0) hx hb hts (fun _ h => List.mem_cons_of_mem _ (List.mem_append_right _ (h))) hown hE hW hD hS rfl (hts (.fieldLink RX5 74 "RoamingHouseModel" "thrown" "I") (by decide +kernel)) rfl rfl rfl (Nat.le_of_ble_eq_true rfl) rfl dX5_owedFor_14 (fun H locs hW hS => ?_)
    refine lv_aload_n hx hb dX5_owedFor_17 rfl (lv_at hl 0 rfl) ?_
    refine rh_get (ci := 5) (C := RX5) (T := TX5) (N := 26) (v := .int 0) hx hb hts (fun _ h => List.mem_cons_of_mem _ (List.mem_append_right _ (h))) hown hE (hW.at 10 0 Nat.zero_lt_one) rfl 25 (by decide) (hts (.fieldLink RX5 74 "RoamingHouseModel" "thrown" "I") (by decide +kernel)) rfl dX5_owedFor_18 ?_
    refine lv_if_ne (tgt := 32) hx hb dX5_owedFor_21 (by decide) (fun c4 => absurd c4 (by decide)) (fun c4 => ?_)
    obtain ⟨c9, hc9, rfl⟩ := (ix_iff (by omega)).mp ho
    refine lv_aload_n hx hb dX5_owedFor_24 rfl (lv_at hl 0 rfl) ?_
    refine lv_iload_n hx hb dX5_owedFor_25 rfl (lv_at hl 1 rfl) ?_
    refine rh_calln (vx_runV (As := [.int (nI c9)]) (rest := []) ⟨hx, hb, hml, hown, hts⟩ (ct_X5_owedOf l hD hwf c9 hc9) (cwV 1 hts gX5_owedFor_X5_owedOf rfl rfl rfl (by decide +kernel) ⟨by decide, by decide⟩) (rh_preV hE hS hA (hW.at 10 0 Nat.zero_lt_one) rfl hW) rfl rfl hl.1 rfl (lv_room (Nat.le_of_ble_eq_true rfl)) dX5_owedFor_26 ⟨by decide, by decide⟩) hS (fun o H locs hN5 hS => ?_)
    obtain ⟨rfl, hW⟩ := hN5
    refine W.eq (g2 := F0 m 29 ls [.int (m_amt r w c9)]) rfl ?_
    refine lv_goto (tgt := 33) hx hb dX5_owedFor_29 (by decide) ?_
    exact rh_iret hx hb hr hlocks (Or.inl ⟨c9, hc9, rfl, rfl, hW⟩) hS (by decide) (by decide) dX5_owedFor_33
  · have hno := ho2
    refine W.eq (g2 := F0 m 6 ls [.int 0, .ref (ad 10 0)]) rfl ?_
    refine lv_if_eq (tgt := 13) hx hb dX5_owedFor_6 (by decide) (fun c6 => ?_) (fun c6 => absurd c6 (by decide))
    refine lv_iconst (v := 1) hx hb dX5_owedFor_13 (by decide) ?_
    refine m_putt (x := 1) hx hb hts (fun _ h => List.mem_cons_of_mem _ (List.mem_append_right _ (h))) hown hE hW hD hS rfl (hts (.fieldLink RX5 74 "RoamingHouseModel" "thrown" "I") (by decide +kernel)) rfl rfl rfl (Nat.le_of_ble_eq_true rfl) rfl dX5_owedFor_14 (fun H locs hW hS => ?_)
    refine lv_aload_n hx hb dX5_owedFor_17 rfl (lv_at hl 0 rfl) ?_
    refine rh_get (ci := 5) (C := RX5) (T := TX5) (N := 26) (v := .int 1) hx hb hts (fun _ h => List.mem_cons_of_mem _ (List.mem_append_right _ (h))) hown hE (hW.at 10 0 Nat.zero_lt_one) rfl 25 (by decide) (hts (.fieldLink RX5 74 "RoamingHouseModel" "thrown" "I") (by decide +kernel)) rfl dX5_owedFor_18 ?_
    refine lv_if_ne (tgt := 32) hx hb dX5_owedFor_21 (by decide) (fun c7 => ?_) (fun c7 => absurd c7 (by decide))
    refine lv_iconst (v := 0) hx hb dX5_owedFor_32 (by decide) ?_
    exact rh_iret hx hb hr hlocks (Or.inr ⟨hno, ⟨_, rfl⟩, hW⟩) hS (by decide) (by decide) dX5_owedFor_33
set_option maxHeartbeats 4000000 in
set_option maxRecDepth 100000 in
/-- what a pair owes for months -/
theorem ct_X5_owedIn (l : Launch) {G : va_G} {ca : Nat → ClassId} {A : Nat → Prop} {ad : Nat → Nat → Nat} {nf nc : Nat} {r : rh_R} {w : rh_Wm} {th : Int32} (hD : rh_D A ad (fun k i => i < m_n k)) (hwf : m_wf nf nc r w) (q : Nat) (hq : q < 16) (a b : Int32) : rh_M l yX5_owedIn wsX5_owedIn ({ frames := 2, cells := 0, slots := 0, locals := 60 } : Room) G ca A [.ref (ad 10 0), .int (nI q), .int a, .int b] (m_W G ca ad w th) (fun o H => o = some (.long (m_sum r w q a b nc)) ∧ m_W G ca ad w th H) rh_no 0 0 := by
  obtain ⟨⟨hnf, hnc, hfc, hcc, h5, h10, hst⟩, hna, hnm, hac, hpl⟩ := id hwf
  refine rh_enter (cc := cX5_owedIn) (maxL := 8) (ret := (some .long)) (by decide) rfl (Nat.le_of_ble_eq_true rfl) ?_
  intro p e s m below meth c ls hx hb hr hml hown hts hlocks hex hin hE hA hW hl
  have hS : va_S A s.heap s.heap [] := va_S.rf
  have hl : lv_has ls 8 [(0, .ref (ad 10 0)), (1, .int (nI q)), (2, .int a), (3, .int b)] := hl
  refine lv_lconst (v := 0) hx hb dX5_owedIn_0 rfl ?_
  refine lv_lstore (lv' := [(4, .long 0), (0, .ref (ad 10 0)), (1, .int (nI q)), (2, .int a), (3, .int b)]) hx hb dX5_owedIn_1 hl (by decide) rfl (fun ls hl => ?_)
  refine lv_iconst (v := 0) hx hb dX5_owedIn_3 (by decide) ?_
  refine lv_istore (lv' := [(6, .int 0), (4, .long 0), (0, .ref (ad 10 0)), (1, .int (nI q)), (2, .int a), (3, .int b)]) hx hb dX5_owedIn_4 hl (by decide) rfl (fun ls hl => ?_)
  have loop6 : ∀ (n : Nat) (j : Nat) (u : Int64) (H : Heap) (locs : List Loc) (ls : Array Slot), nc + 1 ≤ j + n → j ≤ nc → u = m_sum r w q a b j → m_W G ca ad w th H → va_S A s.heap H locs → lv_has ls 8 [(0, .ref (ad 10 0)), (1, .int (nI q)), (2, .int a), (3, .int b), (4, .long u), (6, .int (nI j))] → W p l e ({ frames := 2, cells := 0, slots := 0, locals := 60 } : Room) s m ([.ref (ad 10 0), .int (nI q), .int a, .int b] : List Value).toArray below meth c H locs 0 0 (vx_MQ below (rh_Q A (fun o H => o = some (.long (m_sum r w q a b nc)) ∧ m_W G ca ad w th H)) (rh_XC A rh_no) ([.ref (ad 10 0), .int (nI q), .int a, .int b] : List Value).toArray s 0 0 A) (F0 m 6 ls []) := by
    intro n
    induction n with
    | zero => intro j u H locs ls hjn hj hu hW hS hl; exact absurd hjn (by omega)
    | succ n ih =>
      intro j u H locs ls hjn hj hu hW hS hl
      refine lv_iload hx hb dX5_owedIn_6 (lv_at hl 5 rfl) ?_
      refine lv_aload_n hx hb dX5_owedIn_8 rfl (lv_at hl 0 rfl) ?_
      refine rh_get (ci := 5) (C := RX5) (T := TX5) (N := 26) (v := .int (w 26 9)) hx hb hts (fun _ h => List.mem_cons_of_mem _ (List.mem_append_right _ (h))) hown hE (hW.at 10 0 Nat.zero_lt_one) rfl 9 (by decide) (hts (.fieldLink RX5 89 "RoamingHouseModel" "callMany" "I") (by decide +kernel)) rfl dX5_owedIn_9 ?_
      refine lv_icmp_ge (tgt := 90) hx hb dX5_owedIn_12 (by decide) (fun c1 => ?_) (fun c1 => ?_)
      · have hjf : j = nc := by
          rcases Nat.lt_or_ge j nc with z | z
          · exact absurd (by rw [← hcc]; exact c1) (nI_ge z (by omega))
          · omega
        refine lv_lload hx hb dX5_owedIn_90 (lv_at hl 4 rfl) ?_
        exact rh_lret hx hb hr hlocks ⟨by rw [hu, hjf], hW⟩ hS (by decide) (by decide) dX5_owedIn_92
      · have hjl : j < nc := by
          rcases Nat.lt_or_ge j nc with z | z
          · exact z
          · exact absurd (by rw [hcc]; exact nI_le z (by omega)) c1
        refine lv_aload_n hx hb dX5_owedIn_15 rfl (lv_at hl 0 rfl) ?_
        refine rh_get (ci := 5) (C := RX5) (T := TX5) (N := 26) (v := .ref (ad 33 0)) hx hb hts (fun _ h => List.mem_cons_of_mem _ (List.mem_append_right _ (h))) hown hE (hW.at 10 0 Nat.zero_lt_one) rfl 13 (by decide) (hts (.fieldLink RX5 43 "RoamingHouseModel" "callStates" "[I") (by decide +kernel)) rfl dX5_owedIn_16 ?_
        refine lv_iload hx hb dX5_owedIn_19 (lv_at hl 5 rfl) ?_
        refine rh_iald (n := 60) (f := w 13) hx hb hE (hW.at 33 0 Nat.zero_lt_one) j (by omega) (by decide) rfl dX5_owedIn_21 ?_
        refine lv_if_eq (tgt := 60) hx hb dX5_owedIn_22 (by decide) (fun c2 => ?_) (fun c2 => ?_)
        · refine lv_iconst (v := 0) hx hb dX5_owedIn_60 (by decide) ?_
          refine lv_istore (lv' := [(7, .int 0), (0, .ref (ad 10 0)), (1, .int (nI q)), (2, .int a), (3, .int b), (4, .long u), (6, .int (nI j))]) hx hb dX5_owedIn_61 hl (by decide) rfl (fun ls hl => ?_)
          refine lv_lload hx hb dX5_owedIn_63 (lv_at hl 5 rfl) ?_
          refine lv_iload hx hb dX5_owedIn_65 (lv_at hl 0 rfl) ?_
          refine lv_if_eq (tgt := 80) hx hb dX5_owedIn_67 (by decide) (fun c3 => ?_) (fun c3 => absurd c3 (by decide))
          refine lv_lconst (v := 0) hx hb dX5_owedIn_80 rfl ?_
          refine lv_ladd hx hb dX5_owedIn_81 ?_
          refine lv_lstore (lv' := [(4, .long (u + 0)), (7, .int 0), (0, .ref (ad 10 0)), (1, .int (nI q)), (2, .int a), (3, .int b), (6, .int (nI j))]) hx hb dX5_owedIn_82 hl (by decide) rfl (fun ls hl => ?_)
          refine lv_iinc (v := nI (j + 1)) (lv' := [(6, .int (nI (j + 1))), (4, .long (u + 0)), (7, .int 0), (0, .ref (ad 10 0)), (1, .int (nI q)), (2, .int a), (3, .int b)]) hx hb dX5_owedIn_84 hl (k := 6) rfl (nI_1 j) (by decide) rfl (fun ls hl => ?_)
          refine lv_goto (tgt := 6) hx hb dX5_owedIn_87 (by decide) ?_
          exact ih (j + 1) (u + 0) _ _ _ (by omega) (by omega) (by rw [Int64.add_zero, hu]; exact (if_neg (fun z => z.1 c2)).symm) hW hS (lv_sub hl [3, 4, 5, 6, 1, 0] rfl)
        · have hs0 := c2
          have h10j := h10 j hjl
          have h10j1 := h10j.1
          have h5j := h5 _ h10j.1
          refine lv_aload_n hx hb dX5_owedIn_25 rfl (lv_at hl 0 rfl) ?_
          refine rh_get (ci := 5) (C := RX5) (T := TX5) (N := 26) (v := .ref (ad 25 0)) hx hb hts (fun _ h => List.mem_cons_of_mem _ (List.mem_append_right _ (h))) hown hE (hW.at 10 0 Nat.zero_lt_one) rfl 5 (by decide) (hts (.fieldLink RX5 22 "RoamingHouseModel" "pairOf" "[I") (by decide +kernel)) rfl dX5_owedIn_26 ?_
          refine lv_aload_n hx hb dX5_owedIn_29 rfl (lv_at hl 0 rfl) ?_
          refine rh_get (ci := 5) (C := RX5) (T := TX5) (N := 26) (v := .ref (ad 30 0)) hx hb hts (fun _ h => List.mem_cons_of_mem _ (List.mem_append_right _ (h))) hown hE (hW.at 10 0 Nat.zero_lt_one) rfl 10 (by decide) (hts (.fieldLink RX5 34 "RoamingHouseModel" "fileOf" "[I") (by decide +kernel)) rfl dX5_owedIn_30 ?_
          refine lv_iload hx hb dX5_owedIn_33 (lv_at hl 5 rfl) ?_
          refine rh_iald (n := 60) (f := w 10) hx hb hE (hW.at 30 0 Nat.zero_lt_one) j (by omega) (by decide) rfl dX5_owedIn_35 ?_
          rw [h10j.2]
          refine rh_iald (n := 30) (f := w 5) hx hb hE (hW.at 25 0 Nat.zero_lt_one) (r 9 j) (by omega) (by decide) rfl dX5_owedIn_36 ?_
          refine lv_iload_n hx hb dX5_owedIn_37 rfl (lv_at hl 1 rfl) ?_
          refine lv_icmp_ne (tgt := 60) hx hb dX5_owedIn_38 (by decide) (fun c4 => ?_) (fun c4 => ?_)
          · refine lv_iconst (v := 0) hx hb dX5_owedIn_60 (by decide) ?_
            refine lv_istore (lv' := [(7, .int 0), (0, .ref (ad 10 0)), (1, .int (nI q)), (2, .int a), (3, .int b), (4, .long u), (6, .int (nI j))]) hx hb dX5_owedIn_61 hl (by decide) rfl (fun ls hl => ?_)
            refine lv_lload hx hb dX5_owedIn_63 (lv_at hl 5 rfl) ?_
            refine lv_iload hx hb dX5_owedIn_65 (lv_at hl 0 rfl) ?_
            refine lv_if_eq (tgt := 80) hx hb dX5_owedIn_67 (by decide) (fun c5 => ?_) (fun c5 => absurd c5 (by decide))
            refine lv_lconst (v := 0) hx hb dX5_owedIn_80 rfl ?_
            refine lv_ladd hx hb dX5_owedIn_81 ?_
            refine lv_lstore (lv' := [(4, .long (u + 0)), (7, .int 0), (0, .ref (ad 10 0)), (1, .int (nI q)), (2, .int a), (3, .int b), (6, .int (nI j))]) hx hb dX5_owedIn_82 hl (by decide) rfl (fun ls hl => ?_)
            refine lv_iinc (v := nI (j + 1)) (lv' := [(6, .int (nI (j + 1))), (4, .long (u + 0)), (7, .int 0), (0, .ref (ad 10 0)), (1, .int (nI q)), (2, .int a), (3, .int b)]) hx hb dX5_owedIn_84 hl (k := 6) rfl (nI_1 j) (by decide) rfl (fun ls hl => ?_)
            refine lv_goto (tgt := 6) hx hb dX5_owedIn_87 (by decide) ?_
            exact ih (j + 1) (u + 0) _ _ _ (by omega) (by omega) (by rw [Int64.add_zero, hu]; exact (if_neg (fun z => c4 (by rw [h5j.2, show r 8 (r 9 j) = q from z.2.1]))).symm) hW hS (lv_sub hl [3, 4, 5, 6, 1, 0] rfl)
          · have hpq : c_pr r j = q := m_inj (by have := h5j.1; show r 8 (r 9 j) < 2 ^ 31; omega) (by omega) (h5j.2.symm.trans c4)
            refine lv_aload_n hx hb dX5_owedIn_41 rfl (lv_at hl 0 rfl) ?_
            refine rh_get (ci := 5) (C := RX5) (T := TX5) (N := 26) (v := .ref (ad 34 0)) hx hb hts (fun _ h => List.mem_cons_of_mem _ (List.mem_append_right _ (h))) hown hE (hW.at 10 0 Nat.zero_lt_one) rfl 14 (by decide) (hts (.fieldLink RX5 46 "RoamingHouseModel" "months" "[I") (by decide +kernel)) rfl dX5_owedIn_42 ?_
            refine lv_iload hx hb dX5_owedIn_45 (lv_at hl 5 rfl) ?_
            refine rh_iald (n := 60) (f := w 14) hx hb hE (hW.at 34 0 Nat.zero_lt_one) j (by omega) (by decide) rfl dX5_owedIn_47 ?_
            refine lv_iload_n hx hb dX5_owedIn_48 rfl (lv_at hl 2 rfl) ?_
            refine lv_iload_n hx hb dX5_owedIn_49 rfl (lv_at hl 3 rfl) ?_
            refine rh_calln (vx_runS (As := [.int (w 14 j), .int a, .int b]) (rest := []) ⟨hx, hb, hml, hown, hts⟩ (ct_X5_in l hD (w 14 j) a b) (va_cwS 3 hts gX5_owedIn_X5_in rfl rfl rfl (by decide +kernel) ⟨by decide, by decide⟩) (rh_pre hE hS hA hW) rfl rfl hl.1 rfl (lv_room (Nat.le_of_ble_eq_true rfl)) dX5_owedIn_50 ⟨by decide, by decide⟩) hS (fun o H locs hN6 hS => ?_)
            obtain ⟨⟨hg7, rfl⟩ | ⟨hg7, rfl⟩, hW⟩ := hN6
            · have hgr := hg7
              refine W.eq (g2 := F0 m 53 ls [.int 1]) rfl ?_
              refine lv_if_eq (tgt := 60) hx hb dX5_owedIn_53 (by decide) (fun c8 => absurd c8 (by decide)) (fun c8 => ?_)
              refine lv_iconst (v := 1) hx hb dX5_owedIn_56 (by decide) ?_
              refine lv_goto (tgt := 61) hx hb dX5_owedIn_57 (by decide) ?_
              refine lv_istore (lv' := [(7, .int 1), (0, .ref (ad 10 0)), (1, .int (nI q)), (2, .int a), (3, .int b), (4, .long u), (6, .int (nI j))]) hx hb dX5_owedIn_61 hl (by decide) rfl (fun ls hl => ?_)
              refine lv_lload hx hb dX5_owedIn_63 (lv_at hl 5 rfl) ?_
              refine lv_iload hx hb dX5_owedIn_65 (lv_at hl 0 rfl) ?_
              refine lv_if_eq (tgt := 80) hx hb dX5_owedIn_67 (by decide) (fun c9 => absurd c9 (by decide)) (fun c9 => ?_)
              refine lv_aload_n hx hb dX5_owedIn_70 rfl (lv_at hl 1 rfl) ?_
              refine lv_iload hx hb dX5_owedIn_71 (lv_at hl 6 rfl) ?_
              refine rh_calln (vx_runV (As := [.int (nI j)]) (rest := [.long u]) ⟨hx, hb, hml, hown, hts⟩ (ct_X5_owedOf l hD hwf j hjl) (cwV 1 hts gX5_owedIn_X5_owedOf rfl rfl rfl (by decide +kernel) ⟨by decide, by decide⟩) (rh_preV hE hS hA (hW.at 10 0 Nat.zero_lt_one) rfl hW) rfl rfl hl.1 rfl (lv_room (Nat.le_of_ble_eq_true rfl)) dX5_owedIn_73 ⟨by decide, by decide⟩) hS (fun o H locs hN10 hS => ?_)
              obtain ⟨rfl, hW⟩ := hN10
              refine W.eq (g2 := F0 m 76 ls [.int (m_amt r w j), .long u]) rfl ?_
              refine lv_i2l hx hb dX5_owedIn_76 rfl ?_
              refine lv_goto (tgt := 81) hx hb dX5_owedIn_77 (by decide) ?_
              refine lv_ladd hx hb dX5_owedIn_81 ?_
              refine lv_lstore (lv' := [(4, .long (u + (m_amt r w j).toInt64)), (7, .int 1), (0, .ref (ad 10 0)), (1, .int (nI q)), (2, .int a), (3, .int b), (6, .int (nI j))]) hx hb dX5_owedIn_82 hl (by decide) rfl (fun ls hl => ?_)
              refine lv_iinc (v := nI (j + 1)) (lv' := [(6, .int (nI (j + 1))), (4, .long (u + (m_amt r w j).toInt64)), (7, .int 1), (0, .ref (ad 10 0)), (1, .int (nI q)), (2, .int a), (3, .int b)]) hx hb dX5_owedIn_84 hl (k := 6) rfl (nI_1 j) (by decide) rfl (fun ls hl => ?_)
              refine lv_goto (tgt := 6) hx hb dX5_owedIn_87 (by decide) ?_
              exact ih (j + 1) (u + (m_amt r w j).toInt64) _ _ _ (by omega) (by omega) (by rw [hu]; exact (if_pos ⟨hs0, hpq, hgr⟩).symm) hW hS (lv_sub hl [3, 4, 5, 6, 1, 0] rfl)
            · have hgr := hg7
              refine W.eq (g2 := F0 m 53 ls [.int 0]) rfl ?_
              refine lv_if_eq (tgt := 60) hx hb dX5_owedIn_53 (by decide) (fun c11 => ?_) (fun c11 => absurd c11 (by decide))
              refine lv_iconst (v := 0) hx hb dX5_owedIn_60 (by decide) ?_
              refine lv_istore (lv' := [(7, .int 0), (0, .ref (ad 10 0)), (1, .int (nI q)), (2, .int a), (3, .int b), (4, .long u), (6, .int (nI j))]) hx hb dX5_owedIn_61 hl (by decide) rfl (fun ls hl => ?_)
              refine lv_lload hx hb dX5_owedIn_63 (lv_at hl 5 rfl) ?_
              refine lv_iload hx hb dX5_owedIn_65 (lv_at hl 0 rfl) ?_
              refine lv_if_eq (tgt := 80) hx hb dX5_owedIn_67 (by decide) (fun c12 => ?_) (fun c12 => absurd c12 (by decide))
              refine lv_lconst (v := 0) hx hb dX5_owedIn_80 rfl ?_
              refine lv_ladd hx hb dX5_owedIn_81 ?_
              refine lv_lstore (lv' := [(4, .long (u + 0)), (7, .int 0), (0, .ref (ad 10 0)), (1, .int (nI q)), (2, .int a), (3, .int b), (6, .int (nI j))]) hx hb dX5_owedIn_82 hl (by decide) rfl (fun ls hl => ?_)
              refine lv_iinc (v := nI (j + 1)) (lv' := [(6, .int (nI (j + 1))), (4, .long (u + 0)), (7, .int 0), (0, .ref (ad 10 0)), (1, .int (nI q)), (2, .int a), (3, .int b)]) hx hb dX5_owedIn_84 hl (k := 6) rfl (nI_1 j) (by decide) rfl (fun ls hl => ?_)
              refine lv_goto (tgt := 6) hx hb dX5_owedIn_87 (by decide) ?_
              exact ih (j + 1) (u + 0) _ _ _ (by omega) (by omega) (by rw [Int64.add_zero, hu]; exact (if_neg (fun z => hgr z.2.2)).symm) hW hS (lv_sub hl [3, 4, 5, 6, 1, 0] rfl)
  exact loop6 (nc + 1) 0 0 _ _ _ (by omega) (by omega) rfl hW hS (lv_sub hl [2, 3, 4, 5, 1, 0] rfl)
set_option maxHeartbeats 4000000 in
set_option maxRecDepth 100000 in
theorem ct_X5_owed (l : Launch) {G : va_G} {ca : Nat → ClassId} {A : Nat → Prop} {ad : Nat → Nat → Nat} {nf nc : Nat} {r : rh_R} {w : rh_Wm} {th : Int32} (hD : rh_D A ad (fun k i => i < m_n k)) (hwf : m_wf nf nc r w) (x y mo : Int32) : rh_M l yX5_owed wsX5_owed ({ frames := 4, cells := 0, slots := 0, locals := 120 } : Room) G ca A [.ref (ad 10 0), .int x, .int y, .int mo] (m_W G ca ad w th) (fun o H => (∃ h9 k9 : Nat, h9 < 4 ∧ k9 < 4 ∧ h9 ≠ k9 ∧ x = nI h9 ∧ y = nI k9 ∧ rng mo 0 (w 26 24) ∧ o = some (.long (m_sum r w (h9 * 4 + k9) mo mo nc)) ∧ m_W G ca ad w 0 H) ∨ (¬ (ix x 4 ∧ ix y 4) ∧ (∃ z, o = some (.long z)) ∧ m_W G ca ad w 1 H) ∨ (ix x 4 ∧ ix y 4 ∧ (x = y ∨ ¬ rng mo 0 (w 26 24)) ∧ (∃ z, o = some (.long z)) ∧ m_W G ca ad w 2 H)) rh_no 0 0 := by
  obtain ⟨⟨hnf, hnc, hfc, hcc, h5, h10, hst⟩, hna, hnm, hac, hpl⟩ := id hwf
  refine rh_enter (cc := cX5_owed) (maxL := 4) (ret := (some .long)) (by decide) rfl (Nat.le_of_ble_eq_true rfl) ?_
  intro p e s m below meth c ls hx hb hr hml hown hts hlocks hex hin hE hA hW hl
  have hS : va_S A s.heap s.heap [] := va_S.rf
  have hl : lv_has ls 4 [(0, .ref (ad 10 0)), (1, .int x), (2, .int y), (3, .int mo)] := hl
  refine lv_aload_n hx hb dX5_owed_0 rfl (lv_at hl 0 rfl) ?_
  refine lv_iload_n hx hb dX5_owed_1 rfl (lv_at hl 1 rfl) ?_
  refine lv_iload_n hx hb dX5_owed_2 rfl (lv_at hl 2 rfl) ?_
  refine lv_iload_n hx hb dX5_owed_3 rfl (lv_at hl 3 rfl) ?_
  refine lv_iconst (v := 0) hx hb dX5_owed_4 (by decide) ?_
  refine lv_aload_n hx hb dX5_owed_5 rfl (lv_at hl 0 rfl) ?_
  refine rh_get (ci := 5) (C := RX5) (T := TX5) (N := 26) (v := .int (w 26 24)) hx hb hts (fun _ h => List.mem_cons_of_mem _ (List.mem_append_right _ (h))) hown hE (hW.at 10 0 Nat.zero_lt_one) rfl 24 (by decide) (hts (.fieldLink RX5 101 "RoamingHouseModel" "now" "I") (by decide +kernel)) rfl dX5_owed_6 ?_
  refine rh_calln (vx_runS (As := [.int mo, .int 0, .int (w 26 24)]) (rest := [.int y, .int x, .ref (ad 10 0)]) ⟨hx, hb, hml, hown, hts⟩ (ct_X5_in l hD mo 0 (w 26 24)) (va_cwS 3 hts gX5_owed_X5_in rfl rfl rfl (by decide +kernel) ⟨by decide, by decide⟩) (rh_pre hE hS hA hW) rfl rfl hl.1 rfl (lv_room (Nat.le_of_ble_eq_true rfl)) dX5_owed_9 ⟨by decide, by decide⟩) hS (fun o H locs hN1 hS => ?_)
  obtain ⟨⟨hg2, rfl⟩ | ⟨hg2, rfl⟩, hW⟩ := hN1
  · have hga := hg2
    refine W.eq (g2 := F0 m 12 ls [.int 1, .int y, .int x, .ref (ad 10 0)]) rfl ?_
    refine rh_calln (vx_runV (As := [.int x, .int y, .int 1]) (rest := []) ⟨hx, hb, hml, hown, hts⟩ (ct_X5_isPair l hD x y 1) (cwV 3 hts gX5_owed_X5_isPair rfl rfl rfl (by decide +kernel) ⟨by decide, by decide⟩) (rh_preV hE hS hA (hW.at 10 0 Nat.zero_lt_one) rfl hW) rfl rfl hl.1 rfl (lv_room (Nat.le_of_ble_eq_true rfl)) dX5_owed_12 ⟨by decide, by decide⟩) hS (fun o H locs hN3 hS => ?_)
    rcases hN3 with ⟨h, k, hh, hk, hne, rfl, rfl, hz, rfl, hW⟩ | ⟨hno, rfl, hW⟩ | ⟨hox, hoy, hxz, rfl, hW⟩
    · refine W.eq (g2 := F0 m 15 ls [.int 1]) rfl ?_
      refine lv_if_eq (tgt := 32) hx hb dX5_owed_15 (by decide) (fun c4 => absurd c4 (by decide)) (fun c4 => ?_)
      refine lv_aload_n hx hb dX5_owed_18 rfl (lv_at hl 0 rfl) ?_
      refine lv_iconst (v := 4) hx hb dX5_owed_19 (by decide) ?_
      refine lv_iload_n hx hb dX5_owed_20 rfl (lv_at hl 1 rfl) ?_
      refine lv_imul hx hb dX5_owed_21 ?_
      refine lv_iload_n hx hb dX5_owed_22 rfl (lv_at hl 2 rfl) ?_
      refine lv_iadd hx hb dX5_owed_23 ?_
      rw [(m_4pq hh hk).1]
      refine lv_iload_n hx hb dX5_owed_24 rfl (lv_at hl 3 rfl) ?_
      refine lv_iload_n hx hb dX5_owed_25 rfl (lv_at hl 3 rfl) ?_
      refine rh_calln (vx_runV (As := [.int (nI (h * 4 + k)), .int mo, .int mo]) (rest := []) ⟨hx, hb, hml, hown, hts⟩ (ct_X5_owedIn l hD hwf (h * 4 + k) (m_4pq hh hk).2 mo mo) (cwV 3 hts gX5_owed_X5_owedIn rfl rfl rfl (by decide +kernel) ⟨by decide, by decide⟩) (rh_preV hE hS hA (hW.at 10 0 Nat.zero_lt_one) rfl hW) rfl rfl hl.1 rfl (lv_room (Nat.le_of_ble_eq_true rfl)) dX5_owed_26 ⟨by decide, by decide⟩) hS (fun o H locs hN5 hS => ?_)
      obtain ⟨rfl, hW⟩ := hN5
      refine W.eq (g2 := F0 m 29 ls [.long (m_sum r w (h * 4 + k) mo mo nc)]) rfl ?_
      refine lv_goto (tgt := 33) hx hb dX5_owed_29 (by decide) ?_
      exact rh_lret hx hb hr hlocks (Or.inl ⟨h, k, hh, hk, hne, rfl, rfl, hga, rfl, hW⟩) hS (by decide) (by decide) dX5_owed_33
    · refine W.eq (g2 := F0 m 15 ls [.int 0]) rfl ?_
      refine lv_if_eq (tgt := 32) hx hb dX5_owed_15 (by decide) (fun c6 => ?_) (fun c6 => absurd c6 (by decide))
      refine lv_lconst (v := 0) hx hb dX5_owed_32 rfl ?_
      exact rh_lret hx hb hr hlocks (Or.inr (Or.inl ⟨hno, ⟨_, rfl⟩, hW⟩)) hS (by decide) (by decide) dX5_owed_33
    · refine W.eq (g2 := F0 m 15 ls [.int 0]) rfl ?_
      refine lv_if_eq (tgt := 32) hx hb dX5_owed_15 (by decide) (fun c7 => ?_) (fun c7 => absurd c7 (by decide))
      refine lv_lconst (v := 0) hx hb dX5_owed_32 rfl ?_
      exact rh_lret hx hb hr hlocks (Or.inr (Or.inr ⟨hox, hoy, (by first | exact hxz.imp (fun z => z) (fun z => absurd z (by decide)) | exact Or.inr hga), ⟨_, rfl⟩, hW⟩)) hS (by decide) (by decide) dX5_owed_33
  · have hga := hg2
    refine W.eq (g2 := F0 m 12 ls [.int 0, .int y, .int x, .ref (ad 10 0)]) rfl ?_
    refine rh_calln (vx_runV (As := [.int x, .int y, .int 0]) (rest := []) ⟨hx, hb, hml, hown, hts⟩ (ct_X5_isPair l hD x y 0) (cwV 3 hts gX5_owed_X5_isPair rfl rfl rfl (by decide +kernel) ⟨by decide, by decide⟩) (rh_preV hE hS hA (hW.at 10 0 Nat.zero_lt_one) rfl hW) rfl rfl hl.1 rfl (lv_room (Nat.le_of_ble_eq_true rfl)) dX5_owed_12 ⟨by decide, by decide⟩) hS (fun o H locs hN8 hS => ?_)
    rcases hN8 with ⟨h, k, hh, hk, hne, rfl, rfl, hz, rfl, hW⟩ | ⟨hno, rfl, hW⟩ | ⟨hox, hoy, hxz, rfl, hW⟩
    · exact absurd rfl hz
    · refine W.eq (g2 := F0 m 15 ls [.int 0]) rfl ?_
      refine lv_if_eq (tgt := 32) hx hb dX5_owed_15 (by decide) (fun c9 => ?_) (fun c9 => absurd c9 (by decide))
      refine lv_lconst (v := 0) hx hb dX5_owed_32 rfl ?_
      exact rh_lret hx hb hr hlocks (Or.inr (Or.inl ⟨hno, ⟨_, rfl⟩, hW⟩)) hS (by decide) (by decide) dX5_owed_33
    · refine W.eq (g2 := F0 m 15 ls [.int 0]) rfl ?_
      refine lv_if_eq (tgt := 32) hx hb dX5_owed_15 (by decide) (fun c10 => ?_) (fun c10 => absurd c10 (by decide))
      refine lv_lconst (v := 0) hx hb dX5_owed_32 rfl ?_
      exact rh_lret hx hb hr hlocks (Or.inr (Or.inr ⟨hox, hoy, (by first | exact hxz.imp (fun z => z) (fun z => absurd z (by decide)) | exact Or.inr hga), ⟨_, rfl⟩, hW⟩)) hS (by decide) (by decide) dX5_owed_33
set_option maxHeartbeats 4000000 in
set_option maxRecDepth 100000 in
theorem ct_X5_shortfall (l : Launch) {G : va_G} {ca : Nat → ClassId} {A : Nat → Prop} {ad : Nat → Nat → Nat} {nf nc : Nat} {r : rh_R} {w : rh_Wm} {th : Int32} (hD : rh_D A ad (fun k i => i < m_n k)) (hwf : m_wf nf nc r w) (x y ye : Int32) : rh_M l yX5_shortfall wsX5_shortfall ({ frames := 4, cells := 0, slots := 0, locals := 120 } : Room) G ca A [.ref (ad 10 0), .int x, .int y, .int ye] (m_W G ca ad w th) (fun o H => (∃ h9 k9 : Nat, h9 < 4 ∧ k9 < 4 ∧ h9 ≠ k9 ∧ x = nI h9 ∧ y = nI k9 ∧ rng ye 0 1 ∧ ¬ w 26 24 < 12 * ye + 12 ∧ o = some (.long (if ((w 23 (h9 * 4 + k9)).toInt64 - m_sum r w (h9 * 4 + k9) (12 * ye) (12 * ye + 11) nc) ≤ 0 then 0 else ((w 23 (h9 * 4 + k9)).toInt64 - m_sum r w (h9 * 4 + k9) (12 * ye) (12 * ye + 11) nc))) ∧ m_W G ca ad w 0 H) ∨ (¬ (ix x 4 ∧ ix y 4) ∧ (∃ z, o = some (.long z)) ∧ m_W G ca ad w 1 H) ∨ (ix x 4 ∧ ix y 4 ∧ (x = y ∨ ¬ rng ye 0 1) ∧ (∃ z, o = some (.long z)) ∧ m_W G ca ad w 2 H) ∨ (∃ h9 k9 : Nat, h9 < 4 ∧ k9 < 4 ∧ h9 ≠ k9 ∧ x = nI h9 ∧ y = nI k9 ∧ rng ye 0 1 ∧ w 26 24 < 12 * ye + 12 ∧ (∃ z, o = some (.long z)) ∧ m_W G ca ad w 3 H)) rh_no 0 0 := by
  obtain ⟨⟨hnf, hnc, hfc, hcc, h5, h10, hst⟩, hna, hnm, hac, hpl⟩ := id hwf
  refine rh_enter (cc := cX5_shortfall) (maxL := 7) (ret := (some .long)) (by decide) rfl (Nat.le_of_ble_eq_true rfl) ?_
  intro p e s m below meth c ls hx hb hr hml hown hts hlocks hex hin hE hA hW hl
  have hS : va_S A s.heap s.heap [] := va_S.rf
  have hl : lv_has ls 7 [(0, .ref (ad 10 0)), (1, .int x), (2, .int y), (3, .int ye)] := hl
  refine lv_aload_n hx hb dX5_shortfall_0 rfl (lv_at hl 0 rfl) ?_
  refine lv_iload_n hx hb dX5_shortfall_1 rfl (lv_at hl 1 rfl) ?_
  refine lv_iload_n hx hb dX5_shortfall_2 rfl (lv_at hl 2 rfl) ?_
  refine lv_iload_n hx hb dX5_shortfall_3 rfl (lv_at hl 3 rfl) ?_
  refine lv_iconst (v := 0) hx hb dX5_shortfall_4 (by decide) ?_
  refine lv_iconst (v := 1) hx hb dX5_shortfall_5 (by decide) ?_
  refine rh_calln (vx_runS (As := [.int ye, .int 0, .int 1]) (rest := [.int y, .int x, .ref (ad 10 0)]) ⟨hx, hb, hml, hown, hts⟩ (ct_X5_in l hD ye 0 1) (va_cwS 3 hts gX5_shortfall_X5_in rfl rfl rfl (by decide +kernel) ⟨by decide, by decide⟩) (rh_pre hE hS hA hW) rfl rfl hl.1 rfl (lv_room (Nat.le_of_ble_eq_true rfl)) dX5_shortfall_6 ⟨by decide, by decide⟩) hS (fun o H locs hN1 hS => ?_)
  obtain ⟨⟨hg2, rfl⟩ | ⟨hg2, rfl⟩, hW⟩ := hN1
  · have hga := hg2
    refine W.eq (g2 := F0 m 9 ls [.int 1, .int y, .int x, .ref (ad 10 0)]) rfl ?_
    refine rh_calln (vx_runV (As := [.int x, .int y, .int 1]) (rest := []) ⟨hx, hb, hml, hown, hts⟩ (ct_X5_isPair l hD x y 1) (cwV 3 hts gX5_shortfall_X5_isPair rfl rfl rfl (by decide +kernel) ⟨by decide, by decide⟩) (rh_preV hE hS hA (hW.at 10 0 Nat.zero_lt_one) rfl hW) rfl rfl hl.1 rfl (lv_room (Nat.le_of_ble_eq_true rfl)) dX5_shortfall_9 ⟨by decide, by decide⟩) hS (fun o H locs hN3 hS => ?_)
    rcases hN3 with ⟨h, k, hh, hk, hne, rfl, rfl, hz, rfl, hW⟩ | ⟨hno, rfl, hW⟩ | ⟨hox, hoy, hxz, rfl, hW⟩
    · refine W.eq (g2 := F0 m 12 ls [.int 1]) rfl ?_
      refine lv_if_eq (tgt := 38) hx hb dX5_shortfall_12 (by decide) (fun c4 => absurd c4 (by decide)) (fun c4 => ?_)
      refine lv_aload_n hx hb dX5_shortfall_15 rfl (lv_at hl 0 rfl) ?_
      refine lv_aload_n hx hb dX5_shortfall_16 rfl (lv_at hl 0 rfl) ?_
      refine rh_get (ci := 5) (C := RX5) (T := TX5) (N := 26) (v := .int (w 26 24)) hx hb hts (fun _ h => List.mem_cons_of_mem _ (List.mem_append_right _ (h))) hown hE (hW.at 10 0 Nat.zero_lt_one) rfl 24 (by decide) (hts (.fieldLink RX5 101 "RoamingHouseModel" "now" "I") (by decide +kernel)) rfl dX5_shortfall_17 ?_
      refine lv_bipush (v := 12) hx hb dX5_shortfall_20 (by decide) ?_
      refine lv_iload_n hx hb dX5_shortfall_22 rfl (lv_at hl 3 rfl) ?_
      refine lv_imul hx hb dX5_shortfall_23 ?_
      refine lv_bipush (v := 12) hx hb dX5_shortfall_24 (by decide) ?_
      refine lv_iadd hx hb dX5_shortfall_26 ?_
      refine lv_icmp_ge (tgt := 34) hx hb dX5_shortfall_27 (by decide) (fun c5 => ?_) (fun c5 => ?_)
      · have hye := le_nlt c5
        refine lv_iconst (v := 0) hx hb dX5_shortfall_34 (by decide) ?_
        refine m_putt (x := 0) hx hb hts (fun _ h => List.mem_cons_of_mem _ (List.mem_append_right _ (h))) hown hE hW hD hS rfl (hts (.fieldLink RX5 74 "RoamingHouseModel" "thrown" "I") (by decide +kernel)) rfl rfl rfl (Nat.le_of_ble_eq_true rfl) rfl dX5_shortfall_35 (fun H locs hW hS => ?_)
        refine lv_aload_n hx hb dX5_shortfall_38 rfl (lv_at hl 0 rfl) ?_
        refine rh_get (ci := 5) (C := RX5) (T := TX5) (N := 26) (v := .int 0) hx hb hts (fun _ h => List.mem_cons_of_mem _ (List.mem_append_right _ (h))) hown hE (hW.at 10 0 Nat.zero_lt_one) rfl 25 (by decide) (hts (.fieldLink RX5 74 "RoamingHouseModel" "thrown" "I") (by decide +kernel)) rfl dX5_shortfall_39 ?_
        refine lv_if_le (tgt := 47) hx hb dX5_shortfall_42 (by decide) (fun c6 => ?_) (fun c6 => absurd c6 (by decide))
        refine lv_iconst (v := 4) hx hb dX5_shortfall_47 (by decide) ?_
        refine lv_iload_n hx hb dX5_shortfall_48 rfl (lv_at hl 1 rfl) ?_
        refine lv_imul hx hb dX5_shortfall_49 ?_
        refine lv_iload_n hx hb dX5_shortfall_50 rfl (lv_at hl 2 rfl) ?_
        refine lv_iadd hx hb dX5_shortfall_51 ?_
        rw [(m_4pq hh hk).1]
        refine lv_istore (lv' := [(4, .int (nI (h * 4 + k))), (0, .ref (ad 10 0)), (1, .int (nI h)), (2, .int (nI k)), (3, .int ye)]) hx hb dX5_shortfall_52 hl (by decide) rfl (fun ls hl => ?_)
        refine lv_aload_n hx hb dX5_shortfall_54 rfl (lv_at hl 1 rfl) ?_
        refine rh_get (ci := 5) (C := RX5) (T := TX5) (N := 26) (v := .ref (ad 43 0)) hx hb hts (fun _ h => List.mem_cons_of_mem _ (List.mem_append_right _ (h))) hown hE (hW.at 10 0 Nat.zero_lt_one) rfl 23 (by decide) (hts (.fieldLink RX5 71 "RoamingHouseModel" "promises" "[I") (by decide +kernel)) rfl dX5_shortfall_55 ?_
        refine lv_iload hx hb dX5_shortfall_58 (lv_at hl 0 rfl) ?_
        refine rh_iald (n := 16) (f := w 23) hx hb hE (hW.at 43 0 Nat.zero_lt_one) (h * 4 + k) (m_4pq hh hk).2 (by decide) rfl dX5_shortfall_60 ?_
        refine lv_i2l hx hb dX5_shortfall_61 rfl ?_
        refine lv_aload_n hx hb dX5_shortfall_62 rfl (lv_at hl 1 rfl) ?_
        refine lv_iload hx hb dX5_shortfall_63 (lv_at hl 0 rfl) ?_
        refine lv_bipush (v := 12) hx hb dX5_shortfall_65 (by decide) ?_
        refine lv_iload_n hx hb dX5_shortfall_67 rfl (lv_at hl 4 rfl) ?_
        refine lv_imul hx hb dX5_shortfall_68 ?_
        refine lv_bipush (v := 12) hx hb dX5_shortfall_69 (by decide) ?_
        refine lv_iload_n hx hb dX5_shortfall_71 rfl (lv_at hl 4 rfl) ?_
        refine lv_imul hx hb dX5_shortfall_72 ?_
        refine lv_bipush (v := 11) hx hb dX5_shortfall_73 (by decide) ?_
        refine lv_iadd hx hb dX5_shortfall_75 ?_
        refine rh_calln (vx_runV (As := [.int (nI (h * 4 + k)), .int (12 * ye), .int ((12 * ye) + 11)]) (rest := [.long ((w 23 (h * 4 + k)).toInt64)]) ⟨hx, hb, hml, hown, hts⟩ (ct_X5_owedIn l hD hwf (h * 4 + k) (m_4pq hh hk).2 (12 * ye) ((12 * ye) + 11)) (cwV 3 hts gX5_shortfall_X5_owedIn rfl rfl rfl (by decide +kernel) ⟨by decide, by decide⟩) (rh_preV hE hS hA (hW.at 10 0 Nat.zero_lt_one) rfl hW) rfl rfl hl.1 rfl (lv_room (Nat.le_of_ble_eq_true rfl)) dX5_shortfall_76 ⟨by decide, by decide⟩) hS (fun o H locs hN7 hS => ?_)
        obtain ⟨rfl, hW⟩ := hN7
        refine W.eq (g2 := F0 m 79 ls [.long (m_sum r w (h * 4 + k) (12 * ye) ((12 * ye) + 11) nc), .long ((w 23 (h * 4 + k)).toInt64)]) rfl ?_
        refine lv_lsub hx hb dX5_shortfall_79 ?_
        refine lv_lstore (lv' := [(5, .long ((w 23 (h * 4 + k)).toInt64 - m_sum r w (h * 4 + k) (12 * ye) ((12 * ye) + 11) nc)), (4, .int (nI (h * 4 + k))), (0, .ref (ad 10 0)), (1, .int (nI h)), (2, .int (nI k)), (3, .int ye)]) hx hb dX5_shortfall_80 hl (by decide) rfl (fun ls hl => ?_)
        refine lv_lload hx hb dX5_shortfall_82 (lv_at hl 0 rfl) ?_
        refine lv_lconst (v := 0) hx hb dX5_shortfall_84 rfl ?_
        refine W.lcmp hx hb dX5_shortfall_85 ?_
        refine lv_if_le (tgt := 94) hx hb dX5_shortfall_86 (by decide) (fun c8 => ?_) (fun c8 => ?_)
        · have hsh := (lg_cmp_le _ _).mp c8
          refine lv_lconst (v := 0) hx hb dX5_shortfall_94 rfl ?_
          exact rh_lret hx hb hr hlocks (Or.inl ⟨h, k, hh, hk, hne, rfl, rfl, hga, hye, (by rw [if_pos hsh]), hW⟩) hS (by decide) (by decide) dX5_shortfall_95
        · have hsh := fun z => c8 ((lg_cmp_le _ _).mpr z)
          refine lv_lload hx hb dX5_shortfall_89 (lv_at hl 0 rfl) ?_
          refine lv_goto (tgt := 95) hx hb dX5_shortfall_91 (by decide) ?_
          exact rh_lret hx hb hr hlocks (Or.inl ⟨h, k, hh, hk, hne, rfl, rfl, hga, hye, (by rw [if_neg hsh]), hW⟩) hS (by decide) (by decide) dX5_shortfall_95
      · have hye := nle_lt c5
        refine lv_iconst (v := 3) hx hb dX5_shortfall_30 (by decide) ?_
        refine lv_goto (tgt := 35) hx hb dX5_shortfall_31 (by decide) ?_
        refine m_putt (x := 3) hx hb hts (fun _ h => List.mem_cons_of_mem _ (List.mem_append_right _ (h))) hown hE hW hD hS rfl (hts (.fieldLink RX5 74 "RoamingHouseModel" "thrown" "I") (by decide +kernel)) rfl rfl rfl (Nat.le_of_ble_eq_true rfl) rfl dX5_shortfall_35 (fun H locs hW hS => ?_)
        refine lv_aload_n hx hb dX5_shortfall_38 rfl (lv_at hl 0 rfl) ?_
        refine rh_get (ci := 5) (C := RX5) (T := TX5) (N := 26) (v := .int 3) hx hb hts (fun _ h => List.mem_cons_of_mem _ (List.mem_append_right _ (h))) hown hE (hW.at 10 0 Nat.zero_lt_one) rfl 25 (by decide) (hts (.fieldLink RX5 74 "RoamingHouseModel" "thrown" "I") (by decide +kernel)) rfl dX5_shortfall_39 ?_
        refine lv_if_le (tgt := 47) hx hb dX5_shortfall_42 (by decide) (fun c9 => absurd c9 (by decide)) (fun c9 => ?_)
        refine lv_lconst (v := 0) hx hb dX5_shortfall_45 rfl ?_
        exact rh_lret hx hb hr hlocks (Or.inr (Or.inr (Or.inr ⟨h, k, hh, hk, hne, rfl, rfl, hga, hye, ⟨_, rfl⟩, hW⟩))) hS (by decide) (by decide) dX5_shortfall_46
    · refine W.eq (g2 := F0 m 12 ls [.int 0]) rfl ?_
      refine lv_if_eq (tgt := 38) hx hb dX5_shortfall_12 (by decide) (fun c10 => ?_) (fun c10 => absurd c10 (by decide))
      refine lv_aload_n hx hb dX5_shortfall_38 rfl (lv_at hl 0 rfl) ?_
      refine rh_get (ci := 5) (C := RX5) (T := TX5) (N := 26) (v := .int 1) hx hb hts (fun _ h => List.mem_cons_of_mem _ (List.mem_append_right _ (h))) hown hE (hW.at 10 0 Nat.zero_lt_one) rfl 25 (by decide) (hts (.fieldLink RX5 74 "RoamingHouseModel" "thrown" "I") (by decide +kernel)) rfl dX5_shortfall_39 ?_
      refine lv_if_le (tgt := 47) hx hb dX5_shortfall_42 (by decide) (fun c11 => absurd c11 (by decide)) (fun c11 => ?_)
      refine lv_lconst (v := 0) hx hb dX5_shortfall_45 rfl ?_
      exact rh_lret hx hb hr hlocks (Or.inr (Or.inl ⟨hno, ⟨_, rfl⟩, hW⟩)) hS (by decide) (by decide) dX5_shortfall_46
    · refine W.eq (g2 := F0 m 12 ls [.int 0]) rfl ?_
      refine lv_if_eq (tgt := 38) hx hb dX5_shortfall_12 (by decide) (fun c12 => ?_) (fun c12 => absurd c12 (by decide))
      refine lv_aload_n hx hb dX5_shortfall_38 rfl (lv_at hl 0 rfl) ?_
      refine rh_get (ci := 5) (C := RX5) (T := TX5) (N := 26) (v := .int 2) hx hb hts (fun _ h => List.mem_cons_of_mem _ (List.mem_append_right _ (h))) hown hE (hW.at 10 0 Nat.zero_lt_one) rfl 25 (by decide) (hts (.fieldLink RX5 74 "RoamingHouseModel" "thrown" "I") (by decide +kernel)) rfl dX5_shortfall_39 ?_
      refine lv_if_le (tgt := 47) hx hb dX5_shortfall_42 (by decide) (fun c13 => absurd c13 (by decide)) (fun c13 => ?_)
      refine lv_lconst (v := 0) hx hb dX5_shortfall_45 rfl ?_
      exact rh_lret hx hb hr hlocks (Or.inr (Or.inr (Or.inl ⟨hox, hoy, (by first | exact hxz.imp (fun z => z) (fun z => absurd z (by decide)) | exact Or.inr hga), ⟨_, rfl⟩, hW⟩))) hS (by decide) (by decide) dX5_shortfall_46
  · have hga := hg2
    refine W.eq (g2 := F0 m 9 ls [.int 0, .int y, .int x, .ref (ad 10 0)]) rfl ?_
    refine rh_calln (vx_runV (As := [.int x, .int y, .int 0]) (rest := []) ⟨hx, hb, hml, hown, hts⟩ (ct_X5_isPair l hD x y 0) (cwV 3 hts gX5_shortfall_X5_isPair rfl rfl rfl (by decide +kernel) ⟨by decide, by decide⟩) (rh_preV hE hS hA (hW.at 10 0 Nat.zero_lt_one) rfl hW) rfl rfl hl.1 rfl (lv_room (Nat.le_of_ble_eq_true rfl)) dX5_shortfall_9 ⟨by decide, by decide⟩) hS (fun o H locs hN14 hS => ?_)
    rcases hN14 with ⟨h, k, hh, hk, hne, rfl, rfl, hz, rfl, hW⟩ | ⟨hno, rfl, hW⟩ | ⟨hox, hoy, hxz, rfl, hW⟩
    · exact absurd rfl hz
    · refine W.eq (g2 := F0 m 12 ls [.int 0]) rfl ?_
      refine lv_if_eq (tgt := 38) hx hb dX5_shortfall_12 (by decide) (fun c15 => ?_) (fun c15 => absurd c15 (by decide))
      refine lv_aload_n hx hb dX5_shortfall_38 rfl (lv_at hl 0 rfl) ?_
      refine rh_get (ci := 5) (C := RX5) (T := TX5) (N := 26) (v := .int 1) hx hb hts (fun _ h => List.mem_cons_of_mem _ (List.mem_append_right _ (h))) hown hE (hW.at 10 0 Nat.zero_lt_one) rfl 25 (by decide) (hts (.fieldLink RX5 74 "RoamingHouseModel" "thrown" "I") (by decide +kernel)) rfl dX5_shortfall_39 ?_
      refine lv_if_le (tgt := 47) hx hb dX5_shortfall_42 (by decide) (fun c16 => absurd c16 (by decide)) (fun c16 => ?_)
      refine lv_lconst (v := 0) hx hb dX5_shortfall_45 rfl ?_
      exact rh_lret hx hb hr hlocks (Or.inr (Or.inl ⟨hno, ⟨_, rfl⟩, hW⟩)) hS (by decide) (by decide) dX5_shortfall_46
    · refine W.eq (g2 := F0 m 12 ls [.int 0]) rfl ?_
      refine lv_if_eq (tgt := 38) hx hb dX5_shortfall_12 (by decide) (fun c17 => ?_) (fun c17 => absurd c17 (by decide))
      refine lv_aload_n hx hb dX5_shortfall_38 rfl (lv_at hl 0 rfl) ?_
      refine rh_get (ci := 5) (C := RX5) (T := TX5) (N := 26) (v := .int 2) hx hb hts (fun _ h => List.mem_cons_of_mem _ (List.mem_append_right _ (h))) hown hE (hW.at 10 0 Nat.zero_lt_one) rfl 25 (by decide) (hts (.fieldLink RX5 74 "RoamingHouseModel" "thrown" "I") (by decide +kernel)) rfl dX5_shortfall_39 ?_
      refine lv_if_le (tgt := 47) hx hb dX5_shortfall_42 (by decide) (fun c18 => absurd c18 (by decide)) (fun c18 => ?_)
      refine lv_lconst (v := 0) hx hb dX5_shortfall_45 rfl ?_
      exact rh_lret hx hb hr hlocks (Or.inr (Or.inr (Or.inl ⟨hox, hoy, (by first | exact hxz.imp (fun z => z) (fun z => absurd z (by decide)) | exact Or.inr hga), ⟨_, rfl⟩, hW⟩))) hS (by decide) (by decide) dX5_shortfall_46
set_option maxHeartbeats 4000000 in
set_option maxRecDepth 100000 in
theorem ct_X5_unitsOf (l : Launch) {G : va_G} {ca : Nat → ClassId} {A : Nat → Prop} {ad : Nat → Nat → Nat} {nf nc : Nat} {r : rh_R} {w : rh_Wm} {th : Int32} (hD : rh_D A ad (fun k i => i < m_n k)) (hwf : m_wf nf nc r w) (h : Nat) (hh : h < 4) (k : Nat) (hk : k < 4) (m9 : Int32) : rh_M l yX5_unitsOf wsX5_unitsOf ({ frames := 3, cells := 0, slots := 0, locals := 90 } : Room) G ca A [.ref (ad 10 0), .int (nI h), .int (nI k), .int m9] (m_W G ca ad w th) (fun o H => o = some (.long (m_units r w nc h k m9)) ∧ m_W G ca ad w th H) rh_no 0 0 := by
  obtain ⟨⟨hnf, hnc, hfc, hcc, h5, h10, hst⟩, hna, hnm, hac, hpl⟩ := id hwf
  refine rh_enter (cc := cX5_unitsOf) (maxL := 4) (ret := (some .long)) (by decide) rfl (Nat.le_of_ble_eq_true rfl) ?_
  intro p e s m below meth c ls hx hb hr hml hown hts hlocks hex hin hE hA hW hl
  have hS : va_S A s.heap s.heap [] := va_S.rf
  have hl : lv_has ls 4 [(0, .ref (ad 10 0)), (1, .int (nI h)), (2, .int (nI k)), (3, .int m9)] := hl
  refine lv_aload_n hx hb dX5_unitsOf_0 rfl (lv_at hl 0 rfl) ?_
  refine lv_iconst (v := 4) hx hb dX5_unitsOf_1 (by decide) ?_
  refine lv_iload_n hx hb dX5_unitsOf_2 rfl (lv_at hl 1 rfl) ?_
  refine lv_imul hx hb dX5_unitsOf_3 ?_
  refine lv_iload_n hx hb dX5_unitsOf_4 rfl (lv_at hl 2 rfl) ?_
  refine lv_iadd hx hb dX5_unitsOf_5 ?_
  rw [(m_4pq hh hk).1]
  refine lv_iload_n hx hb dX5_unitsOf_6 rfl (lv_at hl 3 rfl) ?_
  refine lv_iload_n hx hb dX5_unitsOf_7 rfl (lv_at hl 3 rfl) ?_
  refine rh_calln (vx_runV (As := [.int (nI (h * 4 + k)), .int m9, .int m9]) (rest := []) ⟨hx, hb, hml, hown, hts⟩ (ct_X5_owedIn l hD hwf (h * 4 + k) (m_4pq hh hk).2 m9 m9) (cwV 3 hts gX5_unitsOf_X5_owedIn rfl rfl rfl (by decide +kernel) ⟨by decide, by decide⟩) (rh_preV hE hS hA (hW.at 10 0 Nat.zero_lt_one) rfl hW) rfl rfl hl.1 rfl (lv_room (Nat.le_of_ble_eq_true rfl)) dX5_unitsOf_8 ⟨by decide, by decide⟩) hS (fun o H locs hN1 hS => ?_)
  obtain ⟨rfl, hW⟩ := hN1
  refine W.eq (g2 := F0 m 11 ls [.long (m_sum r w (h * 4 + k) m9 m9 nc)]) rfl ?_
  refine lv_aload_n hx hb dX5_unitsOf_11 rfl (lv_at hl 0 rfl) ?_
  refine rh_get (ci := 5) (C := RX5) (T := TX5) (N := 26) (v := .ref (ad 23 0)) hx hb hts (fun _ h => List.mem_cons_of_mem _ (List.mem_append_right _ (h))) hown hE (hW.at 10 0 Nat.zero_lt_one) rfl 3 (by decide) (hts (.fieldLink RX5 19 "RoamingHouseModel" "rates" "[I") (by decide +kernel)) rfl dX5_unitsOf_12 ?_
  refine lv_iload_n hx hb dX5_unitsOf_15 rfl (lv_at hl 1 rfl) ?_
  refine rh_iald (n := 4) (f := w 3) hx hb hE (hW.at 23 0 Nat.zero_lt_one) h (by omega) (by decide) rfl dX5_unitsOf_16 ?_
  refine lv_i2l hx hb dX5_unitsOf_17 rfl ?_
  refine lv_lmul hx hb dX5_unitsOf_18 ?_
  refine lv_ldc2 (v := 1000) hx hb hown (hts (.constantLong RX5 148 (1000)) (by decide +kernel)) dX5_unitsOf_19 ?_
  refine lv_ldiv hx hb dX5_unitsOf_22 (by decide) ?_
  exact rh_lret hx hb hr hlocks ⟨rfl, hW⟩ hS (by decide) (by decide) dX5_unitsOf_23
set_option maxHeartbeats 4000000 in
set_option maxRecDepth 100000 in
theorem ct_X5_net (l : Launch) {G : va_G} {ca : Nat → ClassId} {A : Nat → Prop} {ad : Nat → Nat → Nat} {nf nc : Nat} {r : rh_R} {w : rh_Wm} {th : Int32} (hD : rh_D A ad (fun k i => i < m_n k)) (hwf : m_wf nf nc r w) (x mo : Int32) : rh_M l yX5_net wsX5_net ({ frames := 4, cells := 0, slots := 0, locals := 120 } : Room) G ca A [.ref (ad 10 0), .int x, .int mo] (m_W G ca ad w th) (fun o H => (∃ i9 : Nat, i9 < 4 ∧ x = nI i9 ∧ rng mo 0 (w 26 24) ∧ o = some (.long (m_net r w nc i9 mo 4)) ∧ m_W G ca ad w 0 H) ∨ (¬ ix x 4 ∧ (∃ z, o = some (.long z)) ∧ m_W G ca ad w 1 H) ∨ (ix x 4 ∧ ¬ rng mo 0 (w 26 24) ∧ (∃ z, o = some (.long z)) ∧ m_W G ca ad w 2 H)) rh_no 0 0 := by
  obtain ⟨⟨hnf, hnc, hfc, hcc, h5, h10, hst⟩, hna, hnm, hac, hpl⟩ := id hwf
  refine rh_enter (cc := cX5_net) (maxL := 6) (ret := (some .long)) (by decide) rfl (Nat.le_of_ble_eq_true rfl) ?_
  intro p e s m below meth c ls hx hb hr hml hown hts hlocks hex hin hE hA hW hl
  have hS : va_S A s.heap s.heap [] := va_S.rf
  have hl : lv_has ls 6 [(0, .ref (ad 10 0)), (1, .int x), (2, .int mo)] := hl
  refine lv_aload_n hx hb dX5_net_0 rfl (lv_at hl 0 rfl) ?_
  refine lv_iload_n hx hb dX5_net_1 rfl (lv_at hl 1 rfl) ?_
  refine rh_calln (vx_runS (As := [.int x]) (rest := [.ref (ad 10 0)]) ⟨hx, hb, hml, hown, hts⟩ (ct_X5_isOperator l hD x) (va_cwS 1 hts gX5_net_X5_isOperator rfl rfl rfl (by decide +kernel) ⟨by decide, by decide⟩) (rh_pre hE hS hA hW) rfl rfl hl.1 rfl (lv_room (Nat.le_of_ble_eq_true rfl)) dX5_net_2 ⟨by decide, by decide⟩) hS (fun o H locs hN1 hS => ?_)
  obtain ⟨⟨ho2, rfl⟩ | ⟨ho2, rfl⟩, hW⟩ := hN1
  · have ho := ho2
    refine W.eq (g2 := F0 m 5 ls [.int 1, .ref (ad 10 0)]) rfl ?_
    refine lv_if_ne (tgt := 12) hx hb dX5_net_5 (by decide) (fun c3 => ?_) (fun c3 => absurd c3 (by decide))
    refine lv_iload_n hx hb dX5_net_12 rfl (lv_at hl 2 rfl) ?_
    refine lv_iconst (v := 0) hx hb dX5_net_13 (by decide) ?_
    refine lv_aload_n hx hb dX5_net_14 rfl (lv_at hl 0 rfl) ?_
    refine rh_get (ci := 5) (C := RX5) (T := TX5) (N := 26) (v := .int (w 26 24)) hx hb hts (fun _ h => List.mem_cons_of_mem _ (List.mem_append_right _ (h))) hown hE (hW.at 10 0 Nat.zero_lt_one) rfl 24 (by decide) (hts (.fieldLink RX5 101 "RoamingHouseModel" "now" "I") (by decide +kernel)) rfl dX5_net_15 ?_
    refine rh_calln (vx_runS (As := [.int mo, .int 0, .int (w 26 24)]) (rest := [.ref (ad 10 0)]) ⟨hx, hb, hml, hown, hts⟩ (ct_X5_in l hD mo 0 (w 26 24)) (va_cwS 3 hts gX5_net_X5_in rfl rfl rfl (by decide +kernel) ⟨by decide, by decide⟩) (rh_pre hE hS hA hW) rfl rfl hl.1 rfl (lv_room (Nat.le_of_ble_eq_true rfl)) dX5_net_18 ⟨by decide, by decide⟩) hS (fun o H locs hN4 hS => ?_)
    obtain ⟨⟨hg5, rfl⟩ | ⟨hg5, rfl⟩, hW⟩ := hN4
    · have hga := hg5
      refine W.eq (g2 := F0 m 21 ls [.int 1, .ref (ad 10 0)]) rfl ?_
      refine lv_if_ne (tgt := 28) hx hb dX5_net_21 (by decide) (fun c6 => ?_) (fun c6 => absurd c6 (by decide))
      refine lv_iconst (v := 0) hx hb dX5_net_28 (by decide) ?_
      refine m_putt (x := 0) hx hb hts (fun _ h => List.mem_cons_of_mem _ (List.mem_append_right _ (h))) hown hE hW hD hS rfl (hts (.fieldLink RX5 74 "RoamingHouseModel" "thrown" "I") (by decide +kernel)) rfl rfl rfl (Nat.le_of_ble_eq_true rfl) rfl dX5_net_29 (fun H locs hW hS => ?_)
      obtain ⟨i, hi, rfl⟩ := (ix_iff (by decide)).mp ho
      refine lv_lconst (v := 0) hx hb dX5_net_32 rfl ?_
      refine lv_lstore_n (lv' := [(3, .long 0), (0, .ref (ad 10 0)), (1, .int (nI i)), (2, .int mo)]) hx hb dX5_net_33 rfl hl (by decide) rfl (fun ls hl => ?_)
      refine lv_iconst (v := 0) hx hb dX5_net_34 (by decide) ?_
      refine lv_istore (lv' := [(5, .int 0), (3, .long 0), (0, .ref (ad 10 0)), (1, .int (nI i)), (2, .int mo)]) hx hb dX5_net_35 hl (by decide) rfl (fun ls hl => ?_)
      have loop37 : ∀ (n : Nat) (j : Nat) (u : Int64) (H : Heap) (locs : List Loc) (ls : Array Slot), 4 + 1 ≤ j + n → j ≤ 4 → u = m_net r w nc i mo j → m_W G ca ad w 0 H → va_S A s.heap H locs → lv_has ls 6 [(0, .ref (ad 10 0)), (1, .int (nI i)), (2, .int mo), (3, .long u), (5, .int (nI j))] → W p l e ({ frames := 4, cells := 0, slots := 0, locals := 120 } : Room) s m ([.ref (ad 10 0), .int (nI i), .int mo] : List Value).toArray below meth c H locs 0 0 (vx_MQ below (rh_Q A (fun o H => (∃ i9 : Nat, i9 < 4 ∧ (nI i) = nI i9 ∧ rng mo 0 (w 26 24) ∧ o = some (.long (m_net r w nc i9 mo 4)) ∧ m_W G ca ad w 0 H) ∨ (¬ ix (nI i) 4 ∧ (∃ z, o = some (.long z)) ∧ m_W G ca ad w 1 H) ∨ (ix (nI i) 4 ∧ ¬ rng mo 0 (w 26 24) ∧ (∃ z, o = some (.long z)) ∧ m_W G ca ad w 2 H))) (rh_XC A rh_no) ([.ref (ad 10 0), .int (nI i), .int mo] : List Value).toArray s 0 0 A) (F0 m 37 ls []) := by
        intro n
        induction n with
        | zero => intro j u H locs ls hjn hj hu hW hS hl; exact absurd hjn (by omega)
        | succ n ih =>
          intro j u H locs ls hjn hj hu hW hS hl
          refine lv_iload hx hb dX5_net_37 (lv_at hl 4 rfl) ?_
          refine lv_iconst (v := 4) hx hb dX5_net_39 (by decide) ?_
          refine lv_icmp_ge (tgt := 86) hx hb dX5_net_40 (by decide) (fun c7 => ?_) (fun c7 => ?_)
          · have hjf : j = 4 := by
              rcases Nat.lt_or_ge j 4 with z | z
              · exact absurd c7 (nI_ge (b := 4) z (by decide))
              · omega
            refine lv_lload_n hx hb dX5_net_86 rfl (lv_at hl 3 rfl) ?_
            exact rh_lret hx hb hr hlocks (Or.inl ⟨i, hi, rfl, hga, (by rw [hu, hjf]), hW⟩) hS (by decide) (by decide) dX5_net_87
          · have hjl : j < 4 := by
              rcases Nat.lt_or_ge j 4 with z | z
              · exact z
              · exact absurd (nI_le (a := 4) z (by omega)) c7
            refine lv_aload_n hx hb dX5_net_43 rfl (lv_at hl 0 rfl) ?_
            refine rh_get (ci := 5) (C := RX5) (T := TX5) (N := 26) (v := .int 0) hx hb hts (fun _ h => List.mem_cons_of_mem _ (List.mem_append_right _ (h))) hown hE (hW.at 10 0 Nat.zero_lt_one) rfl 25 (by decide) (hts (.fieldLink RX5 74 "RoamingHouseModel" "thrown" "I") (by decide +kernel)) rfl dX5_net_44 ?_
            refine lv_if_ne (tgt := 86) hx hb dX5_net_47 (by decide) (fun c8 => absurd c8 (by decide)) (fun c8 => ?_)
            refine lv_lload_n hx hb dX5_net_50 rfl (lv_at hl 3 rfl) ?_
            refine lv_iload hx hb dX5_net_51 (lv_at hl 4 rfl) ?_
            refine lv_iload_n hx hb dX5_net_53 rfl (lv_at hl 1 rfl) ?_
            refine lv_icmp_ne (tgt := 61) hx hb dX5_net_54 (by decide) (fun c9 => ?_) (fun c9 => ?_)
            · refine lv_aload_n hx hb dX5_net_61 rfl (lv_at hl 0 rfl) ?_
              refine lv_iload_n hx hb dX5_net_62 rfl (lv_at hl 1 rfl) ?_
              refine lv_iload hx hb dX5_net_63 (lv_at hl 4 rfl) ?_
              refine lv_iload_n hx hb dX5_net_65 rfl (lv_at hl 2 rfl) ?_
              refine rh_calln (vx_runV (As := [.int (nI i), .int (nI j), .int mo]) (rest := [.long u]) ⟨hx, hb, hml, hown, hts⟩ (ct_X5_unitsOf l hD hwf i hi j hjl mo) (cwV 3 hts gX5_net_X5_unitsOf rfl rfl rfl (by decide +kernel) ⟨by decide, by decide⟩) (rh_preV hE hS hA (hW.at 10 0 Nat.zero_lt_one) rfl hW) rfl rfl hl.1 rfl (lv_room (Nat.le_of_ble_eq_true rfl)) dX5_net_66 ⟨by decide, by decide⟩) hS (fun o H locs hN10 hS => ?_)
              obtain ⟨rfl, hW⟩ := hN10
              refine W.eq (g2 := F0 m 69 ls [.long (m_units r w nc i j mo), .long u]) rfl ?_
              refine lv_aload_n hx hb dX5_net_69 rfl (lv_at hl 0 rfl) ?_
              refine lv_iload hx hb dX5_net_70 (lv_at hl 4 rfl) ?_
              refine lv_iload_n hx hb dX5_net_72 rfl (lv_at hl 1 rfl) ?_
              refine lv_iload_n hx hb dX5_net_73 rfl (lv_at hl 2 rfl) ?_
              refine rh_calln (vx_runV (As := [.int (nI j), .int (nI i), .int mo]) (rest := [.long (m_units r w nc i j mo), .long u]) ⟨hx, hb, hml, hown, hts⟩ (ct_X5_unitsOf l hD hwf j hjl i hi mo) (cwV 3 hts gX5_net_X5_unitsOf rfl rfl rfl (by decide +kernel) ⟨by decide, by decide⟩) (rh_preV hE hS hA (hW.at 10 0 Nat.zero_lt_one) rfl hW) rfl rfl hl.1 rfl (lv_room (Nat.le_of_ble_eq_true rfl)) dX5_net_74 ⟨by decide, by decide⟩) hS (fun o H locs hN11 hS => ?_)
              obtain ⟨rfl, hW⟩ := hN11
              refine W.eq (g2 := F0 m 77 ls [.long (m_units r w nc j i mo), .long (m_units r w nc i j mo), .long u]) rfl ?_
              refine lv_lsub hx hb dX5_net_77 ?_
              refine lv_ladd hx hb dX5_net_78 ?_
              refine lv_lstore_n (lv' := [(3, .long (u + (m_units r w nc i j mo - m_units r w nc j i mo))), (0, .ref (ad 10 0)), (1, .int (nI i)), (2, .int mo), (5, .int (nI j))]) hx hb dX5_net_79 rfl hl (by decide) rfl (fun ls hl => ?_)
              refine lv_iinc (v := nI (j + 1)) (lv' := [(5, .int (nI (j + 1))), (3, .long (u + (m_units r w nc i j mo - m_units r w nc j i mo))), (0, .ref (ad 10 0)), (1, .int (nI i)), (2, .int mo)]) hx hb dX5_net_80 hl (k := 4) rfl (nI_1 j) (by decide) rfl (fun ls hl => ?_)
              refine lv_goto (tgt := 37) hx hb dX5_net_83 (by decide) ?_
              exact ih (j + 1) (u + (m_units r w nc i j mo - m_units r w nc j i mo)) _ _ _ (by omega) (by omega) (by rw [hu]; exact (if_neg (fun z => c9 (by rw [z]))).symm) hW hS (lv_sub hl [2, 3, 4, 1, 0] rfl)
            · refine lv_lconst (v := 0) hx hb dX5_net_57 rfl ?_
              refine lv_goto (tgt := 78) hx hb dX5_net_58 (by decide) ?_
              refine lv_ladd hx hb dX5_net_78 ?_
              refine lv_lstore_n (lv' := [(3, .long (u + 0)), (0, .ref (ad 10 0)), (1, .int (nI i)), (2, .int mo), (5, .int (nI j))]) hx hb dX5_net_79 rfl hl (by decide) rfl (fun ls hl => ?_)
              refine lv_iinc (v := nI (j + 1)) (lv' := [(5, .int (nI (j + 1))), (3, .long (u + 0)), (0, .ref (ad 10 0)), (1, .int (nI i)), (2, .int mo)]) hx hb dX5_net_80 hl (k := 4) rfl (nI_1 j) (by decide) rfl (fun ls hl => ?_)
              refine lv_goto (tgt := 37) hx hb dX5_net_83 (by decide) ?_
              exact ih (j + 1) (u + 0) _ _ _ (by omega) (by omega) (by rw [Int64.add_zero, hu]; exact (if_pos (m_inj (by omega) (by omega) c9)).symm) hW hS (lv_sub hl [2, 3, 4, 1, 0] rfl)
      exact loop37 (4 + 1) 0 0 _ _ _ (by omega) (by omega) rfl hW hS (lv_sub hl [2, 3, 4, 1, 0] rfl)
    · have hg2 := hg5
      refine W.eq (g2 := F0 m 21 ls [.int 0, .ref (ad 10 0)]) rfl ?_
      refine lv_if_ne (tgt := 28) hx hb dX5_net_21 (by decide) (fun c12 => absurd c12 (by decide)) (fun c12 => ?_)
      refine lv_iconst (v := 2) hx hb dX5_net_24 (by decide) ?_
      refine lv_goto (tgt := 29) hx hb dX5_net_25 (by decide) ?_
      refine m_putt (x := 2) hx hb hts (fun _ h => List.mem_cons_of_mem _ (List.mem_append_right _ (h))) hown hE hW hD hS rfl (hts (.fieldLink RX5 74 "RoamingHouseModel" "thrown" "I") (by decide +kernel)) rfl rfl rfl (Nat.le_of_ble_eq_true rfl) rfl dX5_net_29 (fun H locs hW hS => ?_)
      refine lv_lconst (v := 0) hx hb dX5_net_32 rfl ?_
      refine lv_lstore_n (lv' := [(3, .long 0), (0, .ref (ad 10 0)), (1, .int x), (2, .int mo)]) hx hb dX5_net_33 rfl hl (by decide) rfl (fun ls hl => ?_)
      refine lv_iconst (v := 0) hx hb dX5_net_34 (by decide) ?_
      refine lv_istore (lv' := [(5, .int 0), (3, .long 0), (0, .ref (ad 10 0)), (1, .int x), (2, .int mo)]) hx hb dX5_net_35 hl (by decide) rfl (fun ls hl => ?_)
      refine lv_iload hx hb dX5_net_37 (lv_at hl 0 rfl) ?_
      refine lv_iconst (v := 4) hx hb dX5_net_39 (by decide) ?_
      refine lv_icmp_ge (tgt := 86) hx hb dX5_net_40 (by decide) (fun c13 => absurd c13 (by decide)) (fun c13 => ?_)
      refine lv_aload_n hx hb dX5_net_43 rfl (lv_at hl 2 rfl) ?_
      refine rh_get (ci := 5) (C := RX5) (T := TX5) (N := 26) (v := .int 2) hx hb hts (fun _ h => List.mem_cons_of_mem _ (List.mem_append_right _ (h))) hown hE (hW.at 10 0 Nat.zero_lt_one) rfl 25 (by decide) (hts (.fieldLink RX5 74 "RoamingHouseModel" "thrown" "I") (by decide +kernel)) rfl dX5_net_44 ?_
      refine lv_if_ne (tgt := 86) hx hb dX5_net_47 (by decide) (fun c14 => ?_) (fun c14 => absurd c14 (by decide))
      refine lv_lload_n hx hb dX5_net_86 rfl (lv_at hl 1 rfl) ?_
      exact rh_lret hx hb hr hlocks (Or.inr (Or.inr ⟨ho, hg2, ⟨_, rfl⟩, hW⟩)) hS (by decide) (by decide) dX5_net_87
  · have hno := ho2
    refine W.eq (g2 := F0 m 5 ls [.int 0, .ref (ad 10 0)]) rfl ?_
    refine lv_if_ne (tgt := 12) hx hb dX5_net_5 (by decide) (fun c15 => absurd c15 (by decide)) (fun c15 => ?_)
    refine lv_iconst (v := 1) hx hb dX5_net_8 (by decide) ?_
    refine lv_goto (tgt := 29) hx hb dX5_net_9 (by decide) ?_
    refine m_putt (x := 1) hx hb hts (fun _ h => List.mem_cons_of_mem _ (List.mem_append_right _ (h))) hown hE hW hD hS rfl (hts (.fieldLink RX5 74 "RoamingHouseModel" "thrown" "I") (by decide +kernel)) rfl rfl rfl (Nat.le_of_ble_eq_true rfl) rfl dX5_net_29 (fun H locs hW hS => ?_)
    refine lv_lconst (v := 0) hx hb dX5_net_32 rfl ?_
    refine lv_lstore_n (lv' := [(3, .long 0), (0, .ref (ad 10 0)), (1, .int x), (2, .int mo)]) hx hb dX5_net_33 rfl hl (by decide) rfl (fun ls hl => ?_)
    refine lv_iconst (v := 0) hx hb dX5_net_34 (by decide) ?_
    refine lv_istore (lv' := [(5, .int 0), (3, .long 0), (0, .ref (ad 10 0)), (1, .int x), (2, .int mo)]) hx hb dX5_net_35 hl (by decide) rfl (fun ls hl => ?_)
    refine lv_iload hx hb dX5_net_37 (lv_at hl 0 rfl) ?_
    refine lv_iconst (v := 4) hx hb dX5_net_39 (by decide) ?_
    refine lv_icmp_ge (tgt := 86) hx hb dX5_net_40 (by decide) (fun c16 => absurd c16 (by decide)) (fun c16 => ?_)
    refine lv_aload_n hx hb dX5_net_43 rfl (lv_at hl 2 rfl) ?_
    refine rh_get (ci := 5) (C := RX5) (T := TX5) (N := 26) (v := .int 1) hx hb hts (fun _ h => List.mem_cons_of_mem _ (List.mem_append_right _ (h))) hown hE (hW.at 10 0 Nat.zero_lt_one) rfl 25 (by decide) (hts (.fieldLink RX5 74 "RoamingHouseModel" "thrown" "I") (by decide +kernel)) rfl dX5_net_44 ?_
    refine lv_if_ne (tgt := 86) hx hb dX5_net_47 (by decide) (fun c17 => ?_) (fun c17 => absurd c17 (by decide))
    refine lv_lload_n hx hb dX5_net_86 rfl (lv_at hl 1 rfl) ?_
    exact rh_lret hx hb hr hlocks (Or.inr (Or.inl ⟨hno, ⟨_, rfl⟩, hW⟩)) hS (by decide) (by decide) dX5_net_87
