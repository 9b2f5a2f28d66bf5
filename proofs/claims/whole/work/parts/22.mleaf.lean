/-! ===== the model's methods: leaves ===== -/
set_option maxHeartbeats 4000000 in
set_option maxRecDepth 100000 in
theorem ct_X5_thrown (l : Launch) {G : va_G} {ca : Nat → ClassId} {A : Nat → Prop} {ad : Nat → Nat → Nat} {w : rh_Wm} {th : Int32} (hD : rh_D A ad (fun k i => i < m_n k))  : rh_M l yX5_thrown wsX5_thrown ({ frames := 0, cells := 0, slots := 0, locals := 0 } : Room) G ca A [.ref (ad 10 0)] (m_W G ca ad w th) (fun o H => o = some (.int th) ∧ m_W G ca ad w th H) rh_no 0 0 := by
  refine rh_enter (cc := cX5_thrown) (maxL := 1) (ret := (some .int)) (by decide) rfl (Nat.le_of_ble_eq_true rfl) ?_
  intro p e s m below meth c ls hx hb hr hml hown hts hlocks hex hin hE hA hW hl
  have hS : va_S A s.heap s.heap [] := va_S.rf
  have hl : lv_has ls 1 [(0, .ref (ad 10 0))] := hl
  refine lv_aload_n hx hb dX5_thrown_0 rfl (lv_at hl 0 rfl) ?_
  refine rh_get (ci := 5) (C := RX5) (T := TX5) (N := 26) (v := .int th) hx hb hts (fun _ h => List.mem_cons_of_mem _ (List.mem_append_right _ (h))) hown hE (hW.at 10 0 Nat.zero_lt_one) rfl 25 (by decide) (hts (.fieldLink RX5 74 "RoamingHouseModel" "thrown" "I") (by decide +kernel)) rfl dX5_thrown_1 ?_
  exact rh_iret hx hb hr hlocks ⟨rfl, hW⟩ hS (by decide) (by decide) dX5_thrown_4
set_option maxHeartbeats 4000000 in
set_option maxRecDepth 100000 in
theorem ct_X5_in (l : Launch) {G : va_G} {ca : Nat → ClassId} {A : Nat → Prop} {ad : Nat → Nat → Nat} {w : rh_Wm} {th : Int32} (hD : rh_D A ad (fun k i => i < m_n k)) (x a b : Int32) : rh_M l yX5_in wsX5_in ({ frames := 0, cells := 0, slots := 0, locals := 0 } : Room) G ca A [.int x, .int a, .int b] (m_W G ca ad w th) (fun o H => ((rng x a b ∧ o = some (.int 1)) ∨ (¬ (rng x a b) ∧ o = some (.int 0))) ∧ m_W G ca ad w th H) rh_no 0 0 := by
  refine rh_enter (cc := cX5_in) (maxL := 3) (ret := (some .boolean)) (by decide) rfl (Nat.le_of_ble_eq_true rfl) ?_
  intro p e s m below meth c ls hx hb hr hml hown hts hlocks hex hin hE hA hW hl
  have hS : va_S A s.heap s.heap [] := va_S.rf
  have hl : lv_has ls 3 [(0, .int x), (1, .int a), (2, .int b)] := hl
  refine lv_iload_n hx hb dX5_in_0 rfl (lv_at hl 0 rfl) ?_
  refine lv_iload_n hx hb dX5_in_1 rfl (lv_at hl 1 rfl) ?_
  refine lv_icmp_lt (tgt := 14) hx hb dX5_in_2 (by decide) (fun c1 => ?_) (fun c1 => ?_)
  · have hc : ¬ rng x a b := fun z => le_nlt z.1 c1
    refine lv_iconst (v := 0) hx hb dX5_in_14 (by decide) ?_
    exact rh_zret hx hb hr hlocks rfl ⟨Or.inr ⟨hc, rfl⟩, hW⟩ hS (by decide) (by decide) dX5_in_15
  · refine lv_iload_n hx hb dX5_in_5 rfl (lv_at hl 0 rfl) ?_
    refine lv_iload_n hx hb dX5_in_6 rfl (lv_at hl 2 rfl) ?_
    refine lv_icmp_gt (tgt := 14) hx hb dX5_in_7 (by decide) (fun c2 => ?_) (fun c2 => ?_)
    · have hc : ¬ rng x a b := fun z => le_nlt z.2 c2
      refine lv_iconst (v := 0) hx hb dX5_in_14 (by decide) ?_
      exact rh_zret hx hb hr hlocks rfl ⟨Or.inr ⟨hc, rfl⟩, hW⟩ hS (by decide) (by decide) dX5_in_15
    · have hc : rng x a b := ⟨nlt_le c1, nlt_le c2⟩
      refine lv_iconst (v := 1) hx hb dX5_in_10 (by decide) ?_
      refine lv_goto (tgt := 15) hx hb dX5_in_11 (by decide) ?_
      exact rh_zret hx hb hr hlocks rfl ⟨Or.inl ⟨hc, rfl⟩, hW⟩ hS (by decide) (by decide) dX5_in_15
set_option maxHeartbeats 4000000 in
set_option maxRecDepth 100000 in
theorem ct_X5_isOperator (l : Launch) {G : va_G} {ca : Nat → ClassId} {A : Nat → Prop} {ad : Nat → Nat → Nat} {w : rh_Wm} {th : Int32} (hD : rh_D A ad (fun k i => i < m_n k)) (x : Int32) : rh_M l yX5_isOperator wsX5_isOperator ({ frames := 1, cells := 0, slots := 0, locals := 30 } : Room) G ca A [.int x] (m_W G ca ad w th) (fun o H => ((ix x 4 ∧ o = some (.int 1)) ∨ (¬ (ix x 4) ∧ o = some (.int 0))) ∧ m_W G ca ad w th H) rh_no 0 0 := by
  refine rh_enter (cc := cX5_isOperator) (maxL := 1) (ret := (some .boolean)) (by decide) rfl (Nat.le_of_ble_eq_true rfl) ?_
  intro p e s m below meth c ls hx hb hr hml hown hts hlocks hex hin hE hA hW hl
  have hS : va_S A s.heap s.heap [] := va_S.rf
  have hl : lv_has ls 1 [(0, .int x)] := hl
  refine lv_iload_n hx hb dX5_isOperator_0 rfl (lv_at hl 0 rfl) ?_
  refine lv_iconst (v := 0) hx hb dX5_isOperator_1 (by decide) ?_
  refine lv_iconst (v := 3) hx hb dX5_isOperator_2 (by decide) ?_
  refine rh_calln (vx_runS (As := [.int x, .int 0, .int 3]) (rest := []) ⟨hx, hb, hml, hown, hts⟩ (ct_X5_in l hD x 0 3) (va_cwS 3 hts gX5_isOperator_X5_in rfl rfl rfl (by decide +kernel) ⟨by decide, by decide⟩) (rh_pre hE hS hA hW) rfl rfl hl.1 rfl (lv_room (Nat.le_of_ble_eq_true rfl)) dX5_isOperator_3 ⟨by decide, by decide⟩) hS (fun o H locs hN1 hS => ?_)
  obtain ⟨⟨hg2, rfl⟩ | ⟨hg2, rfl⟩, hW⟩ := hN1
  · have hc : ix x 4 := (rng_ix (n := 4) (by decide)).mp hg2
    refine W.eq (g2 := F0 m 6 ls [.int 1]) rfl ?_
    exact rh_zret hx hb hr hlocks rfl ⟨Or.inl ⟨hc, rfl⟩, hW⟩ hS (by decide) (by decide) dX5_isOperator_6
  · have hc : ¬ ix x 4 := fun z => hg2 ((rng_ix (n := 4) (by decide)).mpr z)
    refine W.eq (g2 := F0 m 6 ls [.int 0]) rfl ?_
    exact rh_zret hx hb hr hlocks rfl ⟨Or.inr ⟨hc, rfl⟩, hW⟩ hS (by decide) (by decide) dX5_isOperator_6
set_option maxHeartbeats 4000000 in
set_option maxRecDepth 100000 in
theorem ct_X5_isFile (l : Launch) {G : va_G} {ca : Nat → ClassId} {A : Nat → Prop} {ad : Nat → Nat → Nat} {nf nc : Nat} {r : rh_R} {w : rh_Wm} {th : Int32} (hD : rh_D A ad (fun k i => i < m_n k)) (hwf : m_wf0 nf nc r w) (x : Int32) : rh_M l yX5_isFile wsX5_isFile ({ frames := 1, cells := 0, slots := 0, locals := 30 } : Room) G ca A [.ref (ad 10 0), .int x] (m_W G ca ad w th) (fun o H => ((ix x nf ∧ o = some (.int 1)) ∨ (¬ (ix x nf) ∧ o = some (.int 0))) ∧ m_W G ca ad w th H) rh_no 0 0 := by
  obtain ⟨hnf, hnc, hfc, hcc, h5, h10, hst⟩ := id hwf
  refine rh_enter (cc := cX5_isFile) (maxL := 2) (ret := (some .boolean)) (by decide) rfl (Nat.le_of_ble_eq_true rfl) ?_
  intro p e s m below meth c ls hx hb hr hml hown hts hlocks hex hin hE hA hW hl
  have hS : va_S A s.heap s.heap [] := va_S.rf
  have hl : lv_has ls 2 [(0, .ref (ad 10 0)), (1, .int x)] := hl
  refine lv_iload_n hx hb dX5_isFile_0 rfl (lv_at hl 1 rfl) ?_
  refine lv_iconst (v := 0) hx hb dX5_isFile_1 (by decide) ?_
  refine lv_aload_n hx hb dX5_isFile_2 rfl (lv_at hl 0 rfl) ?_
  refine rh_get (ci := 5) (C := RX5) (T := TX5) (N := 26) (v := .int (w 26 4)) hx hb hts (fun _ h => List.mem_cons_of_mem _ (List.mem_append_right _ (h))) hown hE (hW.at 10 0 Nat.zero_lt_one) rfl 4 (by decide) (hts (.fieldLink RX5 86 "RoamingHouseModel" "fileMany" "I") (by decide +kernel)) rfl dX5_isFile_3 ?_
  refine lv_iconst (v := 1) hx hb dX5_isFile_6 (by decide) ?_
  refine lv_isub hx hb dX5_isFile_7 ?_
  refine rh_calln (vx_runS (As := [.int x, .int 0, .int (w 26 4 - 1)]) (rest := []) ⟨hx, hb, hml, hown, hts⟩ (ct_X5_in l hD x 0 (w 26 4 - 1)) (va_cwS 3 hts gX5_isFile_X5_in rfl rfl rfl (by decide +kernel) ⟨by decide, by decide⟩) (rh_pre hE hS hA hW) rfl rfl hl.1 rfl (lv_room (Nat.le_of_ble_eq_true rfl)) dX5_isFile_8 ⟨by decide, by decide⟩) hS (fun o H locs hN1 hS => ?_)
  obtain ⟨⟨hg2, rfl⟩ | ⟨hg2, rfl⟩, hW⟩ := hN1
  · have hc : ix x nf := (rng_ix (by omega)).mp (by rw [← hfc]; exact hg2)
    refine W.eq (g2 := F0 m 11 ls [.int 1]) rfl ?_
    exact rh_zret hx hb hr hlocks rfl ⟨Or.inl ⟨hc, rfl⟩, hW⟩ hS (by decide) (by decide) dX5_isFile_11
  · have hc : ¬ ix x nf := fun z => hg2 (by rw [hfc]; exact (rng_ix (by omega)).mpr z)
    refine W.eq (g2 := F0 m 11 ls [.int 0]) rfl ?_
    exact rh_zret hx hb hr hlocks rfl ⟨Or.inr ⟨hc, rfl⟩, hW⟩ hS (by decide) (by decide) dX5_isFile_11
set_option maxHeartbeats 4000000 in
set_option maxRecDepth 100000 in
theorem ct_X5_isCall (l : Launch) {G : va_G} {ca : Nat → ClassId} {A : Nat → Prop} {ad : Nat → Nat → Nat} {nf nc : Nat} {r : rh_R} {w : rh_Wm} {th : Int32} (hD : rh_D A ad (fun k i => i < m_n k)) (hwf : m_wf0 nf nc r w) (x : Int32) : rh_M l yX5_isCall wsX5_isCall ({ frames := 1, cells := 0, slots := 0, locals := 30 } : Room) G ca A [.ref (ad 10 0), .int x] (m_W G ca ad w th) (fun o H => ((ix x nc ∧ o = some (.int 1)) ∨ (¬ (ix x nc) ∧ o = some (.int 0))) ∧ m_W G ca ad w th H) rh_no 0 0 := by
  obtain ⟨hnf, hnc, hfc, hcc, h5, h10, hst⟩ := id hwf
  refine rh_enter (cc := cX5_isCall) (maxL := 2) (ret := (some .boolean)) (by decide) rfl (Nat.le_of_ble_eq_true rfl) ?_
  intro p e s m below meth c ls hx hb hr hml hown hts hlocks hex hin hE hA hW hl
  have hS : va_S A s.heap s.heap [] := va_S.rf
  have hl : lv_has ls 2 [(0, .ref (ad 10 0)), (1, .int x)] := hl
  refine lv_iload_n hx hb dX5_isCall_0 rfl (lv_at hl 1 rfl) ?_
  refine lv_iconst (v := 0) hx hb dX5_isCall_1 (by decide) ?_
  refine lv_aload_n hx hb dX5_isCall_2 rfl (lv_at hl 0 rfl) ?_
  refine rh_get (ci := 5) (C := RX5) (T := TX5) (N := 26) (v := .int (w 26 9)) hx hb hts (fun _ h => List.mem_cons_of_mem _ (List.mem_append_right _ (h))) hown hE (hW.at 10 0 Nat.zero_lt_one) rfl 9 (by decide) (hts (.fieldLink RX5 89 "RoamingHouseModel" "callMany" "I") (by decide +kernel)) rfl dX5_isCall_3 ?_
  refine lv_iconst (v := 1) hx hb dX5_isCall_6 (by decide) ?_
  refine lv_isub hx hb dX5_isCall_7 ?_
  refine rh_calln (vx_runS (As := [.int x, .int 0, .int (w 26 9 - 1)]) (rest := []) ⟨hx, hb, hml, hown, hts⟩ (ct_X5_in l hD x 0 (w 26 9 - 1)) (va_cwS 3 hts gX5_isCall_X5_in rfl rfl rfl (by decide +kernel) ⟨by decide, by decide⟩) (rh_pre hE hS hA hW) rfl rfl hl.1 rfl (lv_room (Nat.le_of_ble_eq_true rfl)) dX5_isCall_8 ⟨by decide, by decide⟩) hS (fun o H locs hN1 hS => ?_)
  obtain ⟨⟨hg2, rfl⟩ | ⟨hg2, rfl⟩, hW⟩ := hN1
  · have hc : ix x nc := (rng_ix (by omega)).mp (by rw [← hcc]; exact hg2)
    refine W.eq (g2 := F0 m 11 ls [.int 1]) rfl ?_
    exact rh_zret hx hb hr hlocks rfl ⟨Or.inl ⟨hc, rfl⟩, hW⟩ hS (by decide) (by decide) dX5_isCall_11
  · have hc : ¬ ix x nc := fun z => hg2 (by rw [hcc]; exact (rng_ix (by omega)).mpr z)
    refine W.eq (g2 := F0 m 11 ls [.int 0]) rfl ?_
    exact rh_zret hx hb hr hlocks rfl ⟨Or.inr ⟨hc, rfl⟩, hW⟩ hS (by decide) (by decide) dX5_isCall_11
set_option maxHeartbeats 4000000 in
set_option maxRecDepth 100000 in
theorem ct_X5_chargeFor (l : Launch) {G : va_G} {ca : Nat → ClassId} {A : Nat → Prop} {ad : Nat → Nat → Nat} {nf nc : Nat} {r : rh_R} {w : rh_Wm} {th : Int32} (hD : rh_D A ad (fun k i => i < m_n k)) (hwf : m_wf0 nf nc r w) (i : Nat) (hi : i < 4) (x : Int32) : rh_M l yX5_chargeFor wsX5_chargeFor ({ frames := 0, cells := 0, slots := 0, locals := 0 } : Room) G ca A [.ref (ad 10 0), .int (nI i), .int x] (m_W G ca ad w th) (fun o H => o = some (.int (m_ch w i x)) ∧ m_W G ca ad w th H) rh_no 0 0 := by
  obtain ⟨hnf, hnc, hfc, hcc, h5, h10, hst⟩ := id hwf
  refine rh_enter (cc := cX5_chargeFor) (maxL := 3) (ret := (some .int)) (by decide) rfl (Nat.le_of_ble_eq_true rfl) ?_
  intro p e s m below meth c ls hx hb hr hml hown hts hlocks hex hin hE hA hW hl
  have hS : va_S A s.heap s.heap [] := va_S.rf
  have hl : lv_has ls 3 [(0, .ref (ad 10 0)), (1, .int (nI i)), (2, .int x)] := hl
  refine lv_aload_n hx hb dX5_chargeFor_0 rfl (lv_at hl 0 rfl) ?_
  refine rh_get (ci := 5) (C := RX5) (T := TX5) (N := 26) (v := .ref (ad 22 0)) hx hb hts (fun _ h => List.mem_cons_of_mem _ (List.mem_append_right _ (h))) hown hE (hW.at 10 0 Nat.zero_lt_one) rfl 2 (by decide) (hts (.fieldLink RX5 16 "RoamingHouseModel" "beginnings" "[I") (by decide +kernel)) rfl dX5_chargeFor_1 ?_
  refine lv_iload_n hx hb dX5_chargeFor_4 rfl (lv_at hl 1 rfl) ?_
  refine rh_iald (n := 4) (f := w 2) hx hb hE (hW.at 22 0 Nat.zero_lt_one) i (by omega) (by decide) rfl dX5_chargeFor_5 ?_
  refine lv_aload_n hx hb dX5_chargeFor_6 rfl (lv_at hl 0 rfl) ?_
  refine rh_get (ci := 5) (C := RX5) (T := TX5) (N := 26) (v := .ref (ad 21 0)) hx hb hts (fun _ h => List.mem_cons_of_mem _ (List.mem_append_right _ (h))) hown hE (hW.at 10 0 Nat.zero_lt_one) rfl 1 (by decide) (hts (.fieldLink RX5 13 "RoamingHouseModel" "prices" "[I") (by decide +kernel)) rfl dX5_chargeFor_7 ?_
  refine lv_iload_n hx hb dX5_chargeFor_10 rfl (lv_at hl 1 rfl) ?_
  refine rh_iald (n := 4) (f := w 1) hx hb hE (hW.at 21 0 Nat.zero_lt_one) i (by omega) (by decide) rfl dX5_chargeFor_11 ?_
  refine lv_iload_n hx hb dX5_chargeFor_12 rfl (lv_at hl 2 rfl) ?_
  refine lv_aload_n hx hb dX5_chargeFor_13 rfl (lv_at hl 0 rfl) ?_
  refine rh_get (ci := 5) (C := RX5) (T := TX5) (N := 26) (v := .ref (ad 20 0)) hx hb hts (fun _ h => List.mem_cons_of_mem _ (List.mem_append_right _ (h))) hown hE (hW.at 10 0 Nat.zero_lt_one) rfl 0 (by decide) (hts (.fieldLink RX5 7 "RoamingHouseModel" "steps" "[I") (by decide +kernel)) rfl dX5_chargeFor_14 ?_
  refine lv_iload_n hx hb dX5_chargeFor_17 rfl (lv_at hl 1 rfl) ?_
  refine rh_iald (n := 4) (f := w 0) hx hb hE (hW.at 20 0 Nat.zero_lt_one) i (by omega) (by decide) rfl dX5_chargeFor_18 ?_
  refine lv_iadd hx hb dX5_chargeFor_19 ?_
  refine lv_iconst (v := 1) hx hb dX5_chargeFor_20 (by decide) ?_
  refine lv_isub hx hb dX5_chargeFor_21 ?_
  refine lv_aload_n hx hb dX5_chargeFor_22 rfl (lv_at hl 0 rfl) ?_
  refine rh_get (ci := 5) (C := RX5) (T := TX5) (N := 26) (v := .ref (ad 20 0)) hx hb hts (fun _ h => List.mem_cons_of_mem _ (List.mem_append_right _ (h))) hown hE (hW.at 10 0 Nat.zero_lt_one) rfl 0 (by decide) (hts (.fieldLink RX5 7 "RoamingHouseModel" "steps" "[I") (by decide +kernel)) rfl dX5_chargeFor_23 ?_
  refine lv_iload_n hx hb dX5_chargeFor_26 rfl (lv_at hl 1 rfl) ?_
  refine rh_iald (n := 4) (f := w 0) hx hb hE (hW.at 20 0 Nat.zero_lt_one) i (by omega) (by decide) rfl dX5_chargeFor_27 ?_
  refine lv_idiv hx hb dX5_chargeFor_28 (hst i hi) ?_
  refine lv_imul hx hb dX5_chargeFor_29 ?_
  refine lv_iadd hx hb dX5_chargeFor_30 ?_
  exact rh_iret hx hb hr hlocks ⟨rfl, hW⟩ hS (by decide) (by decide) dX5_chargeFor_31
set_option maxHeartbeats 4000000 in
set_option maxRecDepth 100000 in
theorem ct_X5_isRight (l : Launch) {G : va_G} {ca : Nat → ClassId} {A : Nat → Prop} {ad : Nat → Nat → Nat} {nf nc : Nat} {r : rh_R} {w : rh_Wm} {th : Int32} (hD : rh_D A ad (fun k i => i < m_n k)) (hwf : m_wf0 nf nc r w) (k : Nat) (hk : k < nc) : rh_M l yX5_isRight wsX5_isRight ({ frames := 1, cells := 0, slots := 0, locals := 30 } : Room) G ca A [.ref (ad 10 0), .int (nI k)] (m_W G ca ad w th) (fun o H => ((m_right r w k ∧ o = some (.int 1)) ∨ (¬ (m_right r w k) ∧ o = some (.int 0))) ∧ m_W G ca ad w th H) rh_no 0 0 := by
  obtain ⟨hnf, hnc, hfc, hcc, h5, h10, hst⟩ := id hwf
  have hk9 := (h10 k hk).1
  have hk5 := h5 _ hk9
  refine rh_enter (cc := cX5_isRight) (maxL := 2) (ret := (some .boolean)) (by decide) rfl (Nat.le_of_ble_eq_true rfl) ?_
  intro p e s m below meth c ls hx hb hr hml hown hts hlocks hex hin hE hA hW hl
  have hS : va_S A s.heap s.heap [] := va_S.rf
  have hl : lv_has ls 2 [(0, .ref (ad 10 0)), (1, .int (nI k))] := hl
  refine lv_aload_n hx hb dX5_isRight_0 rfl (lv_at hl 0 rfl) ?_
  refine lv_aload_n hx hb dX5_isRight_1 rfl (lv_at hl 0 rfl) ?_
  refine rh_get (ci := 5) (C := RX5) (T := TX5) (N := 26) (v := .ref (ad 25 0)) hx hb hts (fun _ h => List.mem_cons_of_mem _ (List.mem_append_right _ (h))) hown hE (hW.at 10 0 Nat.zero_lt_one) rfl 5 (by decide) (hts (.fieldLink RX5 22 "RoamingHouseModel" "pairOf" "[I") (by decide +kernel)) rfl dX5_isRight_2 ?_
  refine lv_aload_n hx hb dX5_isRight_5 rfl (lv_at hl 0 rfl) ?_
  refine rh_get (ci := 5) (C := RX5) (T := TX5) (N := 26) (v := .ref (ad 30 0)) hx hb hts (fun _ h => List.mem_cons_of_mem _ (List.mem_append_right _ (h))) hown hE (hW.at 10 0 Nat.zero_lt_one) rfl 10 (by decide) (hts (.fieldLink RX5 34 "RoamingHouseModel" "fileOf" "[I") (by decide +kernel)) rfl dX5_isRight_6 ?_
  refine lv_iload_n hx hb dX5_isRight_9 rfl (lv_at hl 1 rfl) ?_
  refine rh_iald (n := 60) (f := w 10) hx hb hE (hW.at 30 0 Nat.zero_lt_one) k (by omega) (by decide) rfl dX5_isRight_10 ?_
  rw [(h10 k hk).2]
  refine rh_iald (n := 30) (f := w 5) hx hb hE (hW.at 25 0 Nat.zero_lt_one) (r 9 k) (by omega) (by decide) rfl dX5_isRight_11 ?_
  rw [hk5.2]
  refine lv_iconst (v := 4) hx hb dX5_isRight_12 (by decide) ?_
  refine lv_idiv hx hb dX5_isRight_13 (by decide) ?_
  rw [m_div4 hk5.1]
  refine lv_aload_n hx hb dX5_isRight_14 rfl (lv_at hl 0 rfl) ?_
  refine rh_get (ci := 5) (C := RX5) (T := TX5) (N := 26) (v := .ref (ad 31 0)) hx hb hts (fun _ h => List.mem_cons_of_mem _ (List.mem_append_right _ (h))) hown hE (hW.at 10 0 Nat.zero_lt_one) rfl 11 (by decide) (hts (.fieldLink RX5 37 "RoamingHouseModel" "secondsOf" "[I") (by decide +kernel)) rfl dX5_isRight_15 ?_
  refine lv_iload_n hx hb dX5_isRight_18 rfl (lv_at hl 1 rfl) ?_
  refine rh_iald (n := 60) (f := w 11) hx hb hE (hW.at 31 0 Nat.zero_lt_one) k (by omega) (by decide) rfl dX5_isRight_19 ?_
  refine rh_calln (vx_runV (As := [.int (nI (r 8 (r 9 k) / 4)), .int (w 11 k)]) (rest := []) ⟨hx, hb, hml, hown, hts⟩ (ct_X5_chargeFor l hD hwf (r 8 (r 9 k) / 4) (by omega) (w 11 k)) (cwV 2 hts gX5_isRight_X5_chargeFor rfl rfl rfl (by decide +kernel) ⟨by decide, by decide⟩) (rh_preV hE hS hA (hW.at 10 0 Nat.zero_lt_one) rfl hW) rfl rfl hl.1 rfl (lv_room (Nat.le_of_ble_eq_true rfl)) dX5_isRight_20 ⟨by decide, by decide⟩) hS (fun o H locs hN1 hS => ?_)
  obtain ⟨rfl, hW⟩ := hN1
  refine W.eq (g2 := F0 m 23 ls [.int (m_ch w (r 8 (r 9 k) / 4) (w 11 k))]) rfl ?_
  refine lv_aload_n hx hb dX5_isRight_23 rfl (lv_at hl 0 rfl) ?_
  refine rh_get (ci := 5) (C := RX5) (T := TX5) (N := 26) (v := .ref (ad 32 0)) hx hb hts (fun _ h => List.mem_cons_of_mem _ (List.mem_append_right _ (h))) hown hE (hW.at 10 0 Nat.zero_lt_one) rfl 12 (by decide) (hts (.fieldLink RX5 40 "RoamingHouseModel" "charges" "[I") (by decide +kernel)) rfl dX5_isRight_24 ?_
  refine lv_iload_n hx hb dX5_isRight_27 rfl (lv_at hl 1 rfl) ?_
  refine rh_iald (n := 60) (f := w 12) hx hb hE (hW.at 32 0 Nat.zero_lt_one) k (by omega) (by decide) rfl dX5_isRight_28 ?_
  refine lv_icmp_ne (tgt := 36) hx hb dX5_isRight_29 (by decide) (fun c2 => ?_) (fun c2 => ?_)
  · have hc : ¬ m_right r w k := c2
    refine lv_iconst (v := 0) hx hb dX5_isRight_36 (by decide) ?_
    exact rh_zret hx hb hr hlocks rfl ⟨Or.inr ⟨hc, rfl⟩, hW⟩ hS (by decide) (by decide) dX5_isRight_37
  · have hc : m_right r w k := c2
    refine lv_iconst (v := 1) hx hb dX5_isRight_32 (by decide) ?_
    refine lv_goto (tgt := 37) hx hb dX5_isRight_33 (by decide) ?_
    exact rh_zret hx hb hr hlocks rfl ⟨Or.inl ⟨hc, rfl⟩, hW⟩ hS (by decide) (by decide) dX5_isRight_37
