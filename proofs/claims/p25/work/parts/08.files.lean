/-! ===== the house: files ===== -/
set_option maxHeartbeats 4000000 in
set_option maxRecDepth 100000 in
/-- the first file of a pair that waits with a number -/
theorem ct_X4_waitingFile (l : Launch) {G : va_G} {ca : Nat → ClassId} {A : Nat → Prop} {ad : Nat → Nat → Nat} {nf nc : Nat} {r : rh_R} {v : rh_V} (hD : rh_D A ad (fun k i => i < rh_n nf nc k)) (hwf : rh_wf nf nc r v) (q : Nat) (hq : q < 16) (x : Int32) : rh_M l yX4_waitingFile wsX4_waitingFile ({ frames := 0, cells := 0, slots := 0, locals := 0 } : Room) G ca A [.ref (ad 0 0), .ref (ad 6 q), .int x] (rh_W G ca ad nf nc r v) (fun o H => ((∃ j : Nat, j < nf ∧ c_wait r v nf q x = some j ∧ o = some (.ref (ad 8 j))) ∨ (c_wait r v nf q x = none ∧ o = some .null)) ∧ rh_W G ca ad nf nc r v H) rh_no 0 0 := by
  obtain ⟨hnf, hnc, hr8, hr9, hfc, hcc, hst, ⟨tt, htt, hnow⟩, hai⟩ := id hwf
  refine rh_enter (cc := cX4_waitingFile) (maxL := 5) (ret := (some (.object "RoamingHouse$CallFile"))) (by decide) rfl (Nat.le_of_ble_eq_true rfl) ?_
  intro p e s m below meth c ls hx hb hr hml hown hts hlocks hex hin hE hA hW hl
  have hS : va_S A s.heap s.heap [] := va_S.rf
  have hl : lv_has ls 5 [(0, .ref (ad 0 0)), (1, .ref (ad 6 q)), (2, .int x)] := hl
  refine lv_iconst (v := 0) hx hb dX4_waitingFile_0 (by decide) ?_
  refine lv_istore_n (lv' := [(3, .int 0), (0, .ref (ad 0 0)), (1, .ref (ad 6 q)), (2, .int x)]) hx hb dX4_waitingFile_1 rfl hl (by decide) rfl (fun ls hl => ?_)
  have loop2 : ∀ (n : Nat) (j : Nat) (H : Heap) (locs : List Loc) (ls : Array Slot), nf + 1 ≤ j + n → j ≤ nf → firstp (c_isw r v q x) j = none → rh_W G ca ad nf nc r v H → va_S A s.heap H locs → lv_has ls 5 [(0, .ref (ad 0 0)), (1, .ref (ad 6 q)), (2, .int x), (3, .int (nI j))] → W p l e ({ frames := 0, cells := 0, slots := 0, locals := 0 } : Room) s m ([.ref (ad 0 0), .ref (ad 6 q), .int x] : List Value).toArray below meth c H locs 0 0 (vx_MQ below (rh_Q A (fun o H => ((∃ j : Nat, j < nf ∧ c_wait r v nf q x = some j ∧ o = some (.ref (ad 8 j))) ∨ (c_wait r v nf q x = none ∧ o = some .null)) ∧ rh_W G ca ad nf nc r v H)) (rh_XC A rh_no) ([.ref (ad 0 0), .ref (ad 6 q), .int x] : List Value).toArray s 0 0 A) (F0 m 2 ls []) := by
    intro n
    induction n with
    | zero => intro j H locs ls hjn hj hinv hW hS hl; exact absurd hjn (by omega)
    | succ n ih =>
      intro j H locs ls hjn hj hinv hW hS hl
      refine lv_iload_n hx hb dX4_waitingFile_2 rfl (lv_at hl 3 rfl) ?_
      refine lv_aload_n hx hb dX4_waitingFile_3 rfl (lv_at hl 0 rfl) ?_
      refine rh_get (ci := 4) (C := RX4) (T := TX4) (N := 7) (v := .int (v 0 0 3)) hx hb hts (fun _ h => List.mem_cons_of_mem _ (List.mem_append_left _ (List.mem_append_right _ (h)))) hown hE (hW.at 0 0 Nat.zero_lt_one) rfl 3 (by decide) (hts (.fieldLink RX4 27 "RoamingHouse" "fileCount" "I") (by decide +kernel)) rfl dX4_waitingFile_4 ?_
      refine lv_icmp_ge (tgt := 54) hx hb dX4_waitingFile_7 (by decide) (fun c1 => ?_) (fun c1 => ?_)
      · have hjf : j = nf := by
          rcases Nat.lt_or_ge j nf with z | z
          · exact absurd (by rw [← hfc]; exact c1) (nI_ge z (by omega))
          · omega
        refine lv_null hx hb dX4_waitingFile_54 ?_
        exact rh_aret hx hb hr hlocks (Or.inl rfl) ⟨Or.inr ⟨by rw [← hjf]; exact hinv, rfl⟩, hW⟩ hS (by decide) (by decide) dX4_waitingFile_55
      · have hjl : j < nf := by
          rcases Nat.lt_or_ge j nf with z | z
          · exact z
          · exact absurd (by rw [hfc]; exact nI_le z (by omega)) c1
        refine lv_aload_n hx hb dX4_waitingFile_10 rfl (lv_at hl 0 rfl) ?_
        refine rh_get (ci := 4) (C := RX4) (T := TX4) (N := 7) (v := .ref (ad 3 0)) hx hb hts (fun _ h => List.mem_cons_of_mem _ (List.mem_append_left _ (List.mem_append_right _ (h)))) hown hE (hW.at 0 0 Nat.zero_lt_one) rfl 2 (by decide) (hts (.fieldLink RX4 23 "RoamingHouse" "fileRows" "[LRoamingHouse$CallFile;") (by decide +kernel)) rfl dX4_waitingFile_11 ?_
        refine lv_iload_n hx hb dX4_waitingFile_14 rfl (lv_at hl 3 rfl) ?_
        refine rh_qald hx hb hE 5 rfl (hW.at 3 0 Nat.zero_lt_one) j (by omega) (by decide) rfl (q := ad 8 j) (if_pos hjl) dX4_waitingFile_15 ?_
        refine lv_astore (lv' := [(4, .ref (ad 8 j)), (0, .ref (ad 0 0)), (1, .ref (ad 6 q)), (2, .int x), (3, .int (nI j))]) hx hb dX4_waitingFile_16 hl (by decide) rfl (fun ls hl => ?_)
        refine lv_aload hx hb dX4_waitingFile_18 (lv_at hl 0 rfl) ?_
        refine rh_get (ci := 1) (C := RX1) (T := TX1) (N := 5) (v := .ref (ad 6 (r 8 j))) hx hb hts (fun _ h => List.mem_cons_of_mem _ (List.mem_append_right _ (h))) hown hE (hW.at 8 j hjl) rfl 0 (by decide) (hts (.fieldLink RX4 103 "RoamingHouse$CallFile" "pair" "LRoamingHouse$Pair;") (by decide +kernel)) rfl dX4_waitingFile_20 ?_
        refine lv_aload_n hx hb dX4_waitingFile_23 rfl (lv_at hl 2 rfl) ?_
        refine lv_acmp_ne (rx := (some (ad 6 (r 8 j)))) (ry := (some (ad 6 q))) (tgt := 48) hx hb dX4_waitingFile_24 (by decide) (fun c2 => ?_) (fun c2 => ?_)
        · refine lv_iinc (v := nI (j + 1)) (lv' := [(3, .int (nI (j + 1))), (4, .ref (ad 8 j)), (0, .ref (ad 0 0)), (1, .ref (ad 6 q)), (2, .int x)]) hx hb dX4_waitingFile_48 hl (k := 4) rfl (nI_1 j) (by decide) rfl (fun ls hl => ?_)
          refine lv_goto (tgt := 2) hx hb dX4_waitingFile_51 (by decide) ?_
          exact ih (j + 1) _ _ _ (by omega) (by omega) (firstp_step hinv (fun z => c2 (congrArg (fun y => some (ad 6 y)) (of_decide_eq_true z).1))) hW hS (lv_sub hl [2, 3, 4, 0] rfl)
        · have hpq : r 8 j = q := (hD.1 6 (r 8 j) 6 q (hr8 _ hjl) hq (Option.some.inj c2)).2
          refine lv_aload hx hb dX4_waitingFile_27 (lv_at hl 0 rfl) ?_
          refine rh_get (ci := 1) (C := RX1) (T := TX1) (N := 5) (v := .int (v 8 j 2)) hx hb hts (fun _ h => List.mem_cons_of_mem _ (List.mem_append_right _ (h))) hown hE (hW.at 8 j hjl) rfl 2 (by decide) (hts (.fieldLink RX4 88 "RoamingHouse$CallFile" "state" "I") (by decide +kernel)) rfl dX4_waitingFile_29 ?_
          refine lv_iconst (v := 2) hx hb dX4_waitingFile_32 (by decide) ?_
          refine lv_icmp_ne (tgt := 48) hx hb dX4_waitingFile_33 (by decide) (fun c3 => ?_) (fun c3 => ?_)
          · refine lv_iinc (v := nI (j + 1)) (lv' := [(3, .int (nI (j + 1))), (4, .ref (ad 8 j)), (0, .ref (ad 0 0)), (1, .ref (ad 6 q)), (2, .int x)]) hx hb dX4_waitingFile_48 hl (k := 4) rfl (nI_1 j) (by decide) rfl (fun ls hl => ?_)
            refine lv_goto (tgt := 2) hx hb dX4_waitingFile_51 (by decide) ?_
            exact ih (j + 1) _ _ _ (by omega) (by omega) (firstp_step hinv (fun z => c3 (of_decide_eq_true z).2.1)) hW hS (lv_sub hl [2, 3, 4, 0] rfl)
          · refine lv_aload hx hb dX4_waitingFile_36 (lv_at hl 0 rfl) ?_
            refine rh_get (ci := 1) (C := RX1) (T := TX1) (N := 5) (v := .int (v 8 j 4)) hx hb hts (fun _ h => List.mem_cons_of_mem _ (List.mem_append_right _ (h))) hown hE (hW.at 8 j hjl) rfl 4 (by decide) (hts (.fieldLink RX4 114 "RoamingHouse$CallFile" "number" "I") (by decide +kernel)) rfl dX4_waitingFile_38 ?_
            refine lv_iload_n hx hb dX4_waitingFile_41 rfl (lv_at hl 3 rfl) ?_
            refine lv_icmp_ne (tgt := 48) hx hb dX4_waitingFile_42 (by decide) (fun c4 => ?_) (fun c4 => ?_)
            · refine lv_iinc (v := nI (j + 1)) (lv' := [(3, .int (nI (j + 1))), (4, .ref (ad 8 j)), (0, .ref (ad 0 0)), (1, .ref (ad 6 q)), (2, .int x)]) hx hb dX4_waitingFile_48 hl (k := 4) rfl (nI_1 j) (by decide) rfl (fun ls hl => ?_)
              refine lv_goto (tgt := 2) hx hb dX4_waitingFile_51 (by decide) ?_
              exact ih (j + 1) _ _ _ (by omega) (by omega) (firstp_step hinv (fun z => c4 (of_decide_eq_true z).2.2)) hW hS (lv_sub hl [2, 3, 4, 0] rfl)
            · have hhit := firstp_mono (firstp_hit hinv (show c_isw r v q x j = true from decide_eq_true ⟨hpq, c3, c4⟩)) nf hjl
              refine lv_aload hx hb dX4_waitingFile_45 (lv_at hl 0 rfl) ?_
              exact rh_aret hx hb hr hlocks (Or.inr ⟨_, rfl⟩) ⟨Or.inl ⟨j, hjl, hhit, rfl⟩, hW⟩ hS (by decide) (by decide) dX4_waitingFile_47
  exact loop2 (nf + 1) 0 _ _ _ (by omega) (by omega) rfl hW hS (lv_sub hl [1, 2, 3, 0] rfl)
set_option maxHeartbeats 4000000 in
set_option maxRecDepth 100000 in
/-- how many calls of a file are not right -/
theorem ct_X4_wrongCallsOf (l : Launch) {G : va_G} {ca : Nat → ClassId} {A : Nat → Prop} {ad : Nat → Nat → Nat} {nf nc : Nat} {r : rh_R} {v : rh_V} (hD : rh_D A ad (fun k i => i < rh_n nf nc k)) (hwf : rh_wf nf nc r v) (f : Nat) (hf : f < nf) : rh_M l yX4_wrongCallsOf wsX4_wrongCallsOf ({ frames := 2, cells := 0, slots := 0, locals := 60 } : Room) G ca A [.ref (ad 0 0), .ref (ad 8 f)] (rh_W G ca ad nf nc r v) (fun o H => o = some (.int (c_wrong r v f nc)) ∧ rh_W G ca ad nf nc r v H) rh_no 0 0 := by
  obtain ⟨hnf, hnc, hr8, hr9, hfc, hcc, hst, ⟨tt, htt, hnow⟩, hai⟩ := id hwf
  refine rh_enter (cc := cX4_wrongCallsOf) (maxL := 5) (ret := (some .int)) (by decide) rfl (Nat.le_of_ble_eq_true rfl) ?_
  intro p e s m below meth c ls hx hb hr hml hown hts hlocks hex hin hE hA hW hl
  have hS : va_S A s.heap s.heap [] := va_S.rf
  have hl : lv_has ls 5 [(0, .ref (ad 0 0)), (1, .ref (ad 8 f))] := hl
  refine lv_iconst (v := 0) hx hb dX4_wrongCallsOf_0 (by decide) ?_
  refine lv_istore_n (lv' := [(2, .int 0), (0, .ref (ad 0 0)), (1, .ref (ad 8 f))]) hx hb dX4_wrongCallsOf_1 rfl hl (by decide) rfl (fun ls hl => ?_)
  refine lv_iconst (v := 0) hx hb dX4_wrongCallsOf_2 (by decide) ?_
  refine lv_istore_n (lv' := [(3, .int 0), (2, .int 0), (0, .ref (ad 0 0)), (1, .ref (ad 8 f))]) hx hb dX4_wrongCallsOf_3 rfl hl (by decide) rfl (fun ls hl => ?_)
  have loop4 : ∀ (n : Nat) (j : Nat) (w : Int32) (H : Heap) (locs : List Loc) (ls : Array Slot), nc + 1 ≤ j + n → j ≤ nc → w = c_wrong r v f j → rh_W G ca ad nf nc r v H → va_S A s.heap H locs → lv_has ls 5 [(0, .ref (ad 0 0)), (1, .ref (ad 8 f)), (2, .int w), (3, .int (nI j))] → W p l e ({ frames := 2, cells := 0, slots := 0, locals := 60 } : Room) s m ([.ref (ad 0 0), .ref (ad 8 f)] : List Value).toArray below meth c H locs 0 0 (vx_MQ below (rh_Q A (fun o H => o = some (.int (c_wrong r v f nc)) ∧ rh_W G ca ad nf nc r v H)) (rh_XC A rh_no) ([.ref (ad 0 0), .ref (ad 8 f)] : List Value).toArray s 0 0 A) (F0 m 4 ls []) := by
    intro n
    induction n with
    | zero => intro j w H locs ls hjn hj hw hW hS hl; exact absurd hjn (by omega)
    | succ n ih =>
      intro j w H locs ls hjn hj hw hW hS hl
      refine lv_iload_n hx hb dX4_wrongCallsOf_4 rfl (lv_at hl 3 rfl) ?_
      refine lv_aload_n hx hb dX4_wrongCallsOf_5 rfl (lv_at hl 0 rfl) ?_
      refine rh_get (ci := 4) (C := RX4) (T := TX4) (N := 7) (v := .int (v 0 0 5)) hx hb hts (fun _ h => List.mem_cons_of_mem _ (List.mem_append_left _ (List.mem_append_left _ (List.mem_append_left _ (List.mem_append_left _ (List.mem_append_right _ (h))))))) hown hE (hW.at 0 0 Nat.zero_lt_one) rfl 5 (by decide) (hts (.fieldLink RX4 37 "RoamingHouse" "callCount" "I") (by decide +kernel)) rfl dX4_wrongCallsOf_6 ?_
      refine lv_icmp_ge (tgt := 46) hx hb dX4_wrongCallsOf_9 (by decide) (fun c1 => ?_) (fun c1 => ?_)
      · have hjf : j = nc := by
          rcases Nat.lt_or_ge j nc with z | z
          · exact absurd (by rw [← hcc]; exact c1) (nI_ge z (by omega))
          · omega
        refine lv_iload_n hx hb dX4_wrongCallsOf_46 rfl (lv_at hl 2 rfl) ?_
        exact rh_iret hx hb hr hlocks ⟨by rw [hw, hjf], hW⟩ hS (by decide) (by decide) dX4_wrongCallsOf_47
      · have hjl : j < nc := by
          rcases Nat.lt_or_ge j nc with z | z
          · exact z
          · exact absurd (by rw [hcc]; exact nI_le z (by omega)) c1
        refine lv_aload_n hx hb dX4_wrongCallsOf_12 rfl (lv_at hl 0 rfl) ?_
        refine rh_get (ci := 4) (C := RX4) (T := TX4) (N := 7) (v := .ref (ad 4 0)) hx hb hts (fun _ h => List.mem_cons_of_mem _ (List.mem_append_left _ (List.mem_append_left _ (List.mem_append_left _ (List.mem_append_left _ (List.mem_append_right _ (h))))))) hown hE (hW.at 0 0 Nat.zero_lt_one) rfl 4 (by decide) (hts (.fieldLink RX4 33 "RoamingHouse" "callRows" "[LRoamingHouse$Call;") (by decide +kernel)) rfl dX4_wrongCallsOf_13 ?_
        refine lv_iload_n hx hb dX4_wrongCallsOf_16 rfl (lv_at hl 3 rfl) ?_
        refine rh_qald hx hb hE 6 rfl (hW.at 4 0 Nat.zero_lt_one) j (by omega) (by decide) rfl (q := ad 9 j) (if_pos hjl) dX4_wrongCallsOf_17 ?_
        refine lv_astore (lv' := [(4, .ref (ad 9 j)), (0, .ref (ad 0 0)), (1, .ref (ad 8 f)), (2, .int w), (3, .int (nI j))]) hx hb dX4_wrongCallsOf_18 hl (by decide) rfl (fun ls hl => ?_)
        refine lv_aload hx hb dX4_wrongCallsOf_20 (lv_at hl 0 rfl) ?_
        refine rh_get (ci := 0) (C := RX0) (T := TX0) (N := 7) (v := .ref (ad 8 (r 9 j))) hx hb hts (fun _ h => List.mem_cons_of_mem _ (List.mem_append_left _ (List.mem_append_left _ (List.mem_append_left _ (List.mem_append_right _ (h)))))) hown hE (hW.at 9 j hjl) rfl 0 (by decide) (hts (.fieldLink RX4 221 "RoamingHouse$Call" "file" "LRoamingHouse$CallFile;") (by decide +kernel)) rfl dX4_wrongCallsOf_22 ?_
        refine lv_aload_n hx hb dX4_wrongCallsOf_25 rfl (lv_at hl 2 rfl) ?_
        refine lv_acmp_ne (rx := (some (ad 8 (r 9 j)))) (ry := (some (ad 8 f))) (tgt := 40) hx hb dX4_wrongCallsOf_26 (by decide) (fun c2 => ?_) (fun c2 => ?_)
        · refine lv_iinc (v := nI (j + 1)) (lv' := [(3, .int (nI (j + 1))), (4, .ref (ad 9 j)), (0, .ref (ad 0 0)), (1, .ref (ad 8 f)), (2, .int w)]) hx hb dX4_wrongCallsOf_40 hl (k := 4) rfl (nI_1 j) (by decide) rfl (fun ls hl => ?_)
          refine lv_goto (tgt := 4) hx hb dX4_wrongCallsOf_43 (by decide) ?_
          exact ih (j + 1) w _ _ _ (by omega) (by omega) (by rw [hw]; exact (if_neg (fun z => c2 (congrArg (fun y => some (ad 8 y)) z.1))).symm) hW hS (lv_sub hl [2, 3, 4, 0] rfl)
        · have hcf : r 9 j = f := (hD.1 8 (r 9 j) 8 f (hr9 _ hjl) hf (Option.some.inj c2)).2
          refine lv_aload hx hb dX4_wrongCallsOf_29 (lv_at hl 0 rfl) ?_
          refine rh_calln (vx_runV (As := []) (rest := []) ⟨hx, hb, hml, hown, hts⟩ (ct_X0_isRight l hD hwf j hjl) (cwV 0 hts gX4_wrongCallsOf_X0_isRight rfl rfl rfl (by decide +kernel) ⟨by decide, by decide⟩) (rh_preV hE hS hA (hW.at 9 j hjl) rfl hW) rfl rfl hl.1 rfl (lv_room (Nat.le_of_ble_eq_true rfl)) dX4_wrongCallsOf_31 ⟨by decide, by decide⟩) hS (fun o H locs hN3 hS => ?_)
          obtain ⟨⟨hc4, rfl⟩ | ⟨hc4, rfl⟩, hW⟩ := hN3
          · have hgo := hc4
            refine W.eq (g2 := F0 m 34 ls [.int 1]) rfl ?_
            refine lv_if_ne (tgt := 40) hx hb dX4_wrongCallsOf_34 (by decide) (fun c5 => ?_) (fun c5 => absurd c5 (by decide))
            refine lv_iinc (v := nI (j + 1)) (lv' := [(3, .int (nI (j + 1))), (4, .ref (ad 9 j)), (0, .ref (ad 0 0)), (1, .ref (ad 8 f)), (2, .int w)]) hx hb dX4_wrongCallsOf_40 hl (k := 4) rfl (nI_1 j) (by decide) rfl (fun ls hl => ?_)
            refine lv_goto (tgt := 4) hx hb dX4_wrongCallsOf_43 (by decide) ?_
            exact ih (j + 1) w _ _ _ (by omega) (by omega) (by rw [hw]; exact (if_neg (fun z => z.2 hgo)).symm) hW hS (lv_sub hl [2, 3, 4, 0] rfl)
          · have hgo := hc4
            refine W.eq (g2 := F0 m 34 ls [.int 0]) rfl ?_
            refine lv_if_ne (tgt := 40) hx hb dX4_wrongCallsOf_34 (by decide) (fun c6 => absurd c6 (by decide)) (fun c6 => ?_)
            refine lv_iinc (v := (w + 1)) (lv' := [(2, .int (w + 1)), (4, .ref (ad 9 j)), (0, .ref (ad 0 0)), (1, .ref (ad 8 f)), (3, .int (nI j))]) hx hb dX4_wrongCallsOf_37 hl (k := 3) rfl rfl (by decide) rfl (fun ls hl => ?_)
            refine lv_iinc (v := nI (j + 1)) (lv' := [(3, .int (nI (j + 1))), (2, .int (w + 1)), (4, .ref (ad 9 j)), (0, .ref (ad 0 0)), (1, .ref (ad 8 f))]) hx hb dX4_wrongCallsOf_40 hl (k := 4) rfl (nI_1 j) (by decide) rfl (fun ls hl => ?_)
            refine lv_goto (tgt := 4) hx hb dX4_wrongCallsOf_43 (by decide) ?_
            exact ih (j + 1) (w + 1) _ _ _ (by omega) (by omega) (by rw [hw]; exact (if_pos ⟨hcf, hgo⟩).symm) hW hS (lv_sub hl [3, 4, 1, 0] rfl)
  exact loop4 (nc + 1) 0 0 _ _ _ (by omega) (by omega) rfl hW hS (lv_sub hl [2, 3, 1, 0] rfl)
set_option maxHeartbeats 4000000 in
set_option maxRecDepth 100000 in
/-- the right calls of a file are accepted -/
theorem ct_X4_acceptRightCallsOf (l : Launch) {G : va_G} {ca : Nat → ClassId} {A : Nat → Prop} {ad : Nat → Nat → Nat} {nf nc : Nat} {r : rh_R} {v : rh_V} (hD : rh_D A ad (fun k i => i < rh_n nf nc k)) (hwf : rh_wf nf nc r v) (f : Nat) (hf : f < nf) : rh_M l yX4_acceptRightCallsOf wsX4_acceptRightCallsOf ({ frames := 2, cells := 0, slots := 0, locals := 60 } : Room) G ca A [.ref (ad 0 0), .ref (ad 8 f)] (rh_W G ca ad nf nc r v) (fun o H => o = none ∧ rh_W G ca ad nf nc r (c_acc r v f nc) H) rh_no 0 0 := by
  obtain ⟨hnf, hnc, hr8, hr9, hfc, hcc, hst, ⟨tt, htt, hnow⟩, hai⟩ := id hwf
  refine rh_enter (cc := cX4_acceptRightCallsOf) (maxL := 4) (ret := none) (by decide) rfl (Nat.le_of_ble_eq_true rfl) ?_
  intro p e s m below meth c ls hx hb hr hml hown hts hlocks hex hin hE hA hW hl
  have hS : va_S A s.heap s.heap [] := va_S.rf
  have hl : lv_has ls 4 [(0, .ref (ad 0 0)), (1, .ref (ad 8 f))] := hl
  refine lv_iconst (v := 0) hx hb dX4_acceptRightCallsOf_0 (by decide) ?_
  refine lv_istore_n (lv' := [(2, .int 0), (0, .ref (ad 0 0)), (1, .ref (ad 8 f))]) hx hb dX4_acceptRightCallsOf_1 rfl hl (by decide) rfl (fun ls hl => ?_)
  have loop2 : ∀ (n : Nat) (j : Nat) (H : Heap) (locs : List Loc) (ls : Array Slot), nc + 1 ≤ j + n → j ≤ nc → rh_W G ca ad nf nc r (c_acc r v f j) H → va_S A s.heap H locs → lv_has ls 4 [(0, .ref (ad 0 0)), (1, .ref (ad 8 f)), (2, .int (nI j))] → W p l e ({ frames := 2, cells := 0, slots := 0, locals := 60 } : Room) s m ([.ref (ad 0 0), .ref (ad 8 f)] : List Value).toArray below meth c H locs 0 0 (vx_MQ below (rh_Q A (fun o H => o = none ∧ rh_W G ca ad nf nc r (c_acc r v f nc) H)) (rh_XC A rh_no) ([.ref (ad 0 0), .ref (ad 8 f)] : List Value).toArray s 0 0 A) (F0 m 2 ls []) := by
    intro n
    induction n with
    | zero => intro j H locs ls hjn hj hW hS hl; exact absurd hjn (by omega)
    | succ n ih =>
      intro j H locs ls hjn hj hW hS hl
      have hwfj := c_acc_wf (f := f) hwf j
      have hccj := hwfj.2.2.2.2.2.1
      refine lv_iload_n hx hb dX4_acceptRightCallsOf_2 rfl (lv_at hl 2 rfl) ?_
      refine lv_aload_n hx hb dX4_acceptRightCallsOf_3 rfl (lv_at hl 0 rfl) ?_
      refine rh_get (ci := 4) (C := RX4) (T := TX4) (N := 7) (v := .int ((c_acc r v f j) 0 0 5)) hx hb hts (fun _ h => List.mem_cons_of_mem _ (List.mem_append_left _ (List.mem_append_left _ (List.mem_append_left _ (List.mem_append_left _ (List.mem_append_right _ (h))))))) hown hE (hW.at 0 0 Nat.zero_lt_one) rfl 5 (by decide) (hts (.fieldLink RX4 37 "RoamingHouse" "callCount" "I") (by decide +kernel)) rfl dX4_acceptRightCallsOf_4 ?_
      refine lv_icmp_ge (tgt := 46) hx hb dX4_acceptRightCallsOf_7 (by decide) (fun c1 => ?_) (fun c1 => ?_)
      · have hjf : j = nc := by
          rcases Nat.lt_or_ge j nc with z | z
          · exact absurd (by rw [← hccj]; exact c1) (nI_ge z (by omega))
          · omega
        exact rh_vret hx hb hr hlocks ⟨rfl, by rw [hjf] at hW; exact hW⟩ hS (by decide) (by decide) dX4_acceptRightCallsOf_46
      · have hjl : j < nc := by
          rcases Nat.lt_or_ge j nc with z | z
          · exact z
          · exact absurd (by rw [hccj]; exact nI_le z (by omega)) c1
        refine lv_aload_n hx hb dX4_acceptRightCallsOf_10 rfl (lv_at hl 0 rfl) ?_
        refine rh_get (ci := 4) (C := RX4) (T := TX4) (N := 7) (v := .ref (ad 4 0)) hx hb hts (fun _ h => List.mem_cons_of_mem _ (List.mem_append_left _ (List.mem_append_left _ (List.mem_append_left _ (List.mem_append_left _ (List.mem_append_right _ (h))))))) hown hE (hW.at 0 0 Nat.zero_lt_one) rfl 4 (by decide) (hts (.fieldLink RX4 33 "RoamingHouse" "callRows" "[LRoamingHouse$Call;") (by decide +kernel)) rfl dX4_acceptRightCallsOf_11 ?_
        refine lv_iload_n hx hb dX4_acceptRightCallsOf_14 rfl (lv_at hl 2 rfl) ?_
        refine rh_qald hx hb hE 6 rfl (hW.at 4 0 Nat.zero_lt_one) j (by omega) (by decide) rfl (q := ad 9 j) (if_pos hjl) dX4_acceptRightCallsOf_15 ?_
        refine lv_astore_n (lv' := [(3, .ref (ad 9 j)), (0, .ref (ad 0 0)), (1, .ref (ad 8 f)), (2, .int (nI j))]) hx hb dX4_acceptRightCallsOf_16 rfl hl (by decide) rfl (fun ls hl => ?_)
        refine lv_aload_n hx hb dX4_acceptRightCallsOf_17 rfl (lv_at hl 0 rfl) ?_
        refine rh_get (ci := 0) (C := RX0) (T := TX0) (N := 7) (v := .ref (ad 8 (r 9 j))) hx hb hts (fun _ h => List.mem_cons_of_mem _ (List.mem_append_left _ (List.mem_append_left _ (List.mem_append_left _ (List.mem_append_right _ (h)))))) hown hE (hW.at 9 j hjl) rfl 0 (by decide) (hts (.fieldLink RX4 221 "RoamingHouse$Call" "file" "LRoamingHouse$CallFile;") (by decide +kernel)) rfl dX4_acceptRightCallsOf_18 ?_
        refine lv_aload_n hx hb dX4_acceptRightCallsOf_21 rfl (lv_at hl 2 rfl) ?_
        refine lv_acmp_ne (rx := (some (ad 8 (r 9 j)))) (ry := (some (ad 8 f))) (tgt := 40) hx hb dX4_acceptRightCallsOf_22 (by decide) (fun c2 => ?_) (fun c2 => ?_)
        · have hW : rh_W G ca ad nf nc r (c_acc r v f (j + 1)) H := by rw [show c_acc r v f (j + 1) = c_acc r v f j from if_neg (fun z => c2 (congrArg (fun y => some (ad 8 y)) z.1))]; exact hW
          refine lv_iinc (v := nI (j + 1)) (lv' := [(2, .int (nI (j + 1))), (3, .ref (ad 9 j)), (0, .ref (ad 0 0)), (1, .ref (ad 8 f))]) hx hb dX4_acceptRightCallsOf_40 hl (k := 3) rfl (nI_1 j) (by decide) rfl (fun ls hl => ?_)
          refine lv_goto (tgt := 2) hx hb dX4_acceptRightCallsOf_43 (by decide) ?_
          exact ih (j + 1) _ _ _ (by omega) (by omega) hW hS (lv_sub hl [2, 3, 0] rfl)
        · have hcf : r 9 j = f := (hD.1 8 (r 9 j) 8 f (hr9 _ hjl) hf (Option.some.inj c2)).2
          refine lv_aload_n hx hb dX4_acceptRightCallsOf_25 rfl (lv_at hl 0 rfl) ?_
          refine rh_calln (vx_runV (As := []) (rest := []) ⟨hx, hb, hml, hown, hts⟩ (ct_X0_isRight l hD hwfj j hjl) (cwV 0 hts gX4_acceptRightCallsOf_X0_isRight rfl rfl rfl (by decide +kernel) ⟨by decide, by decide⟩) (rh_preV hE hS hA (hW.at 9 j hjl) rfl hW) rfl rfl hl.1 rfl (lv_room (Nat.le_of_ble_eq_true rfl)) dX4_acceptRightCallsOf_26 ⟨by decide, by decide⟩) hS (fun o H locs hN3 hS => ?_)
          obtain ⟨⟨hc4, rfl⟩ | ⟨hc4, rfl⟩, hW⟩ := hN3
          · have hgo := hc4
            refine W.eq (g2 := F0 m 29 ls [.int 1]) rfl ?_
            refine lv_if_eq (tgt := 40) hx hb dX4_acceptRightCallsOf_29 (by decide) (fun c5 => absurd c5 (by decide)) (fun c5 => ?_)
            refine lv_aload_n hx hb dX4_acceptRightCallsOf_32 rfl (lv_at hl 0 rfl) ?_
            refine lv_aload_n hx hb dX4_acceptRightCallsOf_33 rfl (lv_at hl 1 rfl) ?_
            refine rh_get (ci := 4) (C := RX4) (T := TX4) (N := 7) (v := .int ((c_acc r v f j) 0 0 6)) hx hb hts (fun _ h => List.mem_cons_of_mem _ (List.mem_append_left _ (List.mem_append_left _ (List.mem_append_left _ (List.mem_append_left _ (List.mem_append_right _ (h))))))) hown hE (hW.at 0 0 Nat.zero_lt_one) rfl 6 (by decide) (hts (.fieldLink RX4 40 "RoamingHouse" "now" "I") (by decide +kernel)) rfl dX4_acceptRightCallsOf_34 ?_
            have hnj : c_acc r v f j 0 0 6 = nI tt := by rw [c_acc_now]; exact hnow
            rw [hnj]
            refine rh_calln (vx_runV (As := [.int (nI tt)]) (rest := []) ⟨hx, hb, hml, hown, hts⟩ (ct_X0_acceptIn l hD hwfj j hjl tt htt) (cwV 1 hts gX4_acceptRightCallsOf_X0_acceptIn rfl rfl rfl (by decide +kernel) ⟨by decide, by decide⟩) (rh_preV hE hS hA (hW.at 9 j hjl) rfl hW) rfl rfl hl.1 rfl (lv_room (Nat.le_of_ble_eq_true rfl)) dX4_acceptRightCallsOf_37 ⟨by decide, by decide⟩) hS (fun o H locs hN6 hS => ?_)
            obtain ⟨rfl, hW⟩ := hN6
            refine W.eq (g2 := F0 m 40 ls []) rfl ?_
            have hW : rh_W G ca ad nf nc r (c_acc r v f (j + 1)) H := by rw [show c_acc r v f (j + 1) = c_acc1 r (c_acc r v f j) j (v 0 0 6) from if_pos ⟨hcf, hgo⟩, hnow]; exact hW
            refine lv_iinc (v := nI (j + 1)) (lv' := [(2, .int (nI (j + 1))), (3, .ref (ad 9 j)), (0, .ref (ad 0 0)), (1, .ref (ad 8 f))]) hx hb dX4_acceptRightCallsOf_40 hl (k := 3) rfl (nI_1 j) (by decide) rfl (fun ls hl => ?_)
            refine lv_goto (tgt := 2) hx hb dX4_acceptRightCallsOf_43 (by decide) ?_
            exact ih (j + 1) _ _ _ (by omega) (by omega) hW hS (lv_sub hl [2, 3, 0] rfl)
          · have hgo := hc4
            refine W.eq (g2 := F0 m 29 ls [.int 0]) rfl ?_
            refine lv_if_eq (tgt := 40) hx hb dX4_acceptRightCallsOf_29 (by decide) (fun c7 => ?_) (fun c7 => absurd c7 (by decide))
            have hW : rh_W G ca ad nf nc r (c_acc r v f (j + 1)) H := by rw [show c_acc r v f (j + 1) = c_acc r v f j from if_neg (fun z => hgo z.2)]; exact hW
            refine lv_iinc (v := nI (j + 1)) (lv' := [(2, .int (nI (j + 1))), (3, .ref (ad 9 j)), (0, .ref (ad 0 0)), (1, .ref (ad 8 f))]) hx hb dX4_acceptRightCallsOf_40 hl (k := 3) rfl (nI_1 j) (by decide) rfl (fun ls hl => ?_)
            refine lv_goto (tgt := 2) hx hb dX4_acceptRightCallsOf_43 (by decide) ?_
            exact ih (j + 1) _ _ _ (by omega) (by omega) hW hS (lv_sub hl [2, 3, 0] rfl)
  exact loop2 (nc + 1) 0  _ _ _ (by omega) (by omega)  hW hS (lv_sub hl [1, 2, 0] rfl)
set_option maxHeartbeats 4000000 in
set_option maxRecDepth 100000 in
/-- a file is looked at -/
theorem ct_X4_lookAt (l : Launch) {G : va_G} {ca : Nat → ClassId} {A : Nat → Prop} {ad : Nat → Nat → Nat} {nf nc : Nat} {r : rh_R} {v : rh_V} (hD : rh_D A ad (fun k i => i < rh_n nf nc k)) (hwf : rh_wf nf nc r v) (f : Nat) (hf : f < nf) : rh_M l yX4_lookAt wsX4_lookAt ({ frames := 3, cells := 0, slots := 0, locals := 90 } : Room) G ca A [.ref (ad 0 0), .ref (ad 8 f)] (rh_W G ca ad nf nc r v) (fun o H => o = none ∧ rh_W G ca ad nf nc r (c_look r v nc f) H) rh_no 0 0 := by
  obtain ⟨hnf, hnc, hr8, hr9, hfc, hcc, hst, ⟨tt, htt, hnow⟩, hai⟩ := id hwf
  refine rh_enter (cc := cX4_lookAt) (maxL := 2) (ret := none) (by decide) rfl (Nat.le_of_ble_eq_true rfl) ?_
  intro p e s m below meth c ls hx hb hr hml hown hts hlocks hex hin hE hA hW hl
  have hS : va_S A s.heap s.heap [] := va_S.rf
  have hl : lv_has ls 2 [(0, .ref (ad 0 0)), (1, .ref (ad 8 f))] := hl
  refine lv_aload_n hx hb dX4_lookAt_0 rfl (lv_at hl 0 rfl) ?_
  refine rh_get (ci := 4) (C := RX4) (T := TX4) (N := 7) (v := .int (v 0 0 6)) hx hb hts (fun _ h => List.mem_cons_of_mem _ (List.mem_append_left _ (List.mem_append_left _ (List.mem_append_left _ (List.mem_append_left _ (List.mem_append_right _ (h))))))) hown hE (hW.at 0 0 Nat.zero_lt_one) rfl 6 (by decide) (hts (.fieldLink RX4 40 "RoamingHouse" "now" "I") (by decide +kernel)) rfl dX4_lookAt_1 ?_
  refine lv_aload_n hx hb dX4_lookAt_4 rfl (lv_at hl 1 rfl) ?_
  refine rh_get (ci := 1) (C := RX1) (T := TX1) (N := 5) (v := .int (v 8 f 1)) hx hb hts (fun _ h => List.mem_cons_of_mem _ (List.mem_append_left _ (List.mem_append_left _ (List.mem_append_left _ (List.mem_append_right _ (h)))))) hown hE (hW.at 8 f hf) rfl 1 (by decide) (hts (.fieldLink RX4 211 "RoamingHouse$CallFile" "begunIn" "I") (by decide +kernel)) rfl dX4_lookAt_5 ?_
  refine lv_isub hx hb dX4_lookAt_8 ?_
  refine lv_iconst (v := 2) hx hb dX4_lookAt_9 (by decide) ?_
  refine lv_icmp_le (tgt := 21) hx hb dX4_lookAt_10 (by decide) (fun c1 => ?_) (fun c1 => ?_)
  · have hl1 := le_nlt c1
    refine lv_aload_n hx hb dX4_lookAt_21 rfl (lv_at hl 0 rfl) ?_
    refine lv_aload_n hx hb dX4_lookAt_22 rfl (lv_at hl 1 rfl) ?_
    refine rh_calln (vx_runV (As := [.ref (ad 8 f)]) (rest := []) ⟨hx, hb, hml, hown, hts⟩ (ct_X4_wrongCallsOf l hD hwf f hf) (cwV 1 hts gX4_lookAt_X4_wrongCallsOf rfl rfl rfl (by decide +kernel) ⟨by decide, by decide⟩) (rh_preV hE hS hA (hW.at 0 0 Nat.zero_lt_one) rfl hW) rfl rfl hl.1 rfl (lv_room (Nat.le_of_ble_eq_true rfl)) dX4_lookAt_23 ⟨by decide, by decide⟩) hS (fun o H locs hN2 hS => ?_)
    obtain ⟨rfl, hW⟩ := hN2
    refine W.eq (g2 := F0 m 26 ls [.int (c_wrong r v f nc)]) rfl ?_
    refine lv_iconst (v := 3) hx hb dX4_lookAt_26 (by decide) ?_
    refine lv_imul hx hb dX4_lookAt_27 ?_
    refine lv_aload_n hx hb dX4_lookAt_28 rfl (lv_at hl 1 rfl) ?_
    refine rh_get (ci := 1) (C := RX1) (T := TX1) (N := 5) (v := .int (v 8 f 3)) hx hb hts (fun _ h => List.mem_cons_of_mem _ (List.mem_append_left _ (List.mem_append_left _ (List.mem_append_left _ (List.mem_append_right _ (h)))))) hown hE (hW.at 8 f hf) rfl 3 (by decide) (hts (.fieldLink RX4 98 "RoamingHouse$CallFile" "size" "I") (by decide +kernel)) rfl dX4_lookAt_29 ?_
    refine lv_icmp_le (tgt := 43) hx hb dX4_lookAt_32 (by decide) (fun c3 => ?_) (fun c3 => ?_)
    · have hlk : c_look r v nc f = c_acc r (wr v 8 f 2 5) f nc := (if_neg hl1).trans (if_neg (le_nlt c3))
      refine lv_aload_n hx hb dX4_lookAt_43 rfl (lv_at hl 1 rfl) ?_
      refine lv_iconst (v := 5) hx hb dX4_lookAt_44 (by decide) ?_
      refine rh_put (ci := 1) (C := RX1) (T := TX1) (N := 5) (x := 5) hx hb hts (fun _ h => List.mem_cons_of_mem _ (List.mem_append_left _ (List.mem_append_left _ (List.mem_append_left _ (List.mem_append_right _ (h)))))) tyX1 tyX1_ok nmX1 hown hE hW hD hS rfl 8 f hf rfl 2 (by decide) (hts (.fieldLink RX4 88 "RoamingHouse$CallFile" "state" "I") (by decide +kernel)) rfl rfl rfl (Nat.le_of_ble_eq_true rfl) rfl dX4_lookAt_45 (fun H locs hW hS => ?_)
      refine lv_aload_n hx hb dX4_lookAt_48 rfl (lv_at hl 0 rfl) ?_
      refine lv_aload_n hx hb dX4_lookAt_49 rfl (lv_at hl 1 rfl) ?_
      refine rh_calln (vx_runV (As := [.ref (ad 8 f)]) (rest := []) ⟨hx, hb, hml, hown, hts⟩ (ct_X4_acceptRightCallsOf l hD (wf_wr hwf (by decide) (by decide) (by decide)) f hf) (cwV 1 hts gX4_lookAt_X4_acceptRightCallsOf rfl rfl rfl (by decide +kernel) ⟨by decide, by decide⟩) (rh_preV hE hS hA (hW.at 0 0 Nat.zero_lt_one) rfl hW) rfl rfl hl.1 rfl (lv_room (Nat.le_of_ble_eq_true rfl)) dX4_lookAt_50 ⟨by decide, by decide⟩) hS (fun o H locs hN4 hS => ?_)
      obtain ⟨rfl, hW⟩ := hN4
      refine W.eq (g2 := F0 m 53 ls []) rfl ?_
      exact rh_vret hx hb hr hlocks ⟨rfl, by rw [hlk]; exact hW⟩ hS (by decide) (by decide) dX4_lookAt_53
    · have hlk : c_look r v nc f = wr v 8 f 2 4 := (if_neg hl1).trans (if_pos (nle_lt c3))
      refine lv_aload_n hx hb dX4_lookAt_35 rfl (lv_at hl 1 rfl) ?_
      refine lv_iconst (v := 4) hx hb dX4_lookAt_36 (by decide) ?_
      refine rh_put (ci := 1) (C := RX1) (T := TX1) (N := 5) (x := 4) hx hb hts (fun _ h => List.mem_cons_of_mem _ (List.mem_append_left _ (List.mem_append_left _ (List.mem_append_left _ (List.mem_append_right _ (h)))))) tyX1 tyX1_ok nmX1 hown hE hW hD hS rfl 8 f hf rfl 2 (by decide) (hts (.fieldLink RX4 88 "RoamingHouse$CallFile" "state" "I") (by decide +kernel)) rfl rfl rfl (Nat.le_of_ble_eq_true rfl) rfl dX4_lookAt_37 (fun H locs hW hS => ?_)
      refine lv_goto (tgt := 53) hx hb dX4_lookAt_40 (by decide) ?_
      exact rh_vret hx hb hr hlocks ⟨rfl, by rw [hlk]; exact hW⟩ hS (by decide) (by decide) dX4_lookAt_53
  · have hlk : c_look r v nc f = wr v 8 f 2 3 := if_pos (nle_lt c1)
    refine lv_aload_n hx hb dX4_lookAt_13 rfl (lv_at hl 1 rfl) ?_
    refine lv_iconst (v := 3) hx hb dX4_lookAt_14 (by decide) ?_
    refine rh_put (ci := 1) (C := RX1) (T := TX1) (N := 5) (x := 3) hx hb hts (fun _ h => List.mem_cons_of_mem _ (List.mem_append_left _ (List.mem_append_left _ (List.mem_append_left _ (List.mem_append_right _ (h)))))) tyX1 tyX1_ok nmX1 hown hE hW hD hS rfl 8 f hf rfl 2 (by decide) (hts (.fieldLink RX4 88 "RoamingHouse$CallFile" "state" "I") (by decide +kernel)) rfl rfl rfl (Nat.le_of_ble_eq_true rfl) rfl dX4_lookAt_15 (fun H locs hW hS => ?_)
    refine lv_goto (tgt := 53) hx hb dX4_lookAt_18 (by decide) ?_
    exact rh_vret hx hb hr hlocks ⟨rfl, by rw [hlk]; exact hW⟩ hS (by decide) (by decide) dX4_lookAt_53
set_option maxHeartbeats 4000000 in
set_option maxRecDepth 100000 in
/-- a file with the expected number, and those that waited for it -/
theorem ct_X4_lookAtAllFrom (l : Launch) {G : va_G} {ca : Nat → ClassId} {A : Nat → Prop} {ad : Nat → Nat → Nat} {nf nc : Nat} {r : rh_R} {v : rh_V} (hD : rh_D A ad (fun k i => i < rh_n nf nc k)) (hwf : rh_wf nf nc r v) (f : Nat) (hf : f < nf) : rh_M l yX4_lookAtAllFrom wsX4_lookAtAllFrom ({ frames := 4, cells := 0, slots := 0, locals := 120 } : Room) G ca A [.ref (ad 0 0), .ref (ad 8 f)] (rh_W G ca ad nf nc r v) (fun o H => o = none ∧ rh_W G ca ad nf nc r (c_all r nf nc (r 8 f) 30 v (some f)) H) rh_no 0 0 := by
  obtain ⟨hnf, hnc, hr8, hr9, hfc, hcc, hst, ⟨tt, htt, hnow⟩, hai⟩ := id hwf
  refine rh_enter (cc := cX4_lookAtAllFrom) (maxL := 5) (ret := none) (by decide) rfl (Nat.le_of_ble_eq_true rfl) ?_
  intro p e s m below meth c ls hx hb hr hml hown hts hlocks hex hin hE hA hW hl
  have hS : va_S A s.heap s.heap [] := va_S.rf
  have hl : lv_has ls 5 [(0, .ref (ad 0 0)), (1, .ref (ad 8 f))] := hl
  refine lv_aload_n hx hb dX4_lookAtAllFrom_0 rfl (lv_at hl 1 rfl) ?_
  refine rh_get (ci := 1) (C := RX1) (T := TX1) (N := 5) (v := .ref (ad 6 (r 8 f))) hx hb hts (fun _ h => List.mem_cons_of_mem _ (List.mem_append_left _ (List.mem_append_left _ (List.mem_append_left _ (List.mem_append_left _ (List.mem_append_right _ (h))))))) hown hE (hW.at 8 f hf) rfl 0 (by decide) (hts (.fieldLink RX4 103 "RoamingHouse$CallFile" "pair" "LRoamingHouse$Pair;") (by decide +kernel)) rfl dX4_lookAtAllFrom_1 ?_
  refine lv_astore_n (lv' := [(2, .ref (ad 6 (r 8 f))), (0, .ref (ad 0 0)), (1, .ref (ad 8 f))]) hx hb dX4_lookAtAllFrom_4 rfl hl (by decide) rfl (fun ls hl => ?_)
  refine lv_aload_n hx hb dX4_lookAtAllFrom_5 rfl (lv_at hl 2 rfl) ?_
  refine lv_astore_n (lv' := [(3, .ref (ad 8 f)), (2, .ref (ad 6 (r 8 f))), (0, .ref (ad 0 0)), (1, .ref (ad 8 f))]) hx hb dX4_lookAtAllFrom_6 rfl hl (by decide) rfl (fun ls hl => ?_)
  refine lv_iconst (v := 0) hx hb dX4_lookAtAllFrom_7 (by decide) ?_
  refine lv_istore (lv' := [(4, .int 0), (3, .ref (ad 8 f)), (2, .ref (ad 6 (r 8 f))), (0, .ref (ad 0 0)), (1, .ref (ad 8 f))]) hx hb dX4_lookAtAllFrom_8 hl (by decide) rfl (fun ls hl => ?_)
  have loop10 : ∀ (n : Nat) (j : Nat) (u : rh_V) (o : Option Nat) (H : Heap) (locs : List Loc) (ls : Array Slot), 31 ≤ j + n → j ≤ 30 → (∀ g : Nat, o = some g → g < nf) → rh_wf nf nc r u → c_all r nf nc (r 8 f) (30 - j) u o = c_all r nf nc (r 8 f) 30 v (some f) → rh_W G ca ad nf nc r u H → va_S A s.heap H locs → lv_has ls 5 [(0, .ref (ad 0 0)), (1, .ref (ad 8 f)), (2, .ref (ad 6 (r 8 f))), (3, va_rf (Option.map (ad 8) o)), (4, .int (nI j))] → W p l e ({ frames := 4, cells := 0, slots := 0, locals := 120 } : Room) s m ([.ref (ad 0 0), .ref (ad 8 f)] : List Value).toArray below meth c H locs 0 0 (vx_MQ below (rh_Q A (fun o H => o = none ∧ rh_W G ca ad nf nc r (c_all r nf nc (r 8 f) 30 v (some f)) H)) (rh_XC A rh_no) ([.ref (ad 0 0), .ref (ad 8 f)] : List Value).toArray s 0 0 A) (F0 m 10 ls []) := by
    intro n
    induction n with
    | zero => intro j u o H locs ls hjn hj ho hwfj hall hW hS hl; exact absurd hjn (by omega)
    | succ n ih =>
      intro j u o H locs ls hjn hj ho hwfj hall hW hS hl
      rcases o with _ | g
      · have hl : lv_has ls 5 [(0, .ref (ad 0 0)), (1, .ref (ad 8 f)), (2, .ref (ad 6 (r 8 f))), (3, .null), (4, .int (nI j))] := hl
        refine lv_iload hx hb dX4_lookAtAllFrom_10 (lv_at hl 4 rfl) ?_
        refine lv_bipush (v := 30) hx hb dX4_lookAtAllFrom_12 (by decide) ?_
        refine lv_icmp_ge (tgt := 52) hx hb dX4_lookAtAllFrom_14 (by decide) (fun c1 => ?_) (fun c1 => ?_)
        · have hj30 : 30 - j = 0 := by
            rcases Nat.lt_or_ge j 30 with z | z
            · exact absurd c1 (nI_ge (b := 30) z (by decide))
            · omega
          have hfin : c_all r nf nc (r 8 f) 30 v (some f) = u := by
            rw [← hall, hj30]; rfl
          exact rh_vret hx hb hr hlocks ⟨rfl, by rw [hfin]; exact hW⟩ hS (by decide) (by decide) dX4_lookAtAllFrom_52
        · have hjl : j < 30 := by
            rcases Nat.lt_or_ge j 30 with z | z
            · exact z
            · exact absurd (nI_le (a := 30) z (by omega)) c1
          have hfin : c_all r nf nc (r 8 f) 30 v (some f) = u := by
            rw [← hall, show 30 - j = (30 - (j + 1)) + 1 by omega]; rfl
          refine lv_aload_nN hx hb dX4_lookAtAllFrom_17 rfl (lv_at hl 3 rfl) ?_
          refine lv_ifnullN (tgt := 52) hx hb dX4_lookAtAllFrom_18 (by decide) ?_
          exact rh_vret hx hb hr hlocks ⟨rfl, by rw [hfin]; exact hW⟩ hS (by decide) (by decide) dX4_lookAtAllFrom_52
      · have hl : lv_has ls 5 [(0, .ref (ad 0 0)), (1, .ref (ad 8 f)), (2, .ref (ad 6 (r 8 f))), (3, .ref (ad 8 g)), (4, .int (nI j))] := hl
        have hg : g < nf := ho g rfl
        refine lv_iload hx hb dX4_lookAtAllFrom_10 (lv_at hl 4 rfl) ?_
        refine lv_bipush (v := 30) hx hb dX4_lookAtAllFrom_12 (by decide) ?_
        refine lv_icmp_ge (tgt := 52) hx hb dX4_lookAtAllFrom_14 (by decide) (fun c2 => ?_) (fun c2 => ?_)
        · have hj30 : 30 - j = 0 := by
            rcases Nat.lt_or_ge j 30 with z | z
            · exact absurd c2 (nI_ge (b := 30) z (by decide))
            · omega
          have hfin : c_all r nf nc (r 8 f) 30 v (some f) = u := by
            rw [← hall, hj30]; rfl
          exact rh_vret hx hb hr hlocks ⟨rfl, by rw [hfin]; exact hW⟩ hS (by decide) (by decide) dX4_lookAtAllFrom_52
        · have hjl : j < 30 := by
            rcases Nat.lt_or_ge j 30 with z | z
            · exact z
            · exact absurd (nI_le (a := 30) z (by omega)) c2
          refine lv_aload_n hx hb dX4_lookAtAllFrom_17 rfl (lv_at hl 3 rfl) ?_
          refine lv_ifnull hx hb dX4_lookAtAllFrom_18 ?_
          refine lv_aload_n hx hb dX4_lookAtAllFrom_21 rfl (lv_at hl 0 rfl) ?_
          refine lv_aload_n hx hb dX4_lookAtAllFrom_22 rfl (lv_at hl 3 rfl) ?_
          refine rh_calln (vx_runV (As := [.ref (ad 8 g)]) (rest := []) ⟨hx, hb, hml, hown, hts⟩ (ct_X4_lookAt l hD hwfj g hg) (cwV 1 hts gX4_lookAtAllFrom_X4_lookAt rfl rfl rfl (by decide +kernel) ⟨by decide, by decide⟩) (rh_preV hE hS hA (hW.at 0 0 Nat.zero_lt_one) rfl hW) rfl rfl hl.1 rfl (lv_room (Nat.le_of_ble_eq_true rfl)) dX4_lookAtAllFrom_23 ⟨by decide, by decide⟩) hS (fun o H locs hN3 hS => ?_)
          obtain ⟨rfl, hW⟩ := hN3
          refine W.eq (g2 := F0 m 26 ls []) rfl ?_
          refine lv_aload_n hx hb dX4_lookAtAllFrom_26 rfl (lv_at hl 2 rfl) ?_
          refine lv_dup hx hb dX4_lookAtAllFrom_27 rfl ?_
          refine rh_get (ci := 3) (C := RX3) (T := TX3) (N := 7) (v := .int ((c_look r u nc g) 6 (r 8 f) 1)) hx hb hts (fun _ h => List.mem_cons_of_mem _ (List.mem_append_left _ (List.mem_append_left _ (List.mem_append_left _ (List.mem_append_right _ (h)))))) hown hE (hW.at 6 (r 8 f) (hr8 _ hf)) rfl 1 (by decide) (hts (.fieldLink RX4 107 "RoamingHouse$Pair" "expectedNumber" "I") (by decide +kernel)) rfl dX4_lookAtAllFrom_28 ?_
          refine lv_iconst (v := 1) hx hb dX4_lookAtAllFrom_31 (by decide) ?_
          refine lv_iadd hx hb dX4_lookAtAllFrom_32 ?_
          refine rh_put (ci := 3) (C := RX3) (T := TX3) (N := 7) (x := ((c_look r u nc g) 6 (r 8 f) 1 + 1)) hx hb hts (fun _ h => List.mem_cons_of_mem _ (List.mem_append_left _ (List.mem_append_left _ (List.mem_append_left _ (List.mem_append_right _ (h)))))) tyX3 tyX3_ok nmX3 hown hE hW hD hS rfl 6 (r 8 f) (hr8 _ hf) rfl 1 (by decide) (hts (.fieldLink RX4 107 "RoamingHouse$Pair" "expectedNumber" "I") (by decide +kernel)) rfl rfl rfl (Nat.le_of_ble_eq_true rfl) rfl dX4_lookAtAllFrom_33 (fun H locs hW hS => ?_)
          refine lv_aload_n hx hb dX4_lookAtAllFrom_36 rfl (lv_at hl 0 rfl) ?_
          refine lv_aload_n hx hb dX4_lookAtAllFrom_37 rfl (lv_at hl 2 rfl) ?_
          refine lv_aload_n hx hb dX4_lookAtAllFrom_38 rfl (lv_at hl 2 rfl) ?_
          refine rh_get (ci := 3) (C := RX3) (T := TX3) (N := 7) (v := .int ((c_look r u nc g) 6 (r 8 f) 1 + 1)) hx hb hts (fun _ h => List.mem_cons_of_mem _ (List.mem_append_left _ (List.mem_append_left _ (List.mem_append_left _ (List.mem_append_right _ (h)))))) hown hE (hW.at 6 (r 8 f) (hr8 _ hf)) rfl 1 (by decide) (hts (.fieldLink RX4 107 "RoamingHouse$Pair" "expectedNumber" "I") (by decide +kernel)) (show some (Value.int ((wr (c_look r u nc g) 6 (r 8 f) 1 ((c_look r u nc g) 6 (r 8 f) 1 + 1)) 6 (r 8 f) 1)) = some (Value.int (((c_look r u nc g) 6 (r 8 f) 1 + 1))) from by simp [wr_at]) dX4_lookAtAllFrom_39 ?_
          refine rh_calln (vx_runV (As := [.ref (ad 6 (r 8 f)), .int ((c_look r u nc g) 6 (r 8 f) 1 + 1)]) (rest := []) ⟨hx, hb, hml, hown, hts⟩ (ct_X4_waitingFile l hD (wf_wr (c_look_wf hwfj) (by decide) (by decide) (by decide)) (r 8 f) (hr8 _ hf) ((c_look r u nc g) 6 (r 8 f) 1 + 1)) (cwV 2 hts gX4_lookAtAllFrom_X4_waitingFile rfl rfl rfl (by decide +kernel) ⟨by decide, by decide⟩) (rh_preV hE hS hA (hW.at 0 0 Nat.zero_lt_one) rfl hW) rfl rfl hl.1 rfl (lv_room (Nat.le_of_ble_eq_true rfl)) dX4_lookAtAllFrom_42 ⟨by decide, by decide⟩) hS (fun o H locs hN4 hS => ?_)
          obtain ⟨⟨jw, hjw, hwt, rfl⟩ | ⟨hwt, rfl⟩, hW⟩ := hN4
          · refine W.eq (g2 := F0 m 45 ls [.ref (ad 8 jw)]) rfl ?_
            refine lv_astore_n (lv' := [(3, .ref (ad 8 jw)), (0, .ref (ad 0 0)), (1, .ref (ad 8 f)), (2, .ref (ad 6 (r 8 f))), (4, .int (nI j))]) hx hb dX4_lookAtAllFrom_45 rfl hl (by decide) rfl (fun ls hl => ?_)
            refine lv_iinc (v := nI (j + 1)) (lv' := [(4, .int (nI (j + 1))), (3, .ref (ad 8 jw)), (0, .ref (ad 0 0)), (1, .ref (ad 8 f)), (2, .ref (ad 6 (r 8 f)))]) hx hb dX4_lookAtAllFrom_46 hl (k := 4) rfl (nI_1 j) (by decide) rfl (fun ls hl => ?_)
            refine lv_goto (tgt := 10) hx hb dX4_lookAtAllFrom_49 (by decide) ?_
            exact ih (j + 1) (wr (c_look r u nc g) 6 (r 8 f) 1 ((c_look r u nc g) 6 (r 8 f) 1 + 1)) (some jw) _ _ _ (by omega) (by omega) (fun g hg => by rw [← Option.some.inj hg]; exact hjw) (wf_wr (c_look_wf hwfj) (by decide) (by decide) (by decide)) (by rw [← hall, show 30 - j = (30 - (j + 1)) + 1 by omega]; show _ = c_all r nf nc (r 8 f) (30 - (j + 1)) (wr (c_look r u nc g) 6 (r 8 f) 1 ((c_look r u nc g) 6 (r 8 f) 1 + 1)) (c_wait r (wr (c_look r u nc g) 6 (r 8 f) 1 ((c_look r u nc g) 6 (r 8 f) 1 + 1)) nf (r 8 f) (c_look r u nc g 6 (r 8 f) 1 + 1)); rw [hwt]) hW hS (lv_sub hl [2, 3, 4, 1, 0] rfl)
          · refine W.eq (g2 := F0 m 45 ls [.null]) rfl ?_
            refine lv_astore_nN (lv' := [(3, .null), (0, .ref (ad 0 0)), (1, .ref (ad 8 f)), (2, .ref (ad 6 (r 8 f))), (4, .int (nI j))]) hx hb dX4_lookAtAllFrom_45 rfl hl (by decide) rfl (fun ls hl => ?_)
            refine lv_iinc (v := nI (j + 1)) (lv' := [(4, .int (nI (j + 1))), (3, .null), (0, .ref (ad 0 0)), (1, .ref (ad 8 f)), (2, .ref (ad 6 (r 8 f)))]) hx hb dX4_lookAtAllFrom_46 hl (k := 4) rfl (nI_1 j) (by decide) rfl (fun ls hl => ?_)
            refine lv_goto (tgt := 10) hx hb dX4_lookAtAllFrom_49 (by decide) ?_
            exact ih (j + 1) (wr (c_look r u nc g) 6 (r 8 f) 1 ((c_look r u nc g) 6 (r 8 f) 1 + 1)) none _ _ _ (by omega) (by omega) (fun g hg => nomatch hg) (wf_wr (c_look_wf hwfj) (by decide) (by decide) (by decide)) (by rw [← hall, show 30 - j = (30 - (j + 1)) + 1 by omega]; show _ = c_all r nf nc (r 8 f) (30 - (j + 1)) (wr (c_look r u nc g) 6 (r 8 f) 1 ((c_look r u nc g) 6 (r 8 f) 1 + 1)) (c_wait r (wr (c_look r u nc g) 6 (r 8 f) 1 ((c_look r u nc g) 6 (r 8 f) 1 + 1)) nf (r 8 f) (c_look r u nc g 6 (r 8 f) 1 + 1)); rw [hwt]) hW hS (lv_sub hl [2, 3, 4, 1, 0] rfl)
  exact loop10 31 0 v (some f) _ _ _ (by omega) (by omega) (fun g hg => by rw [← Option.some.inj hg]; exact hf) hwf rfl hW hS (lv_sub hl [3, 4, 2, 1, 0] rfl)
set_option maxHeartbeats 4000000 in
set_option maxRecDepth 100000 in
/-- disputes without an answer are given back -/
theorem ct_X4_giveBackUnanswered (l : Launch) {G : va_G} {ca : Nat → ClassId} {A : Nat → Prop} {ad : Nat → Nat → Nat} {nf nc : Nat} {r : rh_R} {v : rh_V} (hD : rh_D A ad (fun k i => i < rh_n nf nc k)) (hwf : rh_wf nf nc r v)  : rh_M l yX4_giveBackUnanswered wsX4_giveBackUnanswered ({ frames := 0, cells := 0, slots := 0, locals := 0 } : Room) G ca A [.ref (ad 0 0)] (rh_W G ca ad nf nc r v) (fun o H => o = none ∧ rh_W G ca ad nf nc r (c_gb v nc) H) rh_no 0 0 := by
  obtain ⟨hnf, hnc, hr8, hr9, hfc, hcc, hst, ⟨tt, htt, hnow⟩, hai⟩ := id hwf
  refine rh_enter (cc := cX4_giveBackUnanswered) (maxL := 3) (ret := none) (by decide) rfl (Nat.le_of_ble_eq_true rfl) ?_
  intro p e s m below meth c ls hx hb hr hml hown hts hlocks hex hin hE hA hW hl
  have hS : va_S A s.heap s.heap [] := va_S.rf
  have hl : lv_has ls 3 [(0, .ref (ad 0 0))] := hl
  refine lv_iconst (v := 0) hx hb dX4_giveBackUnanswered_0 (by decide) ?_
  refine lv_istore_n (lv' := [(1, .int 0), (0, .ref (ad 0 0))]) hx hb dX4_giveBackUnanswered_1 rfl hl (by decide) rfl (fun ls hl => ?_)
  have loop2 : ∀ (n : Nat) (j : Nat) (H : Heap) (locs : List Loc) (ls : Array Slot), nc + 1 ≤ j + n → j ≤ nc → rh_W G ca ad nf nc r (c_gb v j) H → va_S A s.heap H locs → lv_has ls 3 [(0, .ref (ad 0 0)), (1, .int (nI j))] → W p l e ({ frames := 0, cells := 0, slots := 0, locals := 0 } : Room) s m ([.ref (ad 0 0)] : List Value).toArray below meth c H locs 0 0 (vx_MQ below (rh_Q A (fun o H => o = none ∧ rh_W G ca ad nf nc r (c_gb v nc) H)) (rh_XC A rh_no) ([.ref (ad 0 0)] : List Value).toArray s 0 0 A) (F0 m 2 ls []) := by
    intro n
    induction n with
    | zero => intro j H locs ls hjn hj hW hS hl; exact absurd hjn (by omega)
    | succ n ih =>
      intro j H locs ls hjn hj hW hS hl
      have hwfj := c_gb_wf hwf j hj
      have hccj := hwfj.2.2.2.2.2.1
      have hnw : c_gb v j 0 0 6 = v 0 0 6 := by rw [c_gb_now]
      refine lv_iload_n hx hb dX4_giveBackUnanswered_2 rfl (lv_at hl 1 rfl) ?_
      refine lv_aload_n hx hb dX4_giveBackUnanswered_3 rfl (lv_at hl 0 rfl) ?_
      refine rh_get (ci := 4) (C := RX4) (T := TX4) (N := 7) (v := .int ((c_gb v j) 0 0 5)) hx hb hts (fun _ h => List.mem_cons_of_mem _ (List.mem_append_left _ (List.mem_append_right _ (h)))) hown hE (hW.at 0 0 Nat.zero_lt_one) rfl 5 (by decide) (hts (.fieldLink RX4 37 "RoamingHouse" "callCount" "I") (by decide +kernel)) rfl dX4_giveBackUnanswered_4 ?_
      refine lv_icmp_ge (tgt := 49) hx hb dX4_giveBackUnanswered_7 (by decide) (fun c1 => ?_) (fun c1 => ?_)
      · have hjf : j = nc := by
          rcases Nat.lt_or_ge j nc with z | z
          · exact absurd (by rw [← hccj]; exact c1) (nI_ge z (by omega))
          · omega
        exact rh_vret hx hb hr hlocks ⟨rfl, by rw [hjf] at hW; exact hW⟩ hS (by decide) (by decide) dX4_giveBackUnanswered_49
      · have hjl : j < nc := by
          rcases Nat.lt_or_ge j nc with z | z
          · exact z
          · exact absurd (by rw [hccj]; exact nI_le z (by omega)) c1
        refine lv_aload_n hx hb dX4_giveBackUnanswered_10 rfl (lv_at hl 0 rfl) ?_
        refine rh_get (ci := 4) (C := RX4) (T := TX4) (N := 7) (v := .ref (ad 4 0)) hx hb hts (fun _ h => List.mem_cons_of_mem _ (List.mem_append_left _ (List.mem_append_right _ (h)))) hown hE (hW.at 0 0 Nat.zero_lt_one) rfl 4 (by decide) (hts (.fieldLink RX4 33 "RoamingHouse" "callRows" "[LRoamingHouse$Call;") (by decide +kernel)) rfl dX4_giveBackUnanswered_11 ?_
        refine lv_iload_n hx hb dX4_giveBackUnanswered_14 rfl (lv_at hl 1 rfl) ?_
        refine rh_qald hx hb hE 6 rfl (hW.at 4 0 Nat.zero_lt_one) j (by omega) (by decide) rfl (q := ad 9 j) (if_pos hjl) dX4_giveBackUnanswered_15 ?_
        refine lv_astore_n (lv' := [(2, .ref (ad 9 j)), (0, .ref (ad 0 0)), (1, .int (nI j))]) hx hb dX4_giveBackUnanswered_16 rfl hl (by decide) rfl (fun ls hl => ?_)
        refine lv_aload_n hx hb dX4_giveBackUnanswered_17 rfl (lv_at hl 0 rfl) ?_
        refine rh_get (ci := 0) (C := RX0) (T := TX0) (N := 7) (v := .int ((c_gb v j) 9 j 3)) hx hb hts (fun _ h => List.mem_cons_of_mem _ (List.mem_append_right _ (h))) hown hE (hW.at 9 j hjl) rfl 3 (by decide) (hts (.fieldLink RX4 131 "RoamingHouse$Call" "state" "I") (by decide +kernel)) rfl dX4_giveBackUnanswered_18 ?_
        refine lv_iconst (v := 2) hx hb dX4_giveBackUnanswered_21 (by decide) ?_
        refine lv_icmp_ne (tgt := 43) hx hb dX4_giveBackUnanswered_22 (by decide) (fun c2 => ?_) (fun c2 => ?_)
        · have hW : rh_W G ca ad nf nc r (c_gb v (j + 1)) H := by rw [show c_gb v (j + 1) = c_gb v j from if_neg (fun z => c2 z.1)]; exact hW
          refine lv_iinc (v := nI (j + 1)) (lv' := [(1, .int (nI (j + 1))), (2, .ref (ad 9 j)), (0, .ref (ad 0 0))]) hx hb dX4_giveBackUnanswered_43 hl (k := 2) rfl (nI_1 j) (by decide) rfl (fun ls hl => ?_)
          refine lv_goto (tgt := 2) hx hb dX4_giveBackUnanswered_46 (by decide) ?_
          exact ih (j + 1) _ _ _ (by omega) (by omega) hW hS (lv_sub hl [2, 0] rfl)
        · have hs2 := c2
          refine lv_aload_n hx hb dX4_giveBackUnanswered_25 rfl (lv_at hl 1 rfl) ?_
          refine rh_get (ci := 4) (C := RX4) (T := TX4) (N := 7) (v := .int ((c_gb v j) 0 0 6)) hx hb hts (fun _ h => List.mem_cons_of_mem _ (List.mem_append_left _ (List.mem_append_right _ (h)))) hown hE (hW.at 0 0 Nat.zero_lt_one) rfl 6 (by decide) (hts (.fieldLink RX4 40 "RoamingHouse" "now" "I") (by decide +kernel)) rfl dX4_giveBackUnanswered_26 ?_
          refine lv_aload_n hx hb dX4_giveBackUnanswered_29 rfl (lv_at hl 0 rfl) ?_
          refine rh_get (ci := 0) (C := RX0) (T := TX0) (N := 7) (v := .int ((c_gb v j) 9 j 5)) hx hb hts (fun _ h => List.mem_cons_of_mem _ (List.mem_append_right _ (h))) hown hE (hW.at 9 j hjl) rfl 5 (by decide) (hts (.fieldLink RX4 143 "RoamingHouse$Call" "disputedIn" "I") (by decide +kernel)) rfl dX4_giveBackUnanswered_30 ?_
          refine lv_isub hx hb dX4_giveBackUnanswered_33 ?_
          refine lv_iconst (v := 2) hx hb dX4_giveBackUnanswered_34 (by decide) ?_
          refine lv_icmp_lt (tgt := 43) hx hb dX4_giveBackUnanswered_35 (by decide) (fun c3 => ?_) (fun c3 => ?_)
          · have hW : rh_W G ca ad nf nc r (c_gb v (j + 1)) H := by rw [show c_gb v (j + 1) = c_gb v j from if_neg (fun z => z.2 (by rw [← hnw]; exact c3))]; exact hW
            refine lv_iinc (v := nI (j + 1)) (lv' := [(1, .int (nI (j + 1))), (2, .ref (ad 9 j)), (0, .ref (ad 0 0))]) hx hb dX4_giveBackUnanswered_43 hl (k := 2) rfl (nI_1 j) (by decide) rfl (fun ls hl => ?_)
            refine lv_goto (tgt := 2) hx hb dX4_giveBackUnanswered_46 (by decide) ?_
            exact ih (j + 1) _ _ _ (by omega) (by omega) hW hS (lv_sub hl [2, 0] rfl)
          · refine lv_aload_n hx hb dX4_giveBackUnanswered_38 rfl (lv_at hl 0 rfl) ?_
            refine lv_iconst (v := 4) hx hb dX4_giveBackUnanswered_39 (by decide) ?_
            refine rh_put (ci := 0) (C := RX0) (T := TX0) (N := 7) (x := 4) hx hb hts (fun _ h => List.mem_cons_of_mem _ (List.mem_append_right _ (h))) tyX0 tyX0_ok nmX0 hown hE hW hD hS rfl 9 j hjl rfl 3 (by decide) (hts (.fieldLink RX4 131 "RoamingHouse$Call" "state" "I") (by decide +kernel)) rfl rfl rfl (Nat.le_of_ble_eq_true rfl) rfl dX4_giveBackUnanswered_40 (fun H locs hW hS => ?_)
            have hW : rh_W G ca ad nf nc r (c_gb v (j + 1)) H := by rw [show c_gb v (j + 1) = wr (c_gb v j) 9 j 3 4 from if_pos ⟨hs2, fun z => c3 (by rw [hnw]; exact z)⟩]; exact hW
            refine lv_iinc (v := nI (j + 1)) (lv' := [(1, .int (nI (j + 1))), (2, .ref (ad 9 j)), (0, .ref (ad 0 0))]) hx hb dX4_giveBackUnanswered_43 hl (k := 2) rfl (nI_1 j) (by decide) rfl (fun ls hl => ?_)
            refine lv_goto (tgt := 2) hx hb dX4_giveBackUnanswered_46 (by decide) ?_
            exact ih (j + 1) _ _ _ (by omega) (by omega) hW hS (lv_sub hl [2, 0] rfl)
  exact loop2 (nc + 1) 0  _ _ _ (by omega) (by omega)  hW hS (lv_sub hl [1, 0] rfl)
set_option maxHeartbeats 4000000 in
set_option maxRecDepth 100000 in
/-- what a pair owes for months -/
theorem ct_X4_amountOfMonths (l : Launch) {G : va_G} {ca : Nat → ClassId} {A : Nat → Prop} {ad : Nat → Nat → Nat} {nf nc : Nat} {r : rh_R} {v : rh_V} (hD : rh_D A ad (fun k i => i < rh_n nf nc k)) (hwf : rh_wf nf nc r v) (q : Nat) (hq : q < 16) (a b : Int32) : rh_M l yX4_amountOfMonths wsX4_amountOfMonths ({ frames := 2, cells := 0, slots := 0, locals := 60 } : Room) G ca A [.ref (ad 0 0), .ref (ad 6 q), .int a, .int b] (rh_W G ca ad nf nc r v) (fun o H => o = some (.long (c_sum r v q a b nc)) ∧ rh_W G ca ad nf nc r v H) rh_no 0 0 := by
  obtain ⟨hnf, hnc, hr8, hr9, hfc, hcc, hst, ⟨tt, htt, hnow⟩, hai⟩ := id hwf
  refine rh_enter (cc := cX4_amountOfMonths) (maxL := 8) (ret := (some .long)) (by decide) rfl (Nat.le_of_ble_eq_true rfl) ?_
  intro p e s m below meth c ls hx hb hr hml hown hts hlocks hex hin hE hA hW hl
  have hS : va_S A s.heap s.heap [] := va_S.rf
  have hl : lv_has ls 8 [(0, .ref (ad 0 0)), (1, .ref (ad 6 q)), (2, .int a), (3, .int b)] := hl
  refine lv_lconst (v := 0) hx hb dX4_amountOfMonths_0 rfl ?_
  refine lv_lstore (lv' := [(4, .long 0), (0, .ref (ad 0 0)), (1, .ref (ad 6 q)), (2, .int a), (3, .int b)]) hx hb dX4_amountOfMonths_1 hl (by decide) rfl (fun ls hl => ?_)
  refine lv_iconst (v := 0) hx hb dX4_amountOfMonths_3 (by decide) ?_
  refine lv_istore (lv' := [(6, .int 0), (4, .long 0), (0, .ref (ad 0 0)), (1, .ref (ad 6 q)), (2, .int a), (3, .int b)]) hx hb dX4_amountOfMonths_4 hl (by decide) rfl (fun ls hl => ?_)
  have loop6 : ∀ (n : Nat) (j : Nat) (w : Int64) (H : Heap) (locs : List Loc) (ls : Array Slot), nc + 1 ≤ j + n → j ≤ nc → w = c_sum r v q a b j → rh_W G ca ad nf nc r v H → va_S A s.heap H locs → lv_has ls 8 [(0, .ref (ad 0 0)), (1, .ref (ad 6 q)), (2, .int a), (3, .int b), (4, .long w), (6, .int (nI j))] → W p l e ({ frames := 2, cells := 0, slots := 0, locals := 60 } : Room) s m ([.ref (ad 0 0), .ref (ad 6 q), .int a, .int b] : List Value).toArray below meth c H locs 0 0 (vx_MQ below (rh_Q A (fun o H => o = some (.long (c_sum r v q a b nc)) ∧ rh_W G ca ad nf nc r v H)) (rh_XC A rh_no) ([.ref (ad 0 0), .ref (ad 6 q), .int a, .int b] : List Value).toArray s 0 0 A) (F0 m 6 ls []) := by
    intro n
    induction n with
    | zero => intro j w H locs ls hjn hj hw hW hS hl; exact absurd hjn (by omega)
    | succ n ih =>
      intro j w H locs ls hjn hj hw hW hS hl
      refine lv_iload hx hb dX4_amountOfMonths_6 (lv_at hl 5 rfl) ?_
      refine lv_aload_n hx hb dX4_amountOfMonths_8 rfl (lv_at hl 0 rfl) ?_
      refine rh_get (ci := 4) (C := RX4) (T := TX4) (N := 7) (v := .int (v 0 0 5)) hx hb hts (fun _ h => List.mem_cons_of_mem _ (List.mem_append_left _ (List.mem_append_left _ (List.mem_append_left _ (List.mem_append_right _ (h)))))) hown hE (hW.at 0 0 Nat.zero_lt_one) rfl 5 (by decide) (hts (.fieldLink RX4 37 "RoamingHouse" "callCount" "I") (by decide +kernel)) rfl dX4_amountOfMonths_9 ?_
      refine lv_icmp_ge (tgt := 71) hx hb dX4_amountOfMonths_12 (by decide) (fun c1 => ?_) (fun c1 => ?_)
      · have hjf : j = nc := by
          rcases Nat.lt_or_ge j nc with z | z
          · exact absurd (by rw [← hcc]; exact c1) (nI_ge z (by omega))
          · omega
        refine lv_lload hx hb dX4_amountOfMonths_71 (lv_at hl 4 rfl) ?_
        exact rh_lret hx hb hr hlocks ⟨by rw [hw, hjf], hW⟩ hS (by decide) (by decide) dX4_amountOfMonths_73
      · have hjl : j < nc := by
          rcases Nat.lt_or_ge j nc with z | z
          · exact z
          · exact absurd (by rw [hcc]; exact nI_le z (by omega)) c1
        refine lv_aload_n hx hb dX4_amountOfMonths_15 rfl (lv_at hl 0 rfl) ?_
        refine rh_get (ci := 4) (C := RX4) (T := TX4) (N := 7) (v := .ref (ad 4 0)) hx hb hts (fun _ h => List.mem_cons_of_mem _ (List.mem_append_left _ (List.mem_append_left _ (List.mem_append_left _ (List.mem_append_right _ (h)))))) hown hE (hW.at 0 0 Nat.zero_lt_one) rfl 4 (by decide) (hts (.fieldLink RX4 33 "RoamingHouse" "callRows" "[LRoamingHouse$Call;") (by decide +kernel)) rfl dX4_amountOfMonths_16 ?_
        refine lv_iload hx hb dX4_amountOfMonths_19 (lv_at hl 5 rfl) ?_
        refine rh_qald hx hb hE 6 rfl (hW.at 4 0 Nat.zero_lt_one) j (by omega) (by decide) rfl (q := ad 9 j) (if_pos hjl) dX4_amountOfMonths_21 ?_
        refine lv_astore (lv' := [(7, .ref (ad 9 j)), (0, .ref (ad 0 0)), (1, .ref (ad 6 q)), (2, .int a), (3, .int b), (4, .long w), (6, .int (nI j))]) hx hb dX4_amountOfMonths_22 hl (by decide) rfl (fun ls hl => ?_)
        refine lv_aload hx hb dX4_amountOfMonths_24 (lv_at hl 0 rfl) ?_
        refine rh_get (ci := 0) (C := RX0) (T := TX0) (N := 7) (v := .ref (ad 8 (r 9 j))) hx hb hts (fun _ h => List.mem_cons_of_mem _ (List.mem_append_left _ (List.mem_append_left _ (List.mem_append_right _ (h))))) hown hE (hW.at 9 j hjl) rfl 0 (by decide) (hts (.fieldLink RX4 221 "RoamingHouse$Call" "file" "LRoamingHouse$CallFile;") (by decide +kernel)) rfl dX4_amountOfMonths_26 ?_
        refine rh_get (ci := 1) (C := RX1) (T := TX1) (N := 5) (v := .ref (ad 6 (r 8 (r 9 j)))) hx hb hts (fun _ h => List.mem_cons_of_mem _ (List.mem_append_left _ (List.mem_append_right _ (h)))) hown hE (hW.at 8 (r 9 j) (hr9 _ hjl)) rfl 0 (by decide) (hts (.fieldLink RX4 103 "RoamingHouse$CallFile" "pair" "LRoamingHouse$Pair;") (by decide +kernel)) rfl dX4_amountOfMonths_29 ?_
        refine lv_aload_n hx hb dX4_amountOfMonths_32 rfl (lv_at hl 2 rfl) ?_
        refine lv_acmp_ne (rx := (some (ad 6 (r 8 (r 9 j))))) (ry := (some (ad 6 q))) (tgt := 65) hx hb dX4_amountOfMonths_33 (by decide) (fun c2 => ?_) (fun c2 => ?_)
        · refine lv_iinc (v := nI (j + 1)) (lv' := [(6, .int (nI (j + 1))), (7, .ref (ad 9 j)), (0, .ref (ad 0 0)), (1, .ref (ad 6 q)), (2, .int a), (3, .int b), (4, .long w)]) hx hb dX4_amountOfMonths_65 hl (k := 6) rfl (nI_1 j) (by decide) rfl (fun ls hl => ?_)
          refine lv_goto (tgt := 6) hx hb dX4_amountOfMonths_68 (by decide) ?_
          exact ih (j + 1) w _ _ _ (by omega) (by omega) (by rw [hw]; exact (if_neg (fun z => c2 (congrArg (fun y => some (ad 6 y)) z.1))).symm) hW hS (lv_sub hl [2, 3, 4, 5, 6, 0] rfl)
        · have hpq : c_pr r j = q := (hD.1 6 (r 8 (r 9 j)) 6 q (hr8 _ (hr9 _ hjl)) hq (Option.some.inj c2)).2
          refine lv_aload hx hb dX4_amountOfMonths_36 (lv_at hl 0 rfl) ?_
          refine rh_get (ci := 0) (C := RX0) (T := TX0) (N := 7) (v := .int (v 9 j 4)) hx hb hts (fun _ h => List.mem_cons_of_mem _ (List.mem_append_left _ (List.mem_append_left _ (List.mem_append_right _ (h))))) hown hE (hW.at 9 j hjl) rfl 4 (by decide) (hts (.fieldLink RX4 132 "RoamingHouse$Call" "acceptedIn" "I") (by decide +kernel)) rfl dX4_amountOfMonths_38 ?_
          refine lv_iload_n hx hb dX4_amountOfMonths_41 rfl (lv_at hl 3 rfl) ?_
          refine lv_icmp_lt (tgt := 65) hx hb dX4_amountOfMonths_42 (by decide) (fun c3 => ?_) (fun c3 => ?_)
          · refine lv_iinc (v := nI (j + 1)) (lv' := [(6, .int (nI (j + 1))), (7, .ref (ad 9 j)), (0, .ref (ad 0 0)), (1, .ref (ad 6 q)), (2, .int a), (3, .int b), (4, .long w)]) hx hb dX4_amountOfMonths_65 hl (k := 6) rfl (nI_1 j) (by decide) rfl (fun ls hl => ?_)
            refine lv_goto (tgt := 6) hx hb dX4_amountOfMonths_68 (by decide) ?_
            exact ih (j + 1) w _ _ _ (by omega) (by omega) (by rw [hw]; exact (if_neg (fun z => z.2.1 c3)).symm) hW hS (lv_sub hl [2, 3, 4, 5, 6, 0] rfl)
          · have hga := c3
            refine lv_aload hx hb dX4_amountOfMonths_45 (lv_at hl 0 rfl) ?_
            refine rh_get (ci := 0) (C := RX0) (T := TX0) (N := 7) (v := .int (v 9 j 4)) hx hb hts (fun _ h => List.mem_cons_of_mem _ (List.mem_append_left _ (List.mem_append_left _ (List.mem_append_right _ (h))))) hown hE (hW.at 9 j hjl) rfl 4 (by decide) (hts (.fieldLink RX4 132 "RoamingHouse$Call" "acceptedIn" "I") (by decide +kernel)) rfl dX4_amountOfMonths_47 ?_
            refine lv_iload_n hx hb dX4_amountOfMonths_50 rfl (lv_at hl 4 rfl) ?_
            refine lv_icmp_gt (tgt := 65) hx hb dX4_amountOfMonths_51 (by decide) (fun c4 => ?_) (fun c4 => ?_)
            · refine lv_iinc (v := nI (j + 1)) (lv' := [(6, .int (nI (j + 1))), (7, .ref (ad 9 j)), (0, .ref (ad 0 0)), (1, .ref (ad 6 q)), (2, .int a), (3, .int b), (4, .long w)]) hx hb dX4_amountOfMonths_65 hl (k := 6) rfl (nI_1 j) (by decide) rfl (fun ls hl => ?_)
              refine lv_goto (tgt := 6) hx hb dX4_amountOfMonths_68 (by decide) ?_
              exact ih (j + 1) w _ _ _ (by omega) (by omega) (by rw [hw]; exact (if_neg (fun z => z.2.2 c4)).symm) hW hS (lv_sub hl [2, 3, 4, 5, 6, 0] rfl)
            · refine lv_lload hx hb dX4_amountOfMonths_54 (lv_at hl 5 rfl) ?_
              refine lv_aload hx hb dX4_amountOfMonths_56 (lv_at hl 0 rfl) ?_
              refine rh_calln (vx_runV (As := []) (rest := [.long w]) ⟨hx, hb, hml, hown, hts⟩ (ct_X0_amount l hD hwf j hjl) (cwV 0 hts gX4_amountOfMonths_X0_amount rfl rfl rfl (by decide +kernel) ⟨by decide, by decide⟩) (rh_preV hE hS hA (hW.at 9 j hjl) rfl hW) rfl rfl hl.1 rfl (lv_room (Nat.le_of_ble_eq_true rfl)) dX4_amountOfMonths_58 ⟨by decide, by decide⟩) hS (fun o H locs hN5 hS => ?_)
              obtain ⟨rfl, hW⟩ := hN5
              refine W.eq (g2 := F0 m 61 ls [.int (c_amt r v j), .long w]) rfl ?_
              refine lv_i2l hx hb dX4_amountOfMonths_61 rfl ?_
              refine lv_ladd hx hb dX4_amountOfMonths_62 ?_
              refine lv_lstore (lv' := [(4, .long (w + (c_amt r v j).toInt64)), (7, .ref (ad 9 j)), (0, .ref (ad 0 0)), (1, .ref (ad 6 q)), (2, .int a), (3, .int b), (6, .int (nI j))]) hx hb dX4_amountOfMonths_63 hl (by decide) rfl (fun ls hl => ?_)
              refine lv_iinc (v := nI (j + 1)) (lv' := [(6, .int (nI (j + 1))), (4, .long (w + (c_amt r v j).toInt64)), (7, .ref (ad 9 j)), (0, .ref (ad 0 0)), (1, .ref (ad 6 q)), (2, .int a), (3, .int b)]) hx hb dX4_amountOfMonths_65 hl (k := 6) rfl (nI_1 j) (by decide) rfl (fun ls hl => ?_)
              refine lv_goto (tgt := 6) hx hb dX4_amountOfMonths_68 (by decide) ?_
              exact ih (j + 1) (w + (c_amt r v j).toInt64) _ _ _ (by omega) (by omega) (by rw [hw]; exact (if_pos ⟨hpq, hga, c4⟩).symm) hW hS (lv_sub hl [3, 4, 5, 6, 1, 0] rfl)
  exact loop6 (nc + 1) 0 0 _ _ _ (by omega) (by omega) rfl hW hS (lv_sub hl [2, 3, 4, 5, 1, 0] rfl)
set_option maxHeartbeats 4000000 in
set_option maxRecDepth 100000 in
/-- .. in units -/
theorem ct_X4_unitsOfMonth (l : Launch) {G : va_G} {ca : Nat → ClassId} {A : Nat → Prop} {ad : Nat → Nat → Nat} {nf nc : Nat} {r : rh_R} {v : rh_V} (hD : rh_D A ad (fun k i => i < rh_n nf nc k)) (hwf : rh_wf nf nc r v) (q : Nat) (hq : q < 16) (a : Int32) : rh_M l yX4_unitsOfMonth wsX4_unitsOfMonth ({ frames := 3, cells := 0, slots := 0, locals := 90 } : Room) G ca A [.ref (ad 0 0), .ref (ad 6 q), .int a] (rh_W G ca ad nf nc r v) (fun o H => o = some (.long (c_units r v nc q a)) ∧ rh_W G ca ad nf nc r v H) rh_no 0 0 := by
  obtain ⟨hnf, hnc, hr8, hr9, hfc, hcc, hst, ⟨tt, htt, hnow⟩, hai⟩ := id hwf
  refine rh_enter (cc := cX4_unitsOfMonth) (maxL := 3) (ret := (some .long)) (by decide) rfl (Nat.le_of_ble_eq_true rfl) ?_
  intro p e s m below meth c ls hx hb hr hml hown hts hlocks hex hin hE hA hW hl
  have hS : va_S A s.heap s.heap [] := va_S.rf
  have hl : lv_has ls 3 [(0, .ref (ad 0 0)), (1, .ref (ad 6 q)), (2, .int a)] := hl
  refine lv_aload_n hx hb dX4_unitsOfMonth_0 rfl (lv_at hl 0 rfl) ?_
  refine lv_aload_n hx hb dX4_unitsOfMonth_1 rfl (lv_at hl 1 rfl) ?_
  refine lv_iload_n hx hb dX4_unitsOfMonth_2 rfl (lv_at hl 2 rfl) ?_
  refine lv_iload_n hx hb dX4_unitsOfMonth_3 rfl (lv_at hl 2 rfl) ?_
  refine rh_calln (vx_runV (As := [.ref (ad 6 q), .int a, .int a]) (rest := []) ⟨hx, hb, hml, hown, hts⟩ (ct_X4_amountOfMonths l hD hwf q hq a a) (cwV 3 hts gX4_unitsOfMonth_X4_amountOfMonths rfl rfl rfl (by decide +kernel) ⟨by decide, by decide⟩) (rh_preV hE hS hA (hW.at 0 0 Nat.zero_lt_one) rfl hW) rfl rfl hl.1 rfl (lv_room (Nat.le_of_ble_eq_true rfl)) dX4_unitsOfMonth_4 ⟨by decide, by decide⟩) hS (fun o H locs hN1 hS => ?_)
  obtain ⟨rfl, hW⟩ := hN1
  refine W.eq (g2 := F0 m 7 ls [.long (c_sum r v q a a nc)]) rfl ?_
  refine lv_aload_n hx hb dX4_unitsOfMonth_7 rfl (lv_at hl 1 rfl) ?_
  refine rh_get (ci := 3) (C := RX3) (T := TX3) (N := 7) (v := .ref (ad 5 (q / 4))) hx hb hts (fun _ h => List.mem_cons_of_mem _ (List.mem_append_left _ (List.mem_append_left _ (List.mem_append_left _ (List.mem_append_left _ (List.mem_append_right _ (h))))))) hown hE (hW.at 6 q hq) rfl 0 (by decide) (hts (.fieldLink RX4 233 "RoamingHouse$Pair" "host" "LRoamingHouse$Operator;") (by decide +kernel)) rfl dX4_unitsOfMonth_8 ?_
  refine rh_get (ci := 2) (C := RX2) (T := TX2) (N := 4) (v := .int (v 5 (q / 4) 3)) hx hb hts (fun _ h => List.mem_cons_of_mem _ (List.mem_append_left _ (List.mem_append_left _ (List.mem_append_left _ (List.mem_append_right _ (h)))))) hown hE (hW.at 5 (q / 4) (rh_h4 hq)) rfl 3 (by decide) (hts (.fieldLink RX4 164 "RoamingHouse$Operator" "unitRate" "I") (by decide +kernel)) rfl dX4_unitsOfMonth_11 ?_
  refine lv_i2l hx hb dX4_unitsOfMonth_14 rfl ?_
  refine lv_lmul hx hb dX4_unitsOfMonth_15 ?_
  refine lv_ldc2 (v := 1000) hx hb hown (hts (.constantLong RX4 237 (1000)) (by decide +kernel)) dX4_unitsOfMonth_16 ?_
  refine lv_ldiv hx hb dX4_unitsOfMonth_19 (by decide) ?_
  exact rh_lret hx hb hr hlocks ⟨rfl, hW⟩ hS (by decide) (by decide) dX4_unitsOfMonth_20
