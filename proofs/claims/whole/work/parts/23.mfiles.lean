/-! ===== the model's files ===== -/
set_option maxHeartbeats 4000000 in
set_option maxRecDepth 100000 in
/-- how many calls of a file there are, or wrong ones -/
theorem ct_X5_callsOf (l : Launch) {G : va_G} {ca : Nat → ClassId} {A : Nat → Prop} {ad : Nat → Nat → Nat} {nf nc : Nat} {r : rh_R} {w : rh_Wm} {th : Int32} (hD : rh_D A ad (fun k i => i < m_n k)) (hwf : m_wf0 nf nc r w) (f : Nat) (hf : f < nf) (bw : Int32) : rh_M l yX5_callsOf wsX5_callsOf ({ frames := 2, cells := 0, slots := 0, locals := 60 } : Room) G ca A [.ref (ad 10 0), .int (nI f), .int bw] (m_W G ca ad w th) (fun o H => o = some (.int (m_cnt r w f bw nc)) ∧ m_W G ca ad w th H) rh_no 0 0 := by
  obtain ⟨hnf, hnc, hfc, hcc, h5, h10, hst⟩ := id hwf
  refine rh_enter (cc := cX5_callsOf) (maxL := 5) (ret := (some .int)) (by decide) rfl (Nat.le_of_ble_eq_true rfl) ?_
  intro p e s m below meth c ls hx hb hr hml hown hts hlocks hex hin hE hA hW hl
  have hS : va_S A s.heap s.heap [] := va_S.rf
  have hl : lv_has ls 5 [(0, .ref (ad 10 0)), (1, .int (nI f)), (2, .int bw)] := hl
  refine lv_iconst (v := 0) hx hb dX5_callsOf_0 (by decide) ?_
  refine lv_istore_n (lv' := [(3, .int 0), (0, .ref (ad 10 0)), (1, .int (nI f)), (2, .int bw)]) hx hb dX5_callsOf_1 rfl hl (by decide) rfl (fun ls hl => ?_)
  refine lv_iconst (v := 0) hx hb dX5_callsOf_2 (by decide) ?_
  refine lv_istore (lv' := [(4, .int 0), (3, .int 0), (0, .ref (ad 10 0)), (1, .int (nI f)), (2, .int bw)]) hx hb dX5_callsOf_3 hl (by decide) rfl (fun ls hl => ?_)
  have loop5 : ∀ (n : Nat) (j : Nat) (u : Int32) (H : Heap) (locs : List Loc) (ls : Array Slot), nc + 1 ≤ j + n → j ≤ nc → u = m_cnt r w f bw j → m_W G ca ad w th H → va_S A s.heap H locs → lv_has ls 5 [(0, .ref (ad 10 0)), (1, .int (nI f)), (2, .int bw), (3, .int u), (4, .int (nI j))] → W p l e ({ frames := 2, cells := 0, slots := 0, locals := 60 } : Room) s m ([.ref (ad 10 0), .int (nI f), .int bw] : List Value).toArray below meth c H locs 0 0 (vx_MQ below (rh_Q A (fun o H => o = some (.int (m_cnt r w f bw nc)) ∧ m_W G ca ad w th H)) (rh_XC A rh_no) ([.ref (ad 10 0), .int (nI f), .int bw] : List Value).toArray s 0 0 A) (F0 m 5 ls []) := by
    intro n
    induction n with
    | zero => intro j u H locs ls hjn hj hu hW hS hl; exact absurd hjn (by omega)
    | succ n ih =>
      intro j u H locs ls hjn hj hu hW hS hl
      refine lv_iload hx hb dX5_callsOf_5 (lv_at hl 4 rfl) ?_
      refine lv_aload_n hx hb dX5_callsOf_7 rfl (lv_at hl 0 rfl) ?_
      refine rh_get (ci := 5) (C := RX5) (T := TX5) (N := 26) (v := .int (w 26 9)) hx hb hts (fun _ h => List.mem_cons_of_mem _ (List.mem_append_right _ (h))) hown hE (hW.at 10 0 Nat.zero_lt_one) rfl 9 (by decide) (hts (.fieldLink RX5 89 "RoamingHouseModel" "callMany" "I") (by decide +kernel)) rfl dX5_callsOf_8 ?_
      refine lv_icmp_ge (tgt := 52) hx hb dX5_callsOf_11 (by decide) (fun c1 => ?_) (fun c1 => ?_)
      · have hjf : j = nc := by
          rcases Nat.lt_or_ge j nc with z | z
          · exact absurd (by rw [← hcc]; exact c1) (nI_ge z (by omega))
          · omega
        refine lv_iload_n hx hb dX5_callsOf_52 rfl (lv_at hl 3 rfl) ?_
        exact rh_iret hx hb hr hlocks ⟨by rw [hu, hjf], hW⟩ hS (by decide) (by decide) dX5_callsOf_53
      · have hjl : j < nc := by
          rcases Nat.lt_or_ge j nc with z | z
          · exact z
          · exact absurd (by rw [hcc]; exact nI_le z (by omega)) c1
        refine lv_iload_n hx hb dX5_callsOf_14 rfl (lv_at hl 3 rfl) ?_
        refine lv_aload_n hx hb dX5_callsOf_15 rfl (lv_at hl 0 rfl) ?_
        refine rh_get (ci := 5) (C := RX5) (T := TX5) (N := 26) (v := .ref (ad 30 0)) hx hb hts (fun _ h => List.mem_cons_of_mem _ (List.mem_append_right _ (h))) hown hE (hW.at 10 0 Nat.zero_lt_one) rfl 10 (by decide) (hts (.fieldLink RX5 34 "RoamingHouseModel" "fileOf" "[I") (by decide +kernel)) rfl dX5_callsOf_16 ?_
        refine lv_iload hx hb dX5_callsOf_19 (lv_at hl 4 rfl) ?_
        refine rh_iald (n := 60) (f := w 10) hx hb hE (hW.at 30 0 Nat.zero_lt_one) j (by omega) (by decide) rfl dX5_callsOf_21 ?_
        refine lv_iload_n hx hb dX5_callsOf_22 rfl (lv_at hl 1 rfl) ?_
        refine lv_icmp_ne (tgt := 43) hx hb dX5_callsOf_23 (by decide) (fun c2 => ?_) (fun c2 => ?_)
        · refine lv_iconst (v := 0) hx hb dX5_callsOf_43 (by decide) ?_
          refine lv_iadd hx hb dX5_callsOf_44 ?_
          refine lv_istore_n (lv' := [(3, .int (u + 0)), (0, .ref (ad 10 0)), (1, .int (nI f)), (2, .int bw), (4, .int (nI j))]) hx hb dX5_callsOf_45 rfl hl (by decide) rfl (fun ls hl => ?_)
          refine lv_iinc (v := nI (j + 1)) (lv' := [(4, .int (nI (j + 1))), (3, .int (u + 0)), (0, .ref (ad 10 0)), (1, .int (nI f)), (2, .int bw)]) hx hb dX5_callsOf_46 hl (k := 4) rfl (nI_1 j) (by decide) rfl (fun ls hl => ?_)
          refine lv_goto (tgt := 5) hx hb dX5_callsOf_49 (by decide) ?_
          exact ih (j + 1) (u + 0) _ _ _ (by omega) (by omega) (by rw [Int32.add_zero, hu]; exact (if_neg (fun z => c2 (by rw [(h10 j hjl).2, z.1]))).symm) hW hS (lv_sub hl [2, 3, 4, 1, 0] rfl)
        · have hcf : r 9 j = f := m_inj (by have := (h10 j hjl).1; omega) (by omega) ((h10 j hjl).2.symm.trans c2)
          refine lv_iload_n hx hb dX5_callsOf_26 rfl (lv_at hl 2 rfl) ?_
          refine lv_if_eq (tgt := 39) hx hb dX5_callsOf_27 (by decide) (fun c3 => ?_) (fun c3 => ?_)
          · refine lv_iconst (v := 1) hx hb dX5_callsOf_39 (by decide) ?_
            refine lv_goto (tgt := 44) hx hb dX5_callsOf_40 (by decide) ?_
            refine lv_iadd hx hb dX5_callsOf_44 ?_
            refine lv_istore_n (lv' := [(3, .int (u + 1)), (0, .ref (ad 10 0)), (1, .int (nI f)), (2, .int bw), (4, .int (nI j))]) hx hb dX5_callsOf_45 rfl hl (by decide) rfl (fun ls hl => ?_)
            refine lv_iinc (v := nI (j + 1)) (lv' := [(4, .int (nI (j + 1))), (3, .int (u + 1)), (0, .ref (ad 10 0)), (1, .int (nI f)), (2, .int bw)]) hx hb dX5_callsOf_46 hl (k := 4) rfl (nI_1 j) (by decide) rfl (fun ls hl => ?_)
            refine lv_goto (tgt := 5) hx hb dX5_callsOf_49 (by decide) ?_
            exact ih (j + 1) (u + 1) _ _ _ (by omega) (by omega) (by rw [hu]; exact (if_pos ⟨hcf, Or.inl c3⟩).symm) hW hS (lv_sub hl [2, 3, 4, 1, 0] rfl)
          · have hbw := c3
            refine lv_aload_n hx hb dX5_callsOf_30 rfl (lv_at hl 0 rfl) ?_
            refine lv_iload hx hb dX5_callsOf_31 (lv_at hl 4 rfl) ?_
            refine rh_calln (vx_runV (As := [.int (nI j)]) (rest := [.int u]) ⟨hx, hb, hml, hown, hts⟩ (ct_X5_isRight l hD hwf j hjl) (cwV 1 hts gX5_callsOf_X5_isRight rfl rfl rfl (by decide +kernel) ⟨by decide, by decide⟩) (rh_preV hE hS hA (hW.at 10 0 Nat.zero_lt_one) rfl hW) rfl rfl hl.1 rfl (lv_room (Nat.le_of_ble_eq_true rfl)) dX5_callsOf_33 ⟨by decide, by decide⟩) hS (fun o H locs hN4 hS => ?_)
            obtain ⟨⟨hc5, rfl⟩ | ⟨hc5, rfl⟩, hW⟩ := hN4
            · have hgo := hc5
              refine W.eq (g2 := F0 m 36 ls [.int 1, .int u]) rfl ?_
              refine lv_if_ne (tgt := 43) hx hb dX5_callsOf_36 (by decide) (fun c6 => ?_) (fun c6 => absurd c6 (by decide))
              refine lv_iconst (v := 0) hx hb dX5_callsOf_43 (by decide) ?_
              refine lv_iadd hx hb dX5_callsOf_44 ?_
              refine lv_istore_n (lv' := [(3, .int (u + 0)), (0, .ref (ad 10 0)), (1, .int (nI f)), (2, .int bw), (4, .int (nI j))]) hx hb dX5_callsOf_45 rfl hl (by decide) rfl (fun ls hl => ?_)
              refine lv_iinc (v := nI (j + 1)) (lv' := [(4, .int (nI (j + 1))), (3, .int (u + 0)), (0, .ref (ad 10 0)), (1, .int (nI f)), (2, .int bw)]) hx hb dX5_callsOf_46 hl (k := 4) rfl (nI_1 j) (by decide) rfl (fun ls hl => ?_)
              refine lv_goto (tgt := 5) hx hb dX5_callsOf_49 (by decide) ?_
              exact ih (j + 1) (u + 0) _ _ _ (by omega) (by omega) (by rw [Int32.add_zero, hu]; exact (if_neg (fun z => z.2.elim hbw (fun z => z hgo))).symm) hW hS (lv_sub hl [2, 3, 4, 1, 0] rfl)
            · have hgo := hc5
              refine W.eq (g2 := F0 m 36 ls [.int 0, .int u]) rfl ?_
              refine lv_if_ne (tgt := 43) hx hb dX5_callsOf_36 (by decide) (fun c7 => absurd c7 (by decide)) (fun c7 => ?_)
              refine lv_iconst (v := 1) hx hb dX5_callsOf_39 (by decide) ?_
              refine lv_goto (tgt := 44) hx hb dX5_callsOf_40 (by decide) ?_
              refine lv_iadd hx hb dX5_callsOf_44 ?_
              refine lv_istore_n (lv' := [(3, .int (u + 1)), (0, .ref (ad 10 0)), (1, .int (nI f)), (2, .int bw), (4, .int (nI j))]) hx hb dX5_callsOf_45 rfl hl (by decide) rfl (fun ls hl => ?_)
              refine lv_iinc (v := nI (j + 1)) (lv' := [(4, .int (nI (j + 1))), (3, .int (u + 1)), (0, .ref (ad 10 0)), (1, .int (nI f)), (2, .int bw)]) hx hb dX5_callsOf_46 hl (k := 4) rfl (nI_1 j) (by decide) rfl (fun ls hl => ?_)
              refine lv_goto (tgt := 5) hx hb dX5_callsOf_49 (by decide) ?_
              exact ih (j + 1) (u + 1) _ _ _ (by omega) (by omega) (by rw [hu]; exact (if_pos ⟨hcf, Or.inr hgo⟩).symm) hW hS (lv_sub hl [2, 3, 4, 1, 0] rfl)
  exact loop5 (nc + 1) 0 0 _ _ _ (by omega) (by omega) rfl hW hS (lv_sub hl [2, 3, 4, 1, 0] rfl)
set_option maxHeartbeats 4000000 in
set_option maxRecDepth 100000 in
/-- the file of a pair that waits with a number -/
theorem ct_X5_waiting (l : Launch) {G : va_G} {ca : Nat → ClassId} {A : Nat → Prop} {ad : Nat → Nat → Nat} {nf nc : Nat} {r : rh_R} {w : rh_Wm} {th : Int32} (hD : rh_D A ad (fun k i => i < m_n k)) (hwf : m_wf0 nf nc r w) (q : Nat) (hq : q < 16) (x : Int32) : rh_M l yX5_waiting wsX5_waiting ({ frames := 0, cells := 0, slots := 0, locals := 0 } : Room) G ca A [.ref (ad 10 0), .int (nI q), .int x] (m_W G ca ad w th) (fun o H => o = some (.int (m_nz (m_wait r w q x nf))) ∧ m_W G ca ad w th H) rh_no 0 0 := by
  obtain ⟨hnf, hnc, hfc, hcc, h5, h10, hst⟩ := id hwf
  refine rh_enter (cc := cX5_waiting) (maxL := 5) (ret := (some .int)) (by decide) rfl (Nat.le_of_ble_eq_true rfl) ?_
  intro p e s m below meth c ls hx hb hr hml hown hts hlocks hex hin hE hA hW hl
  have hS : va_S A s.heap s.heap [] := va_S.rf
  have hl : lv_has ls 5 [(0, .ref (ad 10 0)), (1, .int (nI q)), (2, .int x)] := hl
  refine lv_iconst (v := -1) hx hb dX5_waiting_0 (by decide) ?_
  refine lv_istore_n (lv' := [(3, .int (-1)), (0, .ref (ad 10 0)), (1, .int (nI q)), (2, .int x)]) hx hb dX5_waiting_1 rfl hl (by decide) rfl (fun ls hl => ?_)
  refine lv_iconst (v := 0) hx hb dX5_waiting_2 (by decide) ?_
  refine lv_istore (lv' := [(4, .int 0), (3, .int (-1)), (0, .ref (ad 10 0)), (1, .int (nI q)), (2, .int x)]) hx hb dX5_waiting_3 hl (by decide) rfl (fun ls hl => ?_)
  have loop5 : ∀ (n : Nat) (j : Nat) (u : Int32) (H : Heap) (locs : List Loc) (ls : Array Slot), nf + 1 ≤ j + n → j ≤ nf → u = m_nz (m_wait r w q x j) → m_W G ca ad w th H → va_S A s.heap H locs → lv_has ls 5 [(0, .ref (ad 10 0)), (1, .int (nI q)), (2, .int x), (3, .int u), (4, .int (nI j))] → W p l e ({ frames := 0, cells := 0, slots := 0, locals := 0 } : Room) s m ([.ref (ad 10 0), .int (nI q), .int x] : List Value).toArray below meth c H locs 0 0 (vx_MQ below (rh_Q A (fun o H => o = some (.int (m_nz (m_wait r w q x nf))) ∧ m_W G ca ad w th H)) (rh_XC A rh_no) ([.ref (ad 10 0), .int (nI q), .int x] : List Value).toArray s 0 0 A) (F0 m 5 ls []) := by
    intro n
    induction n with
    | zero => intro j u H locs ls hjn hj hu hW hS hl; exact absurd hjn (by omega)
    | succ n ih =>
      intro j u H locs ls hjn hj hu hW hS hl
      refine lv_iload hx hb dX5_waiting_5 (lv_at hl 4 rfl) ?_
      refine lv_aload_n hx hb dX5_waiting_7 rfl (lv_at hl 0 rfl) ?_
      refine rh_get (ci := 5) (C := RX5) (T := TX5) (N := 26) (v := .int (w 26 4)) hx hb hts (fun _ h => List.mem_cons_of_mem _ (List.mem_append_right _ (h))) hown hE (hW.at 10 0 Nat.zero_lt_one) rfl 4 (by decide) (hts (.fieldLink RX5 86 "RoamingHouseModel" "fileMany" "I") (by decide +kernel)) rfl dX5_waiting_8 ?_
      refine lv_icmp_ge (tgt := 60) hx hb dX5_waiting_11 (by decide) (fun c1 => ?_) (fun c1 => ?_)
      · have hjf : j = nf := by
          rcases Nat.lt_or_ge j nf with z | z
          · exact absurd (by rw [← hfc]; exact c1) (nI_ge z (by omega))
          · omega
        refine lv_iload_n hx hb dX5_waiting_60 rfl (lv_at hl 3 rfl) ?_
        exact rh_iret hx hb hr hlocks ⟨by rw [hu, hjf], hW⟩ hS (by decide) (by decide) dX5_waiting_61
      · have hjl : j < nf := by
          rcases Nat.lt_or_ge j nf with z | z
          · exact z
          · exact absurd (by rw [hfc]; exact nI_le z (by omega)) c1
        refine lv_aload_n hx hb dX5_waiting_14 rfl (lv_at hl 0 rfl) ?_
        refine rh_get (ci := 5) (C := RX5) (T := TX5) (N := 26) (v := .ref (ad 27 0)) hx hb hts (fun _ h => List.mem_cons_of_mem _ (List.mem_append_right _ (h))) hown hE (hW.at 10 0 Nat.zero_lt_one) rfl 7 (by decide) (hts (.fieldLink RX5 28 "RoamingHouseModel" "fileStates" "[I") (by decide +kernel)) rfl dX5_waiting_15 ?_
        refine lv_iload hx hb dX5_waiting_18 (lv_at hl 4 rfl) ?_
        refine rh_iald (n := 30) (f := w 7) hx hb hE (hW.at 27 0 Nat.zero_lt_one) j (by omega) (by decide) rfl dX5_waiting_20 ?_
        refine lv_iconst (v := 2) hx hb dX5_waiting_21 (by decide) ?_
        refine lv_icmp_ne (tgt := 52) hx hb dX5_waiting_22 (by decide) (fun c2 => ?_) (fun c2 => ?_)
        · refine lv_iload_n hx hb dX5_waiting_52 rfl (lv_at hl 3 rfl) ?_
          refine lv_istore_n (lv' := [(3, .int u), (0, .ref (ad 10 0)), (1, .int (nI q)), (2, .int x), (4, .int (nI j))]) hx hb dX5_waiting_53 rfl hl (by decide) rfl (fun ls hl => ?_)
          refine lv_iinc (v := nI (j + 1)) (lv' := [(4, .int (nI (j + 1))), (3, .int u), (0, .ref (ad 10 0)), (1, .int (nI q)), (2, .int x)]) hx hb dX5_waiting_54 hl (k := 4) rfl (nI_1 j) (by decide) rfl (fun ls hl => ?_)
          refine lv_goto (tgt := 5) hx hb dX5_waiting_57 (by decide) ?_
          exact ih (j + 1) u _ _ _ (by omega) (by omega) (by rw [hu]; exact congrArg m_nz (if_neg (fun z => c2 z.1)).symm) hW hS (lv_sub hl [2, 3, 4, 1, 0] rfl)
        · have hs2 := c2
          refine lv_aload_n hx hb dX5_waiting_25 rfl (lv_at hl 0 rfl) ?_
          refine rh_get (ci := 5) (C := RX5) (T := TX5) (N := 26) (v := .ref (ad 25 0)) hx hb hts (fun _ h => List.mem_cons_of_mem _ (List.mem_append_right _ (h))) hown hE (hW.at 10 0 Nat.zero_lt_one) rfl 5 (by decide) (hts (.fieldLink RX5 22 "RoamingHouseModel" "pairOf" "[I") (by decide +kernel)) rfl dX5_waiting_26 ?_
          refine lv_iload hx hb dX5_waiting_29 (lv_at hl 4 rfl) ?_
          refine rh_iald (n := 30) (f := w 5) hx hb hE (hW.at 25 0 Nat.zero_lt_one) j (by omega) (by decide) rfl dX5_waiting_31 ?_
          refine lv_iload_n hx hb dX5_waiting_32 rfl (lv_at hl 1 rfl) ?_
          refine lv_icmp_ne (tgt := 52) hx hb dX5_waiting_33 (by decide) (fun c3 => ?_) (fun c3 => ?_)
          · refine lv_iload_n hx hb dX5_waiting_52 rfl (lv_at hl 3 rfl) ?_
            refine lv_istore_n (lv' := [(3, .int u), (0, .ref (ad 10 0)), (1, .int (nI q)), (2, .int x), (4, .int (nI j))]) hx hb dX5_waiting_53 rfl hl (by decide) rfl (fun ls hl => ?_)
            refine lv_iinc (v := nI (j + 1)) (lv' := [(4, .int (nI (j + 1))), (3, .int u), (0, .ref (ad 10 0)), (1, .int (nI q)), (2, .int x)]) hx hb dX5_waiting_54 hl (k := 4) rfl (nI_1 j) (by decide) rfl (fun ls hl => ?_)
            refine lv_goto (tgt := 5) hx hb dX5_waiting_57 (by decide) ?_
            exact ih (j + 1) u _ _ _ (by omega) (by omega) (by rw [hu]; exact congrArg m_nz (if_neg (fun z => c3 (by rw [(h5 j hjl).2, z.2.1]))).symm) hW hS (lv_sub hl [2, 3, 4, 1, 0] rfl)
          · have hpq : r 8 j = q := m_inj (by have := (h5 j hjl).1; omega) (by omega) ((h5 j hjl).2.symm.trans c3)
            refine lv_aload_n hx hb dX5_waiting_36 rfl (lv_at hl 0 rfl) ?_
            refine rh_get (ci := 5) (C := RX5) (T := TX5) (N := 26) (v := .ref (ad 28 0)) hx hb hts (fun _ h => List.mem_cons_of_mem _ (List.mem_append_right _ (h))) hown hE (hW.at 10 0 Nat.zero_lt_one) rfl 8 (by decide) (hts (.fieldLink RX5 31 "RoamingHouseModel" "sentAs" "[I") (by decide +kernel)) rfl dX5_waiting_37 ?_
            refine lv_iload hx hb dX5_waiting_40 (lv_at hl 4 rfl) ?_
            refine rh_iald (n := 30) (f := w 8) hx hb hE (hW.at 28 0 Nat.zero_lt_one) j (by omega) (by decide) rfl dX5_waiting_42 ?_
            refine lv_iload_n hx hb dX5_waiting_43 rfl (lv_at hl 2 rfl) ?_
            refine lv_icmp_ne (tgt := 52) hx hb dX5_waiting_44 (by decide) (fun c4 => ?_) (fun c4 => ?_)
            · refine lv_iload_n hx hb dX5_waiting_52 rfl (lv_at hl 3 rfl) ?_
              refine lv_istore_n (lv' := [(3, .int u), (0, .ref (ad 10 0)), (1, .int (nI q)), (2, .int x), (4, .int (nI j))]) hx hb dX5_waiting_53 rfl hl (by decide) rfl (fun ls hl => ?_)
              refine lv_iinc (v := nI (j + 1)) (lv' := [(4, .int (nI (j + 1))), (3, .int u), (0, .ref (ad 10 0)), (1, .int (nI q)), (2, .int x)]) hx hb dX5_waiting_54 hl (k := 4) rfl (nI_1 j) (by decide) rfl (fun ls hl => ?_)
              refine lv_goto (tgt := 5) hx hb dX5_waiting_57 (by decide) ?_
              exact ih (j + 1) u _ _ _ (by omega) (by omega) (by rw [hu]; exact congrArg m_nz (if_neg (fun z => c4 z.2.2)).symm) hW hS (lv_sub hl [2, 3, 4, 1, 0] rfl)
            · refine lv_iload hx hb dX5_waiting_47 (lv_at hl 4 rfl) ?_
              refine lv_goto (tgt := 53) hx hb dX5_waiting_49 (by decide) ?_
              refine lv_istore_n (lv' := [(3, .int (nI j)), (0, .ref (ad 10 0)), (1, .int (nI q)), (2, .int x), (4, .int (nI j))]) hx hb dX5_waiting_53 rfl hl (by decide) rfl (fun ls hl => ?_)
              refine lv_iinc (v := nI (j + 1)) (lv' := [(4, .int (nI (j + 1))), (3, .int (nI j)), (0, .ref (ad 10 0)), (1, .int (nI q)), (2, .int x)]) hx hb dX5_waiting_54 hl (k := 4) rfl (nI_1 j) (by decide) rfl (fun ls hl => ?_)
              refine lv_goto (tgt := 5) hx hb dX5_waiting_57 (by decide) ?_
              exact ih (j + 1) (nI j) _ _ _ (by omega) (by omega) (by rw [show m_wait r w q x (j + 1) = some j from if_pos ⟨hs2, hpq, c4⟩]; rfl) hW hS (lv_sub hl [2, 3, 4, 1, 0] rfl)
  exact loop5 (nf + 1) 0 (-1) _ _ _ (by omega) (by omega) rfl hW hS (lv_sub hl [2, 3, 4, 1, 0] rfl)
set_option maxHeartbeats 4000000 in
set_option maxRecDepth 100000 in
/-- a file is looked at -/
theorem ct_X5_lookAt (l : Launch) {G : va_G} {ca : Nat → ClassId} {A : Nat → Prop} {ad : Nat → Nat → Nat} {nf nc : Nat} {r : rh_R} {w : rh_Wm} {th : Int32} (hD : rh_D A ad (fun k i => i < m_n k)) (hwf : m_wf nf nc r w) (f : Nat) (hf : f < nf) (h7 : ¬ w 7 f = 5) : rh_M l yX5_lookAt wsX5_lookAt ({ frames := 3, cells := 0, slots := 0, locals := 90 } : Room) G ca A [.ref (ad 10 0), .int (nI f)] (m_W G ca ad w th) (fun o H => o = none ∧ m_W G ca ad (m_look r w nc f) th H) rh_no 0 0 := by
  obtain ⟨⟨hnf, hnc, hfc, hcc, h5, h10, hst⟩, hna, hnm, hac, hpl⟩ := id hwf
  have hfo := m_out hwf h7
  have h2w : m_wf nf nc r (wm w 7 f 5) := ⟨m_wf0_wm hwf.1 (by decide) (by decide) (by decide) (by decide), m_file_wf1 hwf.2 hfo 5⟩
  have hac9 := fun n hn => m_acc_wf (f := f) h2w.1 h2w.2 (by rw [wm_at, if_pos ⟨rfl, rfl⟩]) (fun c hc hr => by rw [wm_other w 7 f 5 (by decide)]; exact hfo c hc hr) n hn
  refine rh_enter (cc := cX5_lookAt) (maxL := 3) (ret := none) (by decide) rfl (Nat.le_of_ble_eq_true rfl) ?_
  intro p e s m below meth c ls hx hb hr hml hown hts hlocks hex hin hE hA hW hl
  have hS : va_S A s.heap s.heap [] := va_S.rf
  have hl : lv_has ls 3 [(0, .ref (ad 10 0)), (1, .int (nI f))] := hl
  refine lv_aload_n hx hb dX5_lookAt_0 rfl (lv_at hl 0 rfl) ?_
  refine rh_get (ci := 5) (C := RX5) (T := TX5) (N := 26) (v := .int (w 26 24)) hx hb hts (fun _ h => List.mem_cons_of_mem _ (List.mem_append_right _ (h))) hown hE (hW.at 10 0 Nat.zero_lt_one) rfl 24 (by decide) (hts (.fieldLink RX5 101 "RoamingHouseModel" "now" "I") (by decide +kernel)) rfl dX5_lookAt_1 ?_
  refine lv_aload_n hx hb dX5_lookAt_4 rfl (lv_at hl 0 rfl) ?_
  refine rh_get (ci := 5) (C := RX5) (T := TX5) (N := 26) (v := .ref (ad 26 0)) hx hb hts (fun _ h => List.mem_cons_of_mem _ (List.mem_append_right _ (h))) hown hE (hW.at 10 0 Nat.zero_lt_one) rfl 6 (by decide) (hts (.fieldLink RX5 25 "RoamingHouseModel" "fileMonths" "[I") (by decide +kernel)) rfl dX5_lookAt_5 ?_
  refine lv_iload_n hx hb dX5_lookAt_8 rfl (lv_at hl 1 rfl) ?_
  refine rh_iald (n := 30) (f := w 6) hx hb hE (hW.at 26 0 Nat.zero_lt_one) f (by omega) (by decide) rfl dX5_lookAt_9 ?_
  refine lv_iconst (v := 2) hx hb dX5_lookAt_10 (by decide) ?_
  refine lv_iadd hx hb dX5_lookAt_11 ?_
  refine lv_icmp_le (tgt := 25) hx hb dX5_lookAt_12 (by decide) (fun c1 => ?_) (fun c1 => ?_)
  · have hl1 := le_nlt c1
    refine lv_aload_n hx hb dX5_lookAt_25 rfl (lv_at hl 0 rfl) ?_
    refine lv_iload_n hx hb dX5_lookAt_26 rfl (lv_at hl 1 rfl) ?_
    refine lv_iconst (v := 1) hx hb dX5_lookAt_27 (by decide) ?_
    refine rh_calln (vx_runV (As := [.int (nI f), .int 1]) (rest := []) ⟨hx, hb, hml, hown, hts⟩ (ct_X5_callsOf l hD hwf.1 f hf 1) (cwV 2 hts gX5_lookAt_X5_callsOf rfl rfl rfl (by decide +kernel) ⟨by decide, by decide⟩) (rh_preV hE hS hA (hW.at 10 0 Nat.zero_lt_one) rfl hW) rfl rfl hl.1 rfl (lv_room (Nat.le_of_ble_eq_true rfl)) dX5_lookAt_28 ⟨by decide, by decide⟩) hS (fun o H locs hN2 hS => ?_)
    obtain ⟨rfl, hW⟩ := hN2
    refine W.eq (g2 := F0 m 31 ls [.int (m_cnt r w f 1 nc)]) rfl ?_
    refine lv_iconst (v := 3) hx hb dX5_lookAt_31 (by decide) ?_
    refine lv_imul hx hb dX5_lookAt_32 ?_
    refine lv_aload_n hx hb dX5_lookAt_33 rfl (lv_at hl 0 rfl) ?_
    refine lv_iload_n hx hb dX5_lookAt_34 rfl (lv_at hl 1 rfl) ?_
    refine lv_iconst (v := 0) hx hb dX5_lookAt_35 (by decide) ?_
    refine rh_calln (vx_runV (As := [.int (nI f), .int 0]) (rest := [.int (m_cnt r w f 1 nc * 3)]) ⟨hx, hb, hml, hown, hts⟩ (ct_X5_callsOf l hD hwf.1 f hf 0) (cwV 2 hts gX5_lookAt_X5_callsOf rfl rfl rfl (by decide +kernel) ⟨by decide, by decide⟩) (rh_preV hE hS hA (hW.at 10 0 Nat.zero_lt_one) rfl hW) rfl rfl hl.1 rfl (lv_room (Nat.le_of_ble_eq_true rfl)) dX5_lookAt_36 ⟨by decide, by decide⟩) hS (fun o H locs hN3 hS => ?_)
    obtain ⟨rfl, hW⟩ := hN3
    refine W.eq (g2 := F0 m 39 ls [.int (m_cnt r w f 0 nc), .int (m_cnt r w f 1 nc * 3)]) rfl ?_
    refine lv_icmp_le (tgt := 52) hx hb dX5_lookAt_39 (by decide) (fun c4 => ?_) (fun c4 => ?_)
    · have hlk : m_look r w nc f = m_acc r (wm w 7 f 5) f nc := (if_neg hl1).trans (if_neg (le_nlt c4))
      refine lv_aload_n hx hb dX5_lookAt_52 rfl (lv_at hl 0 rfl) ?_
      refine rh_get (ci := 5) (C := RX5) (T := TX5) (N := 26) (v := .ref (ad 27 0)) hx hb hts (fun _ h => List.mem_cons_of_mem _ (List.mem_append_right _ (h))) hown hE (hW.at 10 0 Nat.zero_lt_one) rfl 7 (by decide) (hts (.fieldLink RX5 28 "RoamingHouseModel" "fileStates" "[I") (by decide +kernel)) rfl dX5_lookAt_53 ?_
      refine lv_iload_n hx hb dX5_lookAt_56 rfl (lv_at hl 1 rfl) ?_
      refine lv_iconst (v := 5) hx hb dX5_lookAt_57 (by decide) ?_
      refine m_iast (x := 5) hx hb hE hW hD hS 7 (n := 30) (by decide) Nat.zero_lt_one rfl f (by omega) (by decide) rfl rfl dX5_lookAt_58 (fun H locs hW hS => ?_)
      refine lv_iconst (v := 0) hx hb dX5_lookAt_59 (by decide) ?_
      refine lv_istore_n (lv' := [(2, .int 0), (0, .ref (ad 10 0)), (1, .int (nI f))]) hx hb dX5_lookAt_60 rfl hl (by decide) rfl (fun ls hl => ?_)
      have loop61 : ∀ (n : Nat) (j : Nat) (H : Heap) (locs : List Loc) (ls : Array Slot), nc + 1 ≤ j + n → j ≤ nc → m_W G ca ad (m_acc r (wm w 7 f 5) f j) th H → va_S A s.heap H locs → lv_has ls 3 [(0, .ref (ad 10 0)), (1, .int (nI f)), (2, .int (nI j))] → W p l e ({ frames := 3, cells := 0, slots := 0, locals := 90 } : Room) s m ([.ref (ad 10 0), .int (nI f)] : List Value).toArray below meth c H locs 0 0 (vx_MQ below (rh_Q A (fun o H => o = none ∧ m_W G ca ad (m_look r w nc f) th H)) (rh_XC A rh_no) ([.ref (ad 10 0), .int (nI f)] : List Value).toArray s 0 0 A) (F0 m 61 ls []) := by
        intro n
        induction n with
        | zero => intro j H locs ls hjn hj hW hS hl; exact absurd hjn (by omega)
        | succ n ih =>
          intro j H locs ls hjn hj hW hS hl
          have hwj := hac9 j hj
          have hccj := hwj.1.2.2.2.1
          refine lv_iload_n hx hb dX5_lookAt_61 rfl (lv_at hl 2 rfl) ?_
          refine lv_aload_n hx hb dX5_lookAt_62 rfl (lv_at hl 0 rfl) ?_
          refine rh_get (ci := 5) (C := RX5) (T := TX5) (N := 26) (v := .int ((m_acc r (wm w 7 f 5) f j) 26 9)) hx hb hts (fun _ h => List.mem_cons_of_mem _ (List.mem_append_right _ (h))) hown hE (hW.at 10 0 Nat.zero_lt_one) rfl 9 (by decide) (hts (.fieldLink RX5 89 "RoamingHouseModel" "callMany" "I") (by decide +kernel)) rfl dX5_lookAt_63 ?_
          refine lv_icmp_ge (tgt := 130) hx hb dX5_lookAt_66 (by decide) (fun c5 => ?_) (fun c5 => ?_)
          · have hjf : j = nc := by
              rcases Nat.lt_or_ge j nc with z | z
              · exact absurd (by rw [← hccj]; exact c5) (nI_ge z (by omega))
              · omega
            exact rh_vret hx hb hr hlocks ⟨rfl, by rw [hlk, ← hjf]; exact hW⟩ hS (by decide) (by decide) dX5_lookAt_130
          · have hjl : j < nc := by
              rcases Nat.lt_or_ge j nc with z | z
              · exact z
              · exact absurd (by rw [hccj]; exact nI_le z (by omega)) c5
            have h10j := (hwj.1.2.2.2.2.2.1 j hjl).2
            refine lv_aload_n hx hb dX5_lookAt_69 rfl (lv_at hl 0 rfl) ?_
            refine rh_get (ci := 5) (C := RX5) (T := TX5) (N := 26) (v := .ref (ad 30 0)) hx hb hts (fun _ h => List.mem_cons_of_mem _ (List.mem_append_right _ (h))) hown hE (hW.at 10 0 Nat.zero_lt_one) rfl 10 (by decide) (hts (.fieldLink RX5 34 "RoamingHouseModel" "fileOf" "[I") (by decide +kernel)) rfl dX5_lookAt_70 ?_
            refine lv_iload_n hx hb dX5_lookAt_73 rfl (lv_at hl 2 rfl) ?_
            refine rh_iald (n := 60) (f := (m_acc r (wm w 7 f 5) f j) 10) hx hb hE (hW.at 30 0 Nat.zero_lt_one) j (by omega) (by decide) rfl dX5_lookAt_74 ?_
            refine lv_iload_n hx hb dX5_lookAt_75 rfl (lv_at hl 1 rfl) ?_
            refine lv_icmp_ne (tgt := 124) hx hb dX5_lookAt_76 (by decide) (fun c6 => ?_) (fun c6 => ?_)
            · have hW : m_W G ca ad (m_acc r (wm w 7 f 5) f (j + 1)) th H := by rw [show m_acc r (wm w 7 f 5) f (j + 1) = m_acc r (wm w 7 f 5) f j from if_neg (fun z => c6 (by rw [h10j, z.1]))]; exact hW
              refine lv_iinc (v := nI (j + 1)) (lv' := [(2, .int (nI (j + 1))), (0, .ref (ad 10 0)), (1, .int (nI f))]) hx hb dX5_lookAt_124 hl (k := 2) rfl (nI_1 j) (by decide) rfl (fun ls hl => ?_)
              refine lv_goto (tgt := 61) hx hb dX5_lookAt_127 (by decide) ?_
              exact ih (j + 1) _ _ _ (by omega) (by omega) hW hS (lv_sub hl [1, 2, 0] rfl)
            · have hcf : r 9 j = f := m_inj (by have := (h10 j hjl).1; omega) (by omega) (h10j.symm.trans c6)
              refine lv_aload_n hx hb dX5_lookAt_79 rfl (lv_at hl 0 rfl) ?_
              refine lv_iload_n hx hb dX5_lookAt_80 rfl (lv_at hl 2 rfl) ?_
              refine rh_calln (vx_runV (As := [.int (nI j)]) (rest := []) ⟨hx, hb, hml, hown, hts⟩ (ct_X5_isRight l hD hwj.1 j hjl) (cwV 1 hts gX5_lookAt_X5_isRight rfl rfl rfl (by decide +kernel) ⟨by decide, by decide⟩) (rh_preV hE hS hA (hW.at 10 0 Nat.zero_lt_one) rfl hW) rfl rfl hl.1 rfl (lv_room (Nat.le_of_ble_eq_true rfl)) dX5_lookAt_81 ⟨by decide, by decide⟩) hS (fun o H locs hN7 hS => ?_)
              obtain ⟨⟨hc8, rfl⟩ | ⟨hc8, rfl⟩, hW⟩ := hN7
              · have hgo := hc8
                refine W.eq (g2 := F0 m 84 ls [.int 1]) rfl ?_
                have hz9 := hwj.2.2 j (Nat.le_refl j) hjl hcf
                have hlt9 := m_act_lt hjl hz9
                have hle9 := hwj.2.1.1
                refine lv_if_eq (tgt := 124) hx hb dX5_lookAt_84 (by decide) (fun c9 => absurd c9 (by decide)) (fun c9 => ?_)
                refine lv_aload_n hx hb dX5_lookAt_87 rfl (lv_at hl 0 rfl) ?_
                refine rh_get (ci := 5) (C := RX5) (T := TX5) (N := 26) (v := .ref (ad 33 0)) hx hb hts (fun _ h => List.mem_cons_of_mem _ (List.mem_append_right _ (h))) hown hE (hW.at 10 0 Nat.zero_lt_one) rfl 13 (by decide) (hts (.fieldLink RX5 43 "RoamingHouseModel" "callStates" "[I") (by decide +kernel)) rfl dX5_lookAt_88 ?_
                refine lv_iload_n hx hb dX5_lookAt_91 rfl (lv_at hl 2 rfl) ?_
                refine lv_iconst (v := 1) hx hb dX5_lookAt_92 (by decide) ?_
                refine m_iast (x := 1) hx hb hE hW hD hS 13 (n := 60) (by decide) Nat.zero_lt_one rfl j (by omega) (by decide) rfl rfl dX5_lookAt_93 (fun H locs hW hS => ?_)
                refine lv_aload_n hx hb dX5_lookAt_94 rfl (lv_at hl 0 rfl) ?_
                refine rh_get (ci := 5) (C := RX5) (T := TX5) (N := 26) (v := .ref (ad 34 0)) hx hb hts (fun _ h => List.mem_cons_of_mem _ (List.mem_append_right _ (h))) hown hE (hW.at 10 0 Nat.zero_lt_one) rfl 14 (by decide) (hts (.fieldLink RX5 46 "RoamingHouseModel" "months" "[I") (by decide +kernel)) rfl dX5_lookAt_95 ?_
                refine lv_iload_n hx hb dX5_lookAt_98 rfl (lv_at hl 2 rfl) ?_
                refine lv_aload_n hx hb dX5_lookAt_99 rfl (lv_at hl 0 rfl) ?_
                refine rh_get (ci := 5) (C := RX5) (T := TX5) (N := 26) (v := .int ((m_acc r (wm w 7 f 5) f j) 26 24)) hx hb hts (fun _ h => List.mem_cons_of_mem _ (List.mem_append_right _ (h))) hown hE (hW.at 10 0 Nat.zero_lt_one) rfl 24 (by decide) (hts (.fieldLink RX5 101 "RoamingHouseModel" "now" "I") (by decide +kernel)) (show some (Value.int ((wm (m_acc r (wm w 7 f 5) f j) 13 j 1) 26 24)) = some (Value.int ((m_acc r (wm w 7 f 5) f j) 26 24)) from by simp [wm_at]) dX5_lookAt_100 ?_
                refine m_iast (x := ((m_acc r (wm w 7 f 5) f j) 26 24)) hx hb hE hW hD hS 14 (n := 60) (by decide) Nat.zero_lt_one rfl j (by omega) (by decide) rfl rfl dX5_lookAt_103 (fun H locs hW hS => ?_)
                refine lv_aload_n hx hb dX5_lookAt_104 rfl (lv_at hl 0 rfl) ?_
                refine rh_get (ci := 5) (C := RX5) (T := TX5) (N := 26) (v := .ref (ad 37 0)) hx hb hts (fun _ h => List.mem_cons_of_mem _ (List.mem_append_right _ (h))) hown hE (hW.at 10 0 Nat.zero_lt_one) rfl 17 (by decide) (hts (.fieldLink RX5 52 "RoamingHouseModel" "accepted" "[I") (by decide +kernel)) rfl dX5_lookAt_105 ?_
                refine lv_aload_n hx hb dX5_lookAt_108 rfl (lv_at hl 0 rfl) ?_
                refine rh_get (ci := 5) (C := RX5) (T := TX5) (N := 26) (v := .int ((m_acc r (wm w 7 f 5) f j) 26 16)) hx hb hts (fun _ h => List.mem_cons_of_mem _ (List.mem_append_right _ (h))) hown hE (hW.at 10 0 Nat.zero_lt_one) rfl 16 (by decide) (hts (.fieldLink RX5 115 "RoamingHouseModel" "acceptedMany" "I") (by decide +kernel)) (show some (Value.int ((wm (wm (m_acc r (wm w 7 f 5) f j) 13 j 1) 14 j ((m_acc r (wm w 7 f 5) f j) 26 24)) 26 16)) = some (Value.int ((m_acc r (wm w 7 f 5) f j) 26 16)) from by simp [wm_at]) dX5_lookAt_109 ?_
                rw [hwj.2.1.2.1]
                refine lv_iload_n hx hb dX5_lookAt_112 rfl (lv_at hl 2 rfl) ?_
                refine m_iast (x := (nI j)) hx hb hE hW hD hS 17 (n := 60) (by decide) Nat.zero_lt_one rfl (mna (m_acc r (wm w 7 f 5) f j)) (by omega) (by decide) rfl rfl dX5_lookAt_113 (fun H locs hW hS => ?_)
                refine lv_aload_n hx hb dX5_lookAt_114 rfl (lv_at hl 0 rfl) ?_
                refine lv_dup hx hb dX5_lookAt_115 rfl ?_
                refine rh_get (ci := 5) (C := RX5) (T := TX5) (N := 26) (v := .int ((m_acc r (wm w 7 f 5) f j) 26 16)) hx hb hts (fun _ h => List.mem_cons_of_mem _ (List.mem_append_right _ (h))) hown hE (hW.at 10 0 Nat.zero_lt_one) rfl 16 (by decide) (hts (.fieldLink RX5 115 "RoamingHouseModel" "acceptedMany" "I") (by decide +kernel)) (show some (Value.int ((wm (wm (wm (m_acc r (wm w 7 f 5) f j) 13 j 1) 14 j ((m_acc r (wm w 7 f 5) f j) 26 24)) 17 (mna (m_acc r (wm w 7 f 5) f j)) (nI j)) 26 16)) = some (Value.int ((m_acc r (wm w 7 f 5) f j) 26 16)) from by simp [wm_at]) dX5_lookAt_116 ?_
                refine lv_iconst (v := 1) hx hb dX5_lookAt_119 (by decide) ?_
                refine lv_iadd hx hb dX5_lookAt_120 ?_
                refine m_put (x := ((m_acc r (wm w 7 f 5) f j) 26 16 + 1)) hx hb hts (fun _ h => List.mem_cons_of_mem _ (List.mem_append_right _ (h))) hown hE hW hD hS rfl 16 (by decide) (hts (.fieldLink RX5 115 "RoamingHouseModel" "acceptedMany" "I") (by decide +kernel)) rfl rfl rfl (Nat.le_of_ble_eq_true rfl) rfl dX5_lookAt_121 (fun H locs hW hS => ?_)
                have hW : m_W G ca ad (m_acc r (wm w 7 f 5) f (j + 1)) th H := by rw [show m_acc r (wm w 7 f 5) f (j + 1) = m_acc1 (m_acc r (wm w 7 f 5) f j) j from if_pos ⟨hcf, hgo⟩]; exact hW
                refine lv_iinc (v := nI (j + 1)) (lv' := [(2, .int (nI (j + 1))), (0, .ref (ad 10 0)), (1, .int (nI f))]) hx hb dX5_lookAt_124 hl (k := 2) rfl (nI_1 j) (by decide) rfl (fun ls hl => ?_)
                refine lv_goto (tgt := 61) hx hb dX5_lookAt_127 (by decide) ?_
                exact ih (j + 1) _ _ _ (by omega) (by omega) hW hS (lv_sub hl [1, 2, 0] rfl)
              · have hgo := hc8
                refine W.eq (g2 := F0 m 84 ls [.int 0]) rfl ?_
                refine lv_if_eq (tgt := 124) hx hb dX5_lookAt_84 (by decide) (fun c10 => ?_) (fun c10 => absurd c10 (by decide))
                have hW : m_W G ca ad (m_acc r (wm w 7 f 5) f (j + 1)) th H := by rw [show m_acc r (wm w 7 f 5) f (j + 1) = m_acc r (wm w 7 f 5) f j from if_neg (fun z => hgo z.2)]; exact hW
                refine lv_iinc (v := nI (j + 1)) (lv' := [(2, .int (nI (j + 1))), (0, .ref (ad 10 0)), (1, .int (nI f))]) hx hb dX5_lookAt_124 hl (k := 2) rfl (nI_1 j) (by decide) rfl (fun ls hl => ?_)
                refine lv_goto (tgt := 61) hx hb dX5_lookAt_127 (by decide) ?_
                exact ih (j + 1) _ _ _ (by omega) (by omega) hW hS (lv_sub hl [1, 2, 0] rfl)
      exact loop61 (nc + 1) 0  _ _ _ (by omega) (by omega)  hW hS (lv_sub hl [1, 2, 0] rfl)
    · have hlk : m_look r w nc f = wm w 7 f 4 := (if_neg hl1).trans (if_pos (nle_lt c4))
      refine lv_aload_n hx hb dX5_lookAt_42 rfl (lv_at hl 0 rfl) ?_
      refine rh_get (ci := 5) (C := RX5) (T := TX5) (N := 26) (v := .ref (ad 27 0)) hx hb hts (fun _ h => List.mem_cons_of_mem _ (List.mem_append_right _ (h))) hown hE (hW.at 10 0 Nat.zero_lt_one) rfl 7 (by decide) (hts (.fieldLink RX5 28 "RoamingHouseModel" "fileStates" "[I") (by decide +kernel)) rfl dX5_lookAt_43 ?_
      refine lv_iload_n hx hb dX5_lookAt_46 rfl (lv_at hl 1 rfl) ?_
      refine lv_iconst (v := 4) hx hb dX5_lookAt_47 (by decide) ?_
      refine m_iast (x := 4) hx hb hE hW hD hS 7 (n := 30) (by decide) Nat.zero_lt_one rfl f (by omega) (by decide) rfl rfl dX5_lookAt_48 (fun H locs hW hS => ?_)
      refine lv_goto (tgt := 130) hx hb dX5_lookAt_49 (by decide) ?_
      exact rh_vret hx hb hr hlocks ⟨rfl, by rw [hlk]; exact hW⟩ hS (by decide) (by decide) dX5_lookAt_130
  · have hlk : m_look r w nc f = wm w 7 f 3 := if_pos (nle_lt c1)
    refine lv_aload_n hx hb dX5_lookAt_15 rfl (lv_at hl 0 rfl) ?_
    refine rh_get (ci := 5) (C := RX5) (T := TX5) (N := 26) (v := .ref (ad 27 0)) hx hb hts (fun _ h => List.mem_cons_of_mem _ (List.mem_append_right _ (h))) hown hE (hW.at 10 0 Nat.zero_lt_one) rfl 7 (by decide) (hts (.fieldLink RX5 28 "RoamingHouseModel" "fileStates" "[I") (by decide +kernel)) rfl dX5_lookAt_16 ?_
    refine lv_iload_n hx hb dX5_lookAt_19 rfl (lv_at hl 1 rfl) ?_
    refine lv_iconst (v := 3) hx hb dX5_lookAt_20 (by decide) ?_
    refine m_iast (x := 3) hx hb hE hW hD hS 7 (n := 30) (by decide) Nat.zero_lt_one rfl f (by omega) (by decide) rfl rfl dX5_lookAt_21 (fun H locs hW hS => ?_)
    refine lv_goto (tgt := 130) hx hb dX5_lookAt_22 (by decide) ?_
    exact rh_vret hx hb hr hlocks ⟨rfl, by rw [hlk]; exact hW⟩ hS (by decide) (by decide) dX5_lookAt_130
set_option maxHeartbeats 4000000 in
set_option maxRecDepth 100000 in
/-- whether two numbers are a pair, and other arguments in their ranges -/
theorem ct_X5_isPair (l : Launch) {G : va_G} {ca : Nat → ClassId} {A : Nat → Prop} {ad : Nat → Nat → Nat} {w : rh_Wm} {th : Int32} (hD : rh_D A ad (fun k i => i < m_n k)) (x y z : Int32) : rh_M l yX5_isPair wsX5_isPair ({ frames := 2, cells := 0, slots := 0, locals := 60 } : Room) G ca A [.ref (ad 10 0), .int x, .int y, .int z] (m_W G ca ad w th) (fun o H => ((∃ h9 k9 : Nat, h9 < 4 ∧ k9 < 4 ∧ h9 ≠ k9 ∧ x = nI h9 ∧ y = nI k9 ∧ ¬ z = 0 ∧ o = some (.int 1) ∧ m_W G ca ad w 0 H) ∨ (¬ (ix x 4 ∧ ix y 4) ∧ o = some (.int 0) ∧ m_W G ca ad w 1 H) ∨ (ix x 4 ∧ ix y 4 ∧ (x = y ∨ z = 0) ∧ o = some (.int 0) ∧ m_W G ca ad w 2 H))) rh_no 0 0 := by
  refine rh_enter (cc := cX5_isPair) (maxL := 4) (ret := (some .boolean)) (by decide) rfl (Nat.le_of_ble_eq_true rfl) ?_
  intro p e s m below meth c ls hx hb hr hml hown hts hlocks hex hin hE hA hW hl
  have hS : va_S A s.heap s.heap [] := va_S.rf
  have hl : lv_has ls 4 [(0, .ref (ad 10 0)), (1, .int x), (2, .int y), (3, .int z)] := hl
  refine lv_aload_n hx hb dX5_isPair_0 rfl (lv_at hl 0 rfl) ?_
  refine lv_iload_n hx hb dX5_isPair_1 rfl (lv_at hl 1 rfl) ?_
  refine rh_calln (vx_runS (As := [.int x]) (rest := [.ref (ad 10 0)]) ⟨hx, hb, hml, hown, hts⟩ (ct_X5_isOperator l hD x) (va_cwS 1 hts gX5_isPair_X5_isOperator rfl rfl rfl (by decide +kernel) ⟨by decide, by decide⟩) (rh_pre hE hS hA hW) rfl rfl hl.1 rfl (lv_room (Nat.le_of_ble_eq_true rfl)) dX5_isPair_2 ⟨by decide, by decide⟩) hS (fun o H locs hN1 hS => ?_)
  obtain ⟨⟨ho2, rfl⟩ | ⟨ho2, rfl⟩, hW⟩ := hN1
  · have hox := ho2
    refine W.eq (g2 := F0 m 5 ls [.int 1, .ref (ad 10 0)]) rfl ?_
    refine lv_if_eq (tgt := 15) hx hb dX5_isPair_5 (by decide) (fun c3 => absurd c3 (by decide)) (fun c3 => ?_)
    refine lv_iload_n hx hb dX5_isPair_8 rfl (lv_at hl 2 rfl) ?_
    refine rh_calln (vx_runS (As := [.int y]) (rest := [.ref (ad 10 0)]) ⟨hx, hb, hml, hown, hts⟩ (ct_X5_isOperator l hD y) (va_cwS 1 hts gX5_isPair_X5_isOperator rfl rfl rfl (by decide +kernel) ⟨by decide, by decide⟩) (rh_pre hE hS hA hW) rfl rfl hl.1 rfl (lv_room (Nat.le_of_ble_eq_true rfl)) dX5_isPair_9 ⟨by decide, by decide⟩) hS (fun o H locs hN4 hS => ?_)
    obtain ⟨⟨ho5, rfl⟩ | ⟨ho5, rfl⟩, hW⟩ := hN4
    · have hoy := ho5
      refine W.eq (g2 := F0 m 12 ls [.int 1, .ref (ad 10 0)]) rfl ?_
      refine lv_if_ne (tgt := 19) hx hb dX5_isPair_12 (by decide) (fun c6 => ?_) (fun c6 => absurd c6 (by decide))
      refine lv_iload_n hx hb dX5_isPair_19 rfl (lv_at hl 1 rfl) ?_
      refine lv_iload_n hx hb dX5_isPair_20 rfl (lv_at hl 2 rfl) ?_
      refine lv_icmp_eq (tgt := 28) hx hb dX5_isPair_21 (by decide) (fun c7 => ?_) (fun c7 => ?_)
      · have hxz : x = y ∨ z = 0 := Or.inl c7
        refine lv_iconst (v := 2) hx hb dX5_isPair_28 (by decide) ?_
        refine lv_goto (tgt := 33) hx hb dX5_isPair_29 (by decide) ?_
        refine m_putt (x := 2) hx hb hts (fun _ h => List.mem_cons_of_mem _ (List.mem_append_right _ (h))) hown hE hW hD hS rfl (hts (.fieldLink RX5 74 "RoamingHouseModel" "thrown" "I") (by decide +kernel)) rfl rfl rfl (Nat.le_of_ble_eq_true rfl) rfl dX5_isPair_33 (fun H locs hW hS => ?_)
        refine lv_aload_n hx hb dX5_isPair_36 rfl (lv_at hl 0 rfl) ?_
        refine rh_get (ci := 5) (C := RX5) (T := TX5) (N := 26) (v := .int 2) hx hb hts (fun _ h => List.mem_cons_of_mem _ (List.mem_append_right _ (h))) hown hE (hW.at 10 0 Nat.zero_lt_one) rfl 25 (by decide) (hts (.fieldLink RX5 74 "RoamingHouseModel" "thrown" "I") (by decide +kernel)) rfl dX5_isPair_37 ?_
        refine lv_if_ne (tgt := 47) hx hb dX5_isPair_40 (by decide) (fun c8 => ?_) (fun c8 => absurd c8 (by decide))
        refine lv_iconst (v := 0) hx hb dX5_isPair_47 (by decide) ?_
        exact rh_zret hx hb hr hlocks rfl (Or.inr (Or.inr ⟨hox, hoy, hxz, rfl, hW⟩)) hS (by decide) (by decide) dX5_isPair_48
      · have hxy := c7
        refine lv_iload_n hx hb dX5_isPair_24 rfl (lv_at hl 3 rfl) ?_
        refine lv_if_ne (tgt := 32) hx hb dX5_isPair_25 (by decide) (fun c9 => ?_) (fun c9 => ?_)
        · have hz := c9
          refine lv_iconst (v := 0) hx hb dX5_isPair_32 (by decide) ?_
          refine m_putt (x := 0) hx hb hts (fun _ h => List.mem_cons_of_mem _ (List.mem_append_right _ (h))) hown hE hW hD hS rfl (hts (.fieldLink RX5 74 "RoamingHouseModel" "thrown" "I") (by decide +kernel)) rfl rfl rfl (Nat.le_of_ble_eq_true rfl) rfl dX5_isPair_33 (fun H locs hW hS => ?_)
          refine lv_aload_n hx hb dX5_isPair_36 rfl (lv_at hl 0 rfl) ?_
          refine rh_get (ci := 5) (C := RX5) (T := TX5) (N := 26) (v := .int 0) hx hb hts (fun _ h => List.mem_cons_of_mem _ (List.mem_append_right _ (h))) hown hE (hW.at 10 0 Nat.zero_lt_one) rfl 25 (by decide) (hts (.fieldLink RX5 74 "RoamingHouseModel" "thrown" "I") (by decide +kernel)) rfl dX5_isPair_37 ?_
          refine lv_if_ne (tgt := 47) hx hb dX5_isPair_40 (by decide) (fun c10 => absurd c10 (by decide)) (fun c10 => ?_)
          refine lv_iconst (v := 1) hx hb dX5_isPair_43 (by decide) ?_
          refine lv_goto (tgt := 48) hx hb dX5_isPair_44 (by decide) ?_
          exact rh_zret hx hb hr hlocks rfl (by obtain ⟨h, hh, rfl⟩ := (ix_iff (by decide)).mp hox; obtain ⟨k, hk, rfl⟩ := (ix_iff (by decide)).mp hoy; exact Or.inl ⟨h, k, hh, hk, fun z => hxy (by rw [z]), rfl, rfl, hz, rfl, hW⟩) hS (by decide) (by decide) dX5_isPair_48
        · have hxz : x = y ∨ z = 0 := Or.inr c9
          refine lv_iconst (v := 2) hx hb dX5_isPair_28 (by decide) ?_
          refine lv_goto (tgt := 33) hx hb dX5_isPair_29 (by decide) ?_
          refine m_putt (x := 2) hx hb hts (fun _ h => List.mem_cons_of_mem _ (List.mem_append_right _ (h))) hown hE hW hD hS rfl (hts (.fieldLink RX5 74 "RoamingHouseModel" "thrown" "I") (by decide +kernel)) rfl rfl rfl (Nat.le_of_ble_eq_true rfl) rfl dX5_isPair_33 (fun H locs hW hS => ?_)
          refine lv_aload_n hx hb dX5_isPair_36 rfl (lv_at hl 0 rfl) ?_
          refine rh_get (ci := 5) (C := RX5) (T := TX5) (N := 26) (v := .int 2) hx hb hts (fun _ h => List.mem_cons_of_mem _ (List.mem_append_right _ (h))) hown hE (hW.at 10 0 Nat.zero_lt_one) rfl 25 (by decide) (hts (.fieldLink RX5 74 "RoamingHouseModel" "thrown" "I") (by decide +kernel)) rfl dX5_isPair_37 ?_
          refine lv_if_ne (tgt := 47) hx hb dX5_isPair_40 (by decide) (fun c11 => ?_) (fun c11 => absurd c11 (by decide))
          refine lv_iconst (v := 0) hx hb dX5_isPair_47 (by decide) ?_
          exact rh_zret hx hb hr hlocks rfl (Or.inr (Or.inr ⟨hox, hoy, hxz, rfl, hW⟩)) hS (by decide) (by decide) dX5_isPair_48
    · have hno : ¬ (ix x 4 ∧ ix y 4) := fun z => ho5 z.2
      refine W.eq (g2 := F0 m 12 ls [.int 0, .ref (ad 10 0)]) rfl ?_
      refine lv_if_ne (tgt := 19) hx hb dX5_isPair_12 (by decide) (fun c12 => absurd c12 (by decide)) (fun c12 => ?_)
      refine lv_iconst (v := 1) hx hb dX5_isPair_15 (by decide) ?_
      refine lv_goto (tgt := 33) hx hb dX5_isPair_16 (by decide) ?_
      refine m_putt (x := 1) hx hb hts (fun _ h => List.mem_cons_of_mem _ (List.mem_append_right _ (h))) hown hE hW hD hS rfl (hts (.fieldLink RX5 74 "RoamingHouseModel" "thrown" "I") (by decide +kernel)) rfl rfl rfl (Nat.le_of_ble_eq_true rfl) rfl dX5_isPair_33 (fun H locs hW hS => ?_)
      refine lv_aload_n hx hb dX5_isPair_36 rfl (lv_at hl 0 rfl) ?_
      refine rh_get (ci := 5) (C := RX5) (T := TX5) (N := 26) (v := .int 1) hx hb hts (fun _ h => List.mem_cons_of_mem _ (List.mem_append_right _ (h))) hown hE (hW.at 10 0 Nat.zero_lt_one) rfl 25 (by decide) (hts (.fieldLink RX5 74 "RoamingHouseModel" "thrown" "I") (by decide +kernel)) rfl dX5_isPair_37 ?_
      refine lv_if_ne (tgt := 47) hx hb dX5_isPair_40 (by decide) (fun c13 => ?_) (fun c13 => absurd c13 (by decide))
      refine lv_iconst (v := 0) hx hb dX5_isPair_47 (by decide) ?_
      exact rh_zret hx hb hr hlocks rfl (Or.inr (Or.inl ⟨hno, rfl, hW⟩)) hS (by decide) (by decide) dX5_isPair_48
  · have hno : ¬ (ix x 4 ∧ ix y 4) := fun z => ho2 z.1
    refine W.eq (g2 := F0 m 5 ls [.int 0, .ref (ad 10 0)]) rfl ?_
    refine lv_if_eq (tgt := 15) hx hb dX5_isPair_5 (by decide) (fun c14 => ?_) (fun c14 => absurd c14 (by decide))
    refine lv_iconst (v := 1) hx hb dX5_isPair_15 (by decide) ?_
    refine lv_goto (tgt := 33) hx hb dX5_isPair_16 (by decide) ?_
    refine m_putt (x := 1) hx hb hts (fun _ h => List.mem_cons_of_mem _ (List.mem_append_right _ (h))) hown hE hW hD hS rfl (hts (.fieldLink RX5 74 "RoamingHouseModel" "thrown" "I") (by decide +kernel)) rfl rfl rfl (Nat.le_of_ble_eq_true rfl) rfl dX5_isPair_33 (fun H locs hW hS => ?_)
    refine lv_aload_n hx hb dX5_isPair_36 rfl (lv_at hl 0 rfl) ?_
    refine rh_get (ci := 5) (C := RX5) (T := TX5) (N := 26) (v := .int 1) hx hb hts (fun _ h => List.mem_cons_of_mem _ (List.mem_append_right _ (h))) hown hE (hW.at 10 0 Nat.zero_lt_one) rfl 25 (by decide) (hts (.fieldLink RX5 74 "RoamingHouseModel" "thrown" "I") (by decide +kernel)) rfl dX5_isPair_37 ?_
    refine lv_if_ne (tgt := 47) hx hb dX5_isPair_40 (by decide) (fun c15 => ?_) (fun c15 => absurd c15 (by decide))
    refine lv_iconst (v := 0) hx hb dX5_isPair_47 (by decide) ?_
    exact rh_zret hx hb hr hlocks rfl (Or.inr (Or.inl ⟨hno, rfl, hW⟩)) hS (by decide) (by decide) dX5_isPair_48
set_option maxHeartbeats 4000000 in
set_option maxRecDepth 100000 in
/-- expected -/
theorem ct_X5_expected (l : Launch) {G : va_G} {ca : Nat → ClassId} {A : Nat → Prop} {ad : Nat → Nat → Nat} {w : rh_Wm} {th : Int32} (hD : rh_D A ad (fun k i => i < m_n k)) (x y : Int32) : rh_M l yX5_expected wsX5_expected ({ frames := 4, cells := 0, slots := 0, locals := 120 } : Room) G ca A [.ref (ad 10 0), .int x, .int y] (m_W G ca ad w th) (fun o H => (∃ h9 k9 : Nat, h9 < 4 ∧ k9 < 4 ∧ h9 ≠ k9 ∧ x = nI h9 ∧ y = nI k9 ∧ o = some (.int (w 18 (h9 * 4 + k9))) ∧ m_W G ca ad w 0 H) ∨ (¬ (ix x 4 ∧ ix y 4) ∧ (∃ z, o = some (.int z)) ∧ m_W G ca ad w 1 H) ∨ (ix x 4 ∧ ix y 4 ∧ x = y ∧ (∃ z, o = some (.int z)) ∧ m_W G ca ad w 2 H)) rh_no 0 0 := by
  refine rh_enter (cc := cX5_expected) (maxL := 3) (ret := (some .int)) (by decide) rfl (Nat.le_of_ble_eq_true rfl) ?_
  intro p e s m below meth c ls hx hb hr hml hown hts hlocks hex hin hE hA hW hl
  have hS : va_S A s.heap s.heap [] := va_S.rf
  have hl : lv_has ls 3 [(0, .ref (ad 10 0)), (1, .int x), (2, .int y)] := hl
  refine lv_aload_n hx hb dX5_expected_0 rfl (lv_at hl 0 rfl) ?_
  refine lv_iload_n hx hb dX5_expected_1 rfl (lv_at hl 1 rfl) ?_
  refine lv_iload_n hx hb dX5_expected_2 rfl (lv_at hl 2 rfl) ?_
  refine lv_iconst (v := 1) hx hb dX5_expected_3 (by decide) ?_
  refine rh_calln (vx_runV (As := [.int x, .int y, .int 1]) (rest := []) ⟨hx, hb, hml, hown, hts⟩ (ct_X5_isPair l hD x y 1) (cwV 3 hts gX5_expected_X5_isPair rfl rfl rfl (by decide +kernel) ⟨by decide, by decide⟩) (rh_preV hE hS hA (hW.at 10 0 Nat.zero_lt_one) rfl hW) rfl rfl hl.1 rfl (lv_room (Nat.le_of_ble_eq_true rfl)) dX5_expected_4 ⟨by decide, by decide⟩) hS (fun o H locs hN1 hS => ?_)
  rcases hN1 with ⟨h, k, hh, hk, hne, rfl, rfl, hz, rfl, hW⟩ | ⟨hno, rfl, hW⟩ | ⟨hox, hoy, hxz, rfl, hW⟩
  · refine W.eq (g2 := F0 m 7 ls [.int 1]) rfl ?_
    refine lv_if_eq (tgt := 23) hx hb dX5_expected_7 (by decide) (fun c2 => absurd c2 (by decide)) (fun c2 => ?_)
    refine lv_aload_n hx hb dX5_expected_10 rfl (lv_at hl 0 rfl) ?_
    refine rh_get (ci := 5) (C := RX5) (T := TX5) (N := 26) (v := .ref (ad 38 0)) hx hb hts (fun _ h => List.mem_cons_of_mem _ (List.mem_append_right _ (h))) hown hE (hW.at 10 0 Nat.zero_lt_one) rfl 18 (by decide) (hts (.fieldLink RX5 55 "RoamingHouseModel" "expects" "[I") (by decide +kernel)) rfl dX5_expected_11 ?_
    refine lv_iconst (v := 4) hx hb dX5_expected_14 (by decide) ?_
    refine lv_iload_n hx hb dX5_expected_15 rfl (lv_at hl 1 rfl) ?_
    refine lv_imul hx hb dX5_expected_16 ?_
    refine lv_iload_n hx hb dX5_expected_17 rfl (lv_at hl 2 rfl) ?_
    refine lv_iadd hx hb dX5_expected_18 ?_
    rw [(m_4pq hh hk).1]
    refine rh_iald (n := 16) (f := w 18) hx hb hE (hW.at 38 0 Nat.zero_lt_one) (h * 4 + k) (m_4pq hh hk).2 (by decide) rfl dX5_expected_19 ?_
    refine lv_goto (tgt := 24) hx hb dX5_expected_20 (by decide) ?_
    exact rh_iret hx hb hr hlocks (Or.inl ⟨h, k, hh, hk, hne, rfl, rfl, rfl, hW⟩) hS (by decide) (by decide) dX5_expected_24
  · refine W.eq (g2 := F0 m 7 ls [.int 0]) rfl ?_
    refine lv_if_eq (tgt := 23) hx hb dX5_expected_7 (by decide) (fun c3 => ?_) (fun c3 => absurd c3 (by decide))
    refine lv_iconst (v := 0) hx hb dX5_expected_23 (by decide) ?_
    exact rh_iret hx hb hr hlocks (Or.inr (Or.inl ⟨hno, ⟨_, rfl⟩, hW⟩)) hS (by decide) (by decide) dX5_expected_24
  · refine W.eq (g2 := F0 m 7 ls [.int 0]) rfl ?_
    refine lv_if_eq (tgt := 23) hx hb dX5_expected_7 (by decide) (fun c4 => ?_) (fun c4 => absurd c4 (by decide))
    refine lv_iconst (v := 0) hx hb dX5_expected_23 (by decide) ?_
    exact rh_iret hx hb hr hlocks (Or.inr (Or.inr ⟨hox, hoy, (hxz.elim (fun z => z) (fun z => absurd z (by decide))), ⟨_, rfl⟩, hW⟩)) hS (by decide) (by decide) dX5_expected_24
set_option maxHeartbeats 4000000 in
set_option maxRecDepth 100000 in
/-- begin -/
theorem ct_X5_begin (l : Launch) {G : va_G} {ca : Nat → ClassId} {A : Nat → Prop} {ad : Nat → Nat → Nat} {nf nc : Nat} {r : rh_R} {w : rh_Wm} {th : Int32} (hD : rh_D A ad (fun k i => i < m_n k)) (hwf : m_wf0 nf nc r w) (x y : Int32) : rh_M l yX5_begin wsX5_begin ({ frames := 4, cells := 0, slots := 0, locals := 120 } : Room) G ca A [.ref (ad 10 0), .int x, .int y] (m_W G ca ad w th) (fun o H => (∃ h9 k9 : Nat, h9 < 4 ∧ k9 < 4 ∧ h9 ≠ k9 ∧ x = nI h9 ∧ y = nI k9 ∧ nf < 30 ∧ o = some (.int (nI nf)) ∧ m_W G ca ad (wm (wm (wm (wm w 5 nf (nI (h9 * 4 + k9))) 6 nf (w 26 24)) 7 nf 0) 26 4 (nI (nf + 1))) 0 H) ∨ (¬ (ix x 4 ∧ ix y 4) ∧ (∃ z, o = some (.int z)) ∧ m_W G ca ad w 1 H) ∨ (ix x 4 ∧ ix y 4 ∧ x = y ∧ (∃ z, o = some (.int z)) ∧ m_W G ca ad w 2 H) ∨ (∃ h9 k9 : Nat, h9 < 4 ∧ k9 < 4 ∧ h9 ≠ k9 ∧ x = nI h9 ∧ y = nI k9 ∧ nf = 30 ∧ (∃ z, o = some (.int z)) ∧ m_W G ca ad w 3 H)) rh_no 0 0 := by
  obtain ⟨hnf, hnc, hfc, hcc, h5, h10, hst⟩ := id hwf
  refine rh_enter (cc := cX5_begin) (maxL := 3) (ret := (some .int)) (by decide) rfl (Nat.le_of_ble_eq_true rfl) ?_
  intro p e s m below meth c ls hx hb hr hml hown hts hlocks hex hin hE hA hW hl
  have hS : va_S A s.heap s.heap [] := va_S.rf
  have hl : lv_has ls 3 [(0, .ref (ad 10 0)), (1, .int x), (2, .int y)] := hl
  refine lv_aload_n hx hb dX5_begin_0 rfl (lv_at hl 0 rfl) ?_
  refine lv_iload_n hx hb dX5_begin_1 rfl (lv_at hl 1 rfl) ?_
  refine lv_iload_n hx hb dX5_begin_2 rfl (lv_at hl 2 rfl) ?_
  refine lv_iconst (v := 1) hx hb dX5_begin_3 (by decide) ?_
  refine rh_calln (vx_runV (As := [.int x, .int y, .int 1]) (rest := []) ⟨hx, hb, hml, hown, hts⟩ (ct_X5_isPair l hD x y 1) (cwV 3 hts gX5_begin_X5_isPair rfl rfl rfl (by decide +kernel) ⟨by decide, by decide⟩) (rh_preV hE hS hA (hW.at 10 0 Nat.zero_lt_one) rfl hW) rfl rfl hl.1 rfl (lv_room (Nat.le_of_ble_eq_true rfl)) dX5_begin_4 ⟨by decide, by decide⟩) hS (fun o H locs hN1 hS => ?_)
  rcases hN1 with ⟨h, k, hh, hk, hne, rfl, rfl, hz, rfl, hW⟩ | ⟨hno, rfl, hW⟩ | ⟨hox, hoy, hxz, rfl, hW⟩
  · refine W.eq (g2 := F0 m 7 ls [.int 1]) rfl ?_
    refine lv_if_eq (tgt := 28) hx hb dX5_begin_7 (by decide) (fun c2 => absurd c2 (by decide)) (fun c2 => ?_)
    refine lv_aload_n hx hb dX5_begin_10 rfl (lv_at hl 0 rfl) ?_
    refine lv_aload_n hx hb dX5_begin_11 rfl (lv_at hl 0 rfl) ?_
    refine rh_get (ci := 5) (C := RX5) (T := TX5) (N := 26) (v := .int (w 26 4)) hx hb hts (fun _ h => List.mem_cons_of_mem _ (List.mem_append_right _ (h))) hown hE (hW.at 10 0 Nat.zero_lt_one) rfl 4 (by decide) (hts (.fieldLink RX5 86 "RoamingHouseModel" "fileMany" "I") (by decide +kernel)) rfl dX5_begin_12 ?_
    refine lv_bipush (v := 30) hx hb dX5_begin_15 (by decide) ?_
    refine lv_icmp_ne (tgt := 24) hx hb dX5_begin_17 (by decide) (fun c3 => ?_) (fun c3 => ?_)
    · have hnl : nf < 30 := by
        rcases Nat.lt_or_ge nf 30 with z | z
        · exact z
        · exact absurd (by rw [hfc, show nf = 30 by omega]; rfl) c3
      refine lv_iconst (v := 0) hx hb dX5_begin_24 (by decide) ?_
      refine m_putt (x := 0) hx hb hts (fun _ h => List.mem_cons_of_mem _ (List.mem_append_right _ (h))) hown hE hW hD hS rfl (hts (.fieldLink RX5 74 "RoamingHouseModel" "thrown" "I") (by decide +kernel)) rfl rfl rfl (Nat.le_of_ble_eq_true rfl) rfl dX5_begin_25 (fun H locs hW hS => ?_)
      refine lv_aload_n hx hb dX5_begin_28 rfl (lv_at hl 0 rfl) ?_
      refine rh_get (ci := 5) (C := RX5) (T := TX5) (N := 26) (v := .int 0) hx hb hts (fun _ h => List.mem_cons_of_mem _ (List.mem_append_right _ (h))) hown hE (hW.at 10 0 Nat.zero_lt_one) rfl 25 (by decide) (hts (.fieldLink RX5 74 "RoamingHouseModel" "thrown" "I") (by decide +kernel)) rfl dX5_begin_29 ?_
      refine lv_if_le (tgt := 37) hx hb dX5_begin_32 (by decide) (fun c4 => ?_) (fun c4 => absurd c4 (by decide))
      refine lv_aload_n hx hb dX5_begin_37 rfl (lv_at hl 0 rfl) ?_
      refine rh_get (ci := 5) (C := RX5) (T := TX5) (N := 26) (v := .ref (ad 25 0)) hx hb hts (fun _ h => List.mem_cons_of_mem _ (List.mem_append_right _ (h))) hown hE (hW.at 10 0 Nat.zero_lt_one) rfl 5 (by decide) (hts (.fieldLink RX5 22 "RoamingHouseModel" "pairOf" "[I") (by decide +kernel)) rfl dX5_begin_38 ?_
      refine lv_aload_n hx hb dX5_begin_41 rfl (lv_at hl 0 rfl) ?_
      refine rh_get (ci := 5) (C := RX5) (T := TX5) (N := 26) (v := .int (w 26 4)) hx hb hts (fun _ h => List.mem_cons_of_mem _ (List.mem_append_right _ (h))) hown hE (hW.at 10 0 Nat.zero_lt_one) rfl 4 (by decide) (hts (.fieldLink RX5 86 "RoamingHouseModel" "fileMany" "I") (by decide +kernel)) rfl dX5_begin_42 ?_
      rw [hfc]
      refine lv_iconst (v := 4) hx hb dX5_begin_45 (by decide) ?_
      refine lv_iload_n hx hb dX5_begin_46 rfl (lv_at hl 1 rfl) ?_
      refine lv_imul hx hb dX5_begin_47 ?_
      refine lv_iload_n hx hb dX5_begin_48 rfl (lv_at hl 2 rfl) ?_
      refine lv_iadd hx hb dX5_begin_49 ?_
      rw [(m_4pq hh hk).1]
      refine m_iast (x := (nI (h * 4 + k))) hx hb hE hW hD hS 5 (n := 30) (by decide) Nat.zero_lt_one rfl nf (by omega) (by decide) rfl rfl dX5_begin_50 (fun H locs hW hS => ?_)
      refine lv_aload_n hx hb dX5_begin_51 rfl (lv_at hl 0 rfl) ?_
      refine rh_get (ci := 5) (C := RX5) (T := TX5) (N := 26) (v := .ref (ad 26 0)) hx hb hts (fun _ h => List.mem_cons_of_mem _ (List.mem_append_right _ (h))) hown hE (hW.at 10 0 Nat.zero_lt_one) rfl 6 (by decide) (hts (.fieldLink RX5 25 "RoamingHouseModel" "fileMonths" "[I") (by decide +kernel)) rfl dX5_begin_52 ?_
      refine lv_aload_n hx hb dX5_begin_55 rfl (lv_at hl 0 rfl) ?_
      refine rh_get (ci := 5) (C := RX5) (T := TX5) (N := 26) (v := .int (w 26 4)) hx hb hts (fun _ h => List.mem_cons_of_mem _ (List.mem_append_right _ (h))) hown hE (hW.at 10 0 Nat.zero_lt_one) rfl 4 (by decide) (hts (.fieldLink RX5 86 "RoamingHouseModel" "fileMany" "I") (by decide +kernel)) (show some (Value.int ((wm w 5 nf (nI (h * 4 + k))) 26 4)) = some (Value.int (w 26 4)) from by simp [wm_at]) dX5_begin_56 ?_
      rw [hfc]
      refine lv_aload_n hx hb dX5_begin_59 rfl (lv_at hl 0 rfl) ?_
      refine rh_get (ci := 5) (C := RX5) (T := TX5) (N := 26) (v := .int (w 26 24)) hx hb hts (fun _ h => List.mem_cons_of_mem _ (List.mem_append_right _ (h))) hown hE (hW.at 10 0 Nat.zero_lt_one) rfl 24 (by decide) (hts (.fieldLink RX5 101 "RoamingHouseModel" "now" "I") (by decide +kernel)) (show some (Value.int ((wm w 5 nf (nI (h * 4 + k))) 26 24)) = some (Value.int (w 26 24)) from by simp [wm_at]) dX5_begin_60 ?_
      refine m_iast (x := (w 26 24)) hx hb hE hW hD hS 6 (n := 30) (by decide) Nat.zero_lt_one rfl nf (by omega) (by decide) rfl rfl dX5_begin_63 (fun H locs hW hS => ?_)
      refine lv_aload_n hx hb dX5_begin_64 rfl (lv_at hl 0 rfl) ?_
      refine rh_get (ci := 5) (C := RX5) (T := TX5) (N := 26) (v := .ref (ad 27 0)) hx hb hts (fun _ h => List.mem_cons_of_mem _ (List.mem_append_right _ (h))) hown hE (hW.at 10 0 Nat.zero_lt_one) rfl 7 (by decide) (hts (.fieldLink RX5 28 "RoamingHouseModel" "fileStates" "[I") (by decide +kernel)) rfl dX5_begin_65 ?_
      refine lv_aload_n hx hb dX5_begin_68 rfl (lv_at hl 0 rfl) ?_
      refine rh_get (ci := 5) (C := RX5) (T := TX5) (N := 26) (v := .int (w 26 4)) hx hb hts (fun _ h => List.mem_cons_of_mem _ (List.mem_append_right _ (h))) hown hE (hW.at 10 0 Nat.zero_lt_one) rfl 4 (by decide) (hts (.fieldLink RX5 86 "RoamingHouseModel" "fileMany" "I") (by decide +kernel)) (show some (Value.int ((wm (wm w 5 nf (nI (h * 4 + k))) 6 nf (w 26 24)) 26 4)) = some (Value.int (w 26 4)) from by simp [wm_at]) dX5_begin_69 ?_
      rw [hfc]
      refine lv_iconst (v := 0) hx hb dX5_begin_72 (by decide) ?_
      refine m_iast (x := 0) hx hb hE hW hD hS 7 (n := 30) (by decide) Nat.zero_lt_one rfl nf (by omega) (by decide) rfl rfl dX5_begin_73 (fun H locs hW hS => ?_)
      refine lv_aload_n hx hb dX5_begin_74 rfl (lv_at hl 0 rfl) ?_
      refine lv_dup hx hb dX5_begin_75 rfl ?_
      refine rh_get (ci := 5) (C := RX5) (T := TX5) (N := 26) (v := .int (w 26 4)) hx hb hts (fun _ h => List.mem_cons_of_mem _ (List.mem_append_right _ (h))) hown hE (hW.at 10 0 Nat.zero_lt_one) rfl 4 (by decide) (hts (.fieldLink RX5 86 "RoamingHouseModel" "fileMany" "I") (by decide +kernel)) (show some (Value.int ((wm (wm (wm w 5 nf (nI (h * 4 + k))) 6 nf (w 26 24)) 7 nf 0) 26 4)) = some (Value.int (w 26 4)) from by simp [wm_at]) dX5_begin_76 ?_
      refine lv_iconst (v := 1) hx hb dX5_begin_79 (by decide) ?_
      refine lv_iadd hx hb dX5_begin_80 ?_
      refine m_put (x := (w 26 4 + 1)) hx hb hts (fun _ h => List.mem_cons_of_mem _ (List.mem_append_right _ (h))) hown hE hW hD hS rfl 4 (by decide) (hts (.fieldLink RX5 86 "RoamingHouseModel" "fileMany" "I") (by decide +kernel)) rfl rfl rfl (Nat.le_of_ble_eq_true rfl) rfl dX5_begin_81 (fun H locs hW hS => ?_)
      refine lv_aload_n hx hb dX5_begin_84 rfl (lv_at hl 0 rfl) ?_
      refine rh_get (ci := 5) (C := RX5) (T := TX5) (N := 26) (v := .int (w 26 4 + 1)) hx hb hts (fun _ h => List.mem_cons_of_mem _ (List.mem_append_right _ (h))) hown hE (hW.at 10 0 Nat.zero_lt_one) rfl 4 (by decide) (hts (.fieldLink RX5 86 "RoamingHouseModel" "fileMany" "I") (by decide +kernel)) (show some (Value.int ((wm (wm (wm (wm w 5 nf (nI (h * 4 + k))) 6 nf (w 26 24)) 7 nf 0) 26 4 (w 26 4 + 1)) 26 4)) = some (Value.int ((w 26 4 + 1))) from by simp [wm_at]) dX5_begin_85 ?_
      refine lv_iconst (v := 1) hx hb dX5_begin_88 (by decide) ?_
      refine lv_isub hx hb dX5_begin_89 ?_
      rw [show w 26 4 + 1 - 1 = nI nf by rw [hfc]; exact Int32.add_sub_cancel _ _]
      exact rh_iret hx hb hr hlocks (Or.inl ⟨h, k, hh, hk, hne, rfl, rfl, hnl, rfl, (by rw [show nI (nf + 1) = w 26 4 + 1 by rw [hfc, nI_1]]; exact hW)⟩) hS (by decide) (by decide) dX5_begin_90
    · have hn30 : nf = 30 := m_inj (by omega) (by decide) (hfc.symm.trans c3)
      refine lv_iconst (v := 3) hx hb dX5_begin_20 (by decide) ?_
      refine lv_goto (tgt := 25) hx hb dX5_begin_21 (by decide) ?_
      refine m_putt (x := 3) hx hb hts (fun _ h => List.mem_cons_of_mem _ (List.mem_append_right _ (h))) hown hE hW hD hS rfl (hts (.fieldLink RX5 74 "RoamingHouseModel" "thrown" "I") (by decide +kernel)) rfl rfl rfl (Nat.le_of_ble_eq_true rfl) rfl dX5_begin_25 (fun H locs hW hS => ?_)
      refine lv_aload_n hx hb dX5_begin_28 rfl (lv_at hl 0 rfl) ?_
      refine rh_get (ci := 5) (C := RX5) (T := TX5) (N := 26) (v := .int 3) hx hb hts (fun _ h => List.mem_cons_of_mem _ (List.mem_append_right _ (h))) hown hE (hW.at 10 0 Nat.zero_lt_one) rfl 25 (by decide) (hts (.fieldLink RX5 74 "RoamingHouseModel" "thrown" "I") (by decide +kernel)) rfl dX5_begin_29 ?_
      refine lv_if_le (tgt := 37) hx hb dX5_begin_32 (by decide) (fun c5 => absurd c5 (by decide)) (fun c5 => ?_)
      refine lv_iconst (v := 0) hx hb dX5_begin_35 (by decide) ?_
      exact rh_iret hx hb hr hlocks (Or.inr (Or.inr (Or.inr ⟨h, k, hh, hk, hne, rfl, rfl, hn30, ⟨_, rfl⟩, hW⟩))) hS (by decide) (by decide) dX5_begin_36
  · refine W.eq (g2 := F0 m 7 ls [.int 0]) rfl ?_
    refine lv_if_eq (tgt := 28) hx hb dX5_begin_7 (by decide) (fun c6 => ?_) (fun c6 => absurd c6 (by decide))
    refine lv_aload_n hx hb dX5_begin_28 rfl (lv_at hl 0 rfl) ?_
    refine rh_get (ci := 5) (C := RX5) (T := TX5) (N := 26) (v := .int 1) hx hb hts (fun _ h => List.mem_cons_of_mem _ (List.mem_append_right _ (h))) hown hE (hW.at 10 0 Nat.zero_lt_one) rfl 25 (by decide) (hts (.fieldLink RX5 74 "RoamingHouseModel" "thrown" "I") (by decide +kernel)) rfl dX5_begin_29 ?_
    refine lv_if_le (tgt := 37) hx hb dX5_begin_32 (by decide) (fun c7 => absurd c7 (by decide)) (fun c7 => ?_)
    refine lv_iconst (v := 0) hx hb dX5_begin_35 (by decide) ?_
    exact rh_iret hx hb hr hlocks (Or.inr (Or.inl ⟨hno, ⟨_, rfl⟩, hW⟩)) hS (by decide) (by decide) dX5_begin_36
  · refine W.eq (g2 := F0 m 7 ls [.int 0]) rfl ?_
    refine lv_if_eq (tgt := 28) hx hb dX5_begin_7 (by decide) (fun c8 => ?_) (fun c8 => absurd c8 (by decide))
    refine lv_aload_n hx hb dX5_begin_28 rfl (lv_at hl 0 rfl) ?_
    refine rh_get (ci := 5) (C := RX5) (T := TX5) (N := 26) (v := .int 2) hx hb hts (fun _ h => List.mem_cons_of_mem _ (List.mem_append_right _ (h))) hown hE (hW.at 10 0 Nat.zero_lt_one) rfl 25 (by decide) (hts (.fieldLink RX5 74 "RoamingHouseModel" "thrown" "I") (by decide +kernel)) rfl dX5_begin_29 ?_
    refine lv_if_le (tgt := 37) hx hb dX5_begin_32 (by decide) (fun c9 => absurd c9 (by decide)) (fun c9 => ?_)
    refine lv_iconst (v := 0) hx hb dX5_begin_35 (by decide) ?_
    exact rh_iret hx hb hr hlocks (Or.inr (Or.inr (Or.inl ⟨hox, hoy, (hxz.elim (fun z => z) (fun z => absurd z (by decide))), ⟨_, rfl⟩, hW⟩))) hS (by decide) (by decide) dX5_begin_36
set_option maxHeartbeats 4000000 in
set_option maxRecDepth 100000 in
/-- enter -/
theorem ct_X5_enter (l : Launch) {G : va_G} {ca : Nat → ClassId} {A : Nat → Prop} {ad : Nat → Nat → Nat} {nf nc : Nat} {r : rh_R} {w : rh_Wm} {th : Int32} (hD : rh_D A ad (fun k i => i < m_n k)) (hwf : m_wf0 nf nc r w) (x se to : Int32) : rh_M l yX5_enter wsX5_enter ({ frames := 4, cells := 0, slots := 0, locals := 120 } : Room) G ca A [.ref (ad 10 0), .int x, .int se, .int to] (m_W G ca ad w th) (fun o H => (∃ i9 : Nat, i9 < nf ∧ x = nI i9 ∧ rng se 1 36000 ∧ rng to 0 50000000 ∧ w 7 i9 = 0 ∧ nc < 60 ∧ o = some (.int (nI nc)) ∧ m_W G ca ad (wm (wm (wm (wm (wm w 10 nc (nI i9)) 11 nc se) 12 nc to) 13 nc 0) 26 9 (nI (nc + 1))) 0 H) ∨ (¬ ix x nf ∧ (∃ z, o = some (.int z)) ∧ m_W G ca ad w 1 H) ∨ (ix x nf ∧ ¬ (rng se 1 36000 ∧ rng to 0 50000000) ∧ (∃ z, o = some (.int z)) ∧ m_W G ca ad w 2 H) ∨ (∃ i9 : Nat, i9 < nf ∧ x = nI i9 ∧ rng se 1 36000 ∧ rng to 0 50000000 ∧ (¬ w 7 i9 = 0 ∨ nc = 60) ∧ (∃ z, o = some (.int z)) ∧ m_W G ca ad w 3 H)) rh_no 0 0 := by
  obtain ⟨hnf, hnc, hfc, hcc, h5, h10, hst⟩ := id hwf
  refine rh_enter (cc := cX5_enter) (maxL := 4) (ret := (some .int)) (by decide) rfl (Nat.le_of_ble_eq_true rfl) ?_
  intro p e s m below meth c ls hx hb hr hml hown hts hlocks hex hin hE hA hW hl
  have hS : va_S A s.heap s.heap [] := va_S.rf
  have hl : lv_has ls 4 [(0, .ref (ad 10 0)), (1, .int x), (2, .int se), (3, .int to)] := hl
  refine lv_aload_n hx hb dX5_enter_0 rfl (lv_at hl 0 rfl) ?_
  refine lv_aload_n hx hb dX5_enter_1 rfl (lv_at hl 0 rfl) ?_
  refine lv_iload_n hx hb dX5_enter_2 rfl (lv_at hl 1 rfl) ?_
  refine rh_calln (vx_runV (As := [.int x]) (rest := [.ref (ad 10 0)]) ⟨hx, hb, hml, hown, hts⟩ (ct_X5_isFile l hD hwf x) (cwV 1 hts gX5_enter_X5_isFile rfl rfl rfl (by decide +kernel) ⟨by decide, by decide⟩) (rh_preV hE hS hA (hW.at 10 0 Nat.zero_lt_one) rfl hW) rfl rfl hl.1 rfl (lv_room (Nat.le_of_ble_eq_true rfl)) dX5_enter_3 ⟨by decide, by decide⟩) hS (fun o H locs hN1 hS => ?_)
  obtain ⟨⟨ho2, rfl⟩ | ⟨ho2, rfl⟩, hW⟩ := hN1
  · have ho := ho2
    refine W.eq (g2 := F0 m 6 ls [.int 1, .ref (ad 10 0)]) rfl ?_
    refine lv_if_ne (tgt := 13) hx hb dX5_enter_6 (by decide) (fun c3 => ?_) (fun c3 => absurd c3 (by decide))
    refine lv_iload_n hx hb dX5_enter_13 rfl (lv_at hl 2 rfl) ?_
    refine lv_iconst (v := 1) hx hb dX5_enter_14 (by decide) ?_
    refine lv_ldc (v := 36000) hx hb hown (hts (.constant RX5 92 (36000)) (by decide +kernel)) dX5_enter_15 ?_
    refine rh_calln (vx_runS (As := [.int se, .int 1, .int 36000]) (rest := [.ref (ad 10 0)]) ⟨hx, hb, hml, hown, hts⟩ (ct_X5_in l hD se 1 36000) (va_cwS 3 hts gX5_enter_X5_in rfl rfl rfl (by decide +kernel) ⟨by decide, by decide⟩) (rh_pre hE hS hA hW) rfl rfl hl.1 rfl (lv_room (Nat.le_of_ble_eq_true rfl)) dX5_enter_17 ⟨by decide, by decide⟩) hS (fun o H locs hN4 hS => ?_)
    obtain ⟨⟨hg5, rfl⟩ | ⟨hg5, rfl⟩, hW⟩ := hN4
    · have hga := hg5
      refine W.eq (g2 := F0 m 20 ls [.int 1, .ref (ad 10 0)]) rfl ?_
      refine lv_if_eq (tgt := 33) hx hb dX5_enter_20 (by decide) (fun c6 => absurd c6 (by decide)) (fun c6 => ?_)
      refine lv_iload_n hx hb dX5_enter_23 rfl (lv_at hl 3 rfl) ?_
      refine lv_iconst (v := 0) hx hb dX5_enter_24 (by decide) ?_
      refine lv_ldc (v := 50000000) hx hb hown (hts (.constant RX5 107 (50000000)) (by decide +kernel)) dX5_enter_25 ?_
      refine rh_calln (vx_runS (As := [.int to, .int 0, .int 50000000]) (rest := [.ref (ad 10 0)]) ⟨hx, hb, hml, hown, hts⟩ (ct_X5_in l hD to 0 50000000) (va_cwS 3 hts gX5_enter_X5_in rfl rfl rfl (by decide +kernel) ⟨by decide, by decide⟩) (rh_pre hE hS hA hW) rfl rfl hl.1 rfl (lv_room (Nat.le_of_ble_eq_true rfl)) dX5_enter_27 ⟨by decide, by decide⟩) hS (fun o H locs hN7 hS => ?_)
      obtain ⟨⟨hg8, rfl⟩ | ⟨hg8, rfl⟩, hW⟩ := hN7
      · have hgb := hg8
        refine W.eq (g2 := F0 m 30 ls [.int 1, .ref (ad 10 0)]) rfl ?_
        refine lv_if_ne (tgt := 37) hx hb dX5_enter_30 (by decide) (fun c9 => ?_) (fun c9 => absurd c9 (by decide))
        obtain ⟨f, hf, rfl⟩ := (ix_iff (by omega)).mp ho
        refine lv_aload_n hx hb dX5_enter_37 rfl (lv_at hl 0 rfl) ?_
        refine rh_get (ci := 5) (C := RX5) (T := TX5) (N := 26) (v := .ref (ad 27 0)) hx hb hts (fun _ h => List.mem_cons_of_mem _ (List.mem_append_right _ (h))) hown hE (hW.at 10 0 Nat.zero_lt_one) rfl 7 (by decide) (hts (.fieldLink RX5 28 "RoamingHouseModel" "fileStates" "[I") (by decide +kernel)) rfl dX5_enter_38 ?_
        refine lv_iload_n hx hb dX5_enter_41 rfl (lv_at hl 1 rfl) ?_
        refine rh_iald (n := 30) (f := w 7) hx hb hE (hW.at 27 0 Nat.zero_lt_one) f (by omega) (by decide) rfl dX5_enter_42 ?_
        refine lv_if_ne (tgt := 55) hx hb dX5_enter_43 (by decide) (fun c10 => ?_) (fun c10 => ?_)
        · have h3 : ¬ w 7 f = 0 ∨ nc = 60 := Or.inl c10
          refine lv_iconst (v := 3) hx hb dX5_enter_55 (by decide) ?_
          refine lv_goto (tgt := 60) hx hb dX5_enter_56 (by decide) ?_
          refine m_putt (x := 3) hx hb hts (fun _ h => List.mem_cons_of_mem _ (List.mem_append_right _ (h))) hown hE hW hD hS rfl (hts (.fieldLink RX5 74 "RoamingHouseModel" "thrown" "I") (by decide +kernel)) rfl rfl rfl (Nat.le_of_ble_eq_true rfl) rfl dX5_enter_60 (fun H locs hW hS => ?_)
          refine lv_aload_n hx hb dX5_enter_63 rfl (lv_at hl 0 rfl) ?_
          refine rh_get (ci := 5) (C := RX5) (T := TX5) (N := 26) (v := .int 3) hx hb hts (fun _ h => List.mem_cons_of_mem _ (List.mem_append_right _ (h))) hown hE (hW.at 10 0 Nat.zero_lt_one) rfl 25 (by decide) (hts (.fieldLink RX5 74 "RoamingHouseModel" "thrown" "I") (by decide +kernel)) rfl dX5_enter_64 ?_
          refine lv_if_le (tgt := 72) hx hb dX5_enter_67 (by decide) (fun c11 => absurd c11 (by decide)) (fun c11 => ?_)
          refine lv_iconst (v := 0) hx hb dX5_enter_70 (by decide) ?_
          exact rh_iret hx hb hr hlocks (Or.inr (Or.inr (Or.inr ⟨f, hf, rfl, hga, hgb, h3, ⟨_, rfl⟩, hW⟩))) hS (by decide) (by decide) dX5_enter_71
        · have h7 := c10
          refine lv_aload_n hx hb dX5_enter_46 rfl (lv_at hl 0 rfl) ?_
          refine rh_get (ci := 5) (C := RX5) (T := TX5) (N := 26) (v := .int (w 26 9)) hx hb hts (fun _ h => List.mem_cons_of_mem _ (List.mem_append_right _ (h))) hown hE (hW.at 10 0 Nat.zero_lt_one) rfl 9 (by decide) (hts (.fieldLink RX5 89 "RoamingHouseModel" "callMany" "I") (by decide +kernel)) rfl dX5_enter_47 ?_
          refine lv_bipush (v := 60) hx hb dX5_enter_50 (by decide) ?_
          refine lv_icmp_ne (tgt := 59) hx hb dX5_enter_52 (by decide) (fun c12 => ?_) (fun c12 => ?_)
          · have hnl : nc < 60 := by
              rcases Nat.lt_or_ge nc 60 with z | z
              · exact z
              · exact absurd (by rw [hcc, show nc = 60 by omega]; rfl) c12
            refine lv_iconst (v := 0) hx hb dX5_enter_59 (by decide) ?_
            refine m_putt (x := 0) hx hb hts (fun _ h => List.mem_cons_of_mem _ (List.mem_append_right _ (h))) hown hE hW hD hS rfl (hts (.fieldLink RX5 74 "RoamingHouseModel" "thrown" "I") (by decide +kernel)) rfl rfl rfl (Nat.le_of_ble_eq_true rfl) rfl dX5_enter_60 (fun H locs hW hS => ?_)
            refine lv_aload_n hx hb dX5_enter_63 rfl (lv_at hl 0 rfl) ?_
            refine rh_get (ci := 5) (C := RX5) (T := TX5) (N := 26) (v := .int 0) hx hb hts (fun _ h => List.mem_cons_of_mem _ (List.mem_append_right _ (h))) hown hE (hW.at 10 0 Nat.zero_lt_one) rfl 25 (by decide) (hts (.fieldLink RX5 74 "RoamingHouseModel" "thrown" "I") (by decide +kernel)) rfl dX5_enter_64 ?_
            refine lv_if_le (tgt := 72) hx hb dX5_enter_67 (by decide) (fun c13 => ?_) (fun c13 => absurd c13 (by decide))
            refine lv_aload_n hx hb dX5_enter_72 rfl (lv_at hl 0 rfl) ?_
            refine rh_get (ci := 5) (C := RX5) (T := TX5) (N := 26) (v := .ref (ad 30 0)) hx hb hts (fun _ h => List.mem_cons_of_mem _ (List.mem_append_right _ (h))) hown hE (hW.at 10 0 Nat.zero_lt_one) rfl 10 (by decide) (hts (.fieldLink RX5 34 "RoamingHouseModel" "fileOf" "[I") (by decide +kernel)) rfl dX5_enter_73 ?_
            refine lv_aload_n hx hb dX5_enter_76 rfl (lv_at hl 0 rfl) ?_
            refine rh_get (ci := 5) (C := RX5) (T := TX5) (N := 26) (v := .int (w 26 9)) hx hb hts (fun _ h => List.mem_cons_of_mem _ (List.mem_append_right _ (h))) hown hE (hW.at 10 0 Nat.zero_lt_one) rfl 9 (by decide) (hts (.fieldLink RX5 89 "RoamingHouseModel" "callMany" "I") (by decide +kernel)) rfl dX5_enter_77 ?_
            rw [hcc]
            refine lv_iload_n hx hb dX5_enter_80 rfl (lv_at hl 1 rfl) ?_
            refine m_iast (x := (nI f)) hx hb hE hW hD hS 10 (n := 60) (by decide) Nat.zero_lt_one rfl nc (by omega) (by decide) rfl rfl dX5_enter_81 (fun H locs hW hS => ?_)
            refine lv_aload_n hx hb dX5_enter_82 rfl (lv_at hl 0 rfl) ?_
            refine rh_get (ci := 5) (C := RX5) (T := TX5) (N := 26) (v := .ref (ad 31 0)) hx hb hts (fun _ h => List.mem_cons_of_mem _ (List.mem_append_right _ (h))) hown hE (hW.at 10 0 Nat.zero_lt_one) rfl 11 (by decide) (hts (.fieldLink RX5 37 "RoamingHouseModel" "secondsOf" "[I") (by decide +kernel)) rfl dX5_enter_83 ?_
            refine lv_aload_n hx hb dX5_enter_86 rfl (lv_at hl 0 rfl) ?_
            refine rh_get (ci := 5) (C := RX5) (T := TX5) (N := 26) (v := .int (w 26 9)) hx hb hts (fun _ h => List.mem_cons_of_mem _ (List.mem_append_right _ (h))) hown hE (hW.at 10 0 Nat.zero_lt_one) rfl 9 (by decide) (hts (.fieldLink RX5 89 "RoamingHouseModel" "callMany" "I") (by decide +kernel)) (show some (Value.int ((wm w 10 nc (nI f)) 26 9)) = some (Value.int (w 26 9)) from by simp [wm_at]) dX5_enter_87 ?_
            rw [hcc]
            refine lv_iload_n hx hb dX5_enter_90 rfl (lv_at hl 2 rfl) ?_
            refine m_iast (x := se) hx hb hE hW hD hS 11 (n := 60) (by decide) Nat.zero_lt_one rfl nc (by omega) (by decide) rfl rfl dX5_enter_91 (fun H locs hW hS => ?_)
            refine lv_aload_n hx hb dX5_enter_92 rfl (lv_at hl 0 rfl) ?_
            refine rh_get (ci := 5) (C := RX5) (T := TX5) (N := 26) (v := .ref (ad 32 0)) hx hb hts (fun _ h => List.mem_cons_of_mem _ (List.mem_append_right _ (h))) hown hE (hW.at 10 0 Nat.zero_lt_one) rfl 12 (by decide) (hts (.fieldLink RX5 40 "RoamingHouseModel" "charges" "[I") (by decide +kernel)) rfl dX5_enter_93 ?_
            refine lv_aload_n hx hb dX5_enter_96 rfl (lv_at hl 0 rfl) ?_
            refine rh_get (ci := 5) (C := RX5) (T := TX5) (N := 26) (v := .int (w 26 9)) hx hb hts (fun _ h => List.mem_cons_of_mem _ (List.mem_append_right _ (h))) hown hE (hW.at 10 0 Nat.zero_lt_one) rfl 9 (by decide) (hts (.fieldLink RX5 89 "RoamingHouseModel" "callMany" "I") (by decide +kernel)) (show some (Value.int ((wm (wm w 10 nc (nI f)) 11 nc se) 26 9)) = some (Value.int (w 26 9)) from by simp [wm_at]) dX5_enter_97 ?_
            rw [hcc]
            refine lv_iload_n hx hb dX5_enter_100 rfl (lv_at hl 3 rfl) ?_
            refine m_iast (x := to) hx hb hE hW hD hS 12 (n := 60) (by decide) Nat.zero_lt_one rfl nc (by omega) (by decide) rfl rfl dX5_enter_101 (fun H locs hW hS => ?_)
            refine lv_aload_n hx hb dX5_enter_102 rfl (lv_at hl 0 rfl) ?_
            refine rh_get (ci := 5) (C := RX5) (T := TX5) (N := 26) (v := .ref (ad 33 0)) hx hb hts (fun _ h => List.mem_cons_of_mem _ (List.mem_append_right _ (h))) hown hE (hW.at 10 0 Nat.zero_lt_one) rfl 13 (by decide) (hts (.fieldLink RX5 43 "RoamingHouseModel" "callStates" "[I") (by decide +kernel)) rfl dX5_enter_103 ?_
            refine lv_aload_n hx hb dX5_enter_106 rfl (lv_at hl 0 rfl) ?_
            refine rh_get (ci := 5) (C := RX5) (T := TX5) (N := 26) (v := .int (w 26 9)) hx hb hts (fun _ h => List.mem_cons_of_mem _ (List.mem_append_right _ (h))) hown hE (hW.at 10 0 Nat.zero_lt_one) rfl 9 (by decide) (hts (.fieldLink RX5 89 "RoamingHouseModel" "callMany" "I") (by decide +kernel)) (show some (Value.int ((wm (wm (wm w 10 nc (nI f)) 11 nc se) 12 nc to) 26 9)) = some (Value.int (w 26 9)) from by simp [wm_at]) dX5_enter_107 ?_
            rw [hcc]
            refine lv_iconst (v := 0) hx hb dX5_enter_110 (by decide) ?_
            refine m_iast (x := 0) hx hb hE hW hD hS 13 (n := 60) (by decide) Nat.zero_lt_one rfl nc (by omega) (by decide) rfl rfl dX5_enter_111 (fun H locs hW hS => ?_)
            refine lv_aload_n hx hb dX5_enter_112 rfl (lv_at hl 0 rfl) ?_
            refine lv_dup hx hb dX5_enter_113 rfl ?_
            refine rh_get (ci := 5) (C := RX5) (T := TX5) (N := 26) (v := .int (w 26 9)) hx hb hts (fun _ h => List.mem_cons_of_mem _ (List.mem_append_right _ (h))) hown hE (hW.at 10 0 Nat.zero_lt_one) rfl 9 (by decide) (hts (.fieldLink RX5 89 "RoamingHouseModel" "callMany" "I") (by decide +kernel)) (show some (Value.int ((wm (wm (wm (wm w 10 nc (nI f)) 11 nc se) 12 nc to) 13 nc 0) 26 9)) = some (Value.int (w 26 9)) from by simp [wm_at]) dX5_enter_114 ?_
            refine lv_iconst (v := 1) hx hb dX5_enter_117 (by decide) ?_
            refine lv_iadd hx hb dX5_enter_118 ?_
            refine m_put (x := (w 26 9 + 1)) hx hb hts (fun _ h => List.mem_cons_of_mem _ (List.mem_append_right _ (h))) hown hE hW hD hS rfl 9 (by decide) (hts (.fieldLink RX5 89 "RoamingHouseModel" "callMany" "I") (by decide +kernel)) rfl rfl rfl (Nat.le_of_ble_eq_true rfl) rfl dX5_enter_119 (fun H locs hW hS => ?_)
            refine lv_aload_n hx hb dX5_enter_122 rfl (lv_at hl 0 rfl) ?_
            refine rh_get (ci := 5) (C := RX5) (T := TX5) (N := 26) (v := .int (w 26 9 + 1)) hx hb hts (fun _ h => List.mem_cons_of_mem _ (List.mem_append_right _ (h))) hown hE (hW.at 10 0 Nat.zero_lt_one) rfl 9 (by decide) (hts (.fieldLink RX5 89 "RoamingHouseModel" "callMany" "I") (by decide +kernel)) (show some (Value.int ((wm (wm (wm (wm (wm w 10 nc (nI f)) 11 nc se) 12 nc to) 13 nc 0) 26 9 (w 26 9 + 1)) 26 9)) = some (Value.int ((w 26 9 + 1))) from by simp [wm_at]) dX5_enter_123 ?_
            refine lv_iconst (v := 1) hx hb dX5_enter_126 (by decide) ?_
            refine lv_isub hx hb dX5_enter_127 ?_
            rw [show w 26 9 + 1 - 1 = nI nc by rw [hcc]; exact Int32.add_sub_cancel _ _]
            exact rh_iret hx hb hr hlocks (Or.inl ⟨f, hf, rfl, hga, hgb, h7, hnl, rfl, (by rw [show nI (nc + 1) = w 26 9 + 1 by rw [hcc, nI_1]]; exact hW)⟩) hS (by decide) (by decide) dX5_enter_128
          · have h3 : ¬ w 7 f = 0 ∨ nc = 60 := Or.inr (m_inj (by omega) (by decide) (hcc.symm.trans c12))
            refine lv_iconst (v := 3) hx hb dX5_enter_55 (by decide) ?_
            refine lv_goto (tgt := 60) hx hb dX5_enter_56 (by decide) ?_
            refine m_putt (x := 3) hx hb hts (fun _ h => List.mem_cons_of_mem _ (List.mem_append_right _ (h))) hown hE hW hD hS rfl (hts (.fieldLink RX5 74 "RoamingHouseModel" "thrown" "I") (by decide +kernel)) rfl rfl rfl (Nat.le_of_ble_eq_true rfl) rfl dX5_enter_60 (fun H locs hW hS => ?_)
            refine lv_aload_n hx hb dX5_enter_63 rfl (lv_at hl 0 rfl) ?_
            refine rh_get (ci := 5) (C := RX5) (T := TX5) (N := 26) (v := .int 3) hx hb hts (fun _ h => List.mem_cons_of_mem _ (List.mem_append_right _ (h))) hown hE (hW.at 10 0 Nat.zero_lt_one) rfl 25 (by decide) (hts (.fieldLink RX5 74 "RoamingHouseModel" "thrown" "I") (by decide +kernel)) rfl dX5_enter_64 ?_
            refine lv_if_le (tgt := 72) hx hb dX5_enter_67 (by decide) (fun c14 => absurd c14 (by decide)) (fun c14 => ?_)
            refine lv_iconst (v := 0) hx hb dX5_enter_70 (by decide) ?_
            exact rh_iret hx hb hr hlocks (Or.inr (Or.inr (Or.inr ⟨f, hf, rfl, hga, hgb, h3, ⟨_, rfl⟩, hW⟩))) hS (by decide) (by decide) dX5_enter_71
      · have hg2 : ¬ (rng se 1 36000 ∧ rng to 0 50000000) := fun z => hg8 z.2
        refine W.eq (g2 := F0 m 30 ls [.int 0, .ref (ad 10 0)]) rfl ?_
        refine lv_if_ne (tgt := 37) hx hb dX5_enter_30 (by decide) (fun c15 => absurd c15 (by decide)) (fun c15 => ?_)
        refine lv_iconst (v := 2) hx hb dX5_enter_33 (by decide) ?_
        refine lv_goto (tgt := 60) hx hb dX5_enter_34 (by decide) ?_
        refine m_putt (x := 2) hx hb hts (fun _ h => List.mem_cons_of_mem _ (List.mem_append_right _ (h))) hown hE hW hD hS rfl (hts (.fieldLink RX5 74 "RoamingHouseModel" "thrown" "I") (by decide +kernel)) rfl rfl rfl (Nat.le_of_ble_eq_true rfl) rfl dX5_enter_60 (fun H locs hW hS => ?_)
        refine lv_aload_n hx hb dX5_enter_63 rfl (lv_at hl 0 rfl) ?_
        refine rh_get (ci := 5) (C := RX5) (T := TX5) (N := 26) (v := .int 2) hx hb hts (fun _ h => List.mem_cons_of_mem _ (List.mem_append_right _ (h))) hown hE (hW.at 10 0 Nat.zero_lt_one) rfl 25 (by decide) (hts (.fieldLink RX5 74 "RoamingHouseModel" "thrown" "I") (by decide +kernel)) rfl dX5_enter_64 ?_
        refine lv_if_le (tgt := 72) hx hb dX5_enter_67 (by decide) (fun c16 => absurd c16 (by decide)) (fun c16 => ?_)
        refine lv_iconst (v := 0) hx hb dX5_enter_70 (by decide) ?_
        exact rh_iret hx hb hr hlocks (Or.inr (Or.inr (Or.inl ⟨ho, hg2, ⟨_, rfl⟩, hW⟩))) hS (by decide) (by decide) dX5_enter_71
    · have hg2 : ¬ (rng se 1 36000 ∧ rng to 0 50000000) := fun z => hg5 z.1
      refine W.eq (g2 := F0 m 20 ls [.int 0, .ref (ad 10 0)]) rfl ?_
      refine lv_if_eq (tgt := 33) hx hb dX5_enter_20 (by decide) (fun c17 => ?_) (fun c17 => absurd c17 (by decide))
      refine lv_iconst (v := 2) hx hb dX5_enter_33 (by decide) ?_
      refine lv_goto (tgt := 60) hx hb dX5_enter_34 (by decide) ?_
      refine m_putt (x := 2) hx hb hts (fun _ h => List.mem_cons_of_mem _ (List.mem_append_right _ (h))) hown hE hW hD hS rfl (hts (.fieldLink RX5 74 "RoamingHouseModel" "thrown" "I") (by decide +kernel)) rfl rfl rfl (Nat.le_of_ble_eq_true rfl) rfl dX5_enter_60 (fun H locs hW hS => ?_)
      refine lv_aload_n hx hb dX5_enter_63 rfl (lv_at hl 0 rfl) ?_
      refine rh_get (ci := 5) (C := RX5) (T := TX5) (N := 26) (v := .int 2) hx hb hts (fun _ h => List.mem_cons_of_mem _ (List.mem_append_right _ (h))) hown hE (hW.at 10 0 Nat.zero_lt_one) rfl 25 (by decide) (hts (.fieldLink RX5 74 "RoamingHouseModel" "thrown" "I") (by decide +kernel)) rfl dX5_enter_64 ?_
      refine lv_if_le (tgt := 72) hx hb dX5_enter_67 (by decide) (fun c18 => absurd c18 (by decide)) (fun c18 => ?_)
      refine lv_iconst (v := 0) hx hb dX5_enter_70 (by decide) ?_
      exact rh_iret hx hb hr hlocks (Or.inr (Or.inr (Or.inl ⟨ho, hg2, ⟨_, rfl⟩, hW⟩))) hS (by decide) (by decide) dX5_enter_71
  · have hno := ho2
    refine W.eq (g2 := F0 m 6 ls [.int 0, .ref (ad 10 0)]) rfl ?_
    refine lv_if_ne (tgt := 13) hx hb dX5_enter_6 (by decide) (fun c19 => absurd c19 (by decide)) (fun c19 => ?_)
    refine lv_iconst (v := 1) hx hb dX5_enter_9 (by decide) ?_
    refine lv_goto (tgt := 60) hx hb dX5_enter_10 (by decide) ?_
    refine m_putt (x := 1) hx hb hts (fun _ h => List.mem_cons_of_mem _ (List.mem_append_right _ (h))) hown hE hW hD hS rfl (hts (.fieldLink RX5 74 "RoamingHouseModel" "thrown" "I") (by decide +kernel)) rfl rfl rfl (Nat.le_of_ble_eq_true rfl) rfl dX5_enter_60 (fun H locs hW hS => ?_)
    refine lv_aload_n hx hb dX5_enter_63 rfl (lv_at hl 0 rfl) ?_
    refine rh_get (ci := 5) (C := RX5) (T := TX5) (N := 26) (v := .int 1) hx hb hts (fun _ h => List.mem_cons_of_mem _ (List.mem_append_right _ (h))) hown hE (hW.at 10 0 Nat.zero_lt_one) rfl 25 (by decide) (hts (.fieldLink RX5 74 "RoamingHouseModel" "thrown" "I") (by decide +kernel)) rfl dX5_enter_64 ?_
    refine lv_if_le (tgt := 72) hx hb dX5_enter_67 (by decide) (fun c20 => absurd c20 (by decide)) (fun c20 => ?_)
    refine lv_iconst (v := 0) hx hb dX5_enter_70 (by decide) ?_
    exact rh_iret hx hb hr hlocks (Or.inr (Or.inl ⟨hno, ⟨_, rfl⟩, hW⟩)) hS (by decide) (by decide) dX5_enter_71
set_option maxHeartbeats 4000000 in
set_option maxRecDepth 100000 in
/-- send -/
theorem ct_X5_send (l : Launch) {G : va_G} {ca : Nat → ClassId} {A : Nat → Prop} {ad : Nat → Nat → Nat} {nf nc : Nat} {r : rh_R} {w : rh_Wm} {th : Int32} (hD : rh_D A ad (fun k i => i < m_n k)) (hwf : m_wf nf nc r w) (x y : Int32) : rh_M l yX5_send wsX5_send ({ frames := 4, cells := 0, slots := 0, locals := 120 } : Room) G ca A [.ref (ad 10 0), .int x, .int y] (m_W G ca ad w th) (fun o H => (∃ i9 : Nat, i9 < nf ∧ x = nI i9 ∧ rng y 1 99 ∧ w 7 i9 = 0 ∧ ¬ m_cnt r w i9 0 nc = 0 ∧ o = some (.int (m_send r w nf nc i9 y 7 i9)) ∧ m_W G ca ad (m_send r w nf nc i9 y) 0 H) ∨ (¬ ix x nf ∧ (∃ z, o = some (.int z)) ∧ m_W G ca ad w 1 H) ∨ (ix x nf ∧ ¬ rng y 1 99 ∧ (∃ z, o = some (.int z)) ∧ m_W G ca ad w 2 H) ∨ (∃ i9 : Nat, i9 < nf ∧ x = nI i9 ∧ rng y 1 99 ∧ (¬ w 7 i9 = 0 ∨ m_cnt r w i9 0 nc = 0) ∧ (∃ z, o = some (.int z)) ∧ m_W G ca ad w 3 H)) rh_no 0 0 := by
  obtain ⟨⟨hnf, hnc, hfc, hcc, h5, h10, hst⟩, hna, hnm, hac, hpl⟩ := id hwf
  refine rh_enter (cc := cX5_send) (maxL := 5) (ret := (some .int)) (by decide) rfl (Nat.le_of_ble_eq_true rfl) ?_
  intro p e s m below meth c ls hx hb hr hml hown hts hlocks hex hin hE hA hW hl
  have hS : va_S A s.heap s.heap [] := va_S.rf
  have hl : lv_has ls 5 [(0, .ref (ad 10 0)), (1, .int x), (2, .int y)] := hl
  refine lv_aload_n hx hb dX5_send_0 rfl (lv_at hl 0 rfl) ?_
  refine lv_aload_n hx hb dX5_send_1 rfl (lv_at hl 0 rfl) ?_
  refine lv_iload_n hx hb dX5_send_2 rfl (lv_at hl 1 rfl) ?_
  refine rh_calln (vx_runV (As := [.int x]) (rest := [.ref (ad 10 0)]) ⟨hx, hb, hml, hown, hts⟩ (ct_X5_isFile l hD hwf.1 x) (cwV 1 hts gX5_send_X5_isFile rfl rfl rfl (by decide +kernel) ⟨by decide, by decide⟩) (rh_preV hE hS hA (hW.at 10 0 Nat.zero_lt_one) rfl hW) rfl rfl hl.1 rfl (lv_room (Nat.le_of_ble_eq_true rfl)) dX5_send_3 ⟨by decide, by decide⟩) hS (fun o H locs hN1 hS => ?_)
  obtain ⟨⟨ho2, rfl⟩ | ⟨ho2, rfl⟩, hW⟩ := hN1
  · have ho := ho2
    refine W.eq (g2 := F0 m 6 ls [.int 1, .ref (ad 10 0)]) rfl ?_
    refine lv_if_ne (tgt := 13) hx hb dX5_send_6 (by decide) (fun c3 => ?_) (fun c3 => absurd c3 (by decide))
    refine lv_iload_n hx hb dX5_send_13 rfl (lv_at hl 2 rfl) ?_
    refine lv_iconst (v := 1) hx hb dX5_send_14 (by decide) ?_
    refine lv_bipush (v := 99) hx hb dX5_send_15 (by decide) ?_
    refine rh_calln (vx_runS (As := [.int y, .int 1, .int 99]) (rest := [.ref (ad 10 0)]) ⟨hx, hb, hml, hown, hts⟩ (ct_X5_in l hD y 1 99) (va_cwS 3 hts gX5_send_X5_in rfl rfl rfl (by decide +kernel) ⟨by decide, by decide⟩) (rh_pre hE hS hA hW) rfl rfl hl.1 rfl (lv_room (Nat.le_of_ble_eq_true rfl)) dX5_send_17 ⟨by decide, by decide⟩) hS (fun o H locs hN4 hS => ?_)
    obtain ⟨⟨hg5, rfl⟩ | ⟨hg5, rfl⟩, hW⟩ := hN4
    · have hga := hg5
      refine W.eq (g2 := F0 m 20 ls [.int 1, .ref (ad 10 0)]) rfl ?_
      refine lv_if_ne (tgt := 27) hx hb dX5_send_20 (by decide) (fun c6 => ?_) (fun c6 => absurd c6 (by decide))
      obtain ⟨f, hf, rfl⟩ := (ix_iff (by omega)).mp ho
      refine lv_aload_n hx hb dX5_send_27 rfl (lv_at hl 0 rfl) ?_
      refine rh_get (ci := 5) (C := RX5) (T := TX5) (N := 26) (v := .ref (ad 27 0)) hx hb hts (fun _ h => List.mem_cons_of_mem _ (List.mem_append_right _ (h))) hown hE (hW.at 10 0 Nat.zero_lt_one) rfl 7 (by decide) (hts (.fieldLink RX5 28 "RoamingHouseModel" "fileStates" "[I") (by decide +kernel)) rfl dX5_send_28 ?_
      refine lv_iload_n hx hb dX5_send_31 rfl (lv_at hl 1 rfl) ?_
      refine rh_iald (n := 30) (f := w 7) hx hb hE (hW.at 27 0 Nat.zero_lt_one) f (by omega) (by decide) rfl dX5_send_32 ?_
      refine lv_if_ne (tgt := 45) hx hb dX5_send_33 (by decide) (fun c7 => ?_) (fun c7 => ?_)
      · have h3 : ¬ w 7 f = 0 ∨ m_cnt r w f 0 nc = 0 := Or.inl c7
        refine lv_iconst (v := 3) hx hb dX5_send_45 (by decide) ?_
        refine lv_goto (tgt := 50) hx hb dX5_send_46 (by decide) ?_
        refine m_putt (x := 3) hx hb hts (fun _ h => List.mem_cons_of_mem _ (List.mem_append_right _ (h))) hown hE hW hD hS rfl (hts (.fieldLink RX5 74 "RoamingHouseModel" "thrown" "I") (by decide +kernel)) rfl rfl rfl (Nat.le_of_ble_eq_true rfl) rfl dX5_send_50 (fun H locs hW hS => ?_)
        refine lv_aload_n hx hb dX5_send_53 rfl (lv_at hl 0 rfl) ?_
        refine rh_get (ci := 5) (C := RX5) (T := TX5) (N := 26) (v := .int 3) hx hb hts (fun _ h => List.mem_cons_of_mem _ (List.mem_append_right _ (h))) hown hE (hW.at 10 0 Nat.zero_lt_one) rfl 25 (by decide) (hts (.fieldLink RX5 74 "RoamingHouseModel" "thrown" "I") (by decide +kernel)) rfl dX5_send_54 ?_
        refine lv_if_le (tgt := 62) hx hb dX5_send_57 (by decide) (fun c8 => absurd c8 (by decide)) (fun c8 => ?_)
        refine lv_iconst (v := 0) hx hb dX5_send_60 (by decide) ?_
        exact rh_iret hx hb hr hlocks (Or.inr (Or.inr (Or.inr ⟨f, hf, rfl, hga, h3, ⟨_, rfl⟩, hW⟩))) hS (by decide) (by decide) dX5_send_61
      · have h7 := c7
        refine lv_aload_n hx hb dX5_send_36 rfl (lv_at hl 0 rfl) ?_
        refine lv_iload_n hx hb dX5_send_37 rfl (lv_at hl 1 rfl) ?_
        refine lv_iconst (v := 0) hx hb dX5_send_38 (by decide) ?_
        refine rh_calln (vx_runV (As := [.int (nI f), .int 0]) (rest := [.ref (ad 10 0)]) ⟨hx, hb, hml, hown, hts⟩ (ct_X5_callsOf l hD hwf.1 f hf 0) (cwV 2 hts gX5_send_X5_callsOf rfl rfl rfl (by decide +kernel) ⟨by decide, by decide⟩) (rh_preV hE hS hA (hW.at 10 0 Nat.zero_lt_one) rfl hW) rfl rfl hl.1 rfl (lv_room (Nat.le_of_ble_eq_true rfl)) dX5_send_39 ⟨by decide, by decide⟩) hS (fun o H locs hN9 hS => ?_)
        obtain ⟨rfl, hW⟩ := hN9
        refine W.eq (g2 := F0 m 42 ls [.int (m_cnt r w f 0 nc), .ref (ad 10 0)]) rfl ?_
        refine lv_if_ne (tgt := 49) hx hb dX5_send_42 (by decide) (fun c10 => ?_) (fun c10 => ?_)
        · have hn0 : ¬ m_cnt r w f 0 nc = 0 := c10
          refine lv_iconst (v := 0) hx hb dX5_send_49 (by decide) ?_
          refine m_putt (x := 0) hx hb hts (fun _ h => List.mem_cons_of_mem _ (List.mem_append_right _ (h))) hown hE hW hD hS rfl (hts (.fieldLink RX5 74 "RoamingHouseModel" "thrown" "I") (by decide +kernel)) rfl rfl rfl (Nat.le_of_ble_eq_true rfl) rfl dX5_send_50 (fun H locs hW hS => ?_)
          refine lv_aload_n hx hb dX5_send_53 rfl (lv_at hl 0 rfl) ?_
          refine rh_get (ci := 5) (C := RX5) (T := TX5) (N := 26) (v := .int 0) hx hb hts (fun _ h => List.mem_cons_of_mem _ (List.mem_append_right _ (h))) hown hE (hW.at 10 0 Nat.zero_lt_one) rfl 25 (by decide) (hts (.fieldLink RX5 74 "RoamingHouseModel" "thrown" "I") (by decide +kernel)) rfl dX5_send_54 ?_
          refine lv_if_le (tgt := 62) hx hb dX5_send_57 (by decide) (fun c11 => ?_) (fun c11 => absurd c11 (by decide))
          refine lv_aload_n hx hb dX5_send_62 rfl (lv_at hl 0 rfl) ?_
          refine rh_get (ci := 5) (C := RX5) (T := TX5) (N := 26) (v := .ref (ad 25 0)) hx hb hts (fun _ h => List.mem_cons_of_mem _ (List.mem_append_right _ (h))) hown hE (hW.at 10 0 Nat.zero_lt_one) rfl 5 (by decide) (hts (.fieldLink RX5 22 "RoamingHouseModel" "pairOf" "[I") (by decide +kernel)) rfl dX5_send_63 ?_
          refine lv_iload_n hx hb dX5_send_66 rfl (lv_at hl 1 rfl) ?_
          refine rh_iald (n := 30) (f := w 5) hx hb hE (hW.at 25 0 Nat.zero_lt_one) f (by omega) (by decide) rfl dX5_send_67 ?_
          have h5f := h5 f hf
          rw [h5f.2]
          refine lv_istore_n (lv' := [(3, .int (nI (r 8 f))), (0, .ref (ad 10 0)), (1, .int (nI f)), (2, .int y)]) hx hb dX5_send_68 rfl hl (by decide) rfl (fun ls hl => ?_)
          refine lv_iload_n hx hb dX5_send_69 rfl (lv_at hl 3 rfl) ?_
          refine lv_aload_n hx hb dX5_send_70 rfl (lv_at hl 1 rfl) ?_
          refine rh_get (ci := 5) (C := RX5) (T := TX5) (N := 26) (v := .ref (ad 38 0)) hx hb hts (fun _ h => List.mem_cons_of_mem _ (List.mem_append_right _ (h))) hown hE (hW.at 10 0 Nat.zero_lt_one) rfl 18 (by decide) (hts (.fieldLink RX5 55 "RoamingHouseModel" "expects" "[I") (by decide +kernel)) rfl dX5_send_71 ?_
          refine lv_iload_n hx hb dX5_send_74 rfl (lv_at hl 0 rfl) ?_
          refine rh_iald (n := 16) (f := w 18) hx hb hE (hW.at 38 0 Nat.zero_lt_one) (r 8 f) h5f.1 (by decide) rfl dX5_send_75 ?_
          refine lv_icmp_lt (tgt := 89) hx hb dX5_send_76 (by decide) (fun c12 => ?_) (fun c12 => ?_)
          · have hsd : m_send r w nf nc f y = wm w 7 f 1 := if_pos (Or.inl c12)
            refine lv_aload_n hx hb dX5_send_89 rfl (lv_at hl 1 rfl) ?_
            refine rh_get (ci := 5) (C := RX5) (T := TX5) (N := 26) (v := .ref (ad 27 0)) hx hb hts (fun _ h => List.mem_cons_of_mem _ (List.mem_append_right _ (h))) hown hE (hW.at 10 0 Nat.zero_lt_one) rfl 7 (by decide) (hts (.fieldLink RX5 28 "RoamingHouseModel" "fileStates" "[I") (by decide +kernel)) rfl dX5_send_90 ?_
            refine lv_iload_n hx hb dX5_send_93 rfl (lv_at hl 2 rfl) ?_
            refine lv_iconst (v := 1) hx hb dX5_send_94 (by decide) ?_
            refine m_iast (x := 1) hx hb hE hW hD hS 7 (n := 30) (by decide) Nat.zero_lt_one rfl f (by omega) (by decide) rfl rfl dX5_send_95 (fun H locs hW hS => ?_)
            refine lv_goto (tgt := 164) hx hb dX5_send_96 (by decide) ?_
            refine lv_aload_n hx hb dX5_send_164 rfl (lv_at hl 1 rfl) ?_
            refine rh_get (ci := 5) (C := RX5) (T := TX5) (N := 26) (v := .ref (ad 27 0)) hx hb hts (fun _ h => List.mem_cons_of_mem _ (List.mem_append_right _ (h))) hown hE (hW.at 10 0 Nat.zero_lt_one) rfl 7 (by decide) (hts (.fieldLink RX5 28 "RoamingHouseModel" "fileStates" "[I") (by decide +kernel)) rfl dX5_send_165 ?_
            refine lv_iload_n hx hb dX5_send_168 rfl (lv_at hl 2 rfl) ?_
            refine rh_iald (n := 30) (f := (wm w 7 f 1) 7) hx hb hE (hW.at 27 0 Nat.zero_lt_one) f (by omega) (by decide) rfl dX5_send_169 ?_
            rw [show (wm w 7 f 1) 7 f = 1 from by simp [wm_at]]
            exact rh_iret hx hb hr hlocks (Or.inl ⟨f, hf, rfl, hga, h7, hn0, (by rw [hsd]; simp [wm_at]), (by rw [hsd]; exact hW)⟩) hS (by decide) (by decide) dX5_send_170
          · have hs1 := c12
            refine lv_aload_n hx hb dX5_send_79 rfl (lv_at hl 1 rfl) ?_
            refine lv_iload_n hx hb dX5_send_80 rfl (lv_at hl 0 rfl) ?_
            refine lv_iload_n hx hb dX5_send_81 rfl (lv_at hl 3 rfl) ?_
            refine rh_calln (vx_runV (As := [.int (nI (r 8 f)), .int y]) (rest := []) ⟨hx, hb, hml, hown, hts⟩ (ct_X5_waiting l hD hwf.1 (r 8 f) h5f.1 y) (cwV 2 hts gX5_send_X5_waiting rfl rfl rfl (by decide +kernel) ⟨by decide, by decide⟩) (rh_preV hE hS hA (hW.at 10 0 Nat.zero_lt_one) rfl hW) rfl rfl hl.1 rfl (lv_room (Nat.le_of_ble_eq_true rfl)) dX5_send_82 ⟨by decide, by decide⟩) hS (fun o H locs hN13 hS => ?_)
            obtain ⟨rfl, hW⟩ := hN13
            refine W.eq (g2 := F0 m 85 ls [.int (m_nz (m_wait r w (r 8 f) y nf))]) rfl ?_
            refine lv_iconst (v := -1) hx hb dX5_send_85 (by decide) ?_
            refine lv_icmp_eq (tgt := 99) hx hb dX5_send_86 (by decide) (fun c14 => ?_) (fun c14 => ?_)
            · have hwn := (m_nz_ne hnf (fun j hj => (m_wait_some nf hj).1)).mp c14
              have hsd : m_send r w nf nc f y = (m_all r nf nc (r 8 f) 30 (m_put2 w f y) (m_wait r (m_put2 w f y) (r 8 f) (m_put2 w f y 18 (r 8 f)) nf)) := if_neg (fun z => z.elim hs1 (fun z => z hwn))
              refine lv_aload_n hx hb dX5_send_99 rfl (lv_at hl 1 rfl) ?_
              refine rh_get (ci := 5) (C := RX5) (T := TX5) (N := 26) (v := .ref (ad 27 0)) hx hb hts (fun _ h => List.mem_cons_of_mem _ (List.mem_append_right _ (h))) hown hE (hW.at 10 0 Nat.zero_lt_one) rfl 7 (by decide) (hts (.fieldLink RX5 28 "RoamingHouseModel" "fileStates" "[I") (by decide +kernel)) rfl dX5_send_100 ?_
              refine lv_iload_n hx hb dX5_send_103 rfl (lv_at hl 2 rfl) ?_
              refine lv_iconst (v := 2) hx hb dX5_send_104 (by decide) ?_
              refine m_iast (x := 2) hx hb hE hW hD hS 7 (n := 30) (by decide) Nat.zero_lt_one rfl f (by omega) (by decide) rfl rfl dX5_send_105 (fun H locs hW hS => ?_)
              refine lv_aload_n hx hb dX5_send_106 rfl (lv_at hl 1 rfl) ?_
              refine rh_get (ci := 5) (C := RX5) (T := TX5) (N := 26) (v := .ref (ad 28 0)) hx hb hts (fun _ h => List.mem_cons_of_mem _ (List.mem_append_right _ (h))) hown hE (hW.at 10 0 Nat.zero_lt_one) rfl 8 (by decide) (hts (.fieldLink RX5 31 "RoamingHouseModel" "sentAs" "[I") (by decide +kernel)) rfl dX5_send_107 ?_
              refine lv_iload_n hx hb dX5_send_110 rfl (lv_at hl 2 rfl) ?_
              refine lv_iload_n hx hb dX5_send_111 rfl (lv_at hl 3 rfl) ?_
              refine m_iast (x := y) hx hb hE hW hD hS 8 (n := 30) (by decide) Nat.zero_lt_one rfl f (by omega) (by decide) rfl rfl dX5_send_112 (fun H locs hW hS => ?_)
              have hwp : m_wf nf nc r (m_put2 w f y) := m_exp_wf ⟨m_wf0_wm hwf.1 (by decide) (by decide) (by decide) (by decide), m_file_wf1 hwf.2 (m_out hwf (by rw [h7]; decide)) 2⟩ (Or.inr (Or.inl rfl))
              have hW : m_W G ca ad (m_put2 w f y) 0 H := hW
              refine lv_aload_n hx hb dX5_send_113 rfl (lv_at hl 1 rfl) ?_
              refine lv_iload_n hx hb dX5_send_114 rfl (lv_at hl 0 rfl) ?_
              refine lv_aload_n hx hb dX5_send_115 rfl (lv_at hl 1 rfl) ?_
              refine rh_get (ci := 5) (C := RX5) (T := TX5) (N := 26) (v := .ref (ad 38 0)) hx hb hts (fun _ h => List.mem_cons_of_mem _ (List.mem_append_right _ (h))) hown hE (hW.at 10 0 Nat.zero_lt_one) rfl 18 (by decide) (hts (.fieldLink RX5 55 "RoamingHouseModel" "expects" "[I") (by decide +kernel)) rfl dX5_send_116 ?_
              refine lv_iload_n hx hb dX5_send_119 rfl (lv_at hl 0 rfl) ?_
              refine rh_iald (n := 16) (f := (m_put2 w f y) 18) hx hb hE (hW.at 38 0 Nat.zero_lt_one) (r 8 f) h5f.1 (by decide) rfl dX5_send_120 ?_
              refine rh_calln (vx_runV (As := [.int (nI (r 8 f)), .int ((m_put2 w f y) 18 (r 8 f))]) (rest := []) ⟨hx, hb, hml, hown, hts⟩ (ct_X5_waiting l hD hwp.1 (r 8 f) h5f.1 ((m_put2 w f y) 18 (r 8 f))) (cwV 2 hts gX5_send_X5_waiting rfl rfl rfl (by decide +kernel) ⟨by decide, by decide⟩) (rh_preV hE hS hA (hW.at 10 0 Nat.zero_lt_one) rfl hW) rfl rfl hl.1 rfl (lv_room (Nat.le_of_ble_eq_true rfl)) dX5_send_121 ⟨by decide, by decide⟩) hS (fun o H locs hN15 hS => ?_)
              obtain ⟨rfl, hW⟩ := hN15
              refine W.eq (g2 := F0 m 124 ls [.int (m_nz (m_wait r (m_put2 w f y) (r 8 f) ((m_put2 w f y) 18 (r 8 f)) nf))]) rfl ?_
              refine lv_istore (lv' := [(4, .int (m_nz (m_wait r (m_put2 w f y) (r 8 f) ((m_put2 w f y) 18 (r 8 f)) nf))), (3, .int (nI (r 8 f))), (0, .ref (ad 10 0)), (1, .int (nI f)), (2, .int y)]) hx hb dX5_send_124 hl (by decide) rfl (fun ls hl => ?_)
              have loop126 : ∀ (n : Nat) (w9 : rh_Wm) (o : Option Nat) (H : Heap) (locs : List Loc) (ls : Array Slot), m_wf nf nc r w9 → o = m_wait r w9 (r 8 f) (w9 18 (r 8 f)) nf → m_cw w9 nf < n → m_all r nf nc (r 8 f) (n - 1) w9 o = (m_all r nf nc (r 8 f) 30 (m_put2 w f y) (m_wait r (m_put2 w f y) (r 8 f) (m_put2 w f y 18 (r 8 f)) nf)) → m_W G ca ad w9 0 H → va_S A s.heap H locs → lv_has ls 5 [(0, .ref (ad 10 0)), (1, .int (nI f)), (2, .int y), (3, .int (nI (r 8 f))), (4, .int (m_nz o))] → W p l e ({ frames := 4, cells := 0, slots := 0, locals := 120 } : Room) s m ([.ref (ad 10 0), .int (nI f), .int y] : List Value).toArray below meth c H locs 0 0 (vx_MQ below (rh_Q A (fun o H => (∃ i9 : Nat, i9 < nf ∧ (nI f) = nI i9 ∧ rng y 1 99 ∧ w 7 i9 = 0 ∧ ¬ m_cnt r w i9 0 nc = 0 ∧ o = some (.int (m_send r w nf nc i9 y 7 i9)) ∧ m_W G ca ad (m_send r w nf nc i9 y) 0 H) ∨ (¬ ix (nI f) nf ∧ (∃ z, o = some (.int z)) ∧ m_W G ca ad w 1 H) ∨ (ix (nI f) nf ∧ ¬ rng y 1 99 ∧ (∃ z, o = some (.int z)) ∧ m_W G ca ad w 2 H) ∨ (∃ i9 : Nat, i9 < nf ∧ (nI f) = nI i9 ∧ rng y 1 99 ∧ (¬ w 7 i9 = 0 ∨ m_cnt r w i9 0 nc = 0) ∧ (∃ z, o = some (.int z)) ∧ m_W G ca ad w 3 H))) (rh_XC A rh_no) ([.ref (ad 10 0), .int (nI f), .int y] : List Value).toArray s 0 0 A) (F0 m 126 ls []) := by
                intro n
                induction n with
                | zero => intro w9 o H locs ls hwf9 ho hcw hall hW hS hl; exact absurd hcw (Nat.not_lt_zero _)
                | succ n ih =>
                  intro w9 o H locs ls hwf9 ho hcw hall hW hS hl
                  rcases o with _ | g
                  · have hl : lv_has ls 5 [(0, .ref (ad 10 0)), (1, .int (nI f)), (2, .int y), (3, .int (nI (r 8 f))), (4, .int (-1))] := hl
                    have hfin : (m_all r nf nc (r 8 f) 30 (m_put2 w f y) (m_wait r (m_put2 w f y) (r 8 f) (m_put2 w f y 18 (r 8 f)) nf)) = w9 := by rw [← hall]; cases n <;> rfl
                    refine lv_iload hx hb dX5_send_126 (lv_at hl 4 rfl) ?_
                    refine lv_iconst (v := -1) hx hb dX5_send_128 (by decide) ?_
                    refine lv_icmp_eq (tgt := 164) hx hb dX5_send_129 (by decide) (fun c16 => ?_) (fun c16 => absurd c16 (by decide))
                    refine lv_aload_n hx hb dX5_send_164 rfl (lv_at hl 0 rfl) ?_
                    refine rh_get (ci := 5) (C := RX5) (T := TX5) (N := 26) (v := .ref (ad 27 0)) hx hb hts (fun _ h => List.mem_cons_of_mem _ (List.mem_append_right _ (h))) hown hE (hW.at 10 0 Nat.zero_lt_one) rfl 7 (by decide) (hts (.fieldLink RX5 28 "RoamingHouseModel" "fileStates" "[I") (by decide +kernel)) rfl dX5_send_165 ?_
                    refine lv_iload_n hx hb dX5_send_168 rfl (lv_at hl 1 rfl) ?_
                    refine rh_iald (n := 30) (f := w9 7) hx hb hE (hW.at 27 0 Nat.zero_lt_one) f (by omega) (by decide) rfl dX5_send_169 ?_
                    exact rh_iret hx hb hr hlocks (Or.inl ⟨f, hf, rfl, hga, h7, hn0, (by rw [hsd, hfin]), (by rw [hsd, hfin]; exact hW)⟩) hS (by decide) (by decide) dX5_send_170
                  · have hl : lv_has ls 5 [(0, .ref (ad 10 0)), (1, .int (nI f)), (2, .int y), (3, .int (nI (r 8 f))), (4, .int (nI g))] := hl
                    have hsm := m_wait_some nf ho.symm
                    have hgf : g < nf := hsm.1
                    have hg7 : w9 7 g = 2 := hsm.2.1
                    have hcp := m_cw_pos hgf hg7
                    obtain ⟨n, rfl⟩ : ∃ b : Nat, n = b + 1 := ⟨n - 1, by omega⟩
                    have hg5 : ¬ w9 7 g = 5 := by rw [hg7]; decide
                    have hlw := m_look_wf hwf9 hg5
                    have hl7 := m_look_7 (nf := nf) (nc := nc) (r := r) (w := w9) (f := g)
                    have hcs := m_cw_set hg7 hl7.1 hl7.2 nf hgf
                    refine lv_iload hx hb dX5_send_126 (lv_at hl 4 rfl) ?_
                    refine lv_iconst (v := -1) hx hb dX5_send_128 (by decide) ?_
                    refine lv_icmp_eq (tgt := 164) hx hb dX5_send_129 (by decide) (fun c17 => absurd (show nI g < 0 by rw [c17]; decide) (nI_pos (by omega))) (fun c17 => ?_)
                    · refine lv_aload_n hx hb dX5_send_132 rfl (lv_at hl 0 rfl) ?_
                      refine lv_iload hx hb dX5_send_133 (lv_at hl 4 rfl) ?_
                      refine rh_calln (vx_runV (As := [.int (nI g)]) (rest := []) ⟨hx, hb, hml, hown, hts⟩ (ct_X5_lookAt l hD hwf9 g hgf hg5) (cwV 1 hts gX5_send_X5_lookAt rfl rfl rfl (by decide +kernel) ⟨by decide, by decide⟩) (rh_preV hE hS hA (hW.at 10 0 Nat.zero_lt_one) rfl hW) rfl rfl hl.1 rfl (lv_room (Nat.le_of_ble_eq_true rfl)) dX5_send_135 ⟨by decide, by decide⟩) hS (fun o H locs hN18 hS => ?_)
                      obtain ⟨rfl, hW⟩ := hN18
                      refine W.eq (g2 := F0 m 138 ls []) rfl ?_
                      refine lv_aload_n hx hb dX5_send_138 rfl (lv_at hl 0 rfl) ?_
                      refine rh_get (ci := 5) (C := RX5) (T := TX5) (N := 26) (v := .ref (ad 38 0)) hx hb hts (fun _ h => List.mem_cons_of_mem _ (List.mem_append_right _ (h))) hown hE (hW.at 10 0 Nat.zero_lt_one) rfl 18 (by decide) (hts (.fieldLink RX5 55 "RoamingHouseModel" "expects" "[I") (by decide +kernel)) rfl dX5_send_139 ?_
                      refine lv_iload_n hx hb dX5_send_142 rfl (lv_at hl 3 rfl) ?_
                      refine lv_dup2_11 hx hb dX5_send_143 rfl rfl ?_
                      refine rh_iald (n := 16) (f := (m_look r w9 nc g) 18) hx hb hE (hW.at 38 0 Nat.zero_lt_one) (r 8 f) h5f.1 (by decide) rfl dX5_send_144 ?_
                      refine lv_iconst (v := 1) hx hb dX5_send_145 (by decide) ?_
                      refine lv_iadd hx hb dX5_send_146 ?_
                      refine m_iast (x := ((m_look r w9 nc g) 18 (r 8 f) + 1)) hx hb hE hW hD hS 18 (n := 16) (by decide) Nat.zero_lt_one rfl (r 8 f) h5f.1 (by decide) rfl rfl dX5_send_147 (fun H locs hW hS => ?_)
                      have hW : m_W G ca ad (wm (m_look r w9 nc g) 18 (r 8 f) (m_look r w9 nc g 18 (r 8 f) + 1)) 0 H := hW
                      refine lv_aload_n hx hb dX5_send_148 rfl (lv_at hl 0 rfl) ?_
                      refine lv_iload_n hx hb dX5_send_149 rfl (lv_at hl 3 rfl) ?_
                      refine lv_aload_n hx hb dX5_send_150 rfl (lv_at hl 0 rfl) ?_
                      refine rh_get (ci := 5) (C := RX5) (T := TX5) (N := 26) (v := .ref (ad 38 0)) hx hb hts (fun _ h => List.mem_cons_of_mem _ (List.mem_append_right _ (h))) hown hE (hW.at 10 0 Nat.zero_lt_one) rfl 18 (by decide) (hts (.fieldLink RX5 55 "RoamingHouseModel" "expects" "[I") (by decide +kernel)) rfl dX5_send_151 ?_
                      refine lv_iload_n hx hb dX5_send_154 rfl (lv_at hl 3 rfl) ?_
                      refine rh_iald (n := 16) (f := (wm (m_look r w9 nc g) 18 (r 8 f) ((m_look r w9 nc g) 18 (r 8 f) + 1)) 18) hx hb hE (hW.at 38 0 Nat.zero_lt_one) (r 8 f) h5f.1 (by decide) rfl dX5_send_155 ?_
                      rw [show (wm (m_look r w9 nc g) 18 (r 8 f) ((m_look r w9 nc g) 18 (r 8 f) + 1)) 18 (r 8 f) = ((m_look r w9 nc g) 18 (r 8 f) + 1) from by simp [wm_at]]
                      refine rh_calln (vx_runV (As := [.int (nI (r 8 f)), .int ((m_look r w9 nc g) 18 (r 8 f) + 1)]) (rest := []) ⟨hx, hb, hml, hown, hts⟩ (ct_X5_waiting l hD (m_exp_wf hlw (Or.inl rfl)).1 (r 8 f) h5f.1 ((m_look r w9 nc g) 18 (r 8 f) + 1)) (cwV 2 hts gX5_send_X5_waiting rfl rfl rfl (by decide +kernel) ⟨by decide, by decide⟩) (rh_preV hE hS hA (hW.at 10 0 Nat.zero_lt_one) rfl hW) rfl rfl hl.1 rfl (lv_room (Nat.le_of_ble_eq_true rfl)) dX5_send_156 ⟨by decide, by decide⟩) hS (fun o H locs hN19 hS => ?_)
                      obtain ⟨rfl, hW⟩ := hN19
                      refine W.eq (g2 := F0 m 159 ls [.int (m_nz (m_wait r (wm (m_look r w9 nc g) 18 (r 8 f) ((m_look r w9 nc g) 18 (r 8 f) + 1)) (r 8 f) ((m_look r w9 nc g) 18 (r 8 f) + 1) nf))]) rfl ?_
                      refine lv_istore (lv' := [(4, .int (m_nz (m_wait r (wm (m_look r w9 nc g) 18 (r 8 f) ((m_look r w9 nc g) 18 (r 8 f) + 1)) (r 8 f) ((m_look r w9 nc g) 18 (r 8 f) + 1) nf))), (0, .ref (ad 10 0)), (1, .int (nI f)), (2, .int y), (3, .int (nI (r 8 f)))]) hx hb dX5_send_159 hl (by decide) rfl (fun ls hl => ?_)
                      refine lv_goto (tgt := 126) hx hb dX5_send_161 (by decide) ?_
                      exact ih (wm (m_look r w9 nc g) 18 (r 8 f) (m_look r w9 nc g 18 (r 8 f) + 1)) (m_wait r (wm (m_look r w9 nc g) 18 (r 8 f) (m_look r w9 nc g 18 (r 8 f) + 1)) (r 8 f) (m_look r w9 nc g 18 (r 8 f) + 1) nf) _ _ _ (m_exp_wf hlw (Or.inl rfl)) (by rw [wm_at, if_pos ⟨rfl, rfl⟩]) (by rw [m_cw_eq (w := m_look r w9 nc g) nf (fun c _ => by rw [wm_other _ _ _ _ (by decide)])]; omega) (by rw [← hall]; rfl) hW hS (lv_sub hl [1, 2, 3, 4, 0] rfl)
              exact loop126 31 (m_put2 w f y) _ _ _ _ hwp rfl (by have := m_cw_le (m_put2 w f y) nf; omega) rfl hW hS (lv_sub hl [2, 3, 4, 1, 0] rfl)
            · have hsd : m_send r w nf nc f y = wm w 7 f 1 := if_pos (Or.inr (fun z => c14 ((m_nz_ne hnf (fun j hj => (m_wait_some nf hj).1)).mpr z)))
              refine lv_aload_n hx hb dX5_send_89 rfl (lv_at hl 1 rfl) ?_
              refine rh_get (ci := 5) (C := RX5) (T := TX5) (N := 26) (v := .ref (ad 27 0)) hx hb hts (fun _ h => List.mem_cons_of_mem _ (List.mem_append_right _ (h))) hown hE (hW.at 10 0 Nat.zero_lt_one) rfl 7 (by decide) (hts (.fieldLink RX5 28 "RoamingHouseModel" "fileStates" "[I") (by decide +kernel)) rfl dX5_send_90 ?_
              refine lv_iload_n hx hb dX5_send_93 rfl (lv_at hl 2 rfl) ?_
              refine lv_iconst (v := 1) hx hb dX5_send_94 (by decide) ?_
              refine m_iast (x := 1) hx hb hE hW hD hS 7 (n := 30) (by decide) Nat.zero_lt_one rfl f (by omega) (by decide) rfl rfl dX5_send_95 (fun H locs hW hS => ?_)
              refine lv_goto (tgt := 164) hx hb dX5_send_96 (by decide) ?_
              refine lv_aload_n hx hb dX5_send_164 rfl (lv_at hl 1 rfl) ?_
              refine rh_get (ci := 5) (C := RX5) (T := TX5) (N := 26) (v := .ref (ad 27 0)) hx hb hts (fun _ h => List.mem_cons_of_mem _ (List.mem_append_right _ (h))) hown hE (hW.at 10 0 Nat.zero_lt_one) rfl 7 (by decide) (hts (.fieldLink RX5 28 "RoamingHouseModel" "fileStates" "[I") (by decide +kernel)) rfl dX5_send_165 ?_
              refine lv_iload_n hx hb dX5_send_168 rfl (lv_at hl 2 rfl) ?_
              refine rh_iald (n := 30) (f := (wm w 7 f 1) 7) hx hb hE (hW.at 27 0 Nat.zero_lt_one) f (by omega) (by decide) rfl dX5_send_169 ?_
              rw [show (wm w 7 f 1) 7 f = 1 from by simp [wm_at]]
              exact rh_iret hx hb hr hlocks (Or.inl ⟨f, hf, rfl, hga, h7, hn0, (by rw [hsd]; simp [wm_at]), (by rw [hsd]; exact hW)⟩) hS (by decide) (by decide) dX5_send_170
        · have h3 : ¬ w 7 f = 0 ∨ m_cnt r w f 0 nc = 0 := Or.inr c10
          refine lv_iconst (v := 3) hx hb dX5_send_45 (by decide) ?_
          refine lv_goto (tgt := 50) hx hb dX5_send_46 (by decide) ?_
          refine m_putt (x := 3) hx hb hts (fun _ h => List.mem_cons_of_mem _ (List.mem_append_right _ (h))) hown hE hW hD hS rfl (hts (.fieldLink RX5 74 "RoamingHouseModel" "thrown" "I") (by decide +kernel)) rfl rfl rfl (Nat.le_of_ble_eq_true rfl) rfl dX5_send_50 (fun H locs hW hS => ?_)
          refine lv_aload_n hx hb dX5_send_53 rfl (lv_at hl 0 rfl) ?_
          refine rh_get (ci := 5) (C := RX5) (T := TX5) (N := 26) (v := .int 3) hx hb hts (fun _ h => List.mem_cons_of_mem _ (List.mem_append_right _ (h))) hown hE (hW.at 10 0 Nat.zero_lt_one) rfl 25 (by decide) (hts (.fieldLink RX5 74 "RoamingHouseModel" "thrown" "I") (by decide +kernel)) rfl dX5_send_54 ?_
          refine lv_if_le (tgt := 62) hx hb dX5_send_57 (by decide) (fun c20 => absurd c20 (by decide)) (fun c20 => ?_)
          refine lv_iconst (v := 0) hx hb dX5_send_60 (by decide) ?_
          exact rh_iret hx hb hr hlocks (Or.inr (Or.inr (Or.inr ⟨f, hf, rfl, hga, h3, ⟨_, rfl⟩, hW⟩))) hS (by decide) (by decide) dX5_send_61
    · have hg2 : ¬ rng y 1 99 := hg5
      refine W.eq (g2 := F0 m 20 ls [.int 0, .ref (ad 10 0)]) rfl ?_
      refine lv_if_ne (tgt := 27) hx hb dX5_send_20 (by decide) (fun c21 => absurd c21 (by decide)) (fun c21 => ?_)
      refine lv_iconst (v := 2) hx hb dX5_send_23 (by decide) ?_
      refine lv_goto (tgt := 50) hx hb dX5_send_24 (by decide) ?_
      refine m_putt (x := 2) hx hb hts (fun _ h => List.mem_cons_of_mem _ (List.mem_append_right _ (h))) hown hE hW hD hS rfl (hts (.fieldLink RX5 74 "RoamingHouseModel" "thrown" "I") (by decide +kernel)) rfl rfl rfl (Nat.le_of_ble_eq_true rfl) rfl dX5_send_50 (fun H locs hW hS => ?_)
      refine lv_aload_n hx hb dX5_send_53 rfl (lv_at hl 0 rfl) ?_
      refine rh_get (ci := 5) (C := RX5) (T := TX5) (N := 26) (v := .int 2) hx hb hts (fun _ h => List.mem_cons_of_mem _ (List.mem_append_right _ (h))) hown hE (hW.at 10 0 Nat.zero_lt_one) rfl 25 (by decide) (hts (.fieldLink RX5 74 "RoamingHouseModel" "thrown" "I") (by decide +kernel)) rfl dX5_send_54 ?_
      refine lv_if_le (tgt := 62) hx hb dX5_send_57 (by decide) (fun c22 => absurd c22 (by decide)) (fun c22 => ?_)
      refine lv_iconst (v := 0) hx hb dX5_send_60 (by decide) ?_
      exact rh_iret hx hb hr hlocks (Or.inr (Or.inr (Or.inl ⟨ho, hg2, ⟨_, rfl⟩, hW⟩))) hS (by decide) (by decide) dX5_send_61
  · have hno := ho2
    refine W.eq (g2 := F0 m 6 ls [.int 0, .ref (ad 10 0)]) rfl ?_
    refine lv_if_ne (tgt := 13) hx hb dX5_send_6 (by decide) (fun c23 => absurd c23 (by decide)) (fun c23 => ?_)
    refine lv_iconst (v := 1) hx hb dX5_send_9 (by decide) ?_
    refine lv_goto (tgt := 50) hx hb dX5_send_10 (by decide) ?_
    refine m_putt (x := 1) hx hb hts (fun _ h => List.mem_cons_of_mem _ (List.mem_append_right _ (h))) hown hE hW hD hS rfl (hts (.fieldLink RX5 74 "RoamingHouseModel" "thrown" "I") (by decide +kernel)) rfl rfl rfl (Nat.le_of_ble_eq_true rfl) rfl dX5_send_50 (fun H locs hW hS => ?_)
    refine lv_aload_n hx hb dX5_send_53 rfl (lv_at hl 0 rfl) ?_
    refine rh_get (ci := 5) (C := RX5) (T := TX5) (N := 26) (v := .int 1) hx hb hts (fun _ h => List.mem_cons_of_mem _ (List.mem_append_right _ (h))) hown hE (hW.at 10 0 Nat.zero_lt_one) rfl 25 (by decide) (hts (.fieldLink RX5 74 "RoamingHouseModel" "thrown" "I") (by decide +kernel)) rfl dX5_send_54 ?_
    refine lv_if_le (tgt := 62) hx hb dX5_send_57 (by decide) (fun c24 => absurd c24 (by decide)) (fun c24 => ?_)
    refine lv_iconst (v := 0) hx hb dX5_send_60 (by decide) ?_
    exact rh_iret hx hb hr hlocks (Or.inr (Or.inl ⟨hno, ⟨_, rfl⟩, hW⟩)) hS (by decide) (by decide) dX5_send_61
